theorem so_call3 {c : Nat} {i : Instr} {S : ab_S} {h : ab_H} {q : Nat × List Value × ab_S × Bool} {len : Nat} (h1 : ab_call c i S h = some q) (h2 : ab_len i len = true) : len = 3 := by
  unfold ab_call at h1
  split at h1 <;> first | (simpa [ab_len] using h2) | (cases h1)
def so_B (l : Launch) (D : va_G) (tA : Nat → ClassId) (n0 b0 : Nat) (sa : Nat → Nat) (HL : Heap) (XL : Nat) (xs : Nat → Int32) (St : State → Prop) (n : Nat) : Prop :=
  ∀ (p : Program) (e : Env) (R : Room) (s : State) (m : MethodId) (args : Array Value) (below : List Frame) (meth : Method) (c : Code) (Q : State → Prop) (y c0 z0 d pc : Nat) (L : ab_L) (S : ab_S) (h h' : ab_H) (out : ab_O),
    so_Cx p l s m args meth c D tA n0 b0 sa HL XL xs St y c0 → y < 387 → d + 6 ≤ R.frames → 100 * (d + 1) ≤ R.locals → ab_run n d y pc L S h = some (out, h') → ab_XL h = XL → ab_X h = xs → ab_C h' ≤ c0 + R.cells → ab_Z h' ≤ z0 + R.slots →
    (∀ (pc : Nat) (i : Instr) (len : Nat) (L : ab_L) (S : ab_S) (h1 : ab_H), decode (ab_b y) pc = .ok (i, len) → ab_len i len = true → ab_end y pc i S h1 = some (out, h') → so_G p l e R s m args below meth c Q D tA (so_fa n0 b0 sa) HL y c0 z0 pc L S h1) →
    (∀ E, out = .inr E → ab_hh y = [] → ∀ (pc : Nat) (ls : Array Slot) (H : Heap) (locs : List Loc) (cells slots : Nat) (q : Addr) (ce : Cell) (rest : List Value), so_R D tA (so_fa n0 b0 sa) HL h' H locs → cells + c0 = ab_C h' → slots + z0 = ab_Z h' → H[q]? = some ce → ce.vm = .none → s.vm.findClass (ta_ex E) = some ce.cls → vx_W p l e R s m args below meth c H locs cells slots Q (F0 m pc ls rest) q) →
    so_G p l e R s m args below meth c Q D tA (so_fa n0 b0 sa) HL y c0 z0 pc L S h
section RUN
variable {l : Launch} {D : va_G} {tA : Nat → ClassId} {n0 b0 : Nat} {sa : Nat → Nat} {HL : Heap} {XL : Nat} {xs : Nat → Int32} {St : State → Prop}
set_option maxHeartbeats 4000000 in
theorem so_PofB (hSt : ∀ s U : State, St s → s.WarmedH U.vm → St U) (hl0 : l.stackTraces = false) (hn : n0 = HL.size) {n : Nat} (hB : so_B l D tA n0 b0 sa HL XL xs St n) : so_P l D tA n0 b0 sa HL XL xs St n := by
  intro d y As h h' out hy hsl hrun hXL hX
  obtain ⟨g1, g2, g3, g4⟩ := so_good hy
  have hge := ab_run_ge _ _ _ _ _ _ _ _ _ hrun
  have hge1 := hge.1
  have hge2 := hge.2.1
  have body : ∀ (p : Program) (e : Env) (s : State) (m : MethodId) (args : Array Value) (below : List Frame) (meth : Method) (c : Code) (s₁ : State), BodyLoose p l (ta_me y).1 (headSpec (so_w y) (so_rm d (ab_C h' - ab_C h) (ab_Z h' - ab_Z h))) (ta_me y).2.1 (ta_me y).2.2.1 (ta_me y).2.2.2.1 e s m args below meth c s₁ → c.maxLocals = (ta_me y).2.2.1 → c.exceptionTable.toList = tableOf (ta_me y).2.2.2.2.2 → so_Pc D tA (so_fa n0 b0 sa) HL XL xs St As h args s →
      W p l e (so_rm d (ab_C h' - ab_C h) (ab_Z h' - ab_Z h)) s m args below meth c s.heap [] 0 0 (vx_MQ below (so_Qr D tA (so_fa n0 b0 sa) HL out h') (so_Xc D tA (so_fa n0 b0 sa) HL out h') args s (ab_C h' - ab_C h) (ab_Z h' - ab_Z h) (so_A HL)) (entryFrame m args (ta_me y).2.2.1) := by
    intro p e s m args below meth c s₁ B hml hex hP
    obtain ⟨hargs, hAm, hR, hsz⟩ := hP
    have hts := atoms_spec (ws := so_w y) B.pre
    have C : so_Cx p l s m args meth c D tA n0 b0 sa HL XL xs St y (ab_C h) := ⟨B.exec, B.bytes, hml, B.returns, B.notSynchronized, by
      show s.vm.findClass (ta_nm (ta_me y).2.2.2.2.1) = some m.cls
      rw [← g1]
      exact findClass_of_methodNamed B.named, fun hnm => (name_of_methodNamed B.named B.method).1.trans hnm, fun w hw => hts w (List.mem_cons_of_mem _ hw), hAm, hn, hl0, hR.2.1, hsz, fun _ => hex⟩
    have hG := hB p e (so_rm d (ab_C h' - ab_C h) (ab_Z h' - ab_Z h)) s m args below meth c (vx_MQ below (so_Qr D tA (so_fa n0 b0 sa) HL out h') (so_Xc D tA (so_fa n0 b0 sa) HL out h') args s (ab_C h' - ab_C h) (ab_Z h' - ab_Z h) (so_A HL)) y (ab_C h) (ab_Z h) d 0 (lv_args 0 As) [] h h' out C (by omega) (Nat.le_refl _) (Nat.le_refl _) hrun hXL hX
      (by show ab_C h' ≤ ab_C h + (ab_C h' - ab_C h); omega) (by show ab_Z h' ≤ ab_Z h + (ab_Z h' - ab_Z h); omega)
      (fun pc i len L S h1 hd hlen hend => so_endG C hy (by show 6 ≤ d + 6; omega) (by show 100 ≤ 100 * (d + 1); omega) hd hlen hend (by show ab_C h' ≤ ab_C h + (ab_C h' - ab_C h); omega) (by show ab_Z h' ≤ ab_Z h + (ab_Z h' - ab_Z h); omega))
      (fun E ho hh pc ls H locs cells slots q ce rest hR1 hc hs hq hv hcl => vx_out (fun x hx => by
        rw [hex, show (ta_me y).2.2.2.2.2 = [] from hh] at hx
        cases hx) B.notSynchronized hq hv hcl (fun t ht _ => ⟨E, ho, rfl, by rw [ht]; exact so_R0 hR1⟩) hR1.2.1.2.2 (by omega) (by omega))
    rw [hargs, lg_entry_eq]
    have hent := lv_entry (As.map (so_v (so_fa n0 b0 sa))) (n := (ta_me y).2.2.1) (by rw [so_slenV]; exact hsl)
    rw [← so_args (so_fa n0 b0 sa) 0 As] at hent
    rw [← hargs]
    exact hG _ s.heap [] 0 0 hent hR (by omega) (by omega)
  by_cases hh : (ta_me y).2.2.2.2.2 = []
  · refine vx_ofW (cc := (ta_me y).2.1) (maxL := (ta_me y).2.2.1) (ret := (ta_me y).2.2.2.1) (ws' := so_T) g2 (by unfold so_w ta_wM; rw [if_pos hh]) ?_
    intro p e s m args below meth c s₁ B hml hex hP
    refine body p e s m args below meth c s₁ B hml ?_ hP
    rw [hh]
    cases hz : c.exceptionTable.toList with
    | nil => rfl
    | cons x r => exact absurd (hex x (by rw [hz]; exact List.mem_cons_self)) id
  · have hw : so_w y = Cond.codeWith (ta_me y).1 (ta_me y).2.1 (ta_me y).2.2.1 (ta_me y).2.2.2.1 (ta_me y).2.2.2.2.2 :: so_T := by unfold so_w ta_wM; rw [if_neg hh]
    refine vx_ofWH (cc := (ta_me y).2.1) (maxL := (ta_me y).2.2.1) (ret := (ta_me y).2.2.2.1) (hh := (ta_me y).2.2.2.2.2) (ws' := so_T) g2 hw ?_
    intro p e s m args below meth c s₁ B hml hP
    have hts := atoms_spec (ws := so_w y) B.pre
    exact body p e s m args below meth c s₁ B hml (vx_table (x := (ta_me y).1) B (hts _ (by rw [hw]; exact List.mem_cons_self))) hP
set_option maxHeartbeats 4000000 in
theorem so_BofP (hSt : ∀ s U : State, St s → s.WarmedH U.vm → St U) (hSS : ∀ U, St U → so_St HL sa U) {n : Nat} (hP : so_P l D tA n0 b0 sa HL XL xs St n) (hB : so_B l D tA n0 b0 sa HL XL xs St n) : so_B l D tA n0 b0 sa HL XL xs St (n + 1) := by
  intro p e R s m args below meth c Q y c0 z0 d pc L S h h' out C hy hF hLo hr hXL hX hC hZ hEnd hThr
  have again : ∀ (d pc : Nat) (L : ab_L) (S : ab_S) (h1 : ab_H), d + 6 ≤ R.frames → 100 * (d + 1) ≤ R.locals → ab_run n d y pc L S h1 = some (out, h') → ab_ge h h1 → so_G p l e R s m args below meth c Q D tA (so_fa n0 b0 sa) HL y c0 z0 pc L S h1 :=
    fun d pc L S h1 hF hLo hr hg => hB p e R s m args below meth c Q y c0 z0 d pc L S h1 h' out C hy hF hLo hr (hg.2.2.1.trans hXL) (hg.2.2.2.trans hX) hC hZ hEnd hThr
  unfold ab_run at hr
  split at hr
  · cases hr
  · rename_i i len hd
    split at hr
    · cases hr
    · rename_i hlen
      have hlen : ab_len i len = true := by
        cases hq : ab_len i len with
        | true => rfl
        | false => exact absurd hq hlen
      split at hr
      · rename_i r0 hr2
        cases hr
        exact hEnd pc i len L S h hd hlen hr2
      · split at hr
        · rename_i y' As r pl hcall
          have h3 := so_call3 hcall hlen
          subst h3
          split at hr
          · cases hr
          · rename_i d'
            split at hr
            · cases hr
            · rename_i v h1 hrun
              have g1 := ab_run_ge _ _ _ _ _ _ _ _ _ hrun
              have g2 := ab_run_ge _ _ _ _ _ _ _ _ _ hr
              have g21 := g2.1
              have g22 := g2.2.1
              exact so_callG C hSt hd hcall (d' := d') (out1 := .inl v) (h1 := h1) (by omega) (by omega) (fun w2 w3 => hP d' y' As h h1 _ w2 w3 hrun hXL hX) g1 (by omega) (by omega) (fun _ E => Or.inl (fun q => by cases q))
                (fun w hw => by cases hw; exact again (d' + 1) (pc + 3) L _ h1 hF hLo hr g1)
                (fun E hE => by cases hE)
            · rename_i E h1 hrun
              have g1 := ab_run_ge _ _ _ _ _ _ _ _ _ hrun
              split at hr
              · cases hr
              · rename_i hpl
                have hpl : pl = true := by cases pl with
                  | true => rfl
                  | false => exact absurd rfl hpl
                split at hr
                · split at hr
                  · rename_i hh
                    cases hr
                    exact so_callG C hSt hd hcall (d' := d') (out1 := .inr E) (h1 := h') (by omega) (by omega) (fun w2 w3 => hP d' y' As h h' _ w2 w3 hrun hXL hX) g1 hC hZ (fun _ _ => Or.inr hpl)
                      (fun w hw => by cases hw)
                      (fun E' hE ls H locs cells slots q ce _ hR hc hs hq hv hcl => by
                        cases hE
                        exact hThr E rfl hh pc ls H locs cells slots q ce _ hR hc hs hq hv hcl)
                  · cases hr
                · rename_i t ht
                  have cont : ∀ (i : Instr) (k ln : Nat), decode (ab_b y) t = .ok (i, ln) → ((∃ k' : Fin 4, i = .astore_n k' ∧ (k' : Nat) = k ∧ ln = 1) ∨ (i = .astore k ∧ ln = 2)) → k < ab_nL y → ab_run n (d' + 1) y (t + ln) (L.filter (fun q => !(q.1 == k) && !(q.1 + 1 == k && q.2.category == 2))) [] h1 = some (out, h') → so_G p l e R s m args below meth c Q D tA (so_fa n0 b0 sa) HL y c0 z0 pc L S h := by
                    intro i k ln hdt hi hk hr
                    have g2 := ab_run_ge _ _ _ _ _ _ _ _ _ hr
                    have g21 := g2.1
                    have g22 := g2.2.1
                    have k1 := again (d' + 1) (t + ln) _ _ h1 hF hLo hr g1
                    exact so_callG C hSt hd hcall (d' := d') (out1 := .inr E) (h1 := h1) (by omega) (by omega) (fun w2 w3 => hP d' y' As h h1 _ w2 w3 hrun hXL hX) g1 (by omega) (by omega) (fun _ _ => Or.inr hpl)
                      (fun w hw => by cases hw)
                      (fun E' hE ls H locs cells slots q ce hl hR hc hs hq hv hcl => by
                        cases hE
                        exact so_catchG C hy ht hdt hi hk k1 ls H locs cells slots q ce _ hl hR hc hs hq hv hcl)
                  split at hr
                  · rename_i k hdt
                    split at hr
                    · rename_i hk
                      exact cont _ k 1 hdt (Or.inl ⟨k, rfl, rfl, rfl⟩) hk hr
                    · cases hr
                  · rename_i k hdt
                    split at hr
                    · rename_i hk
                      exact cont _ k 2 hdt (Or.inr ⟨rfl, rfl⟩) hk hr
                    · cases hr
                  · cases hr
        · split at hr
          · cases hr
          · rename_i pc' L' S' h1 hst
            have g1 := ab_step_ge hst
            have g2 := ab_run_ge _ _ _ _ _ _ _ _ _ hr
            have g21 := g2.1
            have g22 := g2.2.1
            exact so_step C hSS (by omega) (by omega) hd hlen hst hXL hX (by omega) (by omega) (again d pc' L' S' h1 hF hLo hr g1)
theorem so_all (hSt : ∀ s U : State, St s → s.WarmedH U.vm → St U) (hSS : ∀ U, St U → so_St HL sa U) (hl0 : l.stackTraces = false) (hn : n0 = HL.size) : ∀ n, so_B l D tA n0 b0 sa HL XL xs St n
  | 0 => by
    intro p e R s m args below meth c Q y c0 z0 d pc L S h h' out C hy hF hLo hr
    cases hr
  | n + 1 => so_BofP hSt hSS (so_PofB hSt hl0 hn (so_all hSt hSS hl0 hn n)) (so_all hSt hSS hl0 hn n)
end RUN
