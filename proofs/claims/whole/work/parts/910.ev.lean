/-! the abstract machine alone: more fuel, more depth, more locals known: the same run -/
def ab_nd : ab_L → Bool
  | [] => true
  | (k, _) :: r => r.all (fun q => !(q.1 == k)) && ab_nd r
/-- L2 knows what L1 knows -/
def ab_le (L1 L2 : ab_L) : Prop := L1 = L2 ∨ (ab_nd L1 = true ∧ ∀ k v, ab_get L1 k = some v → ab_get L2 k = some v)
theorem ab_le_rf (L : ab_L) : ab_le L L := Or.inl rfl
theorem ab_le_get {L1 L2 : ab_L} (h : ab_le L1 L2) {k : Nat} {v : Value} (hg : ab_get L1 k = some v) : ab_get L2 k = some v := by
  rcases h with rfl | h
  · exact hg
  · exact h.2 k v hg
theorem ab_nd_filter (f : Nat × Value → Bool) : ∀ {L : ab_L}, ab_nd L = true → ab_nd (L.filter f) = true
  | [], _ => rfl
  | (k, v) :: r, h => by
    simp only [ab_nd, Bool.and_eq_true] at h
    have ih := ab_nd_filter f h.2
    rw [List.filter_cons]
    split
    · simp only [ab_nd, Bool.and_eq_true]
      refine ⟨List.all_eq_true.mpr (fun q hq => List.all_eq_true.mp h.1 q (List.mem_filter.mp hq).1), ih⟩
    · exact ih
theorem ab_get_none {L : ab_L} {k : Nat} (h : L.all (fun q => !(q.1 == k)) = true) : ab_get L k = none := by
  induction L with
  | nil => rfl
  | cons q r ih =>
    obtain ⟨a, w⟩ := q
    rw [List.all_cons, Bool.and_eq_true] at h
    unfold ab_get
    have : (a == k) = false := by simpa using h.1
    rw [this]
    exact ih h.2
/-- what a filter keeps of a list without doubled keys -/
theorem ab_get_filter1 (f : Nat × Value → Bool) : ∀ {L : ab_L}, ab_nd L = true → ∀ {k v}, ab_get (L.filter f) k = some v → ab_get L k = some v ∧ f (k, v) = true
  | [], _, k, v, hg => by cases hg
  | (a, w) :: r, h, k, v, hg => by
    simp only [ab_nd, Bool.and_eq_true] at h
    rw [List.filter_cons] at hg
    by_cases hak : (a == k) = true
    · have hak' : a = k := by simpa using hak
      subst hak'
      split at hg
      · rename_i hf
        unfold ab_get at hg ⊢
        rw [beq_self_eq_true] at hg ⊢
        cases hg
        exact ⟨rfl, hf⟩
      · have hn : ab_get (r.filter f) a = none := ab_get_none (List.all_eq_true.mpr (fun q hq => List.all_eq_true.mp h.1 q (List.mem_filter.mp hq).1))
        rw [hn] at hg
        cases hg
    · have hakf : (a == k) = false := by simpa using hak
      have hr : ab_get (r.filter f) k = some v := by
        split at hg
        · unfold ab_get at hg
          rw [hakf] at hg
          exact hg
        · exact hg
      obtain ⟨g1, g2⟩ := ab_get_filter1 f h.2 hr
      refine ⟨?_, g2⟩
      unfold ab_get
      rw [hakf]
      exact g1
theorem ab_get_filter2 (f : Nat × Value → Bool) : ∀ {L : ab_L} {k v}, ab_get L k = some v → f (k, v) = true → ab_get (L.filter f) k = some v
  | [], k, v, hg, _ => by cases hg
  | (a, w) :: r, k, v, hg, hf => by
    unfold ab_get at hg
    rw [List.filter_cons]
    by_cases hak : (a == k) = true
    · rw [hak] at hg
      have hak' : a = k := by simpa using hak
      subst hak'
      cases hg
      rw [if_pos hf]
      unfold ab_get
      rw [beq_self_eq_true]
      rfl
    · have hakf : (a == k) = false := by simpa using hak
      rw [hakf] at hg
      have ih := ab_get_filter2 f (show ab_get r k = some v from hg) hf
      split
      · unfold ab_get
        rw [hakf]
        exact ih
      · exact ih
theorem ab_le_filter {L1 L2 : ab_L} (h : ab_le L1 L2) (f : Nat × Value → Bool) : ab_le (L1.filter f) (L2.filter f) := by
  rcases h with rfl | h
  · exact ab_le_rf _
  · refine Or.inr ⟨ab_nd_filter f h.1, fun k v hg => ?_⟩
    obtain ⟨g1, g2⟩ := ab_get_filter1 f h.1 hg
    exact ab_get_filter2 f (h.2 k v g1) g2
theorem ab_le_cons {L1 L2 : ab_L} (h : ab_le L1 L2) (i : Nat) (v : Value) (h1 : L1.all (fun q => !(q.1 == i)) = true) : ab_le ((i, v) :: L1) ((i, v) :: L2) := by
  rcases h with rfl | h
  · exact ab_le_rf _
  · refine Or.inr ⟨by simp only [ab_nd, Bool.and_eq_true]; exact ⟨h1, h.1⟩, fun k w hg => ?_⟩
    unfold ab_get at hg ⊢
    split
    · rename_i hk
      rw [if_pos hk] at hg
      exact hg
    · rename_i hk
      rw [if_neg hk] at hg
      exact h.2 k w hg
theorem ab_le_put {L1 L2 : ab_L} (h : ab_le L1 L2) (i : Nat) (v : Value) : ab_le (ab_put L1 i v) (ab_put L2 i v) := by
  unfold ab_put
  refine ab_le_cons (ab_le_filter h _) i v (List.all_eq_true.mpr (fun q hq => ?_))
  have := (List.mem_filter.mp hq).2
  rw [Bool.and_eq_true] at this
  exact this.1
theorem ab_le_put2 {L1 L2 : ab_L} (h : ab_le L1 L2) (i : Nat) (v : Value) : ab_le (ab_put2 L1 i v) (ab_put2 L2 i v) := by
  unfold ab_put2
  refine ab_le_cons (ab_le_filter h _) i v (List.all_eq_true.mpr (fun q hq => ?_))
  have := (List.mem_filter.mp hq).2
  rw [Bool.and_eq_true] at this
  exact this.1
theorem ab_load_le {L1 L2 : ab_L} (h : ab_le L1 L2) {k t : Nat} {v : Value} (hl : ab_load L1 k t = some v) : ab_load L2 k t = some v := by
  unfold ab_load at hl ⊢
  cases hg : ab_get L1 k with
  | none => rw [hg] at hl; cases hl
  | some w => rw [hg] at hl; rw [ab_le_get h hg]; exact hl
set_option maxHeartbeats 4000000 in
theorem ab_step_le {ini : Bool} {nL c : Nat} {i : Instr} {len pc : Nat} {L1 L2 : ab_L} {S : ab_S} {h : ab_H} {pc' : Nat} {L' : ab_L} {S' : ab_S} {h' : ab_H} (hL : ab_le L1 L2) (hst : ab_step ini nL c i len pc L1 S h = some (pc', L', S', h')) : ∃ L2', ab_step ini nL c i len pc L2 S h = some (pc', L2', S', h') ∧ ab_le L' L2' := by
  unfold ab_step at hst ⊢
  split at hst
  all_goals try simp only [ab_ld, ab_stI, ab_stA, ab_stL, ab_getf, ab_putf, ab_aload, ab_astore, ab_alen, ab_newa, ab_two, ab_three] at hst ⊢
  all_goals try unfold ab_lib at hst ⊢
  all_goals first
    | (obtain ⟨t, ht, hh⟩ := Option.map_eq_some_iff.mp hst
       cases hh
       rw [ab_load_le hL ht]
       exact ⟨_, rfl, hL⟩)
    | skip
  all_goals repeat' split at hst
  all_goals first
    | (cases hst; done)
    | (simp only [Option.some.injEq, Prod.mk.injEq] at hst
       obtain ⟨rfl, rfl, rfl, rfl⟩ := hst
       first
         | exact ⟨_, rfl, hL⟩
         | exact ⟨_, rfl, ab_le_put hL _ _⟩
         | exact ⟨_, rfl, ab_le_put2 hL _ _⟩
         | (refine ⟨_, ?_, hL⟩; simp_all; done)
         | (refine ⟨_, ?_, hL⟩; rw [if_pos (by decide), if_pos (by assumption), if_neg (by assumption)]; done)
         | (refine ⟨_, ?_, ab_le_put hL _ _⟩; simp_all; done)
         | (refine ⟨_, ?_, ab_le_put2 hL _ _⟩; simp_all; done)
         | (rename_i hg hk; rw [ab_le_get hL hg]; refine ⟨_, ?_, ab_le_put hL _ _⟩; simp_all; done))
    | (obtain ⟨t, ht, hh⟩ := Option.map_eq_some_iff.mp hst; cases hh; exact ⟨_, by first | (simp_all; done) | (simp_all; intro hh; exfalso; omega), hL⟩)
    | skip
/-- one unfolding of a run, the rest by what is given -/
theorem ab_run_le : ∀ (n1 n2 d1 d2 y pc : Nat) (L1 L2 : ab_L) (S : ab_S) (h : ab_H) (x : ab_O × ab_H), n1 ≤ n2 → d1 ≤ d2 → ab_le L1 L2 → ab_run n1 d1 y pc L1 S h = some x → ab_run n2 d2 y pc L2 S h = some x
  | 0, n2, d1, d2, y, pc, L1, L2, S, h, x, hn, hd, hL, hr => by cases hr
  | n1 + 1, 0, d1, d2, y, pc, L1, L2, S, h, x, hn, hd, hL, hr => by omega
  | n1 + 1, n2 + 1, d1, d2, y, pc, L1, L2, S, h, x, hn, hd, hL, hr => by
    have hn' : n1 ≤ n2 := by omega
    unfold ab_run at hr ⊢
    split at hr
    · cases hr
    · rename_i i len hdec
      try rw [hdec]
      try dsimp only
      split at hr
      · cases hr
      · rename_i hlen
        rw [if_neg hlen]
        split at hr
        · rename_i r hr2
          try rw [hr2]
          exact hr
        · rename_i hend
          try rw [hend]
          try dsimp only
          split at hr
          · rename_i y' As r pl hcall
            try rw [hcall]
            try dsimp only
            split at hr
            · cases hr
            · rename_i d1'
              obtain ⟨d2', rfl⟩ : ∃ k, d2 = k + 1 := ⟨d2 - 1, by omega⟩
              try dsimp only
              have hd' : d1' ≤ d2' := by omega
              split at hr
              · cases hr
              · rename_i v h1 hrun
                rw [ab_run_le n1 n2 d1' d2' _ _ _ _ _ _ _ hn' hd' (ab_le_rf _) hrun]
                try dsimp only
                exact ab_run_le n1 n2 _ _ _ _ _ _ _ _ _ hn' hd hL hr
              · rename_i E h1 hrun
                rw [ab_run_le n1 n2 d1' d2' _ _ _ _ _ _ _ hn' hd' (ab_le_rf _) hrun]
                try dsimp only
                split at hr
                · cases hr
                · rename_i hpl
                  rw [if_neg hpl]
                  split at hr
                  · rename_i hh
                    try rw [hh]
                    exact hr
                  · rename_i t hh
                    try rw [hh]
                    try dsimp only
                    split at hr
                    · rename_i k hk
                      try rw [hk]
                      try dsimp only
                      split at hr
                      · rename_i hlt
                        rw [if_pos hlt]
                        exact ab_run_le n1 n2 _ _ _ _ _ _ _ _ _ hn' hd (ab_le_filter hL _) hr
                      · cases hr
                    · rename_i k hk
                      try rw [hk]
                      try dsimp only
                      split at hr
                      · rename_i hlt
                        rw [if_pos hlt]
                        exact ab_run_le n1 n2 _ _ _ _ _ _ _ _ _ hn' hd (ab_le_filter hL _) hr
                      · cases hr
                    · cases hr
          · rename_i hcall
            try rw [hcall]
            try dsimp only
            split at hr
            · cases hr
            · rename_i pc' L' S' h' hst
              obtain ⟨L2', g1, g2⟩ := ab_step_le hL hst
              rw [g1]
              exact ab_run_le n1 n2 _ _ _ _ _ _ _ _ _ hn' hd g2 hr
/-- a run's answer, with fuel enough -/
def ev (d y pc : Nat) (L : ab_L) (S : ab_S) (h : ab_H) (x : ab_O × ab_H) : Prop := ∃ n, ab_run n d y pc L S h = some x
theorem ev_le {d1 d2 y pc : Nat} {L1 L2 : ab_L} {S : ab_S} {h : ab_H} {x : ab_O × ab_H} (hd : d1 ≤ d2) (hL : ab_le L1 L2) (he : ev d1 y pc L1 S h x) : ev d2 y pc L2 S h x := by
  obtain ⟨n, hn⟩ := he
  exact ⟨n, ab_run_le n n d1 d2 y pc L1 L2 S h x (Nat.le_refl _) hd hL hn⟩
theorem ev_end {d y pc : Nat} {L : ab_L} {S : ab_S} {h : ab_H} {x : ab_O × ab_H} {i : Instr} {len : Nat} (hd : decode (ab_b y) pc = .ok (i, len)) (hl : ab_len i len = true) (he : ab_end y pc i S h = some x) : ev d y pc L S h x := by
  refine ⟨1, ?_⟩
  unfold ab_run
  rw [hd]
  dsimp only
  rw [hl, he]
  rfl
theorem ev_step {d y pc : Nat} {L : ab_L} {S : ab_S} {h : ab_H} {x : ab_O × ab_H} {i : Instr} {len pc' : Nat} {L' : ab_L} {S' : ab_S} {h' : ab_H} (hd : decode (ab_b y) pc = .ok (i, len)) (hl : ab_len i len = true) (he : ab_end y pc i S h = none) (hc : ab_call (ab_c y) i S h = none)
    (hs : ab_step (decide ((ab_y y).name = "<init>")) (ab_nL y) (ab_c y) i len pc L S h = some (pc', L', S', h')) (k : ev d y pc' L' S' h' x) : ev d y pc L S h x := by
  obtain ⟨n, hn⟩ := k
  refine ⟨n + 1, ?_⟩
  unfold ab_run
  rw [hd]
  dsimp only
  rw [hl, he, hc]
  dsimp only
  rw [hs]
  exact hn
theorem ev_call {d y pc : Nat} {L : ab_L} {S : ab_S} {h : ab_H} {x : ab_O × ab_H} {i : Instr} {len y' : Nat} {As : List Value} {r : ab_S} {pl : Bool} {v : Option Value} {h1 : ab_H} (hd : decode (ab_b y) pc = .ok (i, len)) (hl : ab_len i len = true) (he : ab_end y pc i S h = none) (hc : ab_call (ab_c y) i S h = some (y', As, r, pl))
    (hr : ev d y' 0 (lv_args 0 As) [] h (.inl v, h1)) (k : ev (d + 1) y (pc + 3) L (v.toList ++ r) h1 x) : ev (d + 1) y pc L S h x := by
  obtain ⟨n1, hn1⟩ := hr
  obtain ⟨n2, hn2⟩ := k
  refine ⟨max n1 n2 + 1, ?_⟩
  unfold ab_run
  rw [hd]
  dsimp only
  rw [hl, he, hc]
  dsimp only
  rw [ab_run_le n1 (max n1 n2) _ _ _ _ _ _ _ _ _ (Nat.le_max_left _ _) (Nat.le_refl _) (ab_le_rf _) hn1]
  dsimp only
  exact ab_run_le n2 (max n1 n2) _ _ _ _ _ _ _ _ _ (Nat.le_max_right _ _) (Nat.le_refl _) (ab_le_rf _) hn2
/-- the callee throws, and this method doesn't catch: it throws too -/
theorem ev_thr {d y pc : Nat} {L : ab_L} {S : ab_S} {h : ab_H} {i : Instr} {len y' : Nat} {As : List Value} {r : ab_S} {E : Nat} {h1 : ab_H} (hd : decode (ab_b y) pc = .ok (i, len)) (hl : ab_len i len = true) (he : ab_end y pc i S h = none) (hc : ab_call (ab_c y) i S h = some (y', As, r, true))
    (hr : ev d y' 0 (lv_args 0 As) [] h (.inr E, h1)) (hh : ab_hh y = []) : ev (d + 1) y pc L S h (.inr E, h1) := by
  obtain ⟨n1, hn1⟩ := hr
  refine ⟨n1 + 1, ?_⟩
  unfold ab_run
  rw [hd]
  dsimp only
  rw [hl, he, hc]
  dsimp only
  rw [hn1]
  dsimp only
  have h2 : ab_hand y pc E = none := by unfold ab_hand; rw [hh]; rfl
  rw [h2, hh]
  rfl
/-- the callee throws, and it is caught here -/
theorem ev_cat {d y pc : Nat} {L : ab_L} {S : ab_S} {h : ab_H} {x : ab_O × ab_H} {i : Instr} {len y' : Nat} {As : List Value} {r : ab_S} {E t : Nat} {k : Fin 4} {h1 : ab_H} (hd : decode (ab_b y) pc = .ok (i, len)) (hl : ab_len i len = true) (he : ab_end y pc i S h = none) (hc : ab_call (ab_c y) i S h = some (y', As, r, true))
    (hr : ev d y' 0 (lv_args 0 As) [] h (.inr E, h1)) (hh : ab_hand y pc E = some t) (ht : decode (ab_b y) t = .ok (.astore_n k, 1)) (hk : (k : Nat) < ab_nL y) (kk : ev (d + 1) y (t + 1) (L.filter (fun q => !(q.1 == (k : Nat)) && !(q.1 + 1 == (k : Nat) && q.2.category == 2))) [] h1 x) : ev (d + 1) y pc L S h x := by
  obtain ⟨n1, hn1⟩ := hr
  obtain ⟨n2, hn2⟩ := kk
  refine ⟨max n1 n2 + 1, ?_⟩
  unfold ab_run
  rw [hd]
  dsimp only
  rw [hl, he, hc]
  dsimp only
  rw [ab_run_le n1 (max n1 n2) _ _ _ _ _ _ _ _ _ (Nat.le_max_left _ _) (Nat.le_refl _) (ab_le_rf _) hn1]
  dsimp only
  rw [hh]
  try dsimp only
  rw [ht]
  try dsimp only
  simp only [Bool.true_eq_false, if_false]
  rw [if_pos hk]
  exact ab_run_le n2 (max n1 n2) _ _ _ _ _ _ _ _ _ (Nat.le_max_right _ _) (Nat.le_refl _) (ab_le_rf _) hn2
theorem la_run_of (h : ∀ (L : Nat) (xs : Nat → Int32), L ≤ 3584 → ∃ h' : ab_H, ev 300 386 0 [(0, .ref ab_scr)] [] (la_h0 L xs) (.inl (some (.int 1)), h') ∧ ab_C h' ≤ 601024 ∧ ab_Z h' ≤ 7293034) : la_run := by
  intro L xs hL
  obtain ⟨h', ⟨n, hn⟩, h2⟩ := h L xs hL
  exact ⟨n, h', hn, h2⟩
