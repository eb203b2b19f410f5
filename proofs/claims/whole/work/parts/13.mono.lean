theorem ab_rows3_f (h : ab_H) (m q : Nat) : ∀ k, ab_C h ≤ ab_C (ab_rows3 h m q k) ∧ ab_Z h ≤ ab_Z (ab_rows3 h m q k) ∧ ab_XL (ab_rows3 h m q k) = ab_XL h ∧ ab_X (ab_rows3 h m q k) = ab_X h
  | 0 => ⟨Nat.le_refl _, Nat.le_refl _, rfl, rfl⟩
  | k + 1 => by
    obtain ⟨a, b, d, e⟩ := ab_rows3_f h m q k
    obtain ⟨a1, b1, c1, d1, e1⟩ := ab_newb_f (ab_rows3 h m q k) m q
    unfold ab_rows3
    exact ⟨by omega, by omega, d1.trans d, e1.trans e⟩
/-- what only grows, and what stays -/
def ab_ge (h h' : ab_H) : Prop := ab_C h ≤ ab_C h' ∧ ab_Z h ≤ ab_Z h' ∧ ab_XL h' = ab_XL h ∧ ab_X h' = ab_X h
theorem ab_ge_rf (h : ab_H) : ab_ge h h := ⟨Nat.le_refl _, Nat.le_refl _, rfl, rfl⟩
theorem ab_ge_tr {a b c : ab_H} (h1 : ab_ge a b) (h2 : ab_ge b c) : ab_ge a c := ⟨Nat.le_trans h1.1 h2.1, Nat.le_trans h1.2.1 h2.2.1, h2.2.2.1.trans h1.2.2.1, h2.2.2.2.trans h1.2.2.2⟩
theorem ab_ge_new (h : ab_H) (t n z : Nat) (p : Nat → Option Nat) : ab_ge h (ab_new h t n z p) := ⟨Nat.le_succ _, Nat.le_add_right _ _, rfl, rfl⟩
theorem ab_ge_newb (h : ab_H) (n m : Nat) : ab_ge h (ab_newb h n m) := by
  obtain ⟨a, b, c, d, e⟩ := ab_newb_f h n m
  exact ⟨by omega, by omega, d, e⟩
theorem ab_ge_newc (h : ab_H) (n m q : Nat) : ab_ge h (ab_newc h n m q) := by
  unfold ab_newc
  exact ab_ge_tr (ab_ge_new _ _ _ _ _) (ab_rows3_f _ _ _ _)
theorem ab_step_ge {ini : Bool} {nL c : Nat} {i : Instr} {len pc : Nat} {L : ab_L} {S : ab_S} {h : ab_H} {pc' : Nat} {L' : ab_L} {S' : ab_S} {h' : ab_H} (hst : ab_step ini nL c i len pc L S h = some (pc', L', S', h')) : ab_ge h h' := by
  unfold ab_step at hst
  split at hst
  all_goals try simp only [ab_ld, ab_stI, ab_stA, ab_stL, ab_getf, ab_putf, ab_aload, ab_astore, ab_alen, ab_newa, ab_two, ab_three] at hst
  all_goals try unfold ab_lib at hst
  all_goals repeat' split at hst
  all_goals first
    | (cases hst; done)
    | (simp only [Option.some.injEq, Prod.mk.injEq] at hst; obtain ⟨rfl, rfl, rfl, rfl⟩ := hst; first | exact ab_ge_rf _ | exact ab_ge_new _ _ _ _ _ | exact ab_ge_newb _ _ _ | exact ab_ge_newc _ _ _ _)
    | (obtain ⟨t, ht, hh⟩ := Option.map_eq_some_iff.mp hst; cases hh; exact ab_ge_rf _)
theorem ab_end_ge {y pc : Nat} {i : Instr} {S : ab_S} {h : ab_H} {o : ab_O} {h' : ab_H} (hst : ab_end y pc i S h = some (o, h')) : ab_ge h h' := by
  unfold ab_end at hst
  split at hst
  all_goals repeat' split at hst
  all_goals first
    | (cases hst; done)
    | (simp only [Option.some.injEq, Prod.mk.injEq] at hst; obtain ⟨rfl, rfl⟩ := hst; first | exact ab_ge_rf _ | exact ⟨Nat.le_succ _, Nat.le_add_right _ _, rfl, rfl⟩)
theorem ab_run_ge : ∀ (n d y pc : Nat) (L : ab_L) (S : ab_S) (h : ab_H) (o : ab_O) (h' : ab_H), ab_run n d y pc L S h = some (o, h') → ab_ge h h'
  | 0, d, y, pc, L, S, h, o, h', hr => by cases hr
  | n + 1, d, y, pc, L, S, h, o, h', hr => by
    unfold ab_run at hr
    split at hr
    · cases hr
    · rename_i i len hd
      split at hr
      · cases hr
      · split at hr
        · rename_i r hr2
          cases hr
          exact ab_end_ge hr2
        · split at hr
          · rename_i y' As r pl hcall
            split at hr
            · cases hr
            · rename_i d'
              split at hr
              · cases hr
              · rename_i v h1 hrun
                exact ab_ge_tr (ab_run_ge n _ _ _ _ _ _ _ _ hrun) (ab_run_ge n _ _ _ _ _ _ _ _ hr)
              · rename_i E h1 hrun
                have g1 := ab_run_ge n _ _ _ _ _ _ _ _ hrun
                split at hr
                · cases hr
                · split at hr
                  · split at hr
                    · cases hr
                      exact g1
                    · cases hr
                  · split at hr
                    · split at hr
                      · exact ab_ge_tr g1 (ab_run_ge n _ _ _ _ _ _ _ _ hr)
                      · cases hr
                    · split at hr
                      · exact ab_ge_tr g1 (ab_run_ge n _ _ _ _ _ _ _ _ hr)
                      · cases hr
                    · cases hr
          · split at hr
            · cases hr
            · rename_i pc' L' S' h1 hst
              exact ab_ge_tr (ab_step_ge hst) (ab_run_ge n _ _ _ _ _ _ _ _ hr)
