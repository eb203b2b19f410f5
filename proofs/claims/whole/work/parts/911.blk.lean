/-! straight pieces: so many instructions that neither end, call nor throw -/
def ab_blk : Nat → Nat → Nat → ab_L → ab_S → ab_H → Option (Nat × ab_L × ab_S × ab_H)
  | 0, _, pc, L, S, h => some (pc, L, S, h)
  | n + 1, y, pc, L, S, h => match decode (ab_b y) pc with
    | .ok (i, len) => if ab_len i len && (ab_end y pc i S h).isNone && (ab_call (ab_c y) i S h).isNone then (match ab_step (decide ((ab_y y).name = "<init>")) (ab_nL y) (ab_c y) i len pc L S h with
      | some (pc', L', S', h') => ab_blk n y pc' L' S' h'
      | none => none) else none
    | .error _ => none
theorem ev_blk : ∀ (n : Nat) {d y pc : Nat} {L : ab_L} {S : ab_S} {h : ab_H} {x : ab_O × ab_H} {pc' : Nat} {L' : ab_L} {S' : ab_S} {h' : ab_H}, ab_blk n y pc L S h = some (pc', L', S', h') → ev d y pc' L' S' h' x → ev d y pc L S h x
  | 0, d, y, pc, L, S, h, x, pc', L', S', h', hb, k => by
    simp only [ab_blk, Option.some.injEq, Prod.mk.injEq] at hb
    obtain ⟨rfl, rfl, rfl, rfl⟩ := hb
    exact k
  | n + 1, d, y, pc, L, S, h, x, pc', L', S', h', hb, k => by
    unfold ab_blk at hb
    split at hb
    · rename_i i len hdec
      split at hb
      · rename_i hc
        simp only [Bool.and_eq_true, Option.isNone_iff_eq_none] at hc
        split at hb
        · rename_i pc1 L1 S1 h1 hst
          exact ev_step hdec hc.1.1 hc.1.2 hc.2 hst (ev_blk n hb k)
        · cases hb
      · cases hb
    · cases hb
