/-! rules that look into the table of the law -/
def dl_f (pc : Nat) : List dl_E → Option (Instr × Nat)
  | [] => none
  | e :: r => cond (Nat.beq e.1 pc) (some e.2) (dl_f pc r)
def dl (pc : Nat) : Option (Instr × Nat) := dl_f pc (dl_t pc)
theorem dl_fm {pc : Nat} {q : Instr × Nat} : ∀ {l : List dl_E}, dl_f pc l = some q → ∃ e, e ∈ l ∧ e.1 = pc ∧ e.2 = q := by
  intro l
  induction l with
  | nil => intro h; simp [dl_f] at h
  | cons e r ih =>
    intro h
    unfold dl_f at h
    cases hb : Nat.beq e.1 pc with
    | true =>
      rw [hb] at h
      exact ⟨e, List.mem_cons_self .., Nat.eq_of_beq_eq_true hb, Option.some.inj h⟩
    | false =>
      rw [hb] at h
      obtain ⟨e', h1, h2⟩ := ih h
      exact ⟨e', List.mem_cons_of_mem _ h1, h2⟩
theorem dl_P_ok {e : dl_E} (h : dl_P e = true) : decode code e.1 = .ok (e.2.1, e.2.2) := of_decide_eq_true h
theorem dl_ok {pc : Nat} {q : Instr × Nat} (h : dl pc = some q) : decode (ab_b 386) pc = .ok q := by
  obtain ⟨e, he, h1, h2⟩ := dl_fm h
  have h3 := dl_P_ok (List.all_eq_true.mp (dl_tk pc) e he)
  rw [← h1, ← h2]
  exact h3
def ab_blkD : Nat → Nat → ab_L → ab_S → ab_H → Option (Nat × ab_L × ab_S × ab_H)
  | 0, pc, L, S, h => some (pc, L, S, h)
  | n + 1, pc, L, S, h => match dl pc with
    | some (i, len) => if ab_len i len && (ab_end 386 pc i S h).isNone && (ab_call 13 i S h).isNone then (match ab_step false 8 13 i len pc L S h with
      | some (pc', L', S', h') => ab_blkD n pc' L' S' h'
      | none => none) else none
    | none => none
theorem ab_blkD_ok : ∀ {n pc : Nat} {L : ab_L} {S : ab_S} {h : ab_H} {r : Nat × ab_L × ab_S × ab_H}, ab_blkD n pc L S h = some r → ab_blk n 386 pc L S h = some r
  | 0, _, _, _, _, _, h => h
  | n + 1, pc, L, S, hp, r, h => by
    unfold ab_blkD at h
    unfold ab_blk
    split at h
    · rename_i i len hd
      rw [dl_ok hd]
      dsimp only
      obtain ⟨hc, h⟩ := Option.ite_none_right_eq_some.mp h
      have hc2 : (ab_len i len && (ab_end 386 pc i S hp).isNone && (ab_call (ab_c 386) i S hp).isNone) = true := hc
      rw [if_pos hc2]
      split at h
      · rename_i pc' L' S' h' hs
        have hs2 : ab_step (decide ((ab_y 386).name = "<init>")) (ab_nL 386) (ab_c 386) i len pc L S hp = some (pc', L', S', h') := hs
        rw [hs2]
        exact ab_blkD_ok h
      · cases h
    · cases h
def ab_clD (pc : Nat) (S : ab_S) (h : ab_H) : Option (Nat × List Value × ab_S × Bool) := match dl pc with
  | some (i, len) => if ab_len i len && (ab_end 386 pc i S h).isNone then ab_call 13 i S h else none
  | none => none
theorem ab_clD_ok {pc : Nat} {S : ab_S} {hp : ab_H} {r : Nat × List Value × ab_S × Bool} (h : ab_clD pc S hp = some r) : ab_cl 386 pc S hp = some r := by
  unfold ab_clD at h
  unfold ab_cl
  split at h
  · rename_i i len hd
    rw [dl_ok hd]
    exact h
  · cases h
def ab_enD (pc : Nat) (S : ab_S) (h : ab_H) : Option (ab_O × ab_H) := match dl pc with
  | some (i, len) => if ab_len i len then ab_end 386 pc i S h else none
  | none => none
theorem ab_enD_ok {pc : Nat} {S : ab_S} {hp : ab_H} {r : ab_O × ab_H} (h : ab_enD pc S hp = some r) : ab_en 386 pc S hp = some r := by
  unfold ab_enD at h
  unfold ab_en
  split at h
  · rename_i i len hd
    rw [dl_ok hd]
    exact h
  · cases h
