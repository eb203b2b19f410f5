/-! a piece of pure code and the machine: Go, its rules; loops by wh -/
/-- from here, whenever the pure piece e answers b, the run comes to every end x that T allows for b -/
def Go {β : Type} (d y pc : Nat) (L : ab_L) (S : ab_S) (h : ab_H) (e : Option β) (T : β → ab_O × ab_H → Prop) : Prop := ∀ b, e = some b → ∀ x, T b x → ev d y pc L S h x
section GO
variable {β : Type} {γ : Type} {σ : Type} {d y pc pc' : Nat} {L L' : ab_L} {S S' : ab_S} {h h' : ab_H}
theorem Go_leaf {b : β} {T : β → ab_O × ab_H → Prop} (hT : ∀ x, T b x → ev d y pc L S h x) : Go d y pc L S h (some b) T := fun c hc x hx => by
  cases hc
  exact hT x hx
theorem Go_none {T : β → ab_O × ab_H → Prop} : Go d y pc L S h (none : Option β) T := fun c hc => by cases hc
theorem Go_blk {e : Option β} {T : β → ab_O × ab_H → Prop} (n : Nat) (hb : ab_blk n y pc L S h = some (pc', L', S', h')) (k : Go d y pc' L' S' h' e T) : Go d y pc L S h e T := fun b he x hx => ev_blk n hb (k b he x hx)
theorem Go_loc {e : Option β} {T : β → ab_O × ab_H → Prop} (hL : ab_le L' L) (k : Go d y pc L' S h e T) : Go d y pc L S h e T := fun b he x hx => ev_le (Nat.le_refl _) hL (k b he x hx)
theorem Go_dep {d' : Nat} {e : Option β} {T : β → ab_O × ab_H → Prop} (hd : d' ≤ d) (k : Go d' y pc L S h e T) : Go d y pc L S h e T := fun b he x hx => ev_le hd (ab_le_rf _) (k b he x hx)
theorem Go_ite {c : Prop} [Decidable c] {e1 e2 : Option β} {T : β → ab_O × ab_H → Prop} (k1 : c → Go d y pc L S h e1 T) (k2 : ¬ c → Go d y pc L S h e2 T) : Go d y pc L S h (if c then e1 else e2) T := by
  split
  · exact k1 (by assumption)
  · exact k2 (by assumption)
/-- two pieces, one behind another -/
theorem Go_bind {e : Option γ} {f : γ → Option β} {T : β → ab_O × ab_H → Prop} (k : Go d y pc L S h e (fun b x => ∃ z, f b = some z ∧ T z x)) : Go d y pc L S h (e.bind f) T := fun z hz x hx => by
  obtain ⟨b, h1, h2⟩ := Option.bind_eq_some_iff.mp hz
  exact k b h1 x ⟨z, h2, hx⟩
theorem Go_mono {e : Option β} {T T' : β → ab_O × ab_H → Prop} (k : Go d y pc L S h e T) (hT : ∀ b x, T' b x → T b x) : Go d y pc L S h e T' := fun b he x hx => k b he x (hT b x hx)
/-- a branch of bytecode, by its condition -/
theorem ab_cmp_eq (k : ClassFile.Cond) (x z : Int32) : ab_cmp k x z = (match k with | .eq => decide (x = z) | .ne => !decide (x = z) | .lt => decide (x < z) | .ge => decide (z ≤ x) | .gt => decide (z < x) | .le => decide (x ≤ z)) := by cases k <;> rfl
/-- a while that need not end -/
def wh_n (f : σ → Option (σ ⊕ β)) : Nat → σ → Option β
  | 0, _ => none
  | n + 1, s => match f s with
    | none => none
    | some (.inl t) => wh_n f n t
    | some (.inr b) => some b
theorem wh_n_le (f : σ → Option (σ ⊕ β)) : ∀ (n m : Nat) (s : σ) (b : β), n ≤ m → wh_n f n s = some b → wh_n f m s = some b
  | 0, m, s, b, _, h => by cases h
  | n + 1, 0, s, b, h, _ => by omega
  | n + 1, m + 1, s, b, hle, h => by
    unfold wh_n at h ⊢
    split at h
    · cases h
    · exact wh_n_le f n m _ b (by omega) h
    · exact h
noncomputable def wh (f : σ → Option (σ ⊕ β)) (s : σ) : Option β := @dite _ (∃ n b, wh_n f n s = some b) (Classical.propDecidable _) (fun hx => some (Classical.choose (Classical.choose_spec hx))) (fun _ => none)
theorem wh_iff (f : σ → Option (σ ⊕ β)) (s : σ) (b : β) : wh f s = some b ↔ ∃ n, wh_n f n s = some b := by
  unfold wh
  constructor
  · intro h
    split at h
    · rename_i hx
      have h1 := Classical.choose_spec (Classical.choose_spec hx)
      cases h
      exact ⟨_, h1⟩
    · cases h
  · rintro ⟨n, hn⟩
    have hx : ∃ n b, wh_n f n s = some b := ⟨n, b, hn⟩
    rw [dif_pos hx]
    have h1 := Classical.choose_spec (Classical.choose_spec hx)
    have h2 := wh_n_le f n (max n (Classical.choose hx)) s b (Nat.le_max_left _ _) hn
    have h3 := wh_n_le f _ (max n (Classical.choose hx)) s _ (Nat.le_max_right _ _) h1
    rw [h2] at h3
    exact h3.symm
theorem wh_inl {f : σ → Option (σ ⊕ β)} {s t : σ} (h : f s = some (.inl t)) : wh f s = wh f t := by
  apply Option.ext
  intro b
  rw [wh_iff, wh_iff]
  constructor
  · rintro ⟨n, hn⟩
    cases n with
    | zero => cases hn
    | succ n =>
      unfold wh_n at hn
      rw [h] at hn
      exact ⟨n, hn⟩
  · rintro ⟨n, hn⟩
    refine ⟨n + 1, ?_⟩
    unfold wh_n
    rw [h]
    exact hn
theorem wh_inr {f : σ → Option (σ ⊕ β)} {s : σ} {b : β} (h : f s = some (.inr b)) : wh f s = some b := by
  rw [wh_iff]
  refine ⟨1, ?_⟩
  unfold wh_n
  rw [h]
/-- a loop: its body's piece from the head; back at the head the loop goes on -/
theorem Go_wh {f : σ → Option (σ ⊕ β)} {T : β → ab_O × ab_H → Prop} (Lf : σ → ab_L) (Sf : σ → ab_S) (hf : σ → ab_H)
    (k : ∀ s, Go d y pc (Lf s) (Sf s) (hf s) (f s) (fun r x => match r with | .inl t => ev d y pc (Lf t) (Sf t) (hf t) x | .inr b => T b x)) (s : σ) : Go d y pc (Lf s) (Sf s) (hf s) (wh f s) T := by
  intro b hb x hx
  obtain ⟨n, hn⟩ := (wh_iff f s b).mp hb
  clear hb
  induction n generalizing s with
  | zero => cases hn
  | succ n ih =>
    unfold wh_n at hn
    split at hn
    · cases hn
    · rename_i t ht
      exact k s _ ht x (ih t hn)
    · rename_i c hc
      cases hn
      exact k s _ hc x hx
end GO
