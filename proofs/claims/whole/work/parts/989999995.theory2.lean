/-! pieces: runs of all kinds, kind by kind -/
def upL (L : Nat → Nat) (b x : Nat) : Nat → Nat := fun c => if c = b then L c - x else L c
def PK (Q : Nat → Prop) : List Nat → (Nat → Nat) → Prop
  | [], _ => True
  | x :: t, L => ∃ b, Q b ∧ x ≤ L b ∧ PK Q t (upL L b x)
/-- all runs, each off a bolt that fits: as the reference looks for it -/
def PM (Q : Nat → Nat → Prop) : List (Nat × Nat) → (Nat → Nat) → Prop
  | [], _ => True
  | x :: t, L => ∃ b, Q x.1 b ∧ x.2 ≤ L b ∧ PM Q t (upL L b x.2)
def lens (k : Nat) : List (Nat × Nat) → List Nat
  | [] => []
  | x :: t => if x.1 = k then x.2 :: lens k t else lens k t
theorem lens_app {k : Nat} : ∀ {l m : List (Nat × Nat)}, lens k (l ++ m) = lens k l ++ lens k m
  | [], m => rfl
  | x :: t, m => by
    show (if x.1 = k then x.2 :: lens k (t ++ m) else lens k (t ++ m)) = (if x.1 = k then x.2 :: lens k t else lens k t) ++ lens k m
    rw [lens_app]
    split <;> rfl
theorem lens_len {k : Nat} : ∀ {l : List (Nat × Nat)}, (lens k l).length ≤ l.length
  | [] => Nat.le_refl _
  | x :: t => by
    have := lens_len (k := k) (l := t)
    show (if x.1 = k then x.2 :: lens k t else lens k t).length ≤ t.length + 1
    split
    · exact Nat.succ_le_succ this
    · omega
theorem lens_all {k : Nat} {p : Nat → Prop} : ∀ {l : List (Nat × Nat)}, (∀ x, x ∈ l → p x.2) → ∀ y, y ∈ lens k l → p y
  | [], _, y, h => by cases h
  | x :: t, h, y, hy => by
    have ih := lens_all (k := k) (p := p) (l := t) (fun z hz => h z (List.mem_cons_of_mem _ hz))
    have e : lens k (x :: t) = if x.1 = k then x.2 :: lens k t else lens k t := rfl
    rw [e] at hy
    split at hy
    · rcases List.mem_cons.mp hy with rfl | hy
      · exact h x List.mem_cons_self
      · exact ih y hy
    · exact ih y hy
theorem PK_congr {Q : Nat → Prop} : ∀ {l : List Nat} {L M : Nat → Nat}, (∀ c, Q c → L c = M c) → PK Q l L → PK Q l M
  | [], _, _, _, _ => trivial
  | x :: t, L, M, h, hp => by
    obtain ⟨b, h1, h2, h3⟩ := hp
    refine ⟨b, h1, by rw [← h b h1]; exact h2, PK_congr (fun c hc => ?_) h3⟩
    unfold upL
    rw [h c hc]
theorem PM_iff {Q : Nat → Nat → Prop} (hq : ∀ a b c, Q a c → Q b c → a = b) : ∀ {l : List (Nat × Nat)} {L : Nat → Nat}, PM Q l L ↔ ∀ k, PK (Q k) (lens k l) L
  | [], L => ⟨fun _ _ => trivial, fun _ => trivial⟩
  | x :: t, L => by
    have key : ∀ b, Q x.1 b → ∀ k, x.1 ≠ k → ∀ c, Q k c → upL L b x.2 c = L c := fun b hb k hk c hc => by
      unfold upL
      rw [if_neg]
      intro z
      subst z
      exact hk (hq _ _ _ hb hc)
    have e : ∀ k, lens k (x :: t) = if x.1 = k then x.2 :: lens k t else lens k t := fun _ => rfl
    constructor
    · rintro ⟨b, h1, h2, h3⟩ k
      have h4 := (PM_iff hq).mp h3 k
      rw [e]
      by_cases z : x.1 = k
      · rw [if_pos z]
        subst z
        exact ⟨b, h1, h2, h4⟩
      · rw [if_neg z]
        exact PK_congr (key b h1 k z) h4
    · intro h
      have h0 := h x.1
      rw [e, if_pos rfl] at h0
      obtain ⟨b, h1, h2, h3⟩ := h0
      refine ⟨b, h1, h2, (PM_iff hq).mpr fun k => ?_⟩
      by_cases z : x.1 = k
      · subst z
        exact h3
      · have h5 := h k
        rw [e, if_neg z] at h5
        exact PK_congr (fun c hc => (key b h1 k z c hc).symm) h5
theorem PK_to {Q : Nat → Prop} : ∀ {l : List Nat} {L : Nat → Nat}, PK Q l L → ∃ α : Nat → Nat, (∀ j, j < l.length → Q (α j)) ∧ ∀ b, Q b → sN (fun j => if α j = b then l.getD j 0 else 0) l.length ≤ L b
  | [], L, _ => ⟨fun _ => 0, fun j hj => absurd hj (Nat.not_lt_zero j), fun _ _ => Nat.zero_le _⟩
  | x :: t, L, h => by
    obtain ⟨b, h1, h2, h3⟩ := h
    obtain ⟨α, g1, g2⟩ := PK_to h3
    refine ⟨fun j => match j with | 0 => b | j + 1 => α j, fun j hj => ?_, fun c hc => ?_⟩
    · cases j with
      | zero => exact h1
      | succ j => exact g1 j (Nat.lt_of_succ_lt_succ hj)
    · show sN _ (t.length + 1) ≤ L c
      rw [sN_sh]
      have h4 := g2 c hc
      unfold upL at h4
      show (if b = c then x else 0) + sN (fun j => if α j = c then t.getD j 0 else 0) t.length ≤ L c
      by_cases z : b = c
      · subst z
        rw [if_pos rfl] at h4 ⊢
        omega
      · rw [if_neg (fun y => z y.symm)] at h4
        rw [if_neg z]
        omega
theorem PK_of {Q : Nat → Prop} : ∀ {l : List Nat} {L : Nat → Nat} {α : Nat → Nat}, (∀ j, j < l.length → Q (α j)) → (∀ b, Q b → sN (fun j => if α j = b then l.getD j 0 else 0) l.length ≤ L b) → PK Q l L
  | [], _, _, _, _ => trivial
  | x :: t, L, α, h1, h2 => by
    have h3 : ∀ c, Q c → (if α 0 = c then x else 0) + sN (fun j => if α (j + 1) = c then t.getD j 0 else 0) t.length ≤ L c := fun c hc => by
      have h4 := h2 c hc
      have h5 : sN (fun j => if α j = c then (x :: t).getD j 0 else 0) (t.length + 1) ≤ L c := h4
      rw [sN_sh] at h5
      exact h5
    refine ⟨α 0, h1 0 (Nat.zero_lt_succ _), ?_, PK_of (α := fun j => α (j + 1)) (fun j hj => h1 (j + 1) (Nat.succ_lt_succ hj)) fun c hc => ?_⟩
    · have := h3 (α 0) (h1 0 (Nat.zero_lt_succ _))
      rw [if_pos rfl] at this
      omega
    · have := h3 c hc
      unfold upL
      by_cases z : c = α 0
      · rw [if_pos z.symm] at this
        rw [if_pos z]
        omega
      · rw [if_neg (fun y => z y.symm)] at this
        rw [if_neg z]
        omega
/-- the bolts of a kind, the largest first: by place, and back -/
def SRT (bk L : Nat → Nat) (nb k : Nat) (σ τ : Nat → Nat) (P : Nat) : Prop := (∀ p, p < P → σ p < nb ∧ bk (σ p) = k ∧ τ (σ p) = p) ∧ (∀ b, b < nb → bk b = k → τ b < P ∧ σ (τ b) = b) ∧ (∀ g : Nat → Nat, sN (fun b => if bk b = k then g b else 0) nb = sN (fun p => g (σ p)) P) ∧ ∀ p q, p ≤ q → q < P → L (σ q) ≤ L (σ p)
theorem sN_ins {f : Nat → Nat} {q c : Nat} : ∀ {P : Nat}, q ≤ P → sN (fun p => if p < q then f p else if p = q then c else f (p - 1)) (P + 1) = sN f P + c
  | 0, h => by
    have e : q = 0 := by omega
    subst e
    show 0 + (if 0 < 0 then f 0 else if 0 = 0 then c else f (0 - 1)) = 0 + c
    rw [if_neg (by omega), if_pos rfl]
  | P + 1, h => by
    show sN (fun p => if p < q then f p else if p = q then c else f (p - 1)) (P + 1) + (if P + 1 < q then f (P + 1) else if P + 1 = q then c else f (P + 1 - 1)) = sN f P + f P + c
    by_cases e : q = P + 1
    · subst e
      rw [if_neg (by omega), if_pos rfl]
      have : sN (fun p => if p < P + 1 then f p else if p = P + 1 then c else f (p - 1)) (P + 1) = sN f (P + 1) := sN_congr fun k hk => if_pos hk
      rw [this]
      rfl
    · rw [if_neg (by omega), if_neg (by omega), sN_ins (P := P) (by omega), Nat.add_sub_cancel]
      omega
theorem SRT_ins {bk L : Nat → Nat} {i k q P : Nat} {σ τ : Nat → Nat} (h : SRT bk L i k σ τ P) (hk : bk i = k) (hq : q ≤ P) (h1 : ∀ p, p < q → L i ≤ L (σ p)) (h2 : ∀ p, q ≤ p → p < P → L (σ p) ≤ L i) : SRT bk L (i + 1) k (fun p => if p < q then σ p else if p = q then i else σ (p - 1)) (fun b => if b = i then q else if τ b < q then τ b else τ b + 1) (P + 1) := by
  obtain ⟨a1, a2, a3, a4⟩ := h
  refine ⟨fun p hp => ?_, fun b hb hbk => ?_, fun g => ?_, fun p r hpr hr => ?_⟩
  · by_cases c1 : p < q
    · obtain ⟨b1, b2, b3⟩ := a1 p (by omega)
      try dsimp only
      rw [if_pos c1, if_neg (by omega), b3, if_pos c1]
      exact ⟨by omega, b2, rfl⟩
    · by_cases c2 : p = q
      · try dsimp only
        rw [if_neg c1, if_pos c2, if_pos rfl]
        exact ⟨by omega, hk, c2.symm⟩
      · obtain ⟨b1, b2, b3⟩ := a1 (p - 1) (by omega)
        try dsimp only
        rw [if_neg c1, if_neg c2, if_neg (by omega), b3, if_neg (by omega)]
        exact ⟨by omega, b2, by omega⟩
  · by_cases c1 : b = i
    · try dsimp only
      rw [if_pos c1, if_neg (by omega), if_pos rfl]
      exact ⟨by omega, c1.symm⟩
    · obtain ⟨b1, b2⟩ := a2 b (by omega) hbk
      try dsimp only
      rw [if_neg c1]
      by_cases c2 : τ b < q
      · rw [if_pos c2, if_pos c2]
        exact ⟨by omega, b2⟩
      · rw [if_neg c2, if_neg (by omega), if_neg (by omega), Nat.add_sub_cancel]
        exact ⟨by omega, b2⟩
  · have e : (fun p => g (if p < q then σ p else if p = q then i else σ (p - 1))) = fun p => if p < q then g (σ p) else if p = q then g i else g (σ (p - 1)) := funext fun p => by
      by_cases c1 : p < q
      · rw [if_pos c1, if_pos c1]
      · rw [if_neg c1, if_neg c1]
        by_cases c2 : p = q
        · rw [if_pos c2, if_pos c2]
        · rw [if_neg c2, if_neg c2]
    try dsimp only
    rw [e]
    have := sN_ins (f := fun p => g (σ p)) (q := q) (c := g i) hq
    rw [this]
    show sN (fun b => if bk b = k then g b else 0) i + (if bk i = k then g i else 0) = _
    rw [if_pos hk, a3]
  · try dsimp only
    by_cases c1 : r < q
    · rw [if_pos c1, if_pos (by omega)]
      exact a4 p r hpr (by omega)
    · rw [if_neg c1]
      by_cases c2 : r = q
      · rw [if_pos c2]
        by_cases c3 : p < q
        · rw [if_pos c3]
          exact h1 p c3
        · rw [if_neg c3, if_pos (by omega)]
          exact Nat.le_refl _
      · rw [if_neg c2]
        by_cases c3 : p < q
        · rw [if_pos c3]
          exact a4 p (r - 1) (by omega) (by omega)
        · rw [if_neg c3]
          by_cases c4 : p = q
          · rw [if_pos c4]
            exact h2 (r - 1) (by omega) (by omega)
          · rw [if_neg c4]
            exact a4 (p - 1) (r - 1) (by omega) (by omega)
theorem SRT_no {bk L : Nat → Nat} {i k P : Nat} {σ τ : Nat → Nat} (h : SRT bk L i k σ τ P) (hk : bk i ≠ k) : SRT bk L (i + 1) k σ τ P := by
  obtain ⟨a1, a2, a3, a4⟩ := h
  refine ⟨fun p hp => ⟨by have := (a1 p hp).1; omega, (a1 p hp).2⟩, fun b hb hbk => ?_, fun g => ?_, a4⟩
  · have : b ≠ i := fun z => hk (by rw [← z]; exact hbk)
    exact a2 b (by omega) hbk
  · show sN (fun b => if bk b = k then g b else 0) i + (if bk i = k then g i else 0) = _
    rw [if_neg hk, a3]
    rfl
theorem SRT_0 {bk L : Nat → Nat} {k : Nat} {σ τ : Nat → Nat} : SRT bk L 0 k σ τ 0 := ⟨fun p hp => absurd hp (Nat.not_lt_zero p), fun b hb => absurd hb (Nat.not_lt_zero b), fun _ => rfl, fun p q _ h => absurd h (Nat.not_lt_zero q)⟩
