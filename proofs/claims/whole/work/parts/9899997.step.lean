/-! work: well nested steps -/
def WNf (J : MJ) : Nat → Nat → Nat → Nat → Prop
  | 0, _, a, b => a = b
  | f + 1, d, a, b => a = b ∨ (J (496 + a) 0 ≠ 6 ∧ J (496 + a) 4 = Int32.ofNat (a + 1) ∧ WNf J f d (a + 1) b) ∨ ∃ e, J (496 + a) 0 = 6 ∧ J (496 + a) 4 = Int32.ofNat e ∧ a < e ∧ d < 6 ∧ WNf J f (d + 1) (a + 1) e ∧ WNf J f d e b
def WN (J : MJ) (d a b : Nat) : Prop := ∃ f, WNf J f d a b
theorem WNf_le {J : MJ} : ∀ (f d a b : Nat), WNf J f d a b → a ≤ b
  | 0, d, a, b, h => Nat.le_of_eq h
  | f + 1, d, a, b, h => by
    rcases h with h | ⟨-, -, h⟩ | ⟨e, -, -, h1, -, h2, h3⟩
    · exact Nat.le_of_eq h
    · have := WNf_le f d (a + 1) b h
      omega
    · have := WNf_le f (d + 1) (a + 1) e h2
      have := WNf_le f d e b h3
      omega
theorem WNf_mono {J : MJ} : ∀ (f g d a b : Nat), f ≤ g → WNf J f d a b → WNf J g d a b
  | 0, 0, d, a, b, _, h => h
  | 0, g + 1, d, a, b, _, h => Or.inl h
  | f + 1, 0, d, a, b, hl, h => by omega
  | f + 1, g + 1, d, a, b, hl, h => by
    rcases h with h | ⟨h1, h2, h⟩ | ⟨e, h1, h2, h3, h4, h5, h6⟩
    · exact Or.inl h
    · exact Or.inr (Or.inl ⟨h1, h2, WNf_mono f g d (a + 1) b (by omega) h⟩)
    · exact Or.inr (Or.inr ⟨e, h1, h2, h3, h4, WNf_mono f g (d + 1) (a + 1) e (by omega) h5, WNf_mono f g d e b (by omega) h6⟩)
theorem WNf_tr {J : MJ} : ∀ (f g d a b c : Nat), WNf J f d a b → WNf J g d b c → WNf J (f + g) d a c
  | 0, g, d, a, b, c, h, h' => by
    have e : a = b := h
    subst e
    exact WNf_mono g (0 + g) d a c (by omega) h'
  | f + 1, g, d, a, b, c, h, h' => by
    rw [show f + 1 + g = (f + g) + 1 by omega]
    rcases h with h | ⟨h1, h2, h⟩ | ⟨e, h1, h2, h3, h4, h5, h6⟩
    · subst h
      exact WNf_mono g (f + g + 1) d a c (by omega) h'
    · exact Or.inr (Or.inl ⟨h1, h2, WNf_tr f g d (a + 1) b c h h'⟩)
    · exact Or.inr (Or.inr ⟨e, h1, h2, h3, h4, WNf_mono f (f + g) (d + 1) (a + 1) e (by omega) h5, WNf_tr f g d e b c h6 h'⟩)
theorem WNf_c {J K : MJ} : ∀ (f d a b : Nat), WNf J f d a b → (∀ k j, a ≤ k → k < b → K (496 + k) j = J (496 + k) j) → WNf K f d a b
  | 0, d, a, b, h, _ => h
  | f + 1, d, a, b, h, e => by
    rcases h with h | ⟨h1, h2, h⟩ | ⟨x, h1, h2, h3, h4, h5, h6⟩
    · exact Or.inl h
    · have g := WNf_le f d (a + 1) b h
      exact Or.inr (Or.inl ⟨by rw [e a 0 (by omega) (by omega)]; exact h1, by rw [e a 4 (by omega) (by omega)]; exact h2, WNf_c f d (a + 1) b h fun k j z1 z2 => e k j (by omega) z2⟩)
    · have g5 := WNf_le f (d + 1) (a + 1) x h5
      have g6 := WNf_le f d x b h6
      exact Or.inr (Or.inr ⟨x, by rw [e a 0 (by omega) (by omega)]; exact h1, by rw [e a 4 (by omega) (by omega)]; exact h2, h3, h4, WNf_c f (d + 1) (a + 1) x h5 (fun k j z1 z2 => e k j (by omega) (by omega)), WNf_c f d x b h6 (fun k j z1 z2 => e k j (by omega) z2)⟩)
theorem WN_nil {J : MJ} {d a : Nat} : WN J d a a := ⟨0, rfl⟩
theorem WN_one {J : MJ} {d a : Nat} (h1 : J (496 + a) 0 ≠ 6) (h2 : J (496 + a) 4 = Int32.ofNat (a + 1)) : WN J d a (a + 1) := ⟨1, Or.inr (Or.inl ⟨h1, h2, rfl⟩)⟩
theorem WN_rep {J : MJ} {d a e : Nat} (h1 : J (496 + a) 0 = 6) (h2 : J (496 + a) 4 = Int32.ofNat e) (h3 : a < e) (h4 : d < 6) (h5 : WN J (d + 1) (a + 1) e) : WN J d a e := by
  obtain ⟨f, h5⟩ := h5
  exact ⟨f + 1, Or.inr (Or.inr ⟨e, h1, h2, h3, h4, h5, WNf_mono 0 f d e e (Nat.zero_le _) rfl⟩)⟩
theorem WN_c {J K : MJ} {d a b : Nat} (h : WN J d a b) (e : ∀ k j, a ≤ k → k < b → K (496 + k) j = J (496 + k) j) : WN K d a b := by
  obtain ⟨f, h⟩ := h
  exact ⟨f, WNf_c f d a b h e⟩
theorem WN_tr {J : MJ} {d a b c : Nat} (h : WN J d a b) (h' : WN J d b c) : WN J d a c := by
  obtain ⟨f, h⟩ := h
  obtain ⟨g, h'⟩ := h'
  exact ⟨f + g, WNf_tr f g d a b c h h'⟩
theorem rowR_up {n1 n3 k c c' : Nat} {Jc Jm : MJ} (h : rowR n1 n3 k c Jc Jm) (hc : c ≤ c') : rowR n1 n3 k c' Jc Jm := by
  obtain ⟨kd, a1, a2, a3, a4, a5, a6, a7, a8, e, b1, b2, b3⟩ := h
  exact ⟨kd, a1, a2, a3, a4, a5, a6, a7, a8, e, b1, by omega, b3⟩
theorem rowR_c {n1 n3 k c : Nat} {Jc Jm Kc Km : MJ} (h : rowR n1 n3 k c Jc Jm) (h1 : ∀ j, 4 * k ≤ j → j < 4 * k + 4 → Kc 30 j = Jc 30 j) (h2 : ∀ j, Km (496 + k) j = Jm (496 + k) j) : rowR n1 n3 k c Kc Km := by
  obtain ⟨kd, a1, a2, a3, a4, a5, a6, a7, a8, e, b1, b2, b3, b4, b5⟩ := h
  refine ⟨kd, a1, by rw [h1 _ (by omega) (by omega)]; exact a2, by rw [h2]; exact a3, ?_, ?_, ?_, ?_, ?_, e, b1, b2, by rw [h2]; exact b3, b4, ?_⟩
  · rw [h1 _ (by omega) (by omega), h2]; exact a4
  · rw [h1 _ (by omega) (by omega), h2]; exact a5
  · rw [h1 _ (by omega) (by omega), h1 _ (by omega) (by omega), h2, h2]; exact a6
  · rw [h1 _ (by omega) (by omega), h2]; exact a7
  · rw [h1 _ (by omega) (by omega), h2]; exact a8
  · rw [h1 _ (by omega) (by omega)]; exact b5
/-- frames behind the row a step begins at -/
def fcV (c : Nat) (I J : MJ) : Prop := ∀ a j, ¬ (a = 1 ∧ (j = 2 ∨ j = 4 ∨ j = 5 ∨ j = 6)) → ¬ (a = 30 ∧ 4 * c ≤ j) → ¬ (a = 29 ∧ j = 1) → J a j = I a j
def fmV (c : Nat) (I J : MJ) : Prop := ∀ a j, ¬ (a = 47 ∧ (j = 4 ∨ j = 5 ∨ j = 6 ∨ j = 8 ∨ j = 34)) → ¬ (496 + c ≤ a ∧ a < 576) → J a j = I a j
/-- what both know of the shop while they read -/
def shN (n1 n3 : Nat) (Jc Jm : MJ) : Prop := Jc 3 6 = Int32.ofNat n1 ∧ Jc 3 8 = Int32.ofNat n3 ∧ Jm 51 1 = Int32.ofNat n1 ∧ Jm 51 3 = Int32.ofNat n3
/-- rows from c to c' stand, and they are a list at depth d -/
def stN (n1 n3 d c c' : Nat) (Jc Jm : MJ) : Prop := c ≤ c' ∧ Jc 29 1 = Int32.ofNat c' ∧ Jm 47 34 = Int32.ofNat c' ∧ (∀ k, c ≤ k → k < c' → rowR n1 n3 k c' Jc Jm) ∧ WN Jm d c c'
theorem stN_tr {n1 n3 d c c' c'' : Nat} {Jc Jm Kc Km : MJ} (hc : c'' ≤ 64) (h1 : stN n1 n3 d c c' Jc Jm) (h2 : stN n1 n3 d c' c'' Kc Km) (f1 : fcV c' Jc Kc) (f2 : fmV c' Jm Km) : stN n1 n3 d c c'' Kc Km := by
  obtain ⟨a1, a2, a3, a4, a5⟩ := h1
  obtain ⟨b1, b2, b3, b4, b5⟩ := h2
  refine ⟨by omega, b2, b3, fun k g1 g2 => ?_, WN_tr (WN_c a5 fun k j g1 g2 => f2 _ _ (by omega) (by omega)) b5⟩
  by_cases e : k < c'
  · exact rowR_c (rowR_up (a4 k g1 e) b1) (fun j z1 z2 => f1 _ _ (by omega) (by omega) (by omega)) (fun j => f2 _ _ (by omega) (by omega))
  · exact b4 k (by omega) g2
