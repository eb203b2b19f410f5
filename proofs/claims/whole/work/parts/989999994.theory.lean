/-! pieces: packing, as numbers -/
theorem ite_01 {c : Prop} [Decidable c] : (if c then 1 else 0) ≤ 1 := by split <;> decide
theorem sN_sh {t : Nat → Nat} : ∀ {n : Nat}, sN t (n + 1) = t 0 + sN (fun k => t (k + 1)) n
  | 0 => by
    show sN t 0 + t 0 = t 0 + 0
    show 0 + t 0 = t 0 + 0
    omega
  | n + 1 => by
    have ih := sN_sh (t := t) (n := n)
    show sN t (n + 1) + t (n + 1) = t 0 + (sN (fun k => t (k + 1)) n + t (n + 1))
    omega
theorem sN_lel {t u : Nat → Nat} : ∀ {n : Nat}, (∀ k, k < n → t k ≤ u k) → sN t n ≤ sN u n
  | 0, _ => Nat.le_refl _
  | n + 1, h => by
    have h1 := sN_lel (t := t) (u := u) (n := n) (fun k hk => h k (by omega))
    have h2 := h n (by omega)
    show sN t n + t n ≤ sN u n + u n
    omega
theorem sN_mono {t : Nat → Nat} {m : Nat} : ∀ {n : Nat}, m ≤ n → sN t m ≤ sN t n
  | 0, h => by rw [show m = 0 by omega]; exact Nat.le_refl _
  | n + 1, h => by
    by_cases e : m = n + 1
    · rw [e]; exact Nat.le_refl _
    · have := sN_mono (t := t) (m := m) (n := n) (by omega)
      show sN t m ≤ sN t n + t n
      omega
theorem sN_zero {t : Nat → Nat} : ∀ {n : Nat}, (∀ k, k < n → t k = 0) → sN t n = 0
  | 0, _ => rfl
  | n + 1, h => by
    show sN t n + t n = 0
    rw [sN_zero (fun k hk => h k (by omega)), h n (by omega)]
/-- one term changed -/
theorem sN_chg {t u : Nat → Nat} {r : Nat} (hu : u r = 0) : ∀ {n : Nat}, r < n → (∀ k, k < n → k ≠ r → t k = u k) → sN t n = sN u n + t r
  | 0, h, _ => by omega
  | n + 1, h, e => by
    show sN t n + t n = sN u n + u n + t r
    by_cases z : n = r
    · subst z
      rw [hu, sN_congr (fun k hk => e k (by omega) (by omega))]
      omega
    · have := sN_chg hu (n := n) (by omega) (fun k hk => e k (by omega))
      rw [e n (by omega) z]
      omega
theorem sN_addf {t u : Nat → Nat} : ∀ {n : Nat}, sN (fun k => t k + u k) n = sN t n + sN u n
  | 0 => rfl
  | n + 1 => by
    have ih := sN_addf (t := t) (u := u) (n := n)
    show sN (fun k => t k + u k) n + (t n + u n) = sN t n + t n + (sN u n + u n)
    omega
theorem sN_swap {f : Nat → Nat → Nat} {m : Nat} : ∀ {n : Nat}, sN (fun a => sN (fun b => f a b) m) n = sN (fun b => sN (fun a => f a b) n) m
  | 0 => (sN_zero (t := fun b => sN (fun a => f a b) 0) fun _ _ => rfl).symm
  | n + 1 => by
    have ih := sN_swap (f := f) (m := m) (n := n)
    show sN (fun a => sN (fun b => f a b) m) n + sN (fun b => f n b) m = sN (fun b => sN (fun a => f a b) n + f n b) m
    rw [ih, sN_addf]
theorem bit_lt {S n : Nat} (h : S < 2 ^ n) {j : Nat} (hj : n ≤ j) : S.testBit j = false := Nat.testBit_lt_two_pow (Nat.lt_of_lt_of_le h (Nat.pow_le_pow_right (by decide) hj))
theorem bit_x {S r j : Nat} : (S ^^^ 2 ^ r).testBit j = if j = r then !(S.testBit j) else S.testBit j := by
  rw [Nat.testBit_xor, Nat.testBit_two_pow]
  by_cases e : j = r
  · rw [if_pos e, decide_eq_true e.symm, Bool.xor_true]
  · rw [if_neg e, decide_eq_false (fun z => e z.symm), Bool.xor_false]
theorem x_lt {S n r : Nat} (h : S < 2 ^ n) (hr : r < n) : S ^^^ 2 ^ r < 2 ^ n := Nat.xor_lt_two_pow h (Nat.pow_lt_pow_right (by decide) hr)
theorem x_less {S n r : Nat} (h : S < 2 ^ n) (hb : S.testBit r = true) : S ^^^ 2 ^ r < S := by
  have e : S ^^^ 2 ^ r = S &&& ((2 ^ n - 1) ^^^ 2 ^ r) := by
    apply Nat.eq_of_testBit_eq
    intro i
    rw [bit_x, Nat.testBit_and, bit_x, Nat.testBit_two_pow_sub_one]
    by_cases hi : i < n
    · rw [decide_eq_true hi]
      by_cases z : i = r
      · subst z
        rw [if_pos rfl, if_pos rfl, hb]
        rfl
      · rw [if_neg z, if_neg z, Bool.and_true]
    · have := bit_lt h (show n ≤ i by omega)
      rw [this, Bool.false_and]
      by_cases z : i = r
      · subst z
        rw [this] at hb
        cases hb
      · rw [if_neg z]
  have le : S ^^^ 2 ^ r ≤ S := by
    rw [e]
    exact Nat.and_le_left
  have ne : S ^^^ 2 ^ r ≠ S := fun z => by
    have := congrArg (fun q => Nat.testBit q r) z
    try dsimp only at this
    rw [bit_x, if_pos rfl, hb] at this
    cases this
  omega
theorem bits_0 {S n : Nat} (h : S < 2 ^ n) (hb : ∀ j, j < n → S.testBit j = false) : S = 0 := by
  apply Nat.eq_of_testBit_eq
  intro i
  rw [Nat.zero_testBit]
  by_cases hi : i < n
  · exact hb i hi
  · exact bit_lt h (by omega)
theorem bits_mk (f : Nat → Bool) : ∀ n : Nat, ∃ S, S < 2 ^ n ∧ ∀ j, j < n → S.testBit j = f j
  | 0 => ⟨0, by decide, fun j hj => absurd hj (Nat.not_lt_zero j)⟩
  | n + 1 => by
    obtain ⟨S, h1, h2⟩ := bits_mk f n
    have h3 : S < 2 ^ (n + 1) := Nat.lt_of_lt_of_le h1 (Nat.pow_le_pow_right (by decide) (by omega))
    cases hf : f n with
    | false =>
      refine ⟨S, h3, fun j hj => ?_⟩
      by_cases e : j = n
      · subst e
        rw [hf]
        exact bit_lt h1 (Nat.le_refl _)
      · exact h2 j (by omega)
    | true =>
      refine ⟨S ^^^ 2 ^ n, x_lt h3 (by omega), fun j hj => ?_⟩
      rw [bit_x]
      by_cases e : j = n
      · subst e
        rw [if_pos rfl, hf, bit_lt h1 (Nat.le_refl _)]
        rfl
      · rw [if_neg e]
        exact h2 j (by omega)
/-- a run more, behind what is used: bolt by 64, and hours of it -/
def aR (sz : Nat → Nat) (P u l : Nat) : Nat := if u = 1000000 then 1000000 else if u / 64 < P ∧ u % 64 + l ≤ sz (u / 64) then u + l else if u / 64 + 1 < P ∧ l ≤ sz (u / 64 + 1) then (u / 64 + 1) * 64 + l else 1000000
def szP (sz : Nat → Nat) (P : Nat) : Prop := P ≤ 10 ∧ (∀ p, p < P → sz p ≤ 60) ∧ ∀ p q, p ≤ q → q < P → sz q ≤ sz p
theorem aR_le {sz : Nat → Nat} {P u l b h : Nat} (H : szP sz P) (hb : b < P) (hl : l ≤ h) (hh : h ≤ sz b) (hu : u ≤ 64 * b + (h - l)) : aR sz P u l ≤ 64 * b + h := by
  obtain ⟨h1, h2, h3⟩ := H
  have hb60 := h2 b hb
  unfold aR
  rw [if_neg (by omega)]
  by_cases e : u / 64 = b
  · rw [if_pos ⟨by omega, by rw [e]; omega⟩]
    omega
  · have hlt : u / 64 < b := by omega
    have g1 := h2 (u / 64) (by omega)
    have g2 := h3 (u / 64 + 1) b (by omega) hb
    by_cases f : u / 64 < P ∧ u % 64 + l ≤ sz (u / 64)
    · rw [if_pos f]
      omega
    · rw [if_neg f, if_pos ⟨by omega, by omega⟩]
      omega
def PKD (l sz : Nat → Nat) (P n : Nat) (pk : Nat → Nat) : Prop := pk 0 = 0 ∧ ∀ S, 0 < S → S < 2 ^ n → (∀ r, r < n → S.testBit r = true → pk S ≤ aR sz P (pk (S ^^^ 2 ^ r)) (l r)) ∧ ((∃ r, r < n ∧ S.testBit r = true ∧ pk S = aR sz P (pk (S ^^^ 2 ^ r)) (l r)) ∨ pk S = 1000000)
section PACKS
variable {l sz pk π : Nat → Nat} {P n : Nat}
/-- if all go into the bolts of a set, as many of the largest are enough -/
theorem pkd_le (H : szP sz P) (hk : PKD l sz P n pk) (U : Nat → Bool) (hU : ∀ j, j < n → π j < P ∧ U (π j) = true) (hs : ∀ p, p < P → sN (fun j => if π j = p then l j else 0) n ≤ sz p) : ∀ p, p ≤ P → ∀ S, S < 2 ^ n → (∀ j, j < n → S.testBit j = decide (π j < p)) → pk S ≤ 64 * sN (fun q => if U q = true then 1 else 0) p ∧ (S ≠ 0 → 1 ≤ sN (fun q => if U q = true then 1 else 0) p ∧ pk S ≤ 64 * (sN (fun q => if U q = true then 1 else 0) p - 1) + 60)
  | 0, _, S, hS, hb => by
    have e : S = 0 := bits_0 hS fun j hj => by rw [hb j hj, decide_eq_false (by omega)]
    rw [e, hk.1]
    exact ⟨Nat.zero_le _, fun z => absurd rfl z⟩
  | p + 1, hp, S, hS, hb => by
    have ih := pkd_le H hk U hU hs p (by omega)
    cases hu : U p with
    | false =>
      have e : sN (fun q => if U q = true then 1 else 0) (p + 1) = sN (fun q => if U q = true then 1 else 0) p := by
        show sN (fun q => if U q = true then 1 else 0) p + (if U p = true then 1 else 0) = _
        rw [hu, if_neg (by decide)]
        rfl
      rw [e]
      refine ih S hS fun j hj => ?_
      rw [hb j hj]
      have : π j ≠ p := fun z => by
        have := (hU j hj).2
        rw [z, hu] at this
        cases this
      by_cases q : π j < p
      · rw [decide_eq_true (show π j < p + 1 by omega), decide_eq_true q]
      · rw [decide_eq_false (show ¬ π j < p + 1 by omega), decide_eq_false q]
    | true =>
      have e : sN (fun q => if U q = true then 1 else 0) (p + 1) = sN (fun q => if U q = true then 1 else 0) p + 1 := by
        show sN (fun q => if U q = true then 1 else 0) p + (if U p = true then 1 else 0) = _
        rw [hu, if_pos rfl]
      generalize sN (fun q => if U q = true then 1 else 0) p = N at ih e
      have hNp : N ≤ p := by
        have h1 : sN (fun q => if U q = true then 1 else 0) (p + 1) ≤ 1 * (p + 1) := sN_le fun k _ => ite_01
        omega
      have inner : ∀ k, k ≤ n → ∀ S, S < 2 ^ n → (∀ j, j < n → S.testBit j = (decide (π j < p) || (decide (π j = p) && decide (j < k)))) → pk S ≤ 64 * N + sN (fun j => if π j = p then l j else 0) k := by
        intro k
        induction k with
        | zero =>
          intro _ S hS hb
          refine Nat.le_trans (ih S hS fun j hj => ?_).1 (Nat.le_add_right _ _)
          rw [hb j hj, decide_eq_false (Nat.not_lt_zero j), Bool.and_false, Bool.or_false]
        | succ k ihk =>
          intro hkn S hS hb
          have es : sN (fun j => if π j = p then l j else 0) (k + 1) = sN (fun j => if π j = p then l j else 0) k + (if π k = p then l k else 0) := rfl
          by_cases hpk : π k = p
          · rw [if_pos hpk] at es
            have hbk : S.testBit k = true := by
              rw [hb k (by omega), decide_eq_true hpk, decide_eq_true (show k < k + 1 by omega), Bool.and_true, Bool.or_true]
            have hS0 : 0 < S := by
              rcases Nat.eq_zero_or_pos S with z | z
              · rw [z, Nat.zero_testBit] at hbk
                cases hbk
              · exact z
            have h1 := ihk (by omega) (S ^^^ 2 ^ k) (x_lt hS (by omega)) fun j hj => by
              rw [bit_x]
              by_cases z : j = k
              · subst z
                rw [if_pos rfl, hbk, decide_eq_false (show ¬ π j < p by omega), decide_eq_false (show ¬ j < j by omega), Bool.and_false]
                rfl
              · rw [if_neg z, hb j hj]
                by_cases y : j < k
                · rw [decide_eq_true (show j < k + 1 by omega), decide_eq_true y]
                · rw [decide_eq_false (show ¬ j < k + 1 by omega), decide_eq_false y]
            have h2 := (hk.2 S hS0 hS).1 k (by omega) hbk
            have h3 : sN (fun j => if π j = p then l j else 0) (k + 1) ≤ sz p := Nat.le_trans (sN_mono hkn) (hs p (by omega))
            have h4 := H.2.2 N p hNp (by omega)
            rw [es] at h3 ⊢
            refine Nat.le_trans h2 (aR_le H (by omega) (by omega) (by omega) ?_)
            rw [Nat.add_sub_cancel]
            exact h1
          · rw [if_neg hpk] at es
            rw [es]
            refine ihk (by omega) S hS fun j hj => ?_
            rw [hb j hj]
            by_cases z : j = k
            · subst z
              rw [decide_eq_false hpk, Bool.false_and, Bool.false_and]
            · by_cases y : j < k
              · rw [decide_eq_true (show j < k + 1 by omega), decide_eq_true y]
              · rw [decide_eq_false (show ¬ j < k + 1 by omega), decide_eq_false y]
      have h5 := inner n (Nat.le_refl n) S hS fun j hj => by
        rw [hb j hj, decide_eq_true hj, Bool.and_true]
        by_cases y : π j < p
        · rw [decide_eq_true (show π j < p + 1 by omega), decide_eq_true y, Bool.true_or]
        · by_cases y2 : π j = p
          · rw [decide_eq_true (show π j < p + 1 by omega), decide_eq_true y2, Bool.or_true]
          · rw [decide_eq_false (show ¬ π j < p + 1 by omega), decide_eq_false y, decide_eq_false y2]
            rfl
      have h6 := hs p (by omega)
      have h7 := H.2.1 p (by omega)
      rw [e]
      exact ⟨by omega, fun _ => ⟨by omega, by omega⟩⟩
theorem all_bits {n : Nat} : 2 ^ n - 1 < 2 ^ n ∧ ∀ j, j < n → (2 ^ n - 1).testBit j = true := ⟨by
    have := Nat.two_pow_pos n
    omega, fun j hj => by rw [Nat.testBit_two_pow_sub_one, decide_eq_true hj]⟩
theorem all_ne {n : Nat} (hn : 0 < n) : 2 ^ n - 1 ≠ 0 := fun z => by
  have := (all_bits (n := n)).2 0 hn
  rw [z, Nat.zero_testBit] at this
  cases this
theorem pkd_few (H : szP sz P) (hk : PKD l sz P n pk) (hn : 0 < n) (U : Nat → Bool) (hU : ∀ j, j < n → π j < P ∧ U (π j) = true) (hs : ∀ p, p < P → sN (fun j => if π j = p then l j else 0) n ≤ sz p) : pk (2 ^ n - 1) ≠ 1000000 ∧ pk (2 ^ n - 1) / 64 + 1 ≤ sN (fun q => if U q = true then 1 else 0) P := by
  obtain ⟨-, h⟩ := pkd_le H hk U hU hs P (Nat.le_refl P) (2 ^ n - 1) all_bits.1 fun j hj => by rw [all_bits.2 j hj, decide_eq_true (hU j hj).1]
  obtain ⟨h1, h2⟩ := h (all_ne hn)
  have h3 : sN (fun q => if U q = true then 1 else 0) P ≤ 1 * P := sN_le fun k _ => ite_01
  have h4 := H.1
  exact ⟨by omega, by omega⟩
/-- what the table says can be had, so -/
theorem pkd_ok (H : szP sz P) (hk : PKD l sz P n pk) : ∀ c S, sN (fun j => if S.testBit j = true then 1 else 0) n = c → S < 2 ^ n → pk S ≠ 1000000 → ∃ π : Nat → Nat, (∀ j, j < n → S.testBit j = true → π j < P ∧ π j ≤ pk S / 64) ∧ (∀ p, p < P → sN (fun j => if S.testBit j = true ∧ π j = p then l j else 0) n ≤ sz p) ∧ sN (fun j => if S.testBit j = true ∧ π j = pk S / 64 then l j else 0) n ≤ pk S % 64
  | 0, S, hc, hS, hne => by
    have hb : ∀ j, j < n → S.testBit j = false := fun j hj => by
      have := sN_ge (t := fun j => if S.testBit j = true then 1 else 0) hj
      rw [hc] at this
      cases z : S.testBit j with
      | false => rfl
      | true =>
        try dsimp only at this
        rw [z, if_pos rfl] at this
        omega
    have z0 : ∀ p : Nat, sN (fun j => if S.testBit j = true ∧ (0 : Nat) = p then l j else 0) n = 0 := fun p => sN_zero fun j hj => if_neg fun z => by
      have := z.1
      rw [hb j hj] at this
      cases this
    refine ⟨fun _ => 0, fun j hj z => ?_, fun p _ => ?_, ?_⟩
    · rw [hb j hj] at z
      cases z
    · try dsimp only
      rw [z0]
      exact Nat.zero_le _
    · try dsimp only
      rw [z0]
      exact Nat.zero_le _
  | c + 1, S, hc, hS, hne => by
    have hS0 : 0 < S := by
      rcases Nat.eq_zero_or_pos S with z | z
      · rw [z, sN_zero (fun k _ => by rw [Nat.zero_testBit]; rfl)] at hc
        omega
      · exact z
    obtain ⟨r, hr, hb, hp⟩ := (hk.2 S hS0 hS).2.resolve_right hne
    have hc' : sN (fun j => if (S ^^^ 2 ^ r).testBit j = true then 1 else 0) n = c := by
      have := sN_chg (t := fun j => if S.testBit j = true then 1 else 0) (u := fun j => if (S ^^^ 2 ^ r).testBit j = true then 1 else 0) (r := r) (n := n) (by (try dsimp only); rw [bit_x, if_pos rfl, hb]; rfl) hr (fun k _ z => by (try dsimp only); rw [bit_x, if_neg z])
      try dsimp only at this
      rw [hb, if_pos rfl, hc] at this
      omega
    have hu : pk (S ^^^ 2 ^ r) ≠ 1000000 := fun z => by
      rw [z] at hp
      exact hne (hp.trans (if_pos rfl))
    obtain ⟨π, g1, g2, g3⟩ := pkd_ok H hk c (S ^^^ 2 ^ r) hc' (x_lt hS hr) hu
    generalize pk (S ^^^ 2 ^ r) = u at *
    have upd : ∀ (x p : Nat), sN (fun j => if S.testBit j = true ∧ (if j = r then x else π j) = p then l j else 0) n = sN (fun j => if (S ^^^ 2 ^ r).testBit j = true ∧ π j = p then l j else 0) n + if x = p then l r else 0 := fun x p => by
      have := sN_chg (t := fun j => if S.testBit j = true ∧ (if j = r then x else π j) = p then l j else 0) (u := fun j => if (S ^^^ 2 ^ r).testBit j = true ∧ π j = p then l j else 0) (r := r) (n := n) (by
        try dsimp only
        rw [bit_x, if_pos rfl, hb]
        exact if_neg (fun z => Bool.noConfusion z.1)) hr (fun k _ z => by (try dsimp only); rw [bit_x, if_neg z, if_neg z])
      try dsimp only at this
      rw [this, hb, if_pos rfl]
      by_cases q : x = p
      · rw [if_pos ⟨rfl, q⟩, if_pos q]
      · rw [if_neg (fun z => q z.2), if_neg q]
    have hbit : ∀ j, j ≠ r → (S ^^^ 2 ^ r).testBit j = S.testBit j := fun j z => by rw [bit_x, if_neg z]
    unfold aR at hp
    rw [if_neg hu] at hp
    by_cases f1 : u / 64 < P ∧ u % 64 + l r ≤ sz (u / 64)
    · rw [if_pos f1] at hp
      have h60 := H.2.1 _ f1.1
      have e1 : pk S / 64 = u / 64 := by omega
      have e2 : pk S % 64 = u % 64 + l r := by omega
      refine ⟨fun j => if j = r then u / 64 else π j, fun j hj z => ?_, fun p hp' => ?_, ?_⟩
      · try dsimp only
        by_cases q : j = r
        · rw [if_pos q, e1]
          exact ⟨f1.1, Nat.le_refl _⟩
        · rw [if_neg q, e1]
          exact g1 j hj (by rw [hbit j q]; exact z)
      · try dsimp only
        rw [upd]
        by_cases q : u / 64 = p
        · subst q
          rw [if_pos rfl]
          omega
        · rw [if_neg q]
          exact g2 p hp'
      · try dsimp only
        rw [upd, e1, e2, if_pos rfl]
        omega
    · rw [if_neg f1] at hp
      by_cases f2 : u / 64 + 1 < P ∧ l r ≤ sz (u / 64 + 1)
      · rw [if_pos f2] at hp
        have h60 := H.2.1 _ f2.1
        have e1 : pk S / 64 = u / 64 + 1 := by omega
        have e2 : pk S % 64 = l r := by omega
        have z0 : sN (fun j => if (S ^^^ 2 ^ r).testBit j = true ∧ π j = u / 64 + 1 then l j else 0) n = 0 := sN_zero fun j hj => if_neg fun z => by
          have := (g1 j hj z.1).2
          omega
        refine ⟨fun j => if j = r then u / 64 + 1 else π j, fun j hj z => ?_, fun p hp' => ?_, ?_⟩
        · try dsimp only
          by_cases q : j = r
          · rw [if_pos q, e1]
            exact ⟨f2.1, Nat.le_refl _⟩
          · rw [if_neg q, e1]
            have := g1 j hj (by rw [hbit j q]; exact z)
            exact ⟨this.1, by omega⟩
        · try dsimp only
          rw [upd]
          by_cases q : u / 64 + 1 = p
          · subst q
            rw [if_pos rfl, z0]
            omega
          · rw [if_neg q]
            exact g2 p hp'
        · try dsimp only
          rw [upd, e1, e2, if_pos rfl, z0]
          omega
      · rw [if_neg f2] at hp
        exact absurd hp hne
theorem pkd_all (H : szP sz P) (hk : PKD l sz P n pk) (hne : pk (2 ^ n - 1) ≠ 1000000) : ∃ π : Nat → Nat, (∀ j, j < n → π j < P ∧ π j ≤ pk (2 ^ n - 1) / 64) ∧ ∀ p, p < P → sN (fun j => if π j = p then l j else 0) n ≤ sz p := by
  obtain ⟨π, h1, h2, -⟩ := pkd_ok H hk _ (2 ^ n - 1) rfl all_bits.1 hne
  refine ⟨π, fun j hj => h1 j hj (all_bits.2 j hj), fun p hp => ?_⟩
  rw [sN_congr (u := fun j => if (2 ^ n - 1).testBit j = true ∧ π j = p then l j else 0) (fun k hk => by
    try dsimp only
    by_cases q : π k = p
    · rw [if_pos q, if_pos ⟨all_bits.2 k hk, q⟩]
    · rw [if_neg q, if_neg (fun z => q z.2)])]
  exact h2 p hp
end PACKS
