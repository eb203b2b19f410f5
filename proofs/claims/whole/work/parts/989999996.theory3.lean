/-! pieces: the fewest, kind by kind and all together -/
def Qk (bk : Nat → Nat) (nb set k b : Nat) : Prop := b < nb ∧ set.testBit b = true ∧ bk b = k
def onesN (nb set : Nat) : Nat := sN (fun b => if set.testBit b = true then 1 else 0) nb
/-- what is found for a kind: how many bolts, or none -/
def KR (bk L : Nat → Nat) (nb : Nat) (l : List Nat) (k : Nat) (res : Option Nat) : Prop := ∃ (σ τ : Nat → Nat) (P : Nat), SRT bk L nb k σ τ P ∧ ((l = [] ∧ res = some 0) ∨ (l ≠ [] ∧ ∃ pk, PKD (fun j => l.getD j 0) (fun p => L (σ p)) P l.length pk ∧ ((pk (2 ^ l.length - 1) = 1000000 ∧ res = none) ∨ (pk (2 ^ l.length - 1) ≠ 1000000 ∧ res = some (pk (2 ^ l.length - 1) / 64 + 1)))))
theorem sN_pick {f : Nat → Nat} {k n : Nat} (h : k < n) : sN (fun q => if k = q then f q else 0) n = f k := by
  have := sN_chg (t := fun q => if k = q then f q else 0) (u := fun _ => 0) (r := k) rfl h (fun q _ z => if_neg (fun y => z y.symm))
  rw [this, sN_zero (fun _ _ => rfl)]
  try dsimp only
  rw [if_pos rfl, Nat.zero_add]
theorem sN_lt {m : Nat} : ∀ {n : Nat}, sN (fun p => if p < m then 1 else 0) n = min m n
  | 0 => (Nat.min_zero m).symm
  | n + 1 => by
    have ih := sN_lt (m := m) (n := n)
    show sN (fun p => if p < m then 1 else 0) n + (if n < m then 1 else 0) = _
    rw [ih]
    by_cases h : n < m
    · rw [if_pos h]
      omega
    · rw [if_neg h]
      omega
theorem pkd_lt {l sz pk : Nat → Nat} {P n S : Nat} (H : szP sz P) (hk : PKD l sz P n pk) (h0 : 0 < S) (hS : S < 2 ^ n) (hne : pk S ≠ 1000000) : pk S / 64 < P := by
  obtain ⟨r, hr, hb, hp⟩ := (hk.2 S h0 hS).2.resolve_right hne
  generalize pk (S ^^^ 2 ^ r) = u at hp
  unfold aR at hp
  by_cases c0 : u = 1000000
  · rw [if_pos c0] at hp
    exact absurd hp hne
  · rw [if_neg c0] at hp
    by_cases f1 : u / 64 < P ∧ u % 64 + l r ≤ sz (u / 64)
    · rw [if_pos f1] at hp
      have := H.2.1 _ f1.1
      omega
    · rw [if_neg f1] at hp
      by_cases f2 : u / 64 + 1 < P ∧ l r ≤ sz (u / 64 + 1)
      · rw [if_pos f2] at hp
        have := H.2.1 _ f2.1
        omega
      · rw [if_neg f2] at hp
        exact absurd hp hne
theorem lens_nil {k : Nat} : ∀ {l : List (Nat × Nat)}, (∀ x, x ∈ l → x.1 ≠ k) → lens k l = []
  | [], _ => rfl
  | x :: t, h => by
    have e : lens k (x :: t) = if x.1 = k then x.2 :: lens k t else lens k t := rfl
    rw [e, if_neg (h x List.mem_cons_self)]
    exact lens_nil fun y hy => h y (List.mem_cons_of_mem _ hy)
section FEW
variable {bk L : Nat → Nat} {nb k : Nat} {l : List Nat}
theorem srt_szP {σ τ : Nat → Nat} {P : Nat} (hnb : nb ≤ 10) (hL : ∀ b, b < nb → L b ≤ 60) (h : SRT bk L nb k σ τ P) : szP (fun p => L (σ p)) P := by
  obtain ⟨a1, a2, a3, a4⟩ := h
  refine ⟨?_, fun p hp => hL _ (a1 p hp).1, a4⟩
  have h1 := a3 fun _ => 1
  have h2 : sN (fun p => (fun _ : Nat => 1) (σ p)) P = P := by
    clear h1 a1 a2 a3 a4
    induction P with
    | zero => rfl
    | succ P ih =>
      show sN (fun p => (fun _ : Nat => 1) (σ p)) P + 1 = P + 1
      rw [ih]
  have h3 : sN (fun b => if bk b = k then (fun _ : Nat => 1) b else 0) nb ≤ 1 * nb := sN_le fun b _ => ite_01
  rw [h1, h2] at h3
  omega
theorem KR_few {res : Option Nat} {set : Nat} (hnb : nb ≤ 10) (hL : ∀ b, b < nb → L b ≤ 60) (h : KR bk L nb l k res) (hp : PK (Qk bk nb set k) l L) : ∃ m, res = some m ∧ m ≤ sN (fun b => if bk b = k then (if set.testBit b = true then 1 else 0) else 0) nb := by
  obtain ⟨σ, τ, P, hS, ⟨-, h1⟩ | ⟨h1, pk, h2, h3⟩⟩ := h
  · exact ⟨0, h1, Nat.zero_le _⟩
  · have H := srt_szP hnb hL hS
    obtain ⟨a1, a2, a3, a4⟩ := hS
    obtain ⟨α, g1, g2⟩ := PK_to hp
    have hl : 0 < l.length := by
      rcases Nat.eq_zero_or_pos l.length with z | z
      · exact absurd (List.eq_nil_of_length_eq_zero z) h1
      · exact z
    obtain ⟨e1, e2⟩ := pkd_few (π := fun j => τ (α j)) H h2 hl (fun p => set.testBit (σ p)) (fun j hj => by
      obtain ⟨q1, q2, q3⟩ := g1 j hj
      obtain ⟨r1, r2⟩ := a2 _ q1 q3
      exact ⟨r1, by (try dsimp only); rw [r2]; exact q2⟩) (fun p hp => by
      obtain ⟨q1, q2, q3⟩ := a1 p hp
      try dsimp only
      by_cases hQ : set.testBit (σ p) = true
      · refine Nat.le_trans (Nat.le_of_eq (sN_congr fun j hj => ?_)) (g2 (σ p) ⟨q1, hQ, q2⟩)
        try dsimp only
        obtain ⟨r1, r2, r3⟩ := g1 j hj
        by_cases z : α j = σ p
        · rw [if_pos z, z, if_pos q3]
        · rw [if_neg z, if_neg]
          intro y
          exact z (by rw [← y, (a2 _ r1 r3).2])
      · rw [sN_zero fun j hj => ?_]
        · exact Nat.zero_le _
        · refine if_neg fun y => hQ ?_
          obtain ⟨r1, r2, r3⟩ := g1 j hj
          rw [← y, (a2 _ r1 r3).2]
          exact r2)
    rcases h3 with ⟨h3, -⟩ | ⟨-, h3⟩
    · exact absurd h3 e1
    · refine ⟨_, h3, ?_⟩
      rw [a3 fun b => if set.testBit b = true then 1 else 0]
      exact e2
theorem KR_ok {m : Nat} (hnb : nb ≤ 10) (hL : ∀ b, b < nb → L b ≤ 60) (h : KR bk L nb l k (some m)) : ∃ τ : Nat → Nat, sN (fun b => if bk b = k then (if τ b < m then 1 else 0) else 0) nb = m ∧ ∀ set, (∀ b, b < nb → bk b = k → set.testBit b = decide (τ b < m)) → PK (Qk bk nb set k) l L := by
  obtain ⟨σ, τ, P, hS, ⟨h0, h1⟩ | ⟨h1, pk, h2, h3⟩⟩ := h
  · have e : m = 0 := Option.some.inj h1
    subst e
    subst h0
    refine ⟨τ, sN_zero fun b _ => ?_, fun set _ => trivial⟩
    split
    · exact if_neg (Nat.not_lt_zero _)
    · rfl
  · have H := srt_szP hnb hL hS
    obtain ⟨a1, a2, a3, a4⟩ := hS
    have hl : 0 < l.length := by
      rcases Nat.eq_zero_or_pos l.length with z | z
      · exact absurd (List.eq_nil_of_length_eq_zero z) h1
      · exact z
    rcases h3 with ⟨-, h3⟩ | ⟨h3, h4⟩
    · cases h3
    · have e : m = pk (2 ^ l.length - 1) / 64 + 1 := Option.some.inj h4
      obtain ⟨π, g1, g2⟩ := pkd_all H h2 h3
      have hmP : m ≤ P := by
        have h5 := pkd_lt H h2 (Nat.pos_of_ne_zero (all_ne hl)) all_bits.1 h3
        omega
      refine ⟨τ, ?_, fun set hs => PK_of (α := fun j => σ (π j)) (fun j hj => ?_) fun b hb => ?_⟩
      · rw [a3 fun b => if τ b < m then 1 else 0]
        rw [sN_congr (u := fun p => if p < m then 1 else 0) fun p hp => by (try dsimp only); rw [(a1 p hp).2.2]]
        rw [sN_lt, Nat.min_eq_left hmP]
      · obtain ⟨q1, q2⟩ := g1 j hj
        obtain ⟨r1, r2, r3⟩ := a1 _ q1
        refine ⟨r1, ?_, r2⟩
        rw [hs _ r1 r2, r3]
        exact decide_eq_true (by omega)
      · obtain ⟨r1, r2, r3⟩ := hb
        obtain ⟨q1, q2⟩ := a2 b r1 r3
        have h6 := g2 (τ b) q1
        try dsimp only at h6
        rw [q2] at h6
        refine Nat.le_trans (Nat.le_of_eq (sN_congr fun j hj => ?_)) h6
        try dsimp only
        obtain ⟨s1, s2⟩ := g1 j hj
        by_cases z : π j = τ b
        · rw [if_pos z, z, if_pos q2]
        · rw [if_neg z, if_neg]
          intro y
          exact z (by rw [← y, (a1 _ s1).2.2])
end FEW
section ALL
variable {bk L : Nat → Nat} {nb : Nat} {l : List (Nat × Nat)}
theorem ones_kinds {set : Nat} (hbk : ∀ b, b < nb → bk b < 6) {g : Nat → Nat} (hg : ∀ b, b < nb → (if set.testBit b = true then 1 else 0) = g b) : onesN nb set = sN (fun k => sN (fun b => if bk b = k then g b else 0) nb) 6 := by
  rw [sN_swap]
  unfold onesN
  refine sN_congr fun b hb => ?_
  try dsimp only
  rw [hg b hb, sN_pick (f := fun _ => g b) (hbk b hb)]
theorem few_le {set : Nat} {res : Nat → Option Nat} (hnb : nb ≤ 10) (hL : ∀ b, b < nb → L b ≤ 60) (hbk : ∀ b, b < nb → bk b < 6) (h : ∀ k, k < 6 → KR bk L nb (lens k l) k (res k)) (hp : PM (Qk bk nb set) l L) : (∀ k, k < 6 → ∃ m, res k = some m) ∧ sN (fun k => (res k).getD 0) 6 ≤ onesN nb set := by
  have hq : ∀ a b c, Qk bk nb set a c → Qk bk nb set b c → a = b := fun a b c h1 h2 => h1.2.2.symm.trans h2.2.2
  have h1 := (PM_iff hq).mp hp
  refine ⟨fun k hk => ?_, ?_⟩
  · obtain ⟨m, e, -⟩ := KR_few hnb hL (h k hk) (h1 k)
    exact ⟨m, e⟩
  · rw [ones_kinds (g := fun b => if set.testBit b = true then 1 else 0) hbk (fun _ _ => rfl)]
    refine sN_lel fun k hk => ?_
    obtain ⟨m, e, e2⟩ := KR_few hnb hL (h k hk) (h1 k)
    try dsimp only
    rw [e]
    exact e2
theorem few_ok {mm : Nat → Nat} (hnb : nb ≤ 10) (hL : ∀ b, b < nb → L b ≤ 60) (hbk : ∀ b, b < nb → bk b < 6) (hl : ∀ x, x ∈ l → x.1 < 6) (h : ∀ k, k < 6 → KR bk L nb (lens k l) k (some (mm k))) : ∃ set, set < 2 ^ nb ∧ PM (Qk bk nb set) l L ∧ onesN nb set = sN mm 6 := by
  have h1 : ∀ k, ∃ τ : Nat → Nat, k < 6 → (sN (fun b => if bk b = k then (if τ b < mm k then 1 else 0) else 0) nb = mm k ∧ ∀ set, (∀ b, b < nb → bk b = k → set.testBit b = decide (τ b < mm k)) → PK (Qk bk nb set k) (lens k l) L) := fun k => by
    by_cases hk : k < 6
    · obtain ⟨τ, h2⟩ := KR_ok hnb hL (h k hk)
      exact ⟨τ, fun _ => h2⟩
    · exact ⟨fun _ => 0, fun z => absurd z hk⟩
  obtain ⟨T, hT⟩ := Classical.axiomOfChoice h1
  obtain ⟨set, s1, s2⟩ := bits_mk (fun b => decide (T (bk b) b < mm (bk b))) nb
  refine ⟨set, s1, ?_, ?_⟩
  · have hq : ∀ a b c, Qk bk nb set a c → Qk bk nb set b c → a = b := fun a b c h1 h2 => h1.2.2.symm.trans h2.2.2
    refine (PM_iff hq).mpr fun k => ?_
    by_cases hk : k < 6
    · exact (hT k hk).2 set fun b hb hbk => by rw [s2 b hb, hbk]
    · rw [lens_nil fun x hx z => hk (by have := hl x hx; omega)]
      trivial
  · rw [ones_kinds (g := fun b => if T (bk b) b < mm (bk b) then 1 else 0) hbk fun b hb => ?_]
    · refine sN_congr fun k hk => ?_
      have := (hT k hk).1
      refine Eq.trans (sN_congr fun b hb => ?_) this
      by_cases z : bk b = k
      · rw [if_pos z, if_pos z, z]
      · rw [if_neg z, if_neg z]
    · rw [s2 b hb]
      by_cases z : T (bk b) b < mm (bk b)
      · rw [decide_eq_true z, if_pos rfl, if_pos z]
      · rw [decide_eq_false z, if_neg z]
        rfl
end ALL
