/-! numbers and loops of the pure layer -/
theorem o_ite {α : Type} {c : Prop} [Decidable c] (a b : α) : (if c then some a else some b) = some (if c then a else b) := by split <;> rfl
theorem ob_some {α β : Type} (a : α) (f : α → Option β) : Option.bind (some a) f = f a := rfl
theorem tb_inr {α β : Type} (v : α) (I : MJ) (f : α → MJ → Option ((Nat ⊕ β) × MJ)) : tb (some (.inr v, I)) f = f v I := rfl
theorem tb_inl {α β : Type} (E : Nat) (I : MJ) (f : α → MJ → Option ((Nat ⊕ β) × MJ)) : tb (some (.inl E, I)) f = some (.inl E, I) := rfl
theorem tryb_inr {α β : Type} (v : α) (I : MJ) (f1 : α → MJ → Option β) (f2 : Nat → MJ → Option β) : tryb (some (.inr v, I)) f1 f2 = f1 v I := rfl
theorem tryb_inl {α β : Type} (E : Nat) (I : MJ) (f1 : α → MJ → Option β) (f2 : Nat → MJ → Option β) : tryb (some (.inl E, I)) f1 f2 = f2 E I := rfl
section INTS
variable {a b : Nat}
theorem i_add : Int32.ofNat a + Int32.ofNat b = Int32.ofNat (a + b) := (Int32.ofNat_add a b).symm
theorem i_addr {n : Nat} : Int32.ofNat a + (no_index (OfNat.ofNat n)) = Int32.ofNat (a + OfNat.ofNat n) := (Int32.ofNat_add a n).symm
theorem i_addl {n : Nat} : (no_index (OfNat.ofNat n)) + Int32.ofNat a = Int32.ofNat (OfNat.ofNat n + a) := (Int32.ofNat_add n a).symm
theorem i_mul : Int32.ofNat a * Int32.ofNat b = Int32.ofNat (a * b) := (Int32.ofNat_mul a b).symm
theorem i_mulr {n : Nat} : Int32.ofNat a * (no_index (OfNat.ofNat n)) = Int32.ofNat (a * OfNat.ofNat n) := (Int32.ofNat_mul a n).symm
theorem i_mull {n : Nat} : (no_index (OfNat.ofNat n)) * Int32.ofNat a = Int32.ofNat (OfNat.ofNat n * a) := (Int32.ofNat_mul n a).symm
theorem i_sub (h : b ≤ a) : Int32.ofNat a - Int32.ofNat b = Int32.ofNat (a - b) := (Int32.ofNat_sub a b h).symm
theorem i_subr {n : Nat} (h : (OfNat.ofNat n : Nat) ≤ a) : Int32.ofNat a - (no_index (OfNat.ofNat n)) = Int32.ofNat (a - OfNat.ofNat n) := (Int32.ofNat_sub a n h).symm
theorem i_subl {n : Nat} (h : a ≤ (OfNat.ofNat n : Nat)) : (no_index (OfNat.ofNat n)) - Int32.ofNat a = Int32.ofNat (OfNat.ofNat n - a) := (Int32.ofNat_sub n a h).symm
theorem i_lt (ha : a < 2147483648) (hb : b < 2147483648) : (Int32.ofNat a < Int32.ofNat b) = (a < b) := by
  rw [Int32.lt_iff_toInt_lt, Int32.toInt_ofNat_of_lt ha, Int32.toInt_ofNat_of_lt hb]
  exact propext (by omega)
theorem i_ltr {n : Nat} (ha : a < 2147483648) (hb : (OfNat.ofNat n : Nat) < 2147483648) : (Int32.ofNat a < (no_index (OfNat.ofNat n))) = (a < OfNat.ofNat n) := i_lt ha hb
theorem i_ltl {n : Nat} (ha : a < 2147483648) (hb : (OfNat.ofNat n : Nat) < 2147483648) : ((no_index (OfNat.ofNat n)) < Int32.ofNat a) = (OfNat.ofNat n < a) := i_lt hb ha
theorem i_eq (ha : a < 2147483648) (hb : b < 2147483648) : (Int32.ofNat a = Int32.ofNat b) = (a = b) := by
  rw [← Int32.toInt_inj, Int32.toInt_ofNat_of_lt ha, Int32.toInt_ofNat_of_lt hb]
  exact propext (by omega)
theorem i_eqr {n : Nat} (ha : a < 2147483648) (hb : (OfNat.ofNat n : Nat) < 2147483648) : (Int32.ofNat a = (no_index (OfNat.ofNat n))) = (a = OfNat.ofNat n) := i_eq ha hb
theorem i_eql {n : Nat} (ha : a < 2147483648) (hb : (OfNat.ofNat n : Nat) < 2147483648) : ((no_index (OfNat.ofNat n)) = Int32.ofNat a) = (OfNat.ofNat n = a) := i_eq hb ha
theorem i_clamp (ha : a < 2147483648) : (Int32.ofNat a).toNatClampNeg = a := Int32.toNatClampNeg_ofNat_of_lt ha
theorem i_neg1 (ha : a < 2147483648) : (Int32.ofNat a = -1) = False := by
  refine eq_false fun h => ?_
  have := congrArg Int32.toInt h
  rw [Int32.toInt_ofNat_of_lt ha] at this
  have h2 : (-1 : Int32).toInt = -1 := rfl
  omega
theorem i_0le (ha : a < 2147483648) : (0 ≤ Int32.ofNat a) = True := by
  refine eq_true ?_
  rw [Int32.le_iff_toInt_le, Int32.toInt_ofNat_of_lt ha]
  show (0 : Int) ≤ _
  omega
theorem i_lt0 (ha : a < 2147483648) : (Int32.ofNat a < 0) = False := by
  refine eq_false fun h => ?_
  rw [Int32.lt_iff_toInt_lt, Int32.toInt_ofNat_of_lt ha] at h
  have h2 : (0 : Int32).toInt = 0 := rfl
  omega
theorem i_in {n : Nat} (ha : a < 2147483648) : ab_in (Int32.ofNat a) n = decide (a < n) := by
  unfold ab_in
  rw [i_clamp ha, decide_eq_true (of_eq_true (i_0le ha)), Bool.true_and]
/-- an int that lies in a range is a number -/
theorem i_nat {x : Int32} {n : Nat} (h1 : ¬ x < 0) (h2 : x < Int32.ofNat n) (hn : n < 2147483648) : ∃ k, k < n ∧ x = Int32.ofNat k := by
  refine ⟨x.toNatClampNeg, ?_, (Int32.ofNat_toNatClampNeg x (Int32.not_lt.mp h1)).symm⟩
  rw [Int32.lt_iff_toInt_lt, Int32.toInt_ofNat_of_lt hn] at h2
  have h3 := Int32.cast_toNatClampNeg x (Int32.not_lt.mp h1)
  omega
end INTS
theorem rd_ok {I : MJ} {a n k : Nat} (hK : KS a = (100, n)) (hk : k < n) (ha : a < 699) (hn : n < 2147483648) : rd I a (Int32.ofNat k) = some (I a k) := by
  unfold rd
  rw [hK, i_clamp (by omega), i_in (by omega), decide_eq_true ha, decide_eq_true hk]
  rfl
theorem wr_ok {I : MJ} {a n k : Nat} {x : Int32} (hK : KS a = (100, n)) (hk : k < n) (ha : a < 699) (hn : n < 2147483648) : wr I a (Int32.ofNat k) x = some (ab_up1 I a k x) := by
  unfold wr
  rw [hK, i_clamp (by omega), i_in (by omega), decide_eq_true ha, decide_eq_true hk]
  rfl
theorem rdp_ok {a n k : Nat} (hK : KS a = (104, n)) (hk : k < n) (ha : a < 699) (hn : n < 2147483648) : rdp a (Int32.ofNat k) = PS a k := by
  unfold rdp
  rw [hK, i_clamp (by omega), i_in (by omega), decide_eq_true ha, decide_eq_true hk]
  rfl
theorem rdb_ok {I : MJ} {a n k : Nat} (hK : KS a = (101, n) ∨ KS a = (102, n)) (hk : k < n) (ha : a < 699) (hn : n < 2147483648) : rdb I a (Int32.ofNat k) = some (I a k) := by
  unfold rdb
  rcases hK with hK | hK <;> rw [hK, i_clamp (by omega), i_in (by omega), decide_eq_true ha, decide_eq_true hk] <;> rfl
section LOOPS
variable {σ : Type} {β : Type}
/-- a loop by its states: g i stands at the head the i-th time, at n it is left -/
theorem wh_seq {f : σ → Option (σ ⊕ β)} (g : Nat → σ) (n : Nat) {b : β} (h : ∀ i, i < n → f (g i) = some (.inl (g (i + 1)))) (he : f (g n) = some (.inr b)) : wh f (g 0) = some b := by
  have key : ∀ m, m ≤ n → wh f (g (n - m)) = some b := by
    intro m
    induction m with
    | zero => intro _; exact wh_inr he
    | succ m ih =>
      intro hm
      rw [wh_inl (h (n - (m + 1)) (by omega)), show n - (m + 1) + 1 = n - m by omega]
      exact ih (by omega)
  have := key n (Nat.le_refl _)
  rwa [Nat.sub_self] at this
/-- a loop by an invariant over memories: from a state of stage i to one of stage i + 1 -/
theorem wh_inv {f : σ → Option (σ ⊕ β)} (P : Nat → σ → Prop) (Q : β → Prop) (n : Nat) (h : ∀ i, i < n → ∀ s, P i s → ∃ t, f s = some (.inl t) ∧ P (i + 1) t) (he : ∀ s, P n s → ∃ b, f s = some (.inr b) ∧ Q b) {s : σ} (hs : P 0 s) : ∃ b, wh f s = some b ∧ Q b := by
  have key : ∀ m, m ≤ n → ∀ s, P (n - m) s → ∃ b, wh f s = some b ∧ Q b := by
    intro m
    induction m with
    | zero =>
      intro _ s hs
      obtain ⟨b, h1, h2⟩ := he s hs
      exact ⟨b, wh_inr h1, h2⟩
    | succ m ih =>
      intro hm s hs
      obtain ⟨t, h1, h2⟩ := h (n - (m + 1)) (by omega) s hs
      rw [show n - (m + 1) + 1 = n - m by omega] at h2
      obtain ⟨b, h3, h4⟩ := ih (by omega) t h2
      exact ⟨b, (wh_inl h1).trans h3, h4⟩
  exact key n (Nat.le_refl _) s (by rwa [Nat.sub_self])
/-- the same, left at any stage -/
theorem wh_inv2 {f : σ → Option (σ ⊕ β)} (P : Nat → σ → Prop) (Q : β → Prop) (n : Nat) (h : ∀ i, i < n → ∀ s, P i s → (∃ t, f s = some (.inl t) ∧ P (i + 1) t) ∨ ∃ b, f s = some (.inr b) ∧ Q b) (he : ∀ s, P n s → ∃ b, f s = some (.inr b) ∧ Q b) {s : σ} (hs : P 0 s) : ∃ b, wh f s = some b ∧ Q b := by
  have key : ∀ m, m ≤ n → ∀ s, P (n - m) s → ∃ b, wh f s = some b ∧ Q b := by
    intro m
    induction m with
    | zero =>
      intro _ s hs
      obtain ⟨b, h1, h2⟩ := he s hs
      exact ⟨b, wh_inr h1, h2⟩
    | succ m ih =>
      intro hm s hs
      rcases h (n - (m + 1)) (by omega) s hs with ⟨t, h1, h2⟩ | ⟨b, h1, h2⟩
      · rw [show n - (m + 1) + 1 = n - m by omega] at h2
        obtain ⟨b, h3, h4⟩ := ih (by omega) t h2
        exact ⟨b, (wh_inl h1).trans h3, h4⟩
      · exact ⟨b, wh_inr h1, h2⟩
  exact key n (Nat.le_refl _) s (by rwa [Nat.sub_self])
end LOOPS
/-- a sum told to n -/
def sm (t : Nat → Int32) : Nat → Int32
  | 0 => 0
  | n + 1 => sm t n + t n
theorem sm_congr {t u : Nat → Int32} : ∀ {n : Nat}, (∀ k, k < n → t k = u k) → sm t n = sm u n
  | 0, _ => rfl
  | n + 1, h => by
    show sm t n + t n = sm u n + u n
    rw [sm_congr (fun k hk => h k (by omega)), h n (by omega)]
/-- bits told to n -/
def bo (t : Nat → Int32) : Nat → Int32
  | 0 => 0
  | n + 1 => bo t n ||| t n
theorem bo_congr {t u : Nat → Int32} : ∀ {n : Nat}, (∀ k, k < n → t k = u k) → bo t n = bo u n
  | 0, _ => rfl
  | n + 1, h => by
    show bo t n ||| t n = bo u n ||| u n
    rw [bo_congr (fun k hk => h k (by omega)), h n (by omega)]
theorem up_eq {I : MJ} {a j : Nat} {x : Int32} : ab_up1 I a j x a j = x := by
  unfold ab_up1 upd
  simp
theorem up_ne {I : MJ} {a j b k : Nat} {x : Int32} (h : ¬ (b = a ∧ k = j)) : ab_up1 I a j x b k = I b k := by
  unfold ab_up1 upd
  by_cases h1 : b = a
  · subst h1
    rw [if_pos rfl]
    exact if_neg (fun e => h ⟨rfl, e⟩)
  · rw [if_neg h1]
theorem up_if {I : MJ} {a j b k : Nat} {x : Int32} : ab_up1 I a j x b k = if b = a ∧ k = j then x else I b k := by
  by_cases h : b = a ∧ k = j
  · rw [if_pos h, h.1, h.2]; exact up_eq
  · rw [if_neg h]; exact up_ne h
/-- two memories are alike but for the cells that s names -/
def agr (s : Nat → Nat → Bool) (I J : MJ) : Prop := ∀ a k, s a k = false → J a k = I a k
theorem agr_rf {s : Nat → Nat → Bool} {I : MJ} : agr s I I := fun _ _ _ => rfl
theorem agr_tr {s : Nat → Nat → Bool} {I J K : MJ} (h1 : agr s I J) (h2 : agr s J K) : agr s I K := fun a k h => (h2 a k h).trans (h1 a k h)
theorem agr_up {s : Nat → Nat → Bool} {I J : MJ} {a k : Nat} {x : Int32} (h1 : agr s I J) (h2 : s a k = true) : agr s I (ab_up1 J a k x) := fun b j h => by
  rw [up_ne (by rintro ⟨rfl, rfl⟩; rw [h2] at h; cases h)]
  exact h1 b j h
theorem agr_mono {s t : Nat → Nat → Bool} {I J : MJ} (h1 : agr s I J) (h2 : ∀ a k, s a k = true → t a k = true) : agr t I J := fun b j h => h1 b j (by
  cases hs : s b j with
  | false => rfl
  | true => rw [h2 b j hs] at h; cases h)
section SUMS
/-- a sum told by a loop from 0: first the sum, then the counter -/
theorem wh_sum0 {f : Int32 × Int32 → Option ((Int32 × Int32) ⊕ Int32)} (t : Nat → Int32) (n : Nat) (h : ∀ k, k < n → ∀ s, f (s, Int32.ofNat k) = some (.inl (s + t k, Int32.ofNat (k + 1)))) (he : ∀ s, f (s, Int32.ofNat n) = some (.inr s)) : wh f ((0 : Int32), (0 : Int32)) = some (sm t n) :=
  wh_seq (fun i => (sm t i, Int32.ofNat i)) n (fun i hi => h i hi _) (he _)
theorem wh_sum1 {f : Int32 × Int32 → Option ((Int32 × Int32) ⊕ Int32)} (t : Nat → Int32) (n : Nat) (h : ∀ k, k < n → ∀ s, f (s, Int32.ofNat (k + 1)) = some (.inl (s + t k, Int32.ofNat (k + 1 + 1)))) (he : ∀ s, f (s, Int32.ofNat (n + 1)) = some (.inr s)) : wh f ((0 : Int32), (1 : Int32)) = some (sm t n) :=
  wh_seq (fun i => (sm t i, Int32.ofNat (i + 1))) n (fun i hi => h i hi _) (he _)
theorem wh_bits0 {f : Int32 × Int32 → Option ((Int32 × Int32) ⊕ Int32)} (t : Nat → Int32) (n : Nat) (h : ∀ k, k < n → ∀ s, f (s, Int32.ofNat k) = some (.inl (s ||| t k, Int32.ofNat (k + 1)))) (he : ∀ s, f (s, Int32.ofNat n) = some (.inr s)) : wh f ((0 : Int32), (0 : Int32)) = some (bo t n) :=
  wh_seq (fun i => (bo t i, Int32.ofNat i)) n (fun i hi => h i hi _) (he _)
/-- a search: the first place where it is left, by what each place says -/
theorem wh_all {β : Type} {f : Int32 → Option (Int32 ⊕ β)} (p : Nat → Prop) (i0 n : Nat) (hle : i0 ≤ n) (y z : β) (h1 : ∀ k, i0 ≤ k → k < n → p k → f (Int32.ofNat k) = some (.inl (Int32.ofNat (k + 1)))) (h2 : ∀ k, i0 ≤ k → k < n → ¬ p k → f (Int32.ofNat k) = some (.inr z)) (he : f (Int32.ofNat n) = some (.inr y)) : wh f (Int32.ofNat i0) = some (@ite _ (∀ k, i0 ≤ k → k < n → p k) (Classical.propDecidable _) y z) := by
  have key : ∀ m i, i + m = n → i0 ≤ i → wh f (Int32.ofNat i) = some (@ite _ (∀ k, i ≤ k → k < n → p k) (Classical.propDecidable _) y z) := by
    intro m
    induction m with
    | zero =>
      intro i hi _
      obtain rfl : i = n := by omega
      rw [if_pos (fun k h3 h4 => by omega)]
      exact wh_inr he
    | succ m ih =>
      intro i hi h0
      by_cases hp : p i
      · rw [wh_inl (h1 i h0 (by omega) hp), ih (i + 1) (by omega) (by omega)]
        by_cases hq : ∀ k, i + 1 ≤ k → k < n → p k
        · rw [if_pos hq, if_pos (fun k h3 h4 => if hk : k = i then hk ▸ hp else hq k (by omega) h4)]
        · rw [if_neg hq, if_neg (fun h => hq (fun k h3 h4 => h k (by omega) h4))]
      · rw [wh_inr (h2 i h0 (by omega) hp), if_neg (fun h => hp (h i (Nat.le_refl _) (by omega)))]
  exact key (n - i0) i0 (by omega) (Nat.le_refl _)
end SUMS
theorem sm_tail {t : Nat → Int32} {m : Nat} : ∀ {n : Nat}, m ≤ n → (∀ k, m ≤ k → k < n → t k = 0) → sm t n = sm t m
  | 0, h, _ => by rw [show m = 0 by omega]
  | n + 1, h, h0 => by
    by_cases hm : m = n + 1
    · rw [hm]
    · show sm t n + t n = _
      rw [h0 n (by omega) (by omega), Int32.add_zero]
      exact sm_tail (by omega) (fun k h1 h2 => h0 k h1 (by omega))
/-- a sum that begins at s0 -/
theorem wh_sumS {f : Int32 × Int32 → Option ((Int32 × Int32) ⊕ Int32)} (s0 : Int32) (t : Nat → Int32) (n : Nat) (h : ∀ k, k < n → ∀ s, f (s, Int32.ofNat k) = some (.inl (s + t k, Int32.ofNat (k + 1)))) (he : ∀ s, f (s, Int32.ofNat n) = some (.inr s)) : wh f (s0, (0 : Int32)) = some (s0 + sm t n) := by
  have h0 : ((s0, (0 : Int32)) : Int32 × Int32) = (s0 + sm t 0, Int32.ofNat 0) := by
    rw [show sm t 0 = 0 from rfl, Int32.add_zero]
    rfl
  rw [h0]
  refine wh_seq (fun i => (s0 + sm t i, Int32.ofNat i)) n (fun i hi => ?_) (he _)
  rw [h i hi, Int32.add_assoc]
  rfl
theorem and1 (x : Int32) : x &&& 1 = 0 ∨ x &&& 1 = 1 := by
  have h : x.toBitVec &&& 1#32 = 0#32 ∨ x.toBitVec &&& 1#32 = 1#32 := by
    rw [BitVec.and_one_eq_setWidth_ofBool_getLsbD]
    cases x.toBitVec.getLsbD 0
    · exact Or.inl rfl
    · exact Or.inr rfl
  rcases h with h | h
  · exact Or.inl (Int32.toBitVec_inj.mp (by rw [Int32.toBitVec_and]; exact h))
  · exact Or.inr (Int32.toBitVec_inj.mp (by rw [Int32.toBitVec_and]; exact h))
/-- does a bit stand? -/
def bitF (x : Int32) (k : Nat) : Bool := decide (¬ (x >>> (Int32.ofNat k &&& 31)) &&& 1 = 0)
theorem bitF_6 : ∀ n : Nat, n < 64 → ∀ p : Nat, p < 6 → bitF (Int32.ofNat n) p = n.testBit p := by decide +kernel
theorem n_lt {a b : Nat} (h : a < b) : (a < b) = True := eq_true h
theorem n_nlt {a b : Nat} (h : ¬ a < b) : (a < b) = False := eq_false h
theorem n_eq {a b : Nat} (h : a = b) : (a = b) = True := eq_true h
theorem n_ne {a b : Nat} (h : ¬ a = b) : (a = b) = False := eq_false h
