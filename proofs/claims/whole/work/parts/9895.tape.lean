/-! texts: places, blanks, numbers -/
def scnF (P : Nat → Bool) (n : Nat) : Nat → Nat → Nat
  | 0, p => p
  | f + 1, p => if p < n ∧ P p = true then scnF P n f (p + 1) else p
/-- the first place from p on where P holds no more -/
def scn (P : Nat → Bool) (n p : Nat) : Nat := scnF P n (n - p) p
section SCN
variable {P : Nat → Bool} {n p : Nat}
theorem scn_yes (h : p < n) (hp : P p = true) : scn P n p = scn P n (p + 1) := by
  unfold scn
  rw [show n - p = (n - (p + 1)) + 1 by omega]
  exact if_pos ⟨h, hp⟩
theorem scn_no (h : ¬ (p < n ∧ P p = true)) : scn P n p = p := by
  unfold scn
  cases n - p with
  | zero => rfl
  | succ f => exact if_neg h
theorem scn_ok (hp : p ≤ n) : p ≤ scn P n p ∧ scn P n p ≤ n ∧ ¬ (scn P n p < n ∧ P (scn P n p) = true) ∧ ∀ k, p ≤ k → k < scn P n p → P k = true := by
  have key : ∀ m p, p ≤ n → n - p = m → p ≤ scn P n p ∧ scn P n p ≤ n ∧ ¬ (scn P n p < n ∧ P (scn P n p) = true) ∧ ∀ k, p ≤ k → k < scn P n p → P k = true := by
    intro m
    induction m with
    | zero =>
      intro p hp hm
      rw [scn_no (by omega)]
      exact ⟨Nat.le_refl _, hp, by omega, fun k h1 h2 => by omega⟩
    | succ m ih =>
      intro p hp hm
      by_cases h : P p = true
      · rw [scn_yes (by omega) h]
        obtain ⟨h1, h2, h3, h4⟩ := ih (p + 1) (by omega) (by omega)
        refine ⟨by omega, h2, h3, fun k k1 k2 => ?_⟩
        by_cases e : k = p
        · rw [e]; exact h
        · exact h4 k (by omega) k2
      · rw [scn_no (fun z => h z.2)]
        exact ⟨Nat.le_refl _, hp, fun z => h z.2, fun k h1 h2 => by omega⟩
  exact key (n - p) p hp rfl
theorem scn_end (hp : p ≤ n) : scn P n (scn P n p) = scn P n p := scn_no (scn_ok hp).2.2.1
theorem wh_scn {σ β : Type} {f : σ → Option (σ ⊕ β)} (g : Nat → σ) (b : Nat → β) {s : σ} (hs : s = g p) (hp : p ≤ n) (hy : ∀ k, p ≤ k → k < n → P k = true → f (g k) = some (.inl (g (k + 1)))) (hn : ∀ k, p ≤ k → k ≤ n → ¬ (k < n ∧ P k = true) → f (g k) = some (.inr (b k))) : wh f s = some (b (scn P n p)) := by
  have key : ∀ m k, p ≤ k → k ≤ n → n - k = m → wh f (g k) = some (b (scn P n k)) := by
    intro m
    induction m with
    | zero =>
      intro k h0 h1 hm
      rw [scn_no (by omega)]
      exact wh_inr (hn k h0 h1 (by omega))
    | succ m ih =>
      intro k h0 h1 hm
      by_cases h : P k = true
      · rw [wh_inl (hy k h0 (by omega) h), scn_yes (by omega) h]
        exact ih (k + 1) (by omega) (by omega) (by omega)
      · rw [scn_no (fun z => h z.2)]
        exact wh_inr (hn k h0 h1 (fun z => h z.2))
  rw [hs]
  exact key (n - p) p (Nat.le_refl _) hp rfl
end SCN
theorem up_up {J : MJ} {a k : Nat} {x y : Int32} : ab_up1 (ab_up1 J a k x) a k y = ab_up1 J a k y := by
  funext b j
  by_cases h : b = a ∧ j = k
  · rw [h.1, h.2, up_eq, up_eq]
  · rw [up_ne h, up_ne h, up_ne h]
theorem up_self {J : MJ} {a k : Nat} {x : Int32} (h : J a k = x) : ab_up1 J a k x = J := by
  funext b j
  rw [up_if]
  split
  · rename_i e
    rw [e.1, e.2, h]
  · rfl
theorem sb8_facts : ∀ b : Nat, b < 256 → (b < 128 → sb8 b = Int32.ofNat b) ∧ (¬ b < 128 → sb8 b < 0) ∧ sb8 b &&& (255 : Int32) = Int32.ofNat b := by decide +kernel
theorem sb8_is {b c : Nat} (hb : b < 256) (hc : c < 128) : (sb8 b = Int32.ofNat c) ↔ b = c := by
  obtain ⟨h1, h2, -⟩ := sb8_facts b hb
  by_cases h : b < 128
  · rw [h1 h, i_eq (by omega) (by omega)]
  · have h3 := h2 h
    refine ⟨fun e => ?_, fun e => by omega⟩
    rw [e, i_lt0 (by omega)] at h3
    exact h3.elim
def bkP (B : Nat → Nat) (k : Nat) : Bool := decide (B k = 32)
def dgP (B : Nat → Nat) (k : Nat) : Bool := decide (48 ≤ B k ∧ B k ≤ 57)
def ltP (B : Nat → Nat) (k : Nat) : Bool := decide (97 ≤ B k ∧ B k ≤ 122)
/-- the next place that is no blank -/
def sk (B : Nat → Nat) (n p : Nat) : Nat := scn (bkP B) n p
/-- the byte at a place -/
def byt (B : Nat → Nat) (n k : Nat) : Int32 := if k < n then Int32.ofNat (B k) else -1
def cE (B : Nat → Nat) (n : Nat) (J : MJ) : Prop := n ≤ 600 ∧ J 1 3 = Int32.ofNat n ∧ ∀ k, k < n → B k < 256 ∧ J 2 k = sb8 (B k)
def mE (B : Nat → Nat) (n : Nat) (J : MJ) : Prop := n ≤ 600 ∧ J 47 2 = Int32.ofNat n ∧ ∀ k, k < n → B k < 256 ∧ J 48 k = Int32.ofNat (B k)
theorem cE_c {B : Nat → Nat} {n : Nat} {I J : MJ} (h : cE B n I) (h1 : J 1 3 = I 1 3) (h2 : ∀ k, J 2 k = I 2 k) : cE B n J := ⟨h.1, h1.trans h.2.1, fun k hk => ⟨(h.2.2 k hk).1, (h2 k).trans (h.2.2 k hk).2⟩⟩
theorem mE_c {B : Nat → Nat} {n : Nat} {I J : MJ} (h : mE B n I) (h1 : J 47 2 = I 47 2) (h2 : ∀ k, J 48 k = I 48 k) : mE B n J := ⟨h.1, h1.trans h.2.1, fun k hk => ⟨(h.2.2 k hk).1, (h2 k).trans (h.2.2 k hk).2⟩⟩
theorem cE_up {B : Nat → Nat} {n : Nat} {J : MJ} {a k : Nat} {x : Int32} (h : cE B n J) (h1 : ¬ (a = 1 ∧ k = 3)) (h2 : a ≠ 2) : cE B n (ab_up1 J a k x) := cE_c h (up_ne (fun e => h1 ⟨e.1.symm, e.2.symm⟩)) (fun _ => up_ne (fun e => h2 e.1.symm))
theorem mE_up {B : Nat → Nat} {n : Nat} {J : MJ} {a k : Nat} {x : Int32} (h : mE B n J) (h1 : ¬ (a = 47 ∧ k = 2)) (h2 : a ≠ 48) : mE B n (ab_up1 J a k x) := mE_c h (up_ne (fun e => h1 ⟨e.1.symm, e.2.symm⟩)) (fun _ => up_ne (fun e => h2 e.1.symm))
theorem dig_facts : ∀ b : Nat, b < 256 → (Int32.ofNat b < (48 : Int32) ↔ b < 48) ∧ ((57 : Int32) < Int32.ofNat b ↔ 57 < b) ∧ (Int32.ofNat b < (97 : Int32) ↔ b < 97) ∧ ((122 : Int32) < Int32.ofNat b ↔ 122 < b) ∧ (Int32.ofNat b = (32 : Int32) ↔ b = 32) := by decide +kernel
section BYTES
variable {B : Nat → Nat} {n : Nat} {J : MJ}
theorem x_isDigit {b : Nat} (hb : b < 256) : f_tap_isDigit54 (Int32.ofNat b) J = some (if decide (48 ≤ b ∧ b ≤ 57) = true then 1 else 0) := by
  obtain ⟨h1, h2, -⟩ := dig_facts b hb
  unfold f_tap_isDigit54
  by_cases a : b < 48
  · rw [if_pos (h1.mpr a), ob_some, if_neg (fun z => by have := of_decide_eq_true z; omega), nar_0]
  · by_cases c : 57 < b
    · rw [if_neg (fun z => a (h1.mp z)), if_pos (h2.mpr c), ob_some, if_neg (fun z => by have := of_decide_eq_true z; omega), nar_0]
    · rw [if_neg (fun z => a (h1.mp z)), if_neg (fun z => c (h2.mp z)), ob_some, if_pos (decide_eq_true (by omega)), nar_1]
theorem x_isLetter {b : Nat} (hb : b < 256) : f_tap_isLetter47 (Int32.ofNat b) J = some (if decide (97 ≤ b ∧ b ≤ 122) = true then 1 else 0) := by
  obtain ⟨-, -, h1, h2, -⟩ := dig_facts b hb
  unfold f_tap_isLetter47
  by_cases a : b < 97
  · rw [if_pos (h1.mpr a), ob_some, if_neg (fun z => by have := of_decide_eq_true z; omega), nar_0]
  · by_cases c : 122 < b
    · rw [if_neg (fun z => a (h1.mp z)), if_pos (h2.mpr c), ob_some, if_neg (fun z => by have := of_decide_eq_true z; omega), nar_0]
    · rw [if_neg (fun z => a (h1.mp z)), if_neg (fun z => c (h2.mp z)), ob_some, if_pos (decide_eq_true (by omega)), nar_1]
theorem m_isDigit {k : Nat} (hB : k < n → B k < 256) : f_m_isDigit284 (byt B n k) J = some (if k < n ∧ dgP B k = true then 1 else 0) := by
  unfold byt
  by_cases hk : k < n
  · obtain ⟨h1, h2, -⟩ := dig_facts (B k) (hB hk)
    rw [if_pos hk]
    unfold f_m_isDigit284 dgP
    by_cases a : B k < 48
    · rw [if_pos (h1.mpr a), ob_some, if_neg (fun z => by have := of_decide_eq_true z.2; omega), nar_0]
    · by_cases c : 57 < B k
      · rw [if_neg (fun z => a (h1.mp z)), if_pos (h2.mpr c), ob_some, if_neg (fun z => by have := of_decide_eq_true z.2; omega), nar_0]
      · rw [if_neg (fun z => a (h1.mp z)), if_neg (fun z => c (h2.mp z)), ob_some, if_pos ⟨hk, decide_eq_true (by omega)⟩, nar_1]
  · rw [if_neg hk, if_neg (fun z => hk z.1)]
    rfl
theorem m_isSmall {k : Nat} (hB : k < n → B k < 256) : f_m_isSmall276 (byt B n k) J = some (if k < n ∧ ltP B k = true then 1 else 0) := by
  unfold byt
  by_cases hk : k < n
  · obtain ⟨-, -, h1, h2, -⟩ := dig_facts (B k) (hB hk)
    rw [if_pos hk]
    unfold f_m_isSmall276 ltP
    by_cases a : B k < 97
    · rw [if_pos (h1.mpr a), ob_some, if_neg (fun z => by have := of_decide_eq_true z.2; omega), nar_0]
    · by_cases c : 122 < B k
      · rw [if_neg (fun z => a (h1.mp z)), if_pos (h2.mpr c), ob_some, if_neg (fun z => by have := of_decide_eq_true z.2; omega), nar_0]
      · rw [if_neg (fun z => a (h1.mp z)), if_neg (fun z => c (h2.mp z)), ob_some, if_pos ⟨hk, decide_eq_true (by omega)⟩, nar_1]
  · rw [if_neg hk, if_neg (fun z => hk z.1)]
    rfl
theorem byt_eq {k c : Nat} (hB : k < n → B k < 256) (hc : c < 128) : byt B n k = Int32.ofNat c ↔ (k < n ∧ B k = c) := by
  unfold byt
  by_cases hk : k < n
  · have := hB hk
    rw [if_pos hk, i_eq (by omega) (by omega)]
    exact ⟨fun e => ⟨hk, e⟩, fun e => e.2⟩
  · rw [if_neg hk]
    refine ⟨fun e => ?_, fun e => absurd e.1 hk⟩
    have := i_neg1 (a := c) (by omega)
    rw [← e] at this
    exact (of_eq_false this rfl).elim
theorem x_byteAt {k : Nat} (h : cE B n J) (hk : k < n) : f_tap_byteAt46 (Int32.ofNat k) J = some (Int32.ofNat (B k)) := by
  obtain ⟨h0, h1, h2⟩ := h
  have h3 := h2 k hk
  unfold f_tap_byteAt46
  rw [if_neg (by rw [i_lt0 (by omega)]; exact id), if_pos (show Int32.ofNat k < (600 : Int32) from lt_l (b := 600) (by omega) (by omega)), rdb_2 (by omega), ob_some, h3.2, (sb8_facts _ h3.1).2.2, ob_some]
theorem m_byteAt {k : Nat} (h : mE B n J) (hk : k < 2147483648) : f_m_byteAt271 (Int32.ofNat k) J = some (byt B n k) := by
  obtain ⟨h0, h1, h2⟩ := h
  unfold f_m_byteAt271 byt
  by_cases hn : k < n
  · rw [if_pos (by rw [h1]; exact lt_l hn (by omega)), rd_48 (by omega), ob_some, ob_some, if_pos hn, (h2 k hn).2]
  · rw [if_neg (by rw [h1]; exact nlt_l hn (by omega) (by omega)), ob_some, if_neg hn]
theorem m_blanks {p : Nat} (h : mE B n J) (hp : p ≤ n) (e : J 47 4 = Int32.ofNat p) : f_m_blanks270 J = some (ab_up1 J 47 4 (Int32.ofNat (sk B n p))) := by
  have hn := h.1
  unfold f_m_blanks270
  have l := wh_scn (P := bkP B) (n := n) (p := p) (f := fun (s1 : MJ) =>
    (Option.bind (f_m_byteAt271 (s1 47 4) s1) fun v3 =>
    (if v3 = (32 : Int32) then
    some (.inl (ab_up1 s1 47 4 ((s1 47 4) + (1 : Int32))))
    else
    some (.inr s1)))) (fun k => ab_up1 J 47 4 (Int32.ofNat k)) (fun k => ab_up1 J 47 4 (Int32.ofNat k)) (s := J) (up_self e).symm hp (fun k h1 h2 h3 => by
      try dsimp only
      rw [up_eq, m_byteAt (mE_up h (by decide) (by decide)) (by omega), ob_some, if_pos (show byt B n k = 32 from (byt_eq (c := 32) (fun hk => (h.2.2 _ hk).1) (by decide)).mpr ⟨h2, of_decide_eq_true h3⟩), up_up, i_addr]) (fun k h1 h2 h3 => by
      try dsimp only
      rw [up_eq, m_byteAt (mE_up h (by decide) (by decide)) (by omega), ob_some, if_neg (fun (z : byt B n k = 32) => ?_)]
      have := (byt_eq (c := 32) (fun hk => (h.2.2 _ hk).1) (by decide)).mp z
      exact h3 ⟨this.1, decide_eq_true this.2⟩)
  rw [l]
  rfl
theorem x_next {p : Nat} (h : cE B n J) (hp : p ≤ n) (e : J 1 2 = Int32.ofNat p) : f_tap_next43 J = some (byt B n (sk B n p), ab_up1 J 1 2 (Int32.ofNat (sk B n p))) := by
  obtain ⟨hn, he, hb⟩ := h
  obtain ⟨o1, o2, o3, o4⟩ := scn_ok (P := bkP B) hp
  unfold f_tap_next43
  have l := wh_scn (P := bkP B) (n := n) (p := p) (f := fun (s1 : MJ) =>
    (if (s1 1 2) < 0 then
    some (.inr s1)
    else
    (if (s1 1 2) < (s1 1 3) then
    (if (s1 1 2) < (600 : Int32) then
    (Option.bind (rdb s1 2 (s1 1 2)) fun v5 =>
    (if v5 = (32 : Int32) then
    some (.inl (ab_up1 s1 1 2 ((s1 1 2) + (1 : Int32))))
    else
    some (.inr s1)))
    else
    some (.inr s1))
    else
    some (.inr s1)))) (fun k => ab_up1 J 1 2 (Int32.ofNat k)) (fun k => ab_up1 J 1 2 (Int32.ofNat k)) (s := J) (up_self e).symm hp (fun k h1 h2 h3 => by
      have h4 := hb k h2
      try dsimp only
      rw [if_neg (by rw [up_eq, i_lt0 (by omega)]; exact id), if_pos (by rw [up_eq, up_ne (by omega), he]; exact lt_l h2 (by omega)), if_pos (show ab_up1 J 1 2 (Int32.ofNat k) 1 2 < (600 : Int32) by rw [up_eq]; exact lt_l (b := 600) (by omega) (by omega)), up_eq, rdb_2 (by omega), ob_some, up_ne (by omega), h4.2, if_pos (show sb8 (B k) = 32 from (sb8_is (c := 32) h4.1 (by decide)).mpr (of_decide_eq_true h3)), up_up, i_addr]) (fun k h1 h2 h3 => by
      try dsimp only
      rw [if_neg (by rw [up_eq, i_lt0 (by omega)]; exact id)]
      by_cases h5 : k < n
      · have h4 := hb k h5
        rw [if_pos (by rw [up_eq, up_ne (by omega), he]; exact lt_l h5 (by omega)), if_pos (show ab_up1 J 1 2 (Int32.ofNat k) 1 2 < (600 : Int32) by rw [up_eq]; exact lt_l (b := 600) (by omega) (by omega)), up_eq, rdb_2 (by omega), ob_some, up_ne (by omega), h4.2, if_neg (fun (z : sb8 (B k) = 32) => h3 ⟨h5, decide_eq_true ((sb8_is (c := 32) h4.1 (by decide)).mp z)⟩)]
      · rw [if_neg (by rw [up_eq, up_ne (by omega), he]; exact nlt_l h5 (by omega) (by omega))])
  rw [show scn (bkP B) n p = sk B n p from rfl] at l
  rw [l, ob_some]
  show Option.bind (if ab_up1 J 1 2 (Int32.ofNat (sk B n p)) 1 2 < 0 then _ else _) _ = _
  have o2' : sk B n p ≤ n := o2
  rw [if_neg (by rw [up_eq, i_lt0 (by omega)]; exact id)]
  unfold byt
  by_cases h5 : sk B n p < n
  · have h4 := hb _ h5
    rw [if_pos (by rw [up_eq, up_ne (by omega), he]; exact lt_l h5 (by omega)), if_pos (show ab_up1 J 1 2 (Int32.ofNat (sk B n p)) 1 2 < (600 : Int32) by rw [up_eq]; exact lt_l (b := 600) (by omega) (by omega)), up_eq, rdb_2 (by omega), ob_some, up_ne (by omega), h4.2, (sb8_facts _ h4.1).2.2, ob_some, if_pos h5]
  · rw [if_neg (by rw [up_eq, up_ne (by omega), he]; exact nlt_l h5 (by omega) (by omega)), ob_some, if_neg h5]
end BYTES
