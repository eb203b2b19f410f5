/-! sewn -/
theorem bitF_nat {s k : Nat} (hs : s < 2147483648) (hk : k < 31) : bitF (Int32.ofNat s) k = s.testBit k := by
  rw [bitF_get hk]
  show (BitVec.ofNat 32 s).getLsbD k = _
  rw [BitVec.getLsbD_ofNat, decide_eq_true (show k < 32 by omega), Bool.true_and]
theorem neg1_bits : (-1 : Int32).toBitVec = BitVec.allOnes 32 := by decide
theorem sub_bits {x z : Int32} : (x &&& (z ^^^ (-1 : Int32))) = 0 ↔ ∀ i, i < 32 → x.toBitVec.getLsbD i = true → z.toBitVec.getLsbD i = true := by
  have e : (x &&& (z ^^^ (-1 : Int32))).toBitVec = x.toBitVec &&& (z.toBitVec ^^^ BitVec.allOnes 32) := by rw [Int32.toBitVec_and, Int32.toBitVec_xor, neg1_bits]
  constructor
  · intro h i hi hx
    rw [h] at e
    have e2 := congrArg (fun v => v.getLsbD i) e
    have e3 : (0 : Int32).toBitVec.getLsbD i = false := by
      show (0#32).getLsbD i = false
      exact BitVec.getLsbD_zero
    try dsimp only at e2
    rw [e3, BitVec.getLsbD_and, BitVec.getLsbD_xor, BitVec.getLsbD_allOnes, hx, decide_eq_true hi, Bool.true_and, Bool.xor_true] at e2
    cases hz : z.toBitVec.getLsbD i with
    | true => rfl
    | false => rw [hz] at e2; cases e2
  · intro h
    apply Int32.toBitVec_inj.mp
    rw [e]
    apply BitVec.eq_of_getLsbD_eq
    intro i hi
    show _ = (0#32).getLsbD i
    rw [BitVec.getLsbD_and, BitVec.getLsbD_xor, BitVec.getLsbD_allOnes, decide_eq_true hi, Bool.xor_true, BitVec.getLsbD_zero]
    cases hx : x.toBitVec.getLsbD i with
    | false => rfl
    | true => rw [h i hi hx]; rfl
theorem of_bits (x : Int32) : x = Int32.ofNat x.toBitVec.toNat := by
  apply Int32.toBitVec_inj.mp
  show x.toBitVec = BitVec.ofNat 32 x.toBitVec.toNat
  rw [BitVec.ofNat_toNat, BitVec.setWidth_eq]
theorem bits_all {no : Nat} (hn : no ≤ 8) {x : Int32} (h : (x &&& (Int32.ofNat (2 ^ no - 1) ^^^ (-1 : Int32))) = 0) : ∃ k, k < 2 ^ no ∧ x = Int32.ofNat k := by
  refine ⟨x.toBitVec.toNat, ?_, of_bits x⟩
  apply Nat.lt_pow_two_of_testBit
  intro i hi
  cases hx : x.toBitVec.toNat.testBit i with
  | false => rfl
  | true =>
    by_cases h32 : i < 32
    · have h1 := sub_bits.mp h i h32 hx
      have h2 : (BitVec.ofNat 32 (2 ^ no - 1)).getLsbD i = true := h1
      rw [BitVec.getLsbD_ofNat, Nat.testBit_two_pow_sub_one, decide_eq_false (show ¬ i < no by omega), Bool.and_false] at h2
      cases h2
    · have h1 : x.toBitVec.getLsbD i = false := BitVec.getLsbD_of_ge _ _ (by omega)
      rw [show x.toBitVec.getLsbD i = x.toBitVec.toNat.testBit i from rfl, hx] at h1
      cases h1
theorem bits_in {no k : Nat} (hn : no ≤ 8) (hk : k < 2 ^ no) : (Int32.ofNat k &&& (Int32.ofNat (2 ^ no - 1) ^^^ (-1 : Int32))) = 0 := by
  refine sub_bits.mpr fun i hi hx => ?_
  have h1 : (BitVec.ofNat 32 k).getLsbD i = true := hx
  rw [BitVec.getLsbD_ofNat, decide_eq_true hi, Bool.true_and] at h1
  show (BitVec.ofNat 32 (2 ^ no - 1)).getLsbD i = true
  rw [BitVec.getLsbD_ofNat, decide_eq_true hi, Bool.true_and, Nat.testBit_two_pow_sub_one]
  refine decide_eq_true ?_
  have h2 := Nat.ge_two_pow_of_testBit h1
  have h3 : 2 ^ i < 2 ^ no := Nat.lt_of_le_of_lt h2 hk
  exact (Nat.pow_lt_pow_iff_right (by decide)).mp h3
theorem sub_le {s p : Nat} (hs : s < 2147483648) (hp : p < 2147483648) (h : (Int32.ofNat s &&& (Int32.ofNat p ^^^ (-1 : Int32))) = 0) : s ≤ p := by
  have e : s &&& p = s := by
    apply Nat.eq_of_testBit_eq
    intro i
    rw [Nat.testBit_and]
    cases hx : s.testBit i with
    | false => rfl
    | true =>
      have h3 : i < 32 := by
        have h4 := Nat.ge_two_pow_of_testBit hx
        have h5 : 2 ^ i < 2 ^ 31 := Nat.lt_of_le_of_lt h4 hs
        have := (Nat.pow_lt_pow_iff_right (by decide)).mp h5
        omega
      have h1 := sub_bits.mp h i h3 (by
        show (BitVec.ofNat 32 s).getLsbD i = true
        rw [BitVec.getLsbD_ofNat, decide_eq_true h3, Bool.true_and, hx])
      have h2 : (BitVec.ofNat 32 p).getLsbD i = true := h1
      rw [BitVec.getLsbD_ofNat, decide_eq_true h3, Bool.true_and] at h2
      rw [h2]
      rfl
  rw [← e]
  exact Nat.and_le_right
theorem all_ok : ∀ no : Nat, no < 9 → ((1 : Int32) <<< (Int32.ofNat no &&& 31)) - (1 : Int32) = Int32.ofNat (2 ^ no - 1) ∧ 2 ^ no ≤ 256 ∧ 1 ≤ 2 ^ no := by decide +kernel
theorem neg_lt {m n : Nat} (h1 : 1 ≤ m) (h2 : m < 2147483648) (h3 : n < 2147483648) : -Int32.ofNat m < Int32.ofNat n := by
  rw [Int32.lt_iff_toInt_lt, Int32.toInt_ofNat_of_lt h3, Int32.neg_ofNat, Int32.toInt_ofInt_of_le (by omega) (by omega)]
  omega
def sN (t : Nat → Nat) : Nat → Nat
  | 0 => 0
  | n + 1 => sN t n + t n
theorem sm_sN {t : Nat → Nat} : ∀ {n : Nat}, sm (fun k => Int32.ofNat (t k)) n = Int32.ofNat (sN t n)
  | 0 => rfl
  | n + 1 => by
    show sm (fun k => Int32.ofNat (t k)) n + Int32.ofNat (t n) = _
    rw [sm_sN, i_add]
    rfl
theorem sN_le {t : Nat → Nat} {B : Nat} : ∀ {n : Nat}, (∀ k, k < n → t k ≤ B) → sN t n ≤ B * n
  | 0, _ => Nat.zero_le _
  | n + 1, h => by
    have h1 := sN_le (t := t) (B := B) (n := n) (fun k hk => h k (by omega))
    have h2 := h n (by omega)
    show sN t n + t n ≤ _
    rw [Nat.mul_succ]
    omega
theorem sN_congr {t u : Nat → Nat} : ∀ {n : Nat}, (∀ k, k < n → t k = u k) → sN t n = sN u n
  | 0, _ => rfl
  | n + 1, h => by
    show sN t n + t n = sN u n + u n
    rw [sN_congr (fun k hk => h k (by omega)), h n (by omega)]
theorem sN_ge {t : Nat → Nat} : ∀ {n k : Nat}, k < n → t k ≤ sN t n
  | n + 1, k, h => by
    show _ ≤ sN t n + t n
    by_cases e : k = n
    · rw [e]; omega
    · have := sN_ge (t := t) (n := n) (k := k) (by omega)
      omega
/-- what a set's orders have together; hours due by a day -/
def tgN (od : Nat → Nat → Nat) (no s j : Nat) : Nat := sN (fun o => if s.testBit o = true then od o j else 0) no
def hdN (od : Nat → Nat → Nat) (no s d : Nat) : Nat := sN (fun o => if s.testBit o = true ∧ od o 2 ≤ d then od o 4 else 0) no
def inX (od : Nat → Nat → Nat) (no hands day s : Nat) : Prop := ∀ o, o < no → s.testBit o = true → hdN od no s (od o 2) ≤ (od o 2 + 1 - day) * hands
def inM (od : Nat → Nat → Nat) (no hands day s : Nat) : Prop := ∀ d, 1 ≤ d → d ≤ 60 → hdN od no s d ≤ hands * (d + 1 - day)
theorem inX_inM {od : Nat → Nat → Nat} {no hands day s : Nat} (hd : ∀ o, o < no → 1 ≤ od o 2 ∧ od o 2 ≤ 60) : inX od no hands day s ↔ inM od no hands day s := by
  constructor
  · intro h
    have key : ∀ d, hdN od no s d ≤ hands * (d + 1 - day) := by
      intro d
      induction d with
      | zero =>
        have : hdN od no s 0 ≤ 0 * no := sN_le fun o ho => by
          rw [if_neg (fun e => by have := hd o ho; omega)]
          exact Nat.le_refl 0
        rw [Nat.zero_mul] at this
        omega
      | succ d ih =>
        by_cases e : ∃ o, o < no ∧ s.testBit o = true ∧ od o 2 = d + 1
        · obtain ⟨o, o1, o2, o3⟩ := e
          have := h o o1 o2
          rw [o3] at this
          rw [Nat.mul_comm]
          exact this
        · have h1 : hdN od no s (d + 1) = hdN od no s d := sN_congr fun o ho => by
            by_cases h2 : s.testBit o = true
            · by_cases h3 : od o 2 ≤ d
              · rw [if_pos ⟨h2, by omega⟩, if_pos ⟨h2, h3⟩]
              · rw [if_neg (fun z => e ⟨o, ho, h2, by omega⟩), if_neg (fun z => h3 z.2)]
            · rw [if_neg (fun z => h2 z.1), if_neg (fun z => h2 z.1)]
          rw [h1]
          exact Nat.le_trans ih (Nat.mul_le_mul_left _ (by omega))
    exact fun d _ _ => key d
  · intro h o ho hs
    have := hd o ho
    rw [Nat.mul_comm]
    exact h _ this.1 this.2
noncomputable def inP (od : Nat → Nat → Nat) (no hands day s : Nat) : Int32 := @ite _ (inX od no hands day s) (Classical.propDecidable _) 1 0
section SEWN
variable {I : MJ} {no hands day : Nat} {od : Nat → Nat → Nat}
theorem x_together {s j : Nat} (hs : s < 256) (hn : no ≤ 8) (hj : j < 5) (e8 : I 3 8 = Int32.ofNat no) (ho : ∀ o j, o < no → j < 5 → I 8 (5 * o + j) = Int32.ofNat (od o j)) : f_tas_together218 (Int32.ofNat s) (Int32.ofNat j) I = some (Int32.ofNat (tgN od no s j)) := by
  unfold f_tas_together218
  rw [wh_sum0 (fun o => Int32.ofNat (if s.testBit o = true then od o j else 0)) no ?_ ?_, sm_sN]
  · rfl
  · intro o h s'
    try dsimp only
    rw [if_pos (by rw [e8, i_lt (by omega) (by omega)]; exact h), x_holds, ob_some, bitF_nat (by omega) (by omega)]
    by_cases hb : s.testBit o = true
    · rw [if_pos hb, if_neg (by decide), x_orderPart h hn hj ho, ob_some, ob_some, if_pos hb, i_addr]
    · rw [if_neg hb, if_pos rfl, ob_some, if_neg hb, i_addr]
      rfl
  · intro s'
    exact if_neg (by rw [e8]; exact Int32.lt_irrefl)
theorem x_hoursDueBy {s d : Nat} (hs : s < 256) (hd : d ≤ 60) (hn : no ≤ 8) (hb : ∀ o, o < no → od o 2 ≤ 60) (e8 : I 3 8 = Int32.ofNat no) (ho : ∀ o j, o < no → j < 5 → I 8 (5 * o + j) = Int32.ofNat (od o j)) : f_tas_hoursDueBy217 (Int32.ofNat s) (Int32.ofNat d) I = some (Int32.ofNat (hdN od no s d)) := by
  unfold f_tas_hoursDueBy217
  rw [wh_sum0 (fun o => Int32.ofNat (if s.testBit o = true ∧ od o 2 ≤ d then od o 4 else 0)) no ?_ ?_, sm_sN]
  · rfl
  · intro o h s'
    have h60 := hb o h
    try dsimp only
    rw [if_pos (by rw [e8, i_lt (by omega) (by omega)]; exact h), x_holds, ob_some, bitF_nat (by omega) (by omega)]
    by_cases hb : s.testBit o = true
    · rw [if_pos hb, if_neg (by decide), show f_sho_orderPart123 (Int32.ofNat o) 2 I = _ from x_orderPart (j := 2) h hn (by decide) ho, ob_some]
      by_cases h2 : d < od o 2
      · rw [if_pos (lt_l h2 (by omega)), ob_some, if_pos rfl, ob_some, if_neg (fun z => by omega), i_addr]
        rfl
      · rw [if_neg (nlt_l h2 (by omega) (by omega)), ob_some, if_neg (by decide), show f_sho_orderPart123 (Int32.ofNat o) 4 I = _ from x_orderPart (j := 4) h hn (by decide) ho, ob_some, ob_some, if_pos ⟨hb, by omega⟩, i_addr]
    · rw [if_neg hb, if_pos rfl, ob_some, if_pos rfl, ob_some, if_neg (fun z => hb z.1), i_addr]
      rfl
  · intro s'
    exact if_neg (by rw [e8]; exact Int32.lt_irrefl)
theorem x_isInTime {s : Nat} (hs : s < 256) (hn : no ≤ 8) (hb : ∀ o, o < no → 1 ≤ od o 2 ∧ od o 2 ≤ 60 ∧ 1 ≤ od o 4 ∧ od o 4 ≤ 24) (hh : 1 ≤ hands ∧ hands ≤ 24) (hd : day ≤ 60) (e16 : I 16 0 = Int32.ofNat day) (e8 : I 3 8 = Int32.ofNat no) (e10 : I 3 10 = Int32.ofNat hands) (ho : ∀ o j, o < no → j < 5 → I 8 (5 * o + j) = Int32.ofNat (od o j)) : f_tas_isInTime216 (Int32.ofNat s) I = some (inP od no hands day s) := by
  unfold f_tas_isInTime216 inP
  have hw := wh_all (β := Int32) (f := fun (s1 : Int32) =>
  (if s1 < (I 3 8) then
  (Option.bind (f_sho_orderPart123 s1 (2 : Int32) I) fun v2 =>
  (Option.bind (f_x_holds26 (Int32.ofNat s) s1 I) fun v3 =>
  (if v3 = 0 then
  some (.inl (s1 + (1 : Int32)))
  else
  (Option.bind (f_tas_hoursDueBy217 (Int32.ofNat s) v2 I) fun v4 =>
  (Option.bind (f_sta_day113 15 I) fun v5 =>
  (if (((v2 - v5) + (1 : Int32)) * (I 3 10)) < v4 then
  some (.inr (0 : Int32))
  else
  some (.inl (s1 + (1 : Int32)))
  )
  )
  )
  )
  )
  )
  else
  some (.inr (1 : Int32))
  )) (fun o => s.testBit o = true → hdN od no s (od o 2) ≤ (od o 2 + 1 - day) * hands) 0 no (Nat.zero_le _) 1 0 ?_ ?_ ?_
  · refine hw.trans (congrArg some ?_)
    by_cases h : inX od no hands day s
    · rw [if_pos h, if_pos (fun k _ hk hs => h k hk hs)]
    · rw [if_neg h, if_neg (fun z => h fun o ho hs => z o (Nat.zero_le _) ho hs)]
  all_goals
    try intro o _ h hp
    try dsimp only
  · have h60 := hb o h
    rw [if_pos (by rw [e8, i_lt (by omega) (by omega)]; exact h), show f_sho_orderPart123 (Int32.ofNat o) 2 I = _ from x_orderPart (j := 2) h hn (by decide) ho, ob_some, x_holds, ob_some, bitF_nat (by omega) (by omega)]
    by_cases hs2 : s.testBit o = true
    · have hp := hp hs2
      have hge : od o 4 ≤ hdN od no s (od o 2) := by
        have := sN_ge (t := fun k => if s.testBit k = true ∧ od k 2 ≤ od o 2 then od k 4 else 0) h
        rw [if_pos ⟨hs2, Nat.le_refl _⟩] at this
        exact this
      have hle : (od o 2 + 1 - day) * hands ≤ 61 * 24 := Nat.mul_le_mul (by omega) (by omega)
      have hday : day ≤ od o 2 := by
        by_cases e : day ≤ od o 2
        · exact e
        · rw [show od o 2 + 1 - day = 0 by omega, Nat.zero_mul] at hp
          omega
      rw [if_pos hs2, if_neg (by decide), x_hoursDueBy hs h60.2.1 hn (fun o ho => (hb o ho).2.1) e8 ho, ob_some, x_day (t := 15) rfl (by decide), ob_some, show I (15 + 1) 0 = Int32.ofNat day from e16, e10, i_sub hday, show Int32.ofNat (od o 2 - day) + 1 = Int32.ofNat (od o 2 - day + 1) from i_addr, i_mul, if_neg ?_]
      · rw [i_addr]
      · rw [show od o 2 - day + 1 = od o 2 + 1 - day by omega, i_lt (by omega) (by omega)]
        omega
    · rw [if_neg hs2, if_pos rfl, i_addr]
  · have h60 := hb o h
    have hs2 : s.testBit o = true := Classical.byContradiction fun e => hp fun z => absurd z e
    have hp2 : ¬ hdN od no s (od o 2) ≤ (od o 2 + 1 - day) * hands := fun z => hp fun _ => z
    have hhd : hdN od no s (od o 2) ≤ 24 * no := sN_le fun k hk => by
      split
      · exact (hb k hk).2.2.2
      · omega
    rw [if_pos (by rw [e8, i_lt (by omega) (by omega)]; exact h), show f_sho_orderPart123 (Int32.ofNat o) 2 I = _ from x_orderPart (j := 2) h hn (by decide) ho, ob_some, x_holds, ob_some, bitF_nat (by omega) (by omega), if_pos hs2, if_neg (by decide), x_hoursDueBy hs h60.2.1 hn (fun o ho => (hb o ho).2.1) e8 ho, ob_some, x_day (t := 15) rfl (by decide), ob_some, show I (15 + 1) 0 = Int32.ofNat day from e16, e10, if_pos ?_]
    by_cases hday : day ≤ od o 2 + 1
    · have e1 : (Int32.ofNat (od o 2) - Int32.ofNat day + 1) = Int32.ofNat (od o 2 + 1 - day) := by
        rw [← i_sub hday, Int32.ofNat_add]
        show _ = Int32.ofNat (od o 2) + 1 - _
        grind
      have hle : (od o 2 + 1 - day) * hands ≤ 61 * 24 := Nat.mul_le_mul (by omega) (by omega)
      rw [e1, i_mul, i_lt (by omega) (by omega)]
      omega
    · obtain ⟨e, he⟩ : ∃ e, day = od o 2 + (e + 1) + 1 := ⟨day - od o 2 - 2, by omega⟩
      have e1 : (Int32.ofNat (od o 2) - Int32.ofNat day + 1) * Int32.ofNat hands = -Int32.ofNat ((e + 1) * hands) := by
        rw [he, ← i_mul, Int32.ofNat_add (od o 2 + (e + 1)) 1, Int32.ofNat_add (od o 2)]
        show (_ - (_ + 1) + 1) * _ = _
        grind
      have hle : (e + 1) * hands ≤ 60 * 24 := Nat.mul_le_mul (by omega) (by omega)
      have hge : 1 * 1 ≤ (e + 1) * hands := Nat.mul_le_mul (by omega) (by omega)
      rw [e1]
      exact neg_lt (by omega) (by omega) (by omega)
  · exact if_neg (by rw [e8]; exact Int32.lt_irrefl)
end SEWN
