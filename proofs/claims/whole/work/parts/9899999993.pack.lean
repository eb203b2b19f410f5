/-! pieces: the class packs a kind's runs, set by set -/
theorem bit_off {S r n : Nat} (hn : n ≤ 12) (hr : r < n) (hS : S < 2 ^ n) (hb : S.testBit r = true) : Int32.ofNat S &&& (((1 : Int32) <<< (Int32.ofNat r &&& 31)) ^^^ (-1 : Int32)) = Int32.ofNat (S ^^^ 2 ^ r) := by
  rw [(shl_ok r (by omega)).1]
  apply Int32.toBitVec_inj.mp
  rw [Int32.toBitVec_and, Int32.toBitVec_xor, neg1_bits]
  apply BitVec.eq_of_getLsbD_eq
  intro i hi
  show (BitVec.ofNat 32 S &&& (BitVec.ofNat 32 (2 ^ r) ^^^ BitVec.allOnes 32)).getLsbD i = (BitVec.ofNat 32 (S ^^^ 2 ^ r)).getLsbD i
  rw [BitVec.getLsbD_and, BitVec.getLsbD_xor, BitVec.getLsbD_allOnes, BitVec.getLsbD_ofNat, BitVec.getLsbD_ofNat, BitVec.getLsbD_ofNat, decide_eq_true hi, Bool.true_and, Bool.true_and, Bool.true_and, Bool.xor_true, bit_x, Nat.testBit_two_pow]
  by_cases e : i = r
  · subst e
    rw [if_pos rfl, hb, decide_eq_true rfl]
    rfl
  · rw [if_neg e, decide_eq_false (fun z => e z.symm)]
    exact Bool.and_true _
theorem aR_max {sz : Nat → Nat} {P u l : Nat} (H : szP sz P) (hl : l ≤ 12) : aR sz P u l ≤ 1000000 := by
  have h1 := H.1
  unfold aR
  by_cases c0 : u = 1000000
  · rw [if_pos c0]; exact Nat.le_refl _
  · rw [if_neg c0]
    by_cases c1 : u / 64 < P ∧ u % 64 + l ≤ sz (u / 64)
    · rw [if_pos c1]
      have := c1.1
      omega
    · rw [if_neg c1]
      by_cases c2 : u / 64 + 1 < P ∧ l ≤ sz (u / 64 + 1)
      · rw [if_pos c2]
        have := c2.1
        omega
      · rw [if_neg c2]; exact Nat.le_refl _
/-- what is said of one set -/
def PK1 (l sz : Nat → Nat) (P n : Nat) (pk : Nat → Nat) (S : Nat) : Prop := (∀ r, r < n → S.testBit r = true → pk S ≤ aR sz P (pk (S ^^^ 2 ^ r)) (l r)) ∧ ((∃ r, r < n ∧ S.testBit r = true ∧ pk S = aR sz P (pk (S ^^^ 2 ^ r)) (l r)) ∨ pk S = 1000000)
noncomputable def piB (S : Int32) (I : MJ) : Int32 × Int32 → Option ((Int32 × Int32) ⊕ Int32) := fun (s5 : Int32 × Int32) =>
  (if s5.2 < (I 43 6) then
  (Option.bind (f_x_holds26 S s5.2 I) fun v8 =>
  (Option.bind (α := Int32)
  (if v8 = 0 then
  some s5.1
  else
  (Option.bind (f_x_at16 46 (S &&& (((1 : Int32) <<< (s5.2 &&& 31)) ^^^ (-1 : Int32))) I) fun v10 =>
  (Option.bind (f_x_at16 44 s5.2 I) fun v11 =>
  (Option.bind (f_tas_addRun212 v10 v11 I) fun v12 =>
  some (if v12 < s5.1 then v12 else s5.1)
  )
  )
  )
  )
  fun b9 =>
  some (.inl (b9, (s5.2 + (1 : Int32))))
  )
  )
  else
  some (.inr s5.1)
  )
section PACK
variable {I : MJ} {l sz : Nat → Nat} {P n : Nat}
theorem x_least {S : Nat} {pk : Nat → Nat} (H : szP sz P) (hn : n ≤ 12) (hS : S < 2 ^ n) (hl : ∀ r, r < n → l r ≤ 12 ∧ I 44 r = Int32.ofNat (l r)) (e6 : I 43 6 = Int32.ofNat n) (e7 : I 43 7 = Int32.ofNat P) (h45 : ∀ p, p < P → I 45 p = Int32.ofNat (sz p)) (h46 : ∀ T, T < S → I 46 T = Int32.ofNat (pk T) ∧ pk T ≤ 1000000) : ∃ b, wh (piB (Int32.ofNat S) I) ((1000000 : Int32), (0 : Int32)) = some b ∧ ∃ m, b = Int32.ofNat m ∧ m ≤ 1000000 ∧ (∀ r, r < n → S.testBit r = true → m ≤ aR sz P (pk (S ^^^ 2 ^ r)) (l r)) ∧ ((∃ r, r < n ∧ S.testBit r = true ∧ m = aR sz P (pk (S ^^^ 2 ^ r)) (l r)) ∨ m = 1000000) := by
  have h4096 : 2 ^ n ≤ 4096 := (shl_ok n (by omega)).2
  refine wh_inv (fun i st => ∃ m, st = (Int32.ofNat m, Int32.ofNat i) ∧ m ≤ 1000000 ∧ (∀ r, r < i → S.testBit r = true → m ≤ aR sz P (pk (S ^^^ 2 ^ r)) (l r)) ∧ ((∃ r, r < i ∧ S.testBit r = true ∧ m = aR sz P (pk (S ^^^ 2 ^ r)) (l r)) ∨ m = 1000000)) _ n ?_ ?_ ⟨1000000, rfl, Nat.le_refl _, fun r hr => absurd hr (Nat.not_lt_zero r), Or.inr rfl⟩
  · intro i hi st hst
    obtain ⟨m, rfl, m1, m2, m3⟩ := hst
    unfold piB
    try dsimp only
    rw [if_pos (show Int32.ofNat i < I 43 6 by rw [e6]; exact lt_l hi (by omega)), x_holds, ob_some, bitF_nat (by omega) (by omega)]
    by_cases hb : S.testBit i = true
    · have hlt := x_less hS hb
      obtain ⟨t1, t2⟩ := h46 _ hlt
      obtain ⟨l1, l2⟩ := hl i hi
      have hmax := aR_max (u := pk (S ^^^ 2 ^ i)) H l1
      rw [if_pos hb, if_neg (show ¬ (1 : Int32) = 0 by decide), bit_off hn hi hS hb, at_ok (a := 46) (n := 4096) rfl (by decide) (by decide) (by omega), ob_some, at_ok (a := 44) (n := 12) rfl (by decide) (by decide) (by omega), ob_some, t1, l2, x_addRun H t2 l1 e7 h45, ob_some, ob_some, i_addr]
      by_cases hw : aR sz P (pk (S ^^^ 2 ^ i)) (l i) < m
      · rw [if_pos (lt_l hw (by omega))]
        refine ⟨_, rfl, _, rfl, hmax, fun r hr hrb => ?_, Or.inl ⟨i, by omega, hb, rfl⟩⟩
        by_cases z : r = i
        · rw [z]; exact Nat.le_refl _
        · exact Nat.le_trans (Nat.le_of_lt hw) (m2 r (by omega) hrb)
      · rw [if_neg (nlt_l hw (by omega) (by omega))]
        refine ⟨_, rfl, m, rfl, m1, fun r hr hrb => ?_, ?_⟩
        · by_cases z : r = i
          · rw [z]; omega
          · exact m2 r (by omega) hrb
        · rcases m3 with ⟨r, r1, r2⟩ | m3
          · exact Or.inl ⟨r, by omega, r2⟩
          · exact Or.inr m3
    · rw [if_neg hb, if_pos rfl, ob_some, i_addr]
      refine ⟨_, rfl, m, rfl, m1, fun r hr hrb => ?_, ?_⟩
      · by_cases z : r = i
        · rw [z] at hrb
          exact absurd hrb hb
        · exact m2 r (by omega) hrb
      · rcases m3 with ⟨r, r1, r2⟩ | m3
        · exact Or.inl ⟨r, by omega, r2⟩
        · exact Or.inr m3
  · intro st hst
    obtain ⟨m, rfl, m1, m2, m3⟩ := hst
    unfold piB
    try dsimp only
    rw [if_neg (show ¬ Int32.ofNat n < I 43 6 by rw [e6]; exact Int32.lt_irrefl)]
    exact ⟨_, rfl, m, rfl, m1, m2, m3⟩
theorem x_pack (H : szP sz P) (hn : n ≤ 12) (h1n : 1 ≤ n) (hl : ∀ r, r < n → l r ≤ 12 ∧ I 44 r = Int32.ofNat (l r)) (e6 : I 43 6 = Int32.ofNat n) (e7 : I 43 7 = Int32.ofNat P) (h45 : ∀ p, p < P → I 45 p = Int32.ofNat (sz p)) (h0 : I 46 0 = 0) : ∃ c : Int32 × MJ, f_tas_pack211 I = some c ∧ (∀ a k, ¬ (a = 46 ∧ 1 ≤ k) → c.2 a k = I a k) ∧ ∃ pk, PKD l sz P n pk ∧ pk (2 ^ n - 1) ≤ 1000000 ∧ c.1 = if pk (2 ^ n - 1) = 1000000 then -1 else Int32.ofNat (pk (2 ^ n - 1) / 64 + 1) := by
  have h4096 : 2 ^ n ≤ 4096 := (shl_ok n (by omega)).2
  have h2n : 2 ≤ 2 ^ n := Nat.le_trans (show 2 ≤ 2 ^ 1 by decide) (Nat.pow_le_pow_right (by decide) h1n)
  have eN : ((1 : Int32) <<< ((I 43 6) &&& 31)) - (1 : Int32) = Int32.ofNat (2 ^ n - 1) := by
    rw [e6, (shl_ok n (by omega)).1]
    exact i_subr (n := 1) (by show 1 ≤ 2 ^ n; omega)
  unfold f_tas_pack211
  rw [eN]
  refine bindx (wh_inv (fun i st => ∃ J : MJ, st = (Int32.ofNat (i + 1), J) ∧ (∀ a k, ¬ (a = 46 ∧ 1 ≤ k) → J a k = I a k) ∧ ∃ pk : Nat → Nat, pk 0 = 0 ∧ (∀ T, T < i + 1 → J 46 T = Int32.ofNat (pk T) ∧ pk T ≤ 1000000) ∧ ∀ T, 0 < T → T < i + 1 → PK1 l sz P n pk T) _ (2 ^ n - 1) ?_ ?_ ⟨I, rfl, fun _ _ _ => rfl, fun _ => 0, rfl, fun T hT => ⟨by rw [show T = 0 by omega]; exact h0, Nat.zero_le _⟩, fun T h1 h2 => by omega⟩)
  · intro i hi st hst
    obtain ⟨J, rfl, j1, pk, j2, j3, j4⟩ := hst
    have hS : i + 1 < 2 ^ n := by omega
    obtain ⟨b, w1, m, rfl, m1, m2, m3⟩ := x_least (I := J) (S := i + 1) (pk := pk) (l := l) (sz := sz) (P := P) (n := n) H hn hS (fun r hr => ⟨(hl r hr).1, by rw [j1 44 r (by omega)]; exact (hl r hr).2⟩) (by rw [j1 43 6 (by omega)]; exact e6) (by rw [j1 43 7 (by omega)]; exact e7) (fun p hp => by rw [j1 45 p (by omega)]; exact h45 p hp) j3
    try dsimp only
    rw [if_neg (show ¬ Int32.ofNat (2 ^ n - 1) < Int32.ofNat (i + 1) from nlt_l (by omega) (by omega) (by omega)), if_pos (show Int32.ofNat (i + 1) < (4096 : Int32) from lt_l (b := 4096) (by omega) (by omega))]
    have hpk : ∀ T, T < i + 1 → (fun T => if T = i + 1 then m else pk T) T = pk T := fun T hT => if_neg (by omega)
    refine ⟨(Int32.ofNat (i + 1 + 1), ab_up1 J 46 (i + 1) (Int32.ofNat m)), (congrArg (fun z => Option.bind z _) (show _ = some (Int32.ofNat m) from w1)).trans (by rw [ob_some, put_ok (a := 46) (n := 4096) rfl (by decide) (by decide) (by omega), ob_some, i_addr]), _, rfl, fun a k z => by rw [up_ne (by omega), j1 a k z], fun T => if T = i + 1 then m else pk T, (hpk 0 (by omega)).trans j2, fun T hT => ?_, fun T h1 h2 => ?_⟩
    · by_cases z : T = i + 1
      · subst z
        try dsimp only
        rw [up_eq, if_pos rfl]
        exact ⟨rfl, m1⟩
      · rw [hpk T (by omega), up_ne (fun y => z y.2)]
        exact j3 T (by omega)
    · have hx : ∀ r, T.testBit r = true → (fun T => if T = i + 1 then m else pk T) (T ^^^ 2 ^ r) = pk (T ^^^ 2 ^ r) := fun r hr => by
        have := x_less (show T < 2 ^ n by omega) hr
        exact hpk _ (by omega)
      by_cases z : T = i + 1
      · have eT : (fun T => if T = i + 1 then m else pk T) T = m := if_pos z
        unfold PK1
        rw [eT]
        refine ⟨fun r hr hrb => by rw [hx r hrb, z]; exact m2 r hr (by rw [← z]; exact hrb), ?_⟩
        rcases m3 with ⟨r, r1, r2, r3⟩ | m3
        · exact Or.inl ⟨r, r1, by rw [z]; exact r2, by rw [hx r (by rw [z]; exact r2), z]; exact r3⟩
        · exact Or.inr m3
      · obtain ⟨q1, q2⟩ := j4 T h1 (by omega)
        have eT : (fun T => if T = i + 1 then m else pk T) T = pk T := if_neg z
        unfold PK1
        rw [eT]
        refine ⟨fun r hr hrb => by rw [hx r hrb]; exact q1 r hr hrb, ?_⟩
        rcases q2 with ⟨r, r1, r2, r3⟩ | q2
        · exact Or.inl ⟨r, r1, r2, by rw [hx r r2]; exact r3⟩
        · exact Or.inr q2
  · intro st hst
    obtain ⟨J, rfl, j1, pk, j2, j3, j4⟩ := hst
    try dsimp only
    rw [if_pos (show Int32.ofNat (2 ^ n - 1) < Int32.ofNat (2 ^ n - 1 + 1) from lt_l (by omega) (by omega))]
    refine ⟨_, rfl, ?_⟩
    obtain ⟨t1, t2⟩ := j3 (2 ^ n - 1) (by omega)
    rw [at_ok (a := 46) (n := 4096) rfl (by decide) (by decide) (by omega), ob_some, t1]
    refine ⟨((if pk (2 ^ n - 1) = 1000000 then -1 else Int32.ofNat (pk (2 ^ n - 1) / 64 + 1)), J), ?_, j1, pk, ⟨j2, fun S h1 h2 => j4 S h1 (by omega)⟩, t2, rfl⟩
    by_cases c : pk (2 ^ n - 1) = 1000000
    · rw [if_pos (show Int32.ofNat (pk (2 ^ n - 1)) = 1000000 by rw [c]; rfl), if_pos c, ob_some]
    · rw [if_neg (show ¬ Int32.ofNat (pk (2 ^ n - 1)) = 1000000 from neq_l (b := 1000000) c (by omega) (by decide)), if_neg c, ob_some, show Int32.ofNat (pk (2 ^ n - 1)) / (64 : Int32) = Int32.ofNat (pk (2 ^ n - 1) / 64) from i_divn (n := 64) (by omega) (by decide), i_addr]
end PACK
