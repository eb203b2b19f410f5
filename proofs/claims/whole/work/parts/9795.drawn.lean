theorem dr_low (y : Int32) : ∃ m, m < 32768 ∧ y &&& (32767 : Int32) = Int32.ofNat m := by
  refine ⟨(y.toBitVec &&& 32767#32).toNat, ?_, ?_⟩
  · rw [BitVec.toNat_and]
    exact Nat.lt_of_le_of_lt Nat.and_le_right (by decide)
  · apply Int32.toBitVec_inj.mp
    have e1 : (y &&& (32767 : Int32)).toBitVec = y.toBitVec &&& 32767#32 := rfl
    have e2 : (Int32.ofNat (y.toBitVec &&& 32767#32).toNat).toBitVec = BitVec.ofNat 32 (y.toBitVec &&& 32767#32).toNat := rfl
    rw [e1, e2, BitVec.ofNat_toNat, BitVec.setWidth_eq]
theorem drV_ok (x : Int32) {n : Nat} (h0 : 0 < n) (hn : n < 32768) : ∃ k, k < n ∧ drV x (Int32.ofNat n) = some (Int32.ofNat k) := by
  obtain ⟨m, hm, e⟩ := dr_low (drS x >>> ((16 : Int32) &&& 31))
  refine ⟨m % n, Nat.mod_lt _ h0, ?_⟩
  unfold drV
  rw [e]
  unfold rmd
  rw [if_neg (fun h => by have := (i_eq (a := n) (b := 0) (by omega) (by decide)).mp h; omega)]
  have hd : Int32.ofNat m / Int32.ofNat n = Int32.ofNat (m / n) := by
    apply Int32.toInt_inj.mp
    rw [Int32.toInt_div_of_ne_right _ _ (fun h => by rw [i_neg1 (by omega)] at h; exact h), Int32.toInt_ofNat_of_lt (by omega), Int32.toInt_ofNat_of_lt (by omega), Int32.toInt_ofNat_of_lt (Nat.lt_of_le_of_lt (Nat.div_le_self m n) (by omega))]
    exact (Int.ofNat_tdiv m n).symm
  rw [hd, i_mul, i_sub (Nat.div_mul_le_self m n)]
  refine congrArg (fun z => some (Int32.ofNat z)) ?_
  have := Nat.div_add_mod m n
  rw [Nat.mul_comm] at this
  omega
