/-! draws -/
theorem dr_bits (x : Int32) : ((x.toUInt32 >>> ((16 : Int32).toUInt32 &&& Int32.toUInt32 31)).toInt32) &&& (32767 : Int32) = (x >>> ((16 : Int32) &&& 31)) &&& (32767 : Int32) := by
  apply Int32.toBitVec_inj.mp
  apply BitVec.eq_of_getLsbD_eq
  intro i hi
  have e1 : (((x.toUInt32 >>> ((16 : Int32).toUInt32 &&& Int32.toUInt32 31)).toInt32) &&& (32767 : Int32)).toBitVec = (x.toBitVec >>> 16) &&& 32767#32 := rfl
  have e2 : ((x >>> ((16 : Int32) &&& 31)) &&& (32767 : Int32)).toBitVec = (x.toBitVec.sshiftRight 16) &&& 32767#32 := rfl
  rw [e1, e2, BitVec.getLsbD_and, BitVec.getLsbD_and, BitVec.getLsbD_ushiftRight, BitVec.getLsbD_sshiftRight]
  by_cases h : 16 + i < 32
  · have h1 : decide (32 ≤ i) = false := decide_eq_false (by omega)
    rw [h1, if_pos h]
    rfl
  · have h2 : (32767#32).getLsbD i = false := by
      have h3 : i = 16 ∨ i = 17 ∨ i = 18 ∨ i = 19 ∨ i = 20 ∨ i = 21 ∨ i = 22 ∨ i = 23 ∨ i = 24 ∨ i = 25 ∨ i = 26 ∨ i = 27 ∨ i = 28 ∨ i = 29 ∨ i = 30 ∨ i = 31 := by omega
      rcases h3 with rfl | rfl | rfl | rfl | rfl | rfl | rfl | rfl | rfl | rfl | rfl | rfl | rfl | rfl | rfl | rfl <;> rfl
    rw [h2, Bool.and_false, Bool.and_false]
/-- the seed behind a draw, and what is drawn out of 0 .. n - 1 -/
def drS (x : Int32) : Int32 := x * (1103515245 : Int32) + (12345 : Int32)
def drV (x n : Int32) : Option Int32 := rmd ((drS x >>> ((16 : Int32) &&& 31)) &&& (32767 : Int32)) n
theorem x_draw {I : MJ} {n : Int32} (h : 0 < n) : f_tra_draw255 n I = Option.bind (drV (I 28 5) n) fun v => some (v, ab_up1 I 28 5 (drS (I 28 5))) := by
  unfold f_tra_draw255
  rw [if_pos h, dr_bits]
  unfold drV drS
  cases rmd (((I 28 5 * (1103515245 : Int32) + (12345 : Int32)) >>> ((16 : Int32) &&& 31)) &&& (32767 : Int32)) n <;> rfl
theorem m_draw {I : MJ} {n : Int32} : f_m_draw378 n I = Option.bind (drV (I 47 55) n) fun v => some (v, ab_up1 I 47 55 (drS (I 47 55))) := rfl
