/-! reads and writes at the addresses of the made heap (written by wip/whole/gen_base.py) -/
theorem KS_in {a n : Nat} {t : Nat} (h : KS a = (t, n)) (ht : 100 ≤ t ∧ t < 106) : lna a = (if a < 699 then some (Int32.ofNat n) else none) := by
  unfold lna
  rw [h]
  by_cases ha : a < 699
  · rw [if_pos ha]
    refine if_pos ?_
    simp [ha, ht.1, ht.2]
  · rw [if_neg ha]
    exact if_neg (by simp [ha])
theorem at_ok {a n k : Nat} {I : MJ} (hK : KS a = (100, n)) (ha : a < 699) (hn : n < 2147483648) (hk : k < n) : f_x_at16 a (Int32.ofNat k) I = some (I a k) := by
  unfold f_x_at16
  rw [if_neg (by rw [i_lt0 (by omega)]; exact id), KS_in hK (by decide), if_pos ha, ob_some, if_pos (by rw [i_lt (by omega) hn]; exact hk), rd_ok hK hk ha hn]
  rfl
theorem put_ok {a n k : Nat} {I : MJ} {x : Int32} (hK : KS a = (100, n)) (ha : a < 699) (hn : n < 2147483648) (hk : k < n) : f_x_put15 a (Int32.ofNat k) x I = some (ab_up1 I a k x) := by
  unfold f_x_put15
  rw [if_neg (by rw [i_lt0 (by omega)]; exact id), KS_in hK (by decide), if_pos ha, ob_some, if_pos (by rw [i_lt (by omega) hn]; exact hk), wr_ok hK hk ha hn]
  rfl
theorem put_no {a n k : Nat} {I : MJ} {x : Int32} (hK : KS a = (100, n)) (ha : a < 699) (hn : n < 2147483648) (hk : n ≤ k) (hk2 : k < 2147483648) : f_x_put15 a (Int32.ofNat k) x I = some I := by
  unfold f_x_put15
  rw [if_neg (by rw [i_lt0 (by omega)]; exact id), KS_in hK (by decide), if_pos ha, ob_some, if_neg (by rw [i_lt (by omega) hn]; omega)]
  rfl
theorem rdb_2 {k : Nat} {I : MJ} (hk : k < 600) : rdb I 2 (Int32.ofNat k) = some (I 2 k) := rdb_ok (Or.inl (show KS 2 = (101, 600) from rfl)) hk (by decide) (by decide)
theorem wrb_2 {k : Nat} {I : MJ} {x : Int32} (hk : k < 600) : wrb I 2 (Int32.ofNat k) x = some (ab_up1 I 2 k (vp_nar .byte x)) := by
  unfold wrb
  rw [i_in (by omega), i_clamp (by omega), show KS 2 = (101, 600) from rfl, decide_eq_true hk]
  rfl
theorem at_4 {k : Nat} {I : MJ} (hk : k < 10) : f_x_at16 4 (Int32.ofNat k) I = some (I 4 k) := at_ok (show KS 4 = (100, 10) from rfl) (by decide) (by decide) hk
theorem atl_4 {k : Nat} {I : MJ} (hk : (OfNat.ofNat k : Nat) < 10) : f_x_at16 4 (no_index (OfNat.ofNat k)) I = some (I 4 (OfNat.ofNat k)) := at_ok (show KS 4 = (100, 10) from rfl) (by decide) (by decide) hk
theorem put_4 {k : Nat} {I : MJ} {x : Int32} (hk : k < 10) : f_x_put15 4 (Int32.ofNat k) x I = some (ab_up1 I 4 k x) := put_ok (show KS 4 = (100, 10) from rfl) (by decide) (by decide) hk
theorem putl_4 {k : Nat} {I : MJ} {x : Int32} (hk : (OfNat.ofNat k : Nat) < 10) : f_x_put15 4 (no_index (OfNat.ofNat k)) x I = some (ab_up1 I 4 (OfNat.ofNat k) x) := put_ok (show KS 4 = (100, 10) from rfl) (by decide) (by decide) hk
theorem at_5 {k : Nat} {I : MJ} (hk : k < 10) : f_x_at16 5 (Int32.ofNat k) I = some (I 5 k) := at_ok (show KS 5 = (100, 10) from rfl) (by decide) (by decide) hk
theorem atl_5 {k : Nat} {I : MJ} (hk : (OfNat.ofNat k : Nat) < 10) : f_x_at16 5 (no_index (OfNat.ofNat k)) I = some (I 5 (OfNat.ofNat k)) := at_ok (show KS 5 = (100, 10) from rfl) (by decide) (by decide) hk
theorem put_5 {k : Nat} {I : MJ} {x : Int32} (hk : k < 10) : f_x_put15 5 (Int32.ofNat k) x I = some (ab_up1 I 5 k x) := put_ok (show KS 5 = (100, 10) from rfl) (by decide) (by decide) hk
theorem putl_5 {k : Nat} {I : MJ} {x : Int32} (hk : (OfNat.ofNat k : Nat) < 10) : f_x_put15 5 (no_index (OfNat.ofNat k)) x I = some (ab_up1 I 5 (OfNat.ofNat k) x) := put_ok (show KS 5 = (100, 10) from rfl) (by decide) (by decide) hk
theorem at_6 {k : Nat} {I : MJ} (hk : k < 6) : f_x_at16 6 (Int32.ofNat k) I = some (I 6 k) := at_ok (show KS 6 = (100, 6) from rfl) (by decide) (by decide) hk
theorem atl_6 {k : Nat} {I : MJ} (hk : (OfNat.ofNat k : Nat) < 6) : f_x_at16 6 (no_index (OfNat.ofNat k)) I = some (I 6 (OfNat.ofNat k)) := at_ok (show KS 6 = (100, 6) from rfl) (by decide) (by decide) hk
theorem put_6 {k : Nat} {I : MJ} {x : Int32} (hk : k < 6) : f_x_put15 6 (Int32.ofNat k) x I = some (ab_up1 I 6 k x) := put_ok (show KS 6 = (100, 6) from rfl) (by decide) (by decide) hk
theorem putl_6 {k : Nat} {I : MJ} {x : Int32} (hk : (OfNat.ofNat k : Nat) < 6) : f_x_put15 6 (no_index (OfNat.ofNat k)) x I = some (ab_up1 I 6 (OfNat.ofNat k) x) := put_ok (show KS 6 = (100, 6) from rfl) (by decide) (by decide) hk
theorem at_7 {k : Nat} {I : MJ} (hk : k < 80) : f_x_at16 7 (Int32.ofNat k) I = some (I 7 k) := at_ok (show KS 7 = (100, 80) from rfl) (by decide) (by decide) hk
theorem atl_7 {k : Nat} {I : MJ} (hk : (OfNat.ofNat k : Nat) < 80) : f_x_at16 7 (no_index (OfNat.ofNat k)) I = some (I 7 (OfNat.ofNat k)) := at_ok (show KS 7 = (100, 80) from rfl) (by decide) (by decide) hk
theorem put_7 {k : Nat} {I : MJ} {x : Int32} (hk : k < 80) : f_x_put15 7 (Int32.ofNat k) x I = some (ab_up1 I 7 k x) := put_ok (show KS 7 = (100, 80) from rfl) (by decide) (by decide) hk
theorem putl_7 {k : Nat} {I : MJ} {x : Int32} (hk : (OfNat.ofNat k : Nat) < 80) : f_x_put15 7 (no_index (OfNat.ofNat k)) x I = some (ab_up1 I 7 (OfNat.ofNat k) x) := put_ok (show KS 7 = (100, 80) from rfl) (by decide) (by decide) hk
theorem at_8 {k : Nat} {I : MJ} (hk : k < 40) : f_x_at16 8 (Int32.ofNat k) I = some (I 8 k) := at_ok (show KS 8 = (100, 40) from rfl) (by decide) (by decide) hk
theorem atl_8 {k : Nat} {I : MJ} (hk : (OfNat.ofNat k : Nat) < 40) : f_x_at16 8 (no_index (OfNat.ofNat k)) I = some (I 8 (OfNat.ofNat k)) := at_ok (show KS 8 = (100, 40) from rfl) (by decide) (by decide) hk
theorem put_8 {k : Nat} {I : MJ} {x : Int32} (hk : k < 40) : f_x_put15 8 (Int32.ofNat k) x I = some (ab_up1 I 8 k x) := put_ok (show KS 8 = (100, 40) from rfl) (by decide) (by decide) hk
theorem putl_8 {k : Nat} {I : MJ} {x : Int32} (hk : (OfNat.ofNat k : Nat) < 40) : f_x_put15 8 (no_index (OfNat.ofNat k)) x I = some (ab_up1 I 8 (OfNat.ofNat k) x) := put_ok (show KS 8 = (100, 40) from rfl) (by decide) (by decide) hk
theorem at_10 {k : Nat} {I : MJ} (hk : k < 10) : f_x_at16 10 (Int32.ofNat k) I = some (I 10 k) := at_ok (show KS 10 = (100, 10) from rfl) (by decide) (by decide) hk
theorem atl_10 {k : Nat} {I : MJ} (hk : (OfNat.ofNat k : Nat) < 10) : f_x_at16 10 (no_index (OfNat.ofNat k)) I = some (I 10 (OfNat.ofNat k)) := at_ok (show KS 10 = (100, 10) from rfl) (by decide) (by decide) hk
theorem put_10 {k : Nat} {I : MJ} {x : Int32} (hk : k < 10) : f_x_put15 10 (Int32.ofNat k) x I = some (ab_up1 I 10 k x) := put_ok (show KS 10 = (100, 10) from rfl) (by decide) (by decide) hk
theorem putl_10 {k : Nat} {I : MJ} {x : Int32} (hk : (OfNat.ofNat k : Nat) < 10) : f_x_put15 10 (no_index (OfNat.ofNat k)) x I = some (ab_up1 I 10 (OfNat.ofNat k) x) := put_ok (show KS 10 = (100, 10) from rfl) (by decide) (by decide) hk
theorem at_11 {k : Nat} {I : MJ} (hk : k < 10) : f_x_at16 11 (Int32.ofNat k) I = some (I 11 k) := at_ok (show KS 11 = (100, 10) from rfl) (by decide) (by decide) hk
theorem atl_11 {k : Nat} {I : MJ} (hk : (OfNat.ofNat k : Nat) < 10) : f_x_at16 11 (no_index (OfNat.ofNat k)) I = some (I 11 (OfNat.ofNat k)) := at_ok (show KS 11 = (100, 10) from rfl) (by decide) (by decide) hk
theorem put_11 {k : Nat} {I : MJ} {x : Int32} (hk : k < 10) : f_x_put15 11 (Int32.ofNat k) x I = some (ab_up1 I 11 k x) := put_ok (show KS 11 = (100, 10) from rfl) (by decide) (by decide) hk
theorem putl_11 {k : Nat} {I : MJ} {x : Int32} (hk : (OfNat.ofNat k : Nat) < 10) : f_x_put15 11 (no_index (OfNat.ofNat k)) x I = some (ab_up1 I 11 (OfNat.ofNat k) x) := put_ok (show KS 11 = (100, 10) from rfl) (by decide) (by decide) hk
theorem at_12 {k : Nat} {I : MJ} (hk : k < 6) : f_x_at16 12 (Int32.ofNat k) I = some (I 12 k) := at_ok (show KS 12 = (100, 6) from rfl) (by decide) (by decide) hk
theorem atl_12 {k : Nat} {I : MJ} (hk : (OfNat.ofNat k : Nat) < 6) : f_x_at16 12 (no_index (OfNat.ofNat k)) I = some (I 12 (OfNat.ofNat k)) := at_ok (show KS 12 = (100, 6) from rfl) (by decide) (by decide) hk
theorem put_12 {k : Nat} {I : MJ} {x : Int32} (hk : k < 6) : f_x_put15 12 (Int32.ofNat k) x I = some (ab_up1 I 12 k x) := put_ok (show KS 12 = (100, 6) from rfl) (by decide) (by decide) hk
theorem putl_12 {k : Nat} {I : MJ} {x : Int32} (hk : (OfNat.ofNat k : Nat) < 6) : f_x_put15 12 (no_index (OfNat.ofNat k)) x I = some (ab_up1 I 12 (OfNat.ofNat k) x) := put_ok (show KS 12 = (100, 6) from rfl) (by decide) (by decide) hk
theorem at_13 {k : Nat} {I : MJ} (hk : k < 80) : f_x_at16 13 (Int32.ofNat k) I = some (I 13 k) := at_ok (show KS 13 = (100, 80) from rfl) (by decide) (by decide) hk
theorem atl_13 {k : Nat} {I : MJ} (hk : (OfNat.ofNat k : Nat) < 80) : f_x_at16 13 (no_index (OfNat.ofNat k)) I = some (I 13 (OfNat.ofNat k)) := at_ok (show KS 13 = (100, 80) from rfl) (by decide) (by decide) hk
theorem put_13 {k : Nat} {I : MJ} {x : Int32} (hk : k < 80) : f_x_put15 13 (Int32.ofNat k) x I = some (ab_up1 I 13 k x) := put_ok (show KS 13 = (100, 80) from rfl) (by decide) (by decide) hk
theorem putl_13 {k : Nat} {I : MJ} {x : Int32} (hk : (OfNat.ofNat k : Nat) < 80) : f_x_put15 13 (no_index (OfNat.ofNat k)) x I = some (ab_up1 I 13 (OfNat.ofNat k) x) := put_ok (show KS 13 = (100, 80) from rfl) (by decide) (by decide) hk
theorem at_14 {k : Nat} {I : MJ} (hk : k < 40) : f_x_at16 14 (Int32.ofNat k) I = some (I 14 k) := at_ok (show KS 14 = (100, 40) from rfl) (by decide) (by decide) hk
theorem atl_14 {k : Nat} {I : MJ} (hk : (OfNat.ofNat k : Nat) < 40) : f_x_at16 14 (no_index (OfNat.ofNat k)) I = some (I 14 (OfNat.ofNat k)) := at_ok (show KS 14 = (100, 40) from rfl) (by decide) (by decide) hk
theorem put_14 {k : Nat} {I : MJ} {x : Int32} (hk : k < 40) : f_x_put15 14 (Int32.ofNat k) x I = some (ab_up1 I 14 k x) := put_ok (show KS 14 = (100, 40) from rfl) (by decide) (by decide) hk
theorem putl_14 {k : Nat} {I : MJ} {x : Int32} (hk : (OfNat.ofNat k : Nat) < 40) : f_x_put15 14 (no_index (OfNat.ofNat k)) x I = some (ab_up1 I 14 (OfNat.ofNat k) x) := put_ok (show KS 14 = (100, 40) from rfl) (by decide) (by decide) hk
theorem at_16 {k : Nat} {I : MJ} (hk : k < 91) : f_x_at16 16 (Int32.ofNat k) I = some (I 16 k) := at_ok (show KS 16 = (100, 91) from rfl) (by decide) (by decide) hk
theorem atl_16 {k : Nat} {I : MJ} (hk : (OfNat.ofNat k : Nat) < 91) : f_x_at16 16 (no_index (OfNat.ofNat k)) I = some (I 16 (OfNat.ofNat k)) := at_ok (show KS 16 = (100, 91) from rfl) (by decide) (by decide) hk
theorem put_16 {k : Nat} {I : MJ} {x : Int32} (hk : k < 91) : f_x_put15 16 (Int32.ofNat k) x I = some (ab_up1 I 16 k x) := put_ok (show KS 16 = (100, 91) from rfl) (by decide) (by decide) hk
theorem putl_16 {k : Nat} {I : MJ} {x : Int32} (hk : (OfNat.ofNat k : Nat) < 91) : f_x_put15 16 (no_index (OfNat.ofNat k)) x I = some (ab_up1 I 16 (OfNat.ofNat k) x) := put_ok (show KS 16 = (100, 91) from rfl) (by decide) (by decide) hk
theorem at_18 {k : Nat} {I : MJ} (hk : k < 91) : f_x_at16 18 (Int32.ofNat k) I = some (I 18 k) := at_ok (show KS 18 = (100, 91) from rfl) (by decide) (by decide) hk
theorem atl_18 {k : Nat} {I : MJ} (hk : (OfNat.ofNat k : Nat) < 91) : f_x_at16 18 (no_index (OfNat.ofNat k)) I = some (I 18 (OfNat.ofNat k)) := at_ok (show KS 18 = (100, 91) from rfl) (by decide) (by decide) hk
theorem put_18 {k : Nat} {I : MJ} {x : Int32} (hk : k < 91) : f_x_put15 18 (Int32.ofNat k) x I = some (ab_up1 I 18 k x) := put_ok (show KS 18 = (100, 91) from rfl) (by decide) (by decide) hk
theorem putl_18 {k : Nat} {I : MJ} {x : Int32} (hk : (OfNat.ofNat k : Nat) < 91) : f_x_put15 18 (no_index (OfNat.ofNat k)) x I = some (ab_up1 I 18 (OfNat.ofNat k) x) := put_ok (show KS 18 = (100, 91) from rfl) (by decide) (by decide) hk
theorem at_20 {k : Nat} {I : MJ} (hk : k < 72) : f_x_at16 20 (Int32.ofNat k) I = some (I 20 k) := at_ok (show KS 20 = (100, 72) from rfl) (by decide) (by decide) hk
theorem atl_20 {k : Nat} {I : MJ} (hk : (OfNat.ofNat k : Nat) < 72) : f_x_at16 20 (no_index (OfNat.ofNat k)) I = some (I 20 (OfNat.ofNat k)) := at_ok (show KS 20 = (100, 72) from rfl) (by decide) (by decide) hk
theorem put_20 {k : Nat} {I : MJ} {x : Int32} (hk : k < 72) : f_x_put15 20 (Int32.ofNat k) x I = some (ab_up1 I 20 k x) := put_ok (show KS 20 = (100, 72) from rfl) (by decide) (by decide) hk
theorem putl_20 {k : Nat} {I : MJ} {x : Int32} (hk : (OfNat.ofNat k : Nat) < 72) : f_x_put15 20 (no_index (OfNat.ofNat k)) x I = some (ab_up1 I 20 (OfNat.ofNat k) x) := put_ok (show KS 20 = (100, 72) from rfl) (by decide) (by decide) hk
theorem at_21 {k : Nat} {I : MJ} (hk : k < 84) : f_x_at16 21 (Int32.ofNat k) I = some (I 21 k) := at_ok (show KS 21 = (100, 84) from rfl) (by decide) (by decide) hk
theorem atl_21 {k : Nat} {I : MJ} (hk : (OfNat.ofNat k : Nat) < 84) : f_x_at16 21 (no_index (OfNat.ofNat k)) I = some (I 21 (OfNat.ofNat k)) := at_ok (show KS 21 = (100, 84) from rfl) (by decide) (by decide) hk
theorem put_21 {k : Nat} {I : MJ} {x : Int32} (hk : k < 84) : f_x_put15 21 (Int32.ofNat k) x I = some (ab_up1 I 21 k x) := put_ok (show KS 21 = (100, 84) from rfl) (by decide) (by decide) hk
theorem putl_21 {k : Nat} {I : MJ} {x : Int32} (hk : (OfNat.ofNat k : Nat) < 84) : f_x_put15 21 (no_index (OfNat.ofNat k)) x I = some (ab_up1 I 21 (OfNat.ofNat k) x) := put_ok (show KS 21 = (100, 84) from rfl) (by decide) (by decide) hk
theorem at_22 {k : Nat} {I : MJ} (hk : k < 7) : f_x_at16 22 (Int32.ofNat k) I = some (I 22 k) := at_ok (show KS 22 = (100, 7) from rfl) (by decide) (by decide) hk
theorem atl_22 {k : Nat} {I : MJ} (hk : (OfNat.ofNat k : Nat) < 7) : f_x_at16 22 (no_index (OfNat.ofNat k)) I = some (I 22 (OfNat.ofNat k)) := at_ok (show KS 22 = (100, 7) from rfl) (by decide) (by decide) hk
theorem put_22 {k : Nat} {I : MJ} {x : Int32} (hk : k < 7) : f_x_put15 22 (Int32.ofNat k) x I = some (ab_up1 I 22 k x) := put_ok (show KS 22 = (100, 7) from rfl) (by decide) (by decide) hk
theorem putl_22 {k : Nat} {I : MJ} {x : Int32} (hk : (OfNat.ofNat k : Nat) < 7) : f_x_put15 22 (no_index (OfNat.ofNat k)) x I = some (ab_up1 I 22 (OfNat.ofNat k) x) := put_ok (show KS 22 = (100, 7) from rfl) (by decide) (by decide) hk
theorem at_24 {k : Nat} {I : MJ} (hk : k < 150) : f_x_at16 24 (Int32.ofNat k) I = some (I 24 k) := at_ok (show KS 24 = (100, 150) from rfl) (by decide) (by decide) hk
theorem atl_24 {k : Nat} {I : MJ} (hk : (OfNat.ofNat k : Nat) < 150) : f_x_at16 24 (no_index (OfNat.ofNat k)) I = some (I 24 (OfNat.ofNat k)) := at_ok (show KS 24 = (100, 150) from rfl) (by decide) (by decide) hk
theorem put_24 {k : Nat} {I : MJ} {x : Int32} (hk : k < 150) : f_x_put15 24 (Int32.ofNat k) x I = some (ab_up1 I 24 k x) := put_ok (show KS 24 = (100, 150) from rfl) (by decide) (by decide) hk
theorem putl_24 {k : Nat} {I : MJ} {x : Int32} (hk : (OfNat.ofNat k : Nat) < 150) : f_x_put15 24 (no_index (OfNat.ofNat k)) x I = some (ab_up1 I 24 (OfNat.ofNat k) x) := put_ok (show KS 24 = (100, 150) from rfl) (by decide) (by decide) hk
theorem at_25 {k : Nat} {I : MJ} (hk : k < 150) : f_x_at16 25 (Int32.ofNat k) I = some (I 25 k) := at_ok (show KS 25 = (100, 150) from rfl) (by decide) (by decide) hk
theorem atl_25 {k : Nat} {I : MJ} (hk : (OfNat.ofNat k : Nat) < 150) : f_x_at16 25 (no_index (OfNat.ofNat k)) I = some (I 25 (OfNat.ofNat k)) := at_ok (show KS 25 = (100, 150) from rfl) (by decide) (by decide) hk
theorem put_25 {k : Nat} {I : MJ} {x : Int32} (hk : k < 150) : f_x_put15 25 (Int32.ofNat k) x I = some (ab_up1 I 25 k x) := put_ok (show KS 25 = (100, 150) from rfl) (by decide) (by decide) hk
theorem putl_25 {k : Nat} {I : MJ} {x : Int32} (hk : (OfNat.ofNat k : Nat) < 150) : f_x_put15 25 (no_index (OfNat.ofNat k)) x I = some (ab_up1 I 25 (OfNat.ofNat k) x) := put_ok (show KS 25 = (100, 150) from rfl) (by decide) (by decide) hk
theorem at_26 {k : Nat} {I : MJ} (hk : k < 64) : f_x_at16 26 (Int32.ofNat k) I = some (I 26 k) := at_ok (show KS 26 = (100, 64) from rfl) (by decide) (by decide) hk
theorem atl_26 {k : Nat} {I : MJ} (hk : (OfNat.ofNat k : Nat) < 64) : f_x_at16 26 (no_index (OfNat.ofNat k)) I = some (I 26 (OfNat.ofNat k)) := at_ok (show KS 26 = (100, 64) from rfl) (by decide) (by decide) hk
theorem put_26 {k : Nat} {I : MJ} {x : Int32} (hk : k < 64) : f_x_put15 26 (Int32.ofNat k) x I = some (ab_up1 I 26 k x) := put_ok (show KS 26 = (100, 64) from rfl) (by decide) (by decide) hk
theorem putl_26 {k : Nat} {I : MJ} {x : Int32} (hk : (OfNat.ofNat k : Nat) < 64) : f_x_put15 26 (no_index (OfNat.ofNat k)) x I = some (ab_up1 I 26 (OfNat.ofNat k) x) := put_ok (show KS 26 = (100, 64) from rfl) (by decide) (by decide) hk
theorem at_27 {k : Nat} {I : MJ} (hk : k < 6) : f_x_at16 27 (Int32.ofNat k) I = some (I 27 k) := at_ok (show KS 27 = (100, 6) from rfl) (by decide) (by decide) hk
theorem atl_27 {k : Nat} {I : MJ} (hk : (OfNat.ofNat k : Nat) < 6) : f_x_at16 27 (no_index (OfNat.ofNat k)) I = some (I 27 (OfNat.ofNat k)) := at_ok (show KS 27 = (100, 6) from rfl) (by decide) (by decide) hk
theorem put_27 {k : Nat} {I : MJ} {x : Int32} (hk : k < 6) : f_x_put15 27 (Int32.ofNat k) x I = some (ab_up1 I 27 k x) := put_ok (show KS 27 = (100, 6) from rfl) (by decide) (by decide) hk
theorem putl_27 {k : Nat} {I : MJ} {x : Int32} (hk : (OfNat.ofNat k : Nat) < 6) : f_x_put15 27 (no_index (OfNat.ofNat k)) x I = some (ab_up1 I 27 (OfNat.ofNat k) x) := put_ok (show KS 27 = (100, 6) from rfl) (by decide) (by decide) hk
theorem at_30 {k : Nat} {I : MJ} (hk : k < 256) : f_x_at16 30 (Int32.ofNat k) I = some (I 30 k) := at_ok (show KS 30 = (100, 256) from rfl) (by decide) (by decide) hk
theorem atl_30 {k : Nat} {I : MJ} (hk : (OfNat.ofNat k : Nat) < 256) : f_x_at16 30 (no_index (OfNat.ofNat k)) I = some (I 30 (OfNat.ofNat k)) := at_ok (show KS 30 = (100, 256) from rfl) (by decide) (by decide) hk
theorem put_30 {k : Nat} {I : MJ} {x : Int32} (hk : k < 256) : f_x_put15 30 (Int32.ofNat k) x I = some (ab_up1 I 30 k x) := put_ok (show KS 30 = (100, 256) from rfl) (by decide) (by decide) hk
theorem putl_30 {k : Nat} {I : MJ} {x : Int32} (hk : (OfNat.ofNat k : Nat) < 256) : f_x_put15 30 (no_index (OfNat.ofNat k)) x I = some (ab_up1 I 30 (OfNat.ofNat k) x) := put_ok (show KS 30 = (100, 256) from rfl) (by decide) (by decide) hk
theorem at_32 {k : Nat} {I : MJ} (hk : k < 1456) : f_x_at16 32 (Int32.ofNat k) I = some (I 32 k) := at_ok (show KS 32 = (100, 1456) from rfl) (by decide) (by decide) hk
theorem atl_32 {k : Nat} {I : MJ} (hk : (OfNat.ofNat k : Nat) < 1456) : f_x_at16 32 (no_index (OfNat.ofNat k)) I = some (I 32 (OfNat.ofNat k)) := at_ok (show KS 32 = (100, 1456) from rfl) (by decide) (by decide) hk
theorem put_32 {k : Nat} {I : MJ} {x : Int32} (hk : k < 1456) : f_x_put15 32 (Int32.ofNat k) x I = some (ab_up1 I 32 k x) := put_ok (show KS 32 = (100, 1456) from rfl) (by decide) (by decide) hk
theorem putl_32 {k : Nat} {I : MJ} {x : Int32} (hk : (OfNat.ofNat k : Nat) < 1456) : f_x_put15 32 (no_index (OfNat.ofNat k)) x I = some (ab_up1 I 32 (OfNat.ofNat k) x) := put_ok (show KS 32 = (100, 1456) from rfl) (by decide) (by decide) hk
theorem at_33 {k : Nat} {I : MJ} (hk : k < 4641) : f_x_at16 33 (Int32.ofNat k) I = some (I 33 k) := at_ok (show KS 33 = (100, 4641) from rfl) (by decide) (by decide) hk
theorem atl_33 {k : Nat} {I : MJ} (hk : (OfNat.ofNat k : Nat) < 4641) : f_x_at16 33 (no_index (OfNat.ofNat k)) I = some (I 33 (OfNat.ofNat k)) := at_ok (show KS 33 = (100, 4641) from rfl) (by decide) (by decide) hk
theorem put_33 {k : Nat} {I : MJ} {x : Int32} (hk : k < 4641) : f_x_put15 33 (Int32.ofNat k) x I = some (ab_up1 I 33 k x) := put_ok (show KS 33 = (100, 4641) from rfl) (by decide) (by decide) hk
theorem putl_33 {k : Nat} {I : MJ} {x : Int32} (hk : (OfNat.ofNat k : Nat) < 4641) : f_x_put15 33 (no_index (OfNat.ofNat k)) x I = some (ab_up1 I 33 (OfNat.ofNat k) x) := put_ok (show KS 33 = (100, 4641) from rfl) (by decide) (by decide) hk
theorem at_34 {k : Nat} {I : MJ} (hk : k < 3) : f_x_at16 34 (Int32.ofNat k) I = some (I 34 k) := at_ok (show KS 34 = (100, 3) from rfl) (by decide) (by decide) hk
theorem atl_34 {k : Nat} {I : MJ} (hk : (OfNat.ofNat k : Nat) < 3) : f_x_at16 34 (no_index (OfNat.ofNat k)) I = some (I 34 (OfNat.ofNat k)) := at_ok (show KS 34 = (100, 3) from rfl) (by decide) (by decide) hk
theorem put_34 {k : Nat} {I : MJ} {x : Int32} (hk : k < 3) : f_x_put15 34 (Int32.ofNat k) x I = some (ab_up1 I 34 k x) := put_ok (show KS 34 = (100, 3) from rfl) (by decide) (by decide) hk
theorem putl_34 {k : Nat} {I : MJ} {x : Int32} (hk : (OfNat.ofNat k : Nat) < 3) : f_x_put15 34 (no_index (OfNat.ofNat k)) x I = some (ab_up1 I 34 (OfNat.ofNat k) x) := put_ok (show KS 34 = (100, 3) from rfl) (by decide) (by decide) hk
theorem at_36 {k : Nat} {I : MJ} (hk : k < 12) : f_x_at16 36 (Int32.ofNat k) I = some (I 36 k) := at_ok (show KS 36 = (100, 12) from rfl) (by decide) (by decide) hk
theorem atl_36 {k : Nat} {I : MJ} (hk : (OfNat.ofNat k : Nat) < 12) : f_x_at16 36 (no_index (OfNat.ofNat k)) I = some (I 36 (OfNat.ofNat k)) := at_ok (show KS 36 = (100, 12) from rfl) (by decide) (by decide) hk
theorem put_36 {k : Nat} {I : MJ} {x : Int32} (hk : k < 12) : f_x_put15 36 (Int32.ofNat k) x I = some (ab_up1 I 36 k x) := put_ok (show KS 36 = (100, 12) from rfl) (by decide) (by decide) hk
theorem putl_36 {k : Nat} {I : MJ} {x : Int32} (hk : (OfNat.ofNat k : Nat) < 12) : f_x_put15 36 (no_index (OfNat.ofNat k)) x I = some (ab_up1 I 36 (OfNat.ofNat k) x) := put_ok (show KS 36 = (100, 12) from rfl) (by decide) (by decide) hk
theorem at_37 {k : Nat} {I : MJ} (hk : k < 12) : f_x_at16 37 (Int32.ofNat k) I = some (I 37 k) := at_ok (show KS 37 = (100, 12) from rfl) (by decide) (by decide) hk
theorem atl_37 {k : Nat} {I : MJ} (hk : (OfNat.ofNat k : Nat) < 12) : f_x_at16 37 (no_index (OfNat.ofNat k)) I = some (I 37 (OfNat.ofNat k)) := at_ok (show KS 37 = (100, 12) from rfl) (by decide) (by decide) hk
theorem put_37 {k : Nat} {I : MJ} {x : Int32} (hk : k < 12) : f_x_put15 37 (Int32.ofNat k) x I = some (ab_up1 I 37 k x) := put_ok (show KS 37 = (100, 12) from rfl) (by decide) (by decide) hk
theorem putl_37 {k : Nat} {I : MJ} {x : Int32} (hk : (OfNat.ofNat k : Nat) < 12) : f_x_put15 37 (no_index (OfNat.ofNat k)) x I = some (ab_up1 I 37 (OfNat.ofNat k) x) := put_ok (show KS 37 = (100, 12) from rfl) (by decide) (by decide) hk
theorem at_38 {k : Nat} {I : MJ} (hk : k < 72) : f_x_at16 38 (Int32.ofNat k) I = some (I 38 k) := at_ok (show KS 38 = (100, 72) from rfl) (by decide) (by decide) hk
theorem atl_38 {k : Nat} {I : MJ} (hk : (OfNat.ofNat k : Nat) < 72) : f_x_at16 38 (no_index (OfNat.ofNat k)) I = some (I 38 (OfNat.ofNat k)) := at_ok (show KS 38 = (100, 72) from rfl) (by decide) (by decide) hk
theorem put_38 {k : Nat} {I : MJ} {x : Int32} (hk : k < 72) : f_x_put15 38 (Int32.ofNat k) x I = some (ab_up1 I 38 k x) := put_ok (show KS 38 = (100, 72) from rfl) (by decide) (by decide) hk
theorem putl_38 {k : Nat} {I : MJ} {x : Int32} (hk : (OfNat.ofNat k : Nat) < 72) : f_x_put15 38 (no_index (OfNat.ofNat k)) x I = some (ab_up1 I 38 (OfNat.ofNat k) x) := put_ok (show KS 38 = (100, 72) from rfl) (by decide) (by decide) hk
theorem at_40 {k : Nat} {I : MJ} (hk : k < 12) : f_x_at16 40 (Int32.ofNat k) I = some (I 40 k) := at_ok (show KS 40 = (100, 12) from rfl) (by decide) (by decide) hk
theorem atl_40 {k : Nat} {I : MJ} (hk : (OfNat.ofNat k : Nat) < 12) : f_x_at16 40 (no_index (OfNat.ofNat k)) I = some (I 40 (OfNat.ofNat k)) := at_ok (show KS 40 = (100, 12) from rfl) (by decide) (by decide) hk
theorem put_40 {k : Nat} {I : MJ} {x : Int32} (hk : k < 12) : f_x_put15 40 (Int32.ofNat k) x I = some (ab_up1 I 40 k x) := put_ok (show KS 40 = (100, 12) from rfl) (by decide) (by decide) hk
theorem putl_40 {k : Nat} {I : MJ} {x : Int32} (hk : (OfNat.ofNat k : Nat) < 12) : f_x_put15 40 (no_index (OfNat.ofNat k)) x I = some (ab_up1 I 40 (OfNat.ofNat k) x) := put_ok (show KS 40 = (100, 12) from rfl) (by decide) (by decide) hk
theorem at_41 {k : Nat} {I : MJ} (hk : k < 864) : f_x_at16 41 (Int32.ofNat k) I = some (I 41 k) := at_ok (show KS 41 = (100, 864) from rfl) (by decide) (by decide) hk
theorem atl_41 {k : Nat} {I : MJ} (hk : (OfNat.ofNat k : Nat) < 864) : f_x_at16 41 (no_index (OfNat.ofNat k)) I = some (I 41 (OfNat.ofNat k)) := at_ok (show KS 41 = (100, 864) from rfl) (by decide) (by decide) hk
theorem put_41 {k : Nat} {I : MJ} {x : Int32} (hk : k < 864) : f_x_put15 41 (Int32.ofNat k) x I = some (ab_up1 I 41 k x) := put_ok (show KS 41 = (100, 864) from rfl) (by decide) (by decide) hk
theorem putl_41 {k : Nat} {I : MJ} {x : Int32} (hk : (OfNat.ofNat k : Nat) < 864) : f_x_put15 41 (no_index (OfNat.ofNat k)) x I = some (ab_up1 I 41 (OfNat.ofNat k) x) := put_ok (show KS 41 = (100, 864) from rfl) (by decide) (by decide) hk
theorem at_42 {k : Nat} {I : MJ} (hk : k < 36) : f_x_at16 42 (Int32.ofNat k) I = some (I 42 k) := at_ok (show KS 42 = (100, 36) from rfl) (by decide) (by decide) hk
theorem atl_42 {k : Nat} {I : MJ} (hk : (OfNat.ofNat k : Nat) < 36) : f_x_at16 42 (no_index (OfNat.ofNat k)) I = some (I 42 (OfNat.ofNat k)) := at_ok (show KS 42 = (100, 36) from rfl) (by decide) (by decide) hk
theorem put_42 {k : Nat} {I : MJ} {x : Int32} (hk : k < 36) : f_x_put15 42 (Int32.ofNat k) x I = some (ab_up1 I 42 k x) := put_ok (show KS 42 = (100, 36) from rfl) (by decide) (by decide) hk
theorem putl_42 {k : Nat} {I : MJ} {x : Int32} (hk : (OfNat.ofNat k : Nat) < 36) : f_x_put15 42 (no_index (OfNat.ofNat k)) x I = some (ab_up1 I 42 (OfNat.ofNat k) x) := put_ok (show KS 42 = (100, 36) from rfl) (by decide) (by decide) hk
theorem at_44 {k : Nat} {I : MJ} (hk : k < 12) : f_x_at16 44 (Int32.ofNat k) I = some (I 44 k) := at_ok (show KS 44 = (100, 12) from rfl) (by decide) (by decide) hk
theorem atl_44 {k : Nat} {I : MJ} (hk : (OfNat.ofNat k : Nat) < 12) : f_x_at16 44 (no_index (OfNat.ofNat k)) I = some (I 44 (OfNat.ofNat k)) := at_ok (show KS 44 = (100, 12) from rfl) (by decide) (by decide) hk
theorem put_44 {k : Nat} {I : MJ} {x : Int32} (hk : k < 12) : f_x_put15 44 (Int32.ofNat k) x I = some (ab_up1 I 44 k x) := put_ok (show KS 44 = (100, 12) from rfl) (by decide) (by decide) hk
theorem putl_44 {k : Nat} {I : MJ} {x : Int32} (hk : (OfNat.ofNat k : Nat) < 12) : f_x_put15 44 (no_index (OfNat.ofNat k)) x I = some (ab_up1 I 44 (OfNat.ofNat k) x) := put_ok (show KS 44 = (100, 12) from rfl) (by decide) (by decide) hk
theorem at_45 {k : Nat} {I : MJ} (hk : k < 10) : f_x_at16 45 (Int32.ofNat k) I = some (I 45 k) := at_ok (show KS 45 = (100, 10) from rfl) (by decide) (by decide) hk
theorem atl_45 {k : Nat} {I : MJ} (hk : (OfNat.ofNat k : Nat) < 10) : f_x_at16 45 (no_index (OfNat.ofNat k)) I = some (I 45 (OfNat.ofNat k)) := at_ok (show KS 45 = (100, 10) from rfl) (by decide) (by decide) hk
theorem put_45 {k : Nat} {I : MJ} {x : Int32} (hk : k < 10) : f_x_put15 45 (Int32.ofNat k) x I = some (ab_up1 I 45 k x) := put_ok (show KS 45 = (100, 10) from rfl) (by decide) (by decide) hk
theorem putl_45 {k : Nat} {I : MJ} {x : Int32} (hk : (OfNat.ofNat k : Nat) < 10) : f_x_put15 45 (no_index (OfNat.ofNat k)) x I = some (ab_up1 I 45 (OfNat.ofNat k) x) := put_ok (show KS 45 = (100, 10) from rfl) (by decide) (by decide) hk
theorem at_46 {k : Nat} {I : MJ} (hk : k < 4096) : f_x_at16 46 (Int32.ofNat k) I = some (I 46 k) := at_ok (show KS 46 = (100, 4096) from rfl) (by decide) (by decide) hk
theorem atl_46 {k : Nat} {I : MJ} (hk : (OfNat.ofNat k : Nat) < 4096) : f_x_at16 46 (no_index (OfNat.ofNat k)) I = some (I 46 (OfNat.ofNat k)) := at_ok (show KS 46 = (100, 4096) from rfl) (by decide) (by decide) hk
theorem put_46 {k : Nat} {I : MJ} {x : Int32} (hk : k < 4096) : f_x_put15 46 (Int32.ofNat k) x I = some (ab_up1 I 46 k x) := put_ok (show KS 46 = (100, 4096) from rfl) (by decide) (by decide) hk
theorem putl_46 {k : Nat} {I : MJ} {x : Int32} (hk : (OfNat.ofNat k : Nat) < 4096) : f_x_put15 46 (no_index (OfNat.ofNat k)) x I = some (ab_up1 I 46 (OfNat.ofNat k) x) := put_ok (show KS 46 = (100, 4096) from rfl) (by decide) (by decide) hk
theorem rd_48 {k : Nat} {I : MJ} (hk : k < 600) : rd I 48 (Int32.ofNat k) = some (I 48 k) := rd_ok (show KS 48 = (100, 600) from rfl) hk (by decide) (by decide)
theorem rdl_48 {k : Nat} {I : MJ} (hk : (OfNat.ofNat k : Nat) < 600) : rd I 48 (no_index (OfNat.ofNat k)) = some (I 48 (OfNat.ofNat k)) := rd_ok (show KS 48 = (100, 600) from rfl) hk (by decide) (by decide)
theorem wr_48 {k : Nat} {I : MJ} {x : Int32} (hk : k < 600) : wr I 48 (Int32.ofNat k) x = some (ab_up1 I 48 k x) := wr_ok (show KS 48 = (100, 600) from rfl) hk (by decide) (by decide)
theorem wrl_48 {k : Nat} {I : MJ} {x : Int32} (hk : (OfNat.ofNat k : Nat) < 600) : wr I 48 (no_index (OfNat.ofNat k)) x = some (ab_up1 I 48 (OfNat.ofNat k) x) := wr_ok (show KS 48 = (100, 600) from rfl) hk (by decide) (by decide)
theorem rd_49 {k : Nat} {I : MJ} (hk : k < 3) : rd I 49 (Int32.ofNat k) = some (I 49 k) := rd_ok (show KS 49 = (100, 3) from rfl) hk (by decide) (by decide)
theorem rdl_49 {k : Nat} {I : MJ} (hk : (OfNat.ofNat k : Nat) < 3) : rd I 49 (no_index (OfNat.ofNat k)) = some (I 49 (OfNat.ofNat k)) := rd_ok (show KS 49 = (100, 3) from rfl) hk (by decide) (by decide)
theorem wr_49 {k : Nat} {I : MJ} {x : Int32} (hk : k < 3) : wr I 49 (Int32.ofNat k) x = some (ab_up1 I 49 k x) := wr_ok (show KS 49 = (100, 3) from rfl) hk (by decide) (by decide)
theorem wrl_49 {k : Nat} {I : MJ} {x : Int32} (hk : (OfNat.ofNat k : Nat) < 3) : wr I 49 (no_index (OfNat.ofNat k)) x = some (ab_up1 I 49 (OfNat.ofNat k) x) := wr_ok (show KS 49 = (100, 3) from rfl) hk (by decide) (by decide)
theorem rd_50 {k : Nat} {I : MJ} (hk : k < 6) : rd I 50 (Int32.ofNat k) = some (I 50 k) := rd_ok (show KS 50 = (100, 6) from rfl) hk (by decide) (by decide)
theorem rdl_50 {k : Nat} {I : MJ} (hk : (OfNat.ofNat k : Nat) < 6) : rd I 50 (no_index (OfNat.ofNat k)) = some (I 50 (OfNat.ofNat k)) := rd_ok (show KS 50 = (100, 6) from rfl) hk (by decide) (by decide)
theorem wr_50 {k : Nat} {I : MJ} {x : Int32} (hk : k < 6) : wr I 50 (Int32.ofNat k) x = some (ab_up1 I 50 k x) := wr_ok (show KS 50 = (100, 6) from rfl) hk (by decide) (by decide)
theorem wrl_50 {k : Nat} {I : MJ} {x : Int32} (hk : (OfNat.ofNat k : Nat) < 6) : wr I 50 (no_index (OfNat.ofNat k)) x = some (ab_up1 I 50 (OfNat.ofNat k) x) := wr_ok (show KS 50 = (100, 6) from rfl) hk (by decide) (by decide)
theorem rd_51 {k : Nat} {I : MJ} (hk : k < 6) : rd I 51 (Int32.ofNat k) = some (I 51 k) := rd_ok (show KS 51 = (100, 6) from rfl) hk (by decide) (by decide)
theorem rdl_51 {k : Nat} {I : MJ} (hk : (OfNat.ofNat k : Nat) < 6) : rd I 51 (no_index (OfNat.ofNat k)) = some (I 51 (OfNat.ofNat k)) := rd_ok (show KS 51 = (100, 6) from rfl) hk (by decide) (by decide)
theorem wr_51 {k : Nat} {I : MJ} {x : Int32} (hk : k < 6) : wr I 51 (Int32.ofNat k) x = some (ab_up1 I 51 k x) := wr_ok (show KS 51 = (100, 6) from rfl) hk (by decide) (by decide)
theorem wrl_51 {k : Nat} {I : MJ} {x : Int32} (hk : (OfNat.ofNat k : Nat) < 6) : wr I 51 (no_index (OfNat.ofNat k)) x = some (ab_up1 I 51 (OfNat.ofNat k) x) := wr_ok (show KS 51 = (100, 6) from rfl) hk (by decide) (by decide)
theorem rd_52 {k : Nat} {I : MJ} (hk : k < 6) : rd I 52 (Int32.ofNat k) = some (I 52 k) := rd_ok (show KS 52 = (100, 6) from rfl) hk (by decide) (by decide)
theorem rdl_52 {k : Nat} {I : MJ} (hk : (OfNat.ofNat k : Nat) < 6) : rd I 52 (no_index (OfNat.ofNat k)) = some (I 52 (OfNat.ofNat k)) := rd_ok (show KS 52 = (100, 6) from rfl) hk (by decide) (by decide)
theorem wr_52 {k : Nat} {I : MJ} {x : Int32} (hk : k < 6) : wr I 52 (Int32.ofNat k) x = some (ab_up1 I 52 k x) := wr_ok (show KS 52 = (100, 6) from rfl) hk (by decide) (by decide)
theorem wrl_52 {k : Nat} {I : MJ} {x : Int32} (hk : (OfNat.ofNat k : Nat) < 6) : wr I 52 (no_index (OfNat.ofNat k)) x = some (ab_up1 I 52 (OfNat.ofNat k) x) := wr_ok (show KS 52 = (100, 6) from rfl) hk (by decide) (by decide)
theorem rd_53 {k : Nat} {I : MJ} (hk : k < 6) : rd I 53 (Int32.ofNat k) = some (I 53 k) := rd_ok (show KS 53 = (100, 6) from rfl) hk (by decide) (by decide)
theorem rdl_53 {k : Nat} {I : MJ} (hk : (OfNat.ofNat k : Nat) < 6) : rd I 53 (no_index (OfNat.ofNat k)) = some (I 53 (OfNat.ofNat k)) := rd_ok (show KS 53 = (100, 6) from rfl) hk (by decide) (by decide)
theorem wr_53 {k : Nat} {I : MJ} {x : Int32} (hk : k < 6) : wr I 53 (Int32.ofNat k) x = some (ab_up1 I 53 k x) := wr_ok (show KS 53 = (100, 6) from rfl) hk (by decide) (by decide)
theorem wrl_53 {k : Nat} {I : MJ} {x : Int32} (hk : (OfNat.ofNat k : Nat) < 6) : wr I 53 (no_index (OfNat.ofNat k)) x = some (ab_up1 I 53 (OfNat.ofNat k) x) := wr_ok (show KS 53 = (100, 6) from rfl) hk (by decide) (by decide)
theorem rdp_54 {w : Nat} (hw : w < 10) : rdp 54 (Int32.ofNat w) = some (55 + w) := by
  rw [rdp_ok (show KS 54 = (104, 10) from rfl) hw (by decide) (by decide)]
  show (cond (Nat.blt w 10) (some (54 + 1 + w)) none) = _
  rw [show Nat.blt w 10 = true from Nat.ble_eq_true_of_le hw]
  rfl
theorem rdpl_54 {w : Nat} (hw : (OfNat.ofNat w : Nat) < 10) : rdp 54 (no_index (OfNat.ofNat w)) = some (55 + OfNat.ofNat w) := rdp_54 hw
theorem KS_54 : ∀ w : Nat, w < 10 → KS (55 + w) = (100, 2) := by decide +kernel
theorem rdr_54 {w k : Nat} {I : MJ} (hw : w < 10) (hk : k < 2) : rd I (55 + w) (Int32.ofNat k) = some (I (55 + w) k) := rd_ok (KS_54 w hw) hk (by omega) (by decide)
theorem rdrl_54 {w k : Nat} {I : MJ} (hw : w < 10) (hk : (OfNat.ofNat k : Nat) < 2) : rd I (55 + w) (no_index (OfNat.ofNat k)) = some (I (55 + w) (OfNat.ofNat k)) := rd_ok (KS_54 w hw) hk (by omega) (by decide)
theorem wrr_54 {w k : Nat} {I : MJ} {x : Int32} (hw : w < 10) (hk : k < 2) : wr I (55 + w) (Int32.ofNat k) x = some (ab_up1 I (55 + w) k x) := wr_ok (KS_54 w hw) hk (by omega) (by decide)
theorem wrrl_54 {w k : Nat} {I : MJ} {x : Int32} (hw : w < 10) (hk : (OfNat.ofNat k : Nat) < 2) : wr I (55 + w) (no_index (OfNat.ofNat k)) x = some (ab_up1 I (55 + w) (OfNat.ofNat k) x) := wr_ok (KS_54 w hw) hk (by omega) (by decide)
theorem rdp_65 {w : Nat} (hw : w < 10) : rdp 65 (Int32.ofNat w) = some (66 + w) := by
  rw [rdp_ok (show KS 65 = (104, 10) from rfl) hw (by decide) (by decide)]
  show (cond (Nat.blt w 10) (some (65 + 1 + w)) none) = _
  rw [show Nat.blt w 10 = true from Nat.ble_eq_true_of_le hw]
  rfl
theorem rdpl_65 {w : Nat} (hw : (OfNat.ofNat w : Nat) < 10) : rdp 65 (no_index (OfNat.ofNat w)) = some (66 + OfNat.ofNat w) := rdp_65 hw
theorem KS_65 : ∀ w : Nat, w < 10 → KS (66 + w) = (100, 2) := by decide +kernel
theorem rdr_65 {w k : Nat} {I : MJ} (hw : w < 10) (hk : k < 2) : rd I (66 + w) (Int32.ofNat k) = some (I (66 + w) k) := rd_ok (KS_65 w hw) hk (by omega) (by decide)
theorem rdrl_65 {w k : Nat} {I : MJ} (hw : w < 10) (hk : (OfNat.ofNat k : Nat) < 2) : rd I (66 + w) (no_index (OfNat.ofNat k)) = some (I (66 + w) (OfNat.ofNat k)) := rd_ok (KS_65 w hw) hk (by omega) (by decide)
theorem wrr_65 {w k : Nat} {I : MJ} {x : Int32} (hw : w < 10) (hk : k < 2) : wr I (66 + w) (Int32.ofNat k) x = some (ab_up1 I (66 + w) k x) := wr_ok (KS_65 w hw) hk (by omega) (by decide)
theorem wrrl_65 {w k : Nat} {I : MJ} {x : Int32} (hw : w < 10) (hk : (OfNat.ofNat k : Nat) < 2) : wr I (66 + w) (no_index (OfNat.ofNat k)) x = some (ab_up1 I (66 + w) (OfNat.ofNat k) x) := wr_ok (KS_65 w hw) hk (by omega) (by decide)
theorem rdp_76 {w : Nat} (hw : w < 16) : rdp 76 (Int32.ofNat w) = some (77 + w) := by
  rw [rdp_ok (show KS 76 = (104, 16) from rfl) hw (by decide) (by decide)]
  show (cond (Nat.blt w 16) (some (76 + 1 + w)) none) = _
  rw [show Nat.blt w 16 = true from Nat.ble_eq_true_of_le hw]
  rfl
theorem rdpl_76 {w : Nat} (hw : (OfNat.ofNat w : Nat) < 16) : rdp 76 (no_index (OfNat.ofNat w)) = some (77 + OfNat.ofNat w) := rdp_76 hw
theorem KS_76 : ∀ w : Nat, w < 16 → KS (77 + w) = (100, 5) := by decide +kernel
theorem rdr_76 {w k : Nat} {I : MJ} (hw : w < 16) (hk : k < 5) : rd I (77 + w) (Int32.ofNat k) = some (I (77 + w) k) := rd_ok (KS_76 w hw) hk (by omega) (by decide)
theorem rdrl_76 {w k : Nat} {I : MJ} (hw : w < 16) (hk : (OfNat.ofNat k : Nat) < 5) : rd I (77 + w) (no_index (OfNat.ofNat k)) = some (I (77 + w) (OfNat.ofNat k)) := rd_ok (KS_76 w hw) hk (by omega) (by decide)
theorem wrr_76 {w k : Nat} {I : MJ} {x : Int32} (hw : w < 16) (hk : k < 5) : wr I (77 + w) (Int32.ofNat k) x = some (ab_up1 I (77 + w) k x) := wr_ok (KS_76 w hw) hk (by omega) (by decide)
theorem wrrl_76 {w k : Nat} {I : MJ} {x : Int32} (hw : w < 16) (hk : (OfNat.ofNat k : Nat) < 5) : wr I (77 + w) (no_index (OfNat.ofNat k)) x = some (ab_up1 I (77 + w) (OfNat.ofNat k) x) := wr_ok (KS_76 w hw) hk (by omega) (by decide)
theorem rdp_93 {w : Nat} (hw : w < 16) : rdp 93 (Int32.ofNat w) = some (94 + w) := by
  rw [rdp_ok (show KS 93 = (104, 16) from rfl) hw (by decide) (by decide)]
  show (cond (Nat.blt w 16) (some (93 + 1 + w)) none) = _
  rw [show Nat.blt w 16 = true from Nat.ble_eq_true_of_le hw]
  rfl
theorem rdpl_93 {w : Nat} (hw : (OfNat.ofNat w : Nat) < 16) : rdp 93 (no_index (OfNat.ofNat w)) = some (94 + OfNat.ofNat w) := rdp_93 hw
theorem KS_93 : ∀ w : Nat, w < 16 → KS (94 + w) = (100, 5) := by decide +kernel
theorem rdr_93 {w k : Nat} {I : MJ} (hw : w < 16) (hk : k < 5) : rd I (94 + w) (Int32.ofNat k) = some (I (94 + w) k) := rd_ok (KS_93 w hw) hk (by omega) (by decide)
theorem rdrl_93 {w k : Nat} {I : MJ} (hw : w < 16) (hk : (OfNat.ofNat k : Nat) < 5) : rd I (94 + w) (no_index (OfNat.ofNat k)) = some (I (94 + w) (OfNat.ofNat k)) := rd_ok (KS_93 w hw) hk (by omega) (by decide)
theorem wrr_93 {w k : Nat} {I : MJ} {x : Int32} (hw : w < 16) (hk : k < 5) : wr I (94 + w) (Int32.ofNat k) x = some (ab_up1 I (94 + w) k x) := wr_ok (KS_93 w hw) hk (by omega) (by decide)
theorem wrrl_93 {w k : Nat} {I : MJ} {x : Int32} (hw : w < 16) (hk : (OfNat.ofNat k : Nat) < 5) : wr I (94 + w) (no_index (OfNat.ofNat k)) x = some (ab_up1 I (94 + w) (OfNat.ofNat k) x) := wr_ok (KS_93 w hw) hk (by omega) (by decide)
theorem rdp_110 {w : Nat} (hw : w < 8) : rdp 110 (Int32.ofNat w) = some (111 + w) := by
  rw [rdp_ok (show KS 110 = (104, 8) from rfl) hw (by decide) (by decide)]
  show (cond (Nat.blt w 8) (some (110 + 1 + w)) none) = _
  rw [show Nat.blt w 8 = true from Nat.ble_eq_true_of_le hw]
  rfl
theorem rdpl_110 {w : Nat} (hw : (OfNat.ofNat w : Nat) < 8) : rdp 110 (no_index (OfNat.ofNat w)) = some (111 + OfNat.ofNat w) := rdp_110 hw
theorem KS_110 : ∀ w : Nat, w < 8 → KS (111 + w) = (100, 5) := by decide +kernel
theorem rdr_110 {w k : Nat} {I : MJ} (hw : w < 8) (hk : k < 5) : rd I (111 + w) (Int32.ofNat k) = some (I (111 + w) k) := rd_ok (KS_110 w hw) hk (by omega) (by decide)
theorem rdrl_110 {w k : Nat} {I : MJ} (hw : w < 8) (hk : (OfNat.ofNat k : Nat) < 5) : rd I (111 + w) (no_index (OfNat.ofNat k)) = some (I (111 + w) (OfNat.ofNat k)) := rd_ok (KS_110 w hw) hk (by omega) (by decide)
theorem wrr_110 {w k : Nat} {I : MJ} {x : Int32} (hw : w < 8) (hk : k < 5) : wr I (111 + w) (Int32.ofNat k) x = some (ab_up1 I (111 + w) k x) := wr_ok (KS_110 w hw) hk (by omega) (by decide)
theorem wrrl_110 {w k : Nat} {I : MJ} {x : Int32} (hw : w < 8) (hk : (OfNat.ofNat k : Nat) < 5) : wr I (111 + w) (no_index (OfNat.ofNat k)) x = some (ab_up1 I (111 + w) (OfNat.ofNat k) x) := wr_ok (KS_110 w hw) hk (by omega) (by decide)
theorem rdp_119 {w : Nat} (hw : w < 8) : rdp 119 (Int32.ofNat w) = some (120 + w) := by
  rw [rdp_ok (show KS 119 = (104, 8) from rfl) hw (by decide) (by decide)]
  show (cond (Nat.blt w 8) (some (119 + 1 + w)) none) = _
  rw [show Nat.blt w 8 = true from Nat.ble_eq_true_of_le hw]
  rfl
theorem rdpl_119 {w : Nat} (hw : (OfNat.ofNat w : Nat) < 8) : rdp 119 (no_index (OfNat.ofNat w)) = some (120 + OfNat.ofNat w) := rdp_119 hw
theorem KS_119 : ∀ w : Nat, w < 8 → KS (120 + w) = (100, 5) := by decide +kernel
theorem rdr_119 {w k : Nat} {I : MJ} (hw : w < 8) (hk : k < 5) : rd I (120 + w) (Int32.ofNat k) = some (I (120 + w) k) := rd_ok (KS_119 w hw) hk (by omega) (by decide)
theorem rdrl_119 {w k : Nat} {I : MJ} (hw : w < 8) (hk : (OfNat.ofNat k : Nat) < 5) : rd I (120 + w) (no_index (OfNat.ofNat k)) = some (I (120 + w) (OfNat.ofNat k)) := rd_ok (KS_119 w hw) hk (by omega) (by decide)
theorem wrr_119 {w k : Nat} {I : MJ} {x : Int32} (hw : w < 8) (hk : k < 5) : wr I (120 + w) (Int32.ofNat k) x = some (ab_up1 I (120 + w) k x) := wr_ok (KS_119 w hw) hk (by omega) (by decide)
theorem wrrl_119 {w k : Nat} {I : MJ} {x : Int32} (hw : w < 8) (hk : (OfNat.ofNat k : Nat) < 5) : wr I (120 + w) (no_index (OfNat.ofNat k)) x = some (ab_up1 I (120 + w) (OfNat.ofNat k) x) := wr_ok (KS_119 w hw) hk (by omega) (by decide)
theorem rdp_128 {w : Nat} (hw : w < 6) : rdp 128 (Int32.ofNat w) = some (129 + w) := by
  rw [rdp_ok (show KS 128 = (104, 6) from rfl) hw (by decide) (by decide)]
  show (cond (Nat.blt w 6) (some (128 + 1 + w)) none) = _
  rw [show Nat.blt w 6 = true from Nat.ble_eq_true_of_le hw]
  rfl
theorem rdpl_128 {w : Nat} (hw : (OfNat.ofNat w : Nat) < 6) : rdp 128 (no_index (OfNat.ofNat w)) = some (129 + OfNat.ofNat w) := rdp_128 hw
theorem KS_128 : ∀ w : Nat, w < 6 → KS (129 + w) = (100, 12) := by decide +kernel
theorem rdr_128 {w k : Nat} {I : MJ} (hw : w < 6) (hk : k < 12) : rd I (129 + w) (Int32.ofNat k) = some (I (129 + w) k) := rd_ok (KS_128 w hw) hk (by omega) (by decide)
theorem rdrl_128 {w k : Nat} {I : MJ} (hw : w < 6) (hk : (OfNat.ofNat k : Nat) < 12) : rd I (129 + w) (no_index (OfNat.ofNat k)) = some (I (129 + w) (OfNat.ofNat k)) := rd_ok (KS_128 w hw) hk (by omega) (by decide)
theorem wrr_128 {w k : Nat} {I : MJ} {x : Int32} (hw : w < 6) (hk : k < 12) : wr I (129 + w) (Int32.ofNat k) x = some (ab_up1 I (129 + w) k x) := wr_ok (KS_128 w hw) hk (by omega) (by decide)
theorem wrrl_128 {w k : Nat} {I : MJ} {x : Int32} (hw : w < 6) (hk : (OfNat.ofNat k : Nat) < 12) : wr I (129 + w) (no_index (OfNat.ofNat k)) x = some (ab_up1 I (129 + w) (OfNat.ofNat k) x) := wr_ok (KS_128 w hw) hk (by omega) (by decide)
theorem rdb_135 {k : Nat} {I : MJ} (hk : k < 6) : rdb I 135 (Int32.ofNat k) = some (I 135 k) := rdb_ok (Or.inr (show KS 135 = (102, 6) from rfl)) hk (by decide) (by decide)
theorem wrb_135 {k : Nat} {I : MJ} {x : Int32} (hk : k < 6) : wrb I 135 (Int32.ofNat k) x = some (ab_up1 I 135 k (vp_nar .boolean x)) := by
  unfold wrb
  rw [i_in (by omega), i_clamp (by omega), show KS 135 = (102, 6) from rfl, decide_eq_true hk]
  rfl
theorem rdp_136 {w : Nat} (hw : w < 7) : rdp 136 (Int32.ofNat w) = some (137 + w) := by
  rw [rdp_ok (show KS 136 = (104, 7) from rfl) hw (by decide) (by decide)]
  show (cond (Nat.blt w 7) (some (136 + 1 + w)) none) = _
  rw [show Nat.blt w 7 = true from Nat.ble_eq_true_of_le hw]
  rfl
theorem rdpl_136 {w : Nat} (hw : (OfNat.ofNat w : Nat) < 7) : rdp 136 (no_index (OfNat.ofNat w)) = some (137 + OfNat.ofNat w) := rdp_136 hw
theorem KS_136 : ∀ w : Nat, w < 7 → KS (137 + w) = (100, 12) := by decide +kernel
theorem rdr_136 {w k : Nat} {I : MJ} (hw : w < 7) (hk : k < 12) : rd I (137 + w) (Int32.ofNat k) = some (I (137 + w) k) := rd_ok (KS_136 w hw) hk (by omega) (by decide)
theorem rdrl_136 {w k : Nat} {I : MJ} (hw : w < 7) (hk : (OfNat.ofNat k : Nat) < 12) : rd I (137 + w) (no_index (OfNat.ofNat k)) = some (I (137 + w) (OfNat.ofNat k)) := rd_ok (KS_136 w hw) hk (by omega) (by decide)
theorem wrr_136 {w k : Nat} {I : MJ} {x : Int32} (hw : w < 7) (hk : k < 12) : wr I (137 + w) (Int32.ofNat k) x = some (ab_up1 I (137 + w) k x) := wr_ok (KS_136 w hw) hk (by omega) (by decide)
theorem wrrl_136 {w k : Nat} {I : MJ} {x : Int32} (hw : w < 7) (hk : (OfNat.ofNat k : Nat) < 12) : wr I (137 + w) (no_index (OfNat.ofNat k)) x = some (ab_up1 I (137 + w) (OfNat.ofNat k) x) := wr_ok (KS_136 w hw) hk (by omega) (by decide)
theorem rd_144 {k : Nat} {I : MJ} (hk : k < 7) : rd I 144 (Int32.ofNat k) = some (I 144 k) := rd_ok (show KS 144 = (100, 7) from rfl) hk (by decide) (by decide)
theorem rdl_144 {k : Nat} {I : MJ} (hk : (OfNat.ofNat k : Nat) < 7) : rd I 144 (no_index (OfNat.ofNat k)) = some (I 144 (OfNat.ofNat k)) := rd_ok (show KS 144 = (100, 7) from rfl) hk (by decide) (by decide)
theorem wr_144 {k : Nat} {I : MJ} {x : Int32} (hk : k < 7) : wr I 144 (Int32.ofNat k) x = some (ab_up1 I 144 k x) := wr_ok (show KS 144 = (100, 7) from rfl) hk (by decide) (by decide)
theorem wrl_144 {k : Nat} {I : MJ} {x : Int32} (hk : (OfNat.ofNat k : Nat) < 7) : wr I 144 (no_index (OfNat.ofNat k)) x = some (ab_up1 I 144 (OfNat.ofNat k) x) := wr_ok (show KS 144 = (100, 7) from rfl) hk (by decide) (by decide)
theorem rdp_145 {w : Nat} (hw : w < 160) : rdp 145 (Int32.ofNat w) = some (146 + w) := by
  rw [rdp_ok (show KS 145 = (104, 160) from rfl) hw (by decide) (by decide)]
  show (cond (Nat.blt w 160) (some (145 + 1 + w)) none) = _
  rw [show Nat.blt w 160 = true from Nat.ble_eq_true_of_le hw]
  rfl
theorem rdpl_145 {w : Nat} (hw : (OfNat.ofNat w : Nat) < 160) : rdp 145 (no_index (OfNat.ofNat w)) = some (146 + OfNat.ofNat w) := rdp_145 hw
theorem KS_145 : ∀ w : Nat, w < 160 → KS (146 + w) = (100, 2) := by decide +kernel
theorem rdr_145 {w k : Nat} {I : MJ} (hw : w < 160) (hk : k < 2) : rd I (146 + w) (Int32.ofNat k) = some (I (146 + w) k) := rd_ok (KS_145 w hw) hk (by omega) (by decide)
theorem rdrl_145 {w k : Nat} {I : MJ} (hw : w < 160) (hk : (OfNat.ofNat k : Nat) < 2) : rd I (146 + w) (no_index (OfNat.ofNat k)) = some (I (146 + w) (OfNat.ofNat k)) := rd_ok (KS_145 w hw) hk (by omega) (by decide)
theorem wrr_145 {w k : Nat} {I : MJ} {x : Int32} (hw : w < 160) (hk : k < 2) : wr I (146 + w) (Int32.ofNat k) x = some (ab_up1 I (146 + w) k x) := wr_ok (KS_145 w hw) hk (by omega) (by decide)
theorem wrrl_145 {w k : Nat} {I : MJ} {x : Int32} (hw : w < 160) (hk : (OfNat.ofNat k : Nat) < 2) : wr I (146 + w) (no_index (OfNat.ofNat k)) x = some (ab_up1 I (146 + w) (OfNat.ofNat k) x) := wr_ok (KS_145 w hw) hk (by omega) (by decide)
theorem rdp_306 {w : Nat} (hw : w < 160) : rdp 306 (Int32.ofNat w) = some (307 + w) := by
  rw [rdp_ok (show KS 306 = (104, 160) from rfl) hw (by decide) (by decide)]
  show (cond (Nat.blt w 160) (some (306 + 1 + w)) none) = _
  rw [show Nat.blt w 160 = true from Nat.ble_eq_true_of_le hw]
  rfl
theorem rdpl_306 {w : Nat} (hw : (OfNat.ofNat w : Nat) < 160) : rdp 306 (no_index (OfNat.ofNat w)) = some (307 + OfNat.ofNat w) := rdp_306 hw
theorem KS_306 : ∀ w : Nat, w < 160 → KS (307 + w) = (100, 2) := by decide +kernel
theorem rdr_306 {w k : Nat} {I : MJ} (hw : w < 160) (hk : k < 2) : rd I (307 + w) (Int32.ofNat k) = some (I (307 + w) k) := rd_ok (KS_306 w hw) hk (by omega) (by decide)
theorem rdrl_306 {w k : Nat} {I : MJ} (hw : w < 160) (hk : (OfNat.ofNat k : Nat) < 2) : rd I (307 + w) (no_index (OfNat.ofNat k)) = some (I (307 + w) (OfNat.ofNat k)) := rd_ok (KS_306 w hw) hk (by omega) (by decide)
theorem wrr_306 {w k : Nat} {I : MJ} {x : Int32} (hw : w < 160) (hk : k < 2) : wr I (307 + w) (Int32.ofNat k) x = some (ab_up1 I (307 + w) k x) := wr_ok (KS_306 w hw) hk (by omega) (by decide)
theorem wrrl_306 {w k : Nat} {I : MJ} {x : Int32} (hw : w < 160) (hk : (OfNat.ofNat k : Nat) < 2) : wr I (307 + w) (no_index (OfNat.ofNat k)) x = some (ab_up1 I (307 + w) (OfNat.ofNat k) x) := wr_ok (KS_306 w hw) hk (by omega) (by decide)
theorem rdp_467 {w : Nat} (hw : w < 12) : rdp 467 (Int32.ofNat w) = some (468 + w) := by
  rw [rdp_ok (show KS 467 = (104, 12) from rfl) hw (by decide) (by decide)]
  show (cond (Nat.blt w 12) (some (467 + 1 + w)) none) = _
  rw [show Nat.blt w 12 = true from Nat.ble_eq_true_of_le hw]
  rfl
theorem rdpl_467 {w : Nat} (hw : (OfNat.ofNat w : Nat) < 12) : rdp 467 (no_index (OfNat.ofNat w)) = some (468 + OfNat.ofNat w) := rdp_467 hw
theorem KS_467 : ∀ w : Nat, w < 12 → KS (468 + w) = (100, 2) := by decide +kernel
theorem rdr_467 {w k : Nat} {I : MJ} (hw : w < 12) (hk : k < 2) : rd I (468 + w) (Int32.ofNat k) = some (I (468 + w) k) := rd_ok (KS_467 w hw) hk (by omega) (by decide)
theorem rdrl_467 {w k : Nat} {I : MJ} (hw : w < 12) (hk : (OfNat.ofNat k : Nat) < 2) : rd I (468 + w) (no_index (OfNat.ofNat k)) = some (I (468 + w) (OfNat.ofNat k)) := rd_ok (KS_467 w hw) hk (by omega) (by decide)
theorem wrr_467 {w k : Nat} {I : MJ} {x : Int32} (hw : w < 12) (hk : k < 2) : wr I (468 + w) (Int32.ofNat k) x = some (ab_up1 I (468 + w) k x) := wr_ok (KS_467 w hw) hk (by omega) (by decide)
theorem wrrl_467 {w k : Nat} {I : MJ} {x : Int32} (hw : w < 12) (hk : (OfNat.ofNat k : Nat) < 2) : wr I (468 + w) (no_index (OfNat.ofNat k)) x = some (ab_up1 I (468 + w) (OfNat.ofNat k) x) := wr_ok (KS_467 w hw) hk (by omega) (by decide)
theorem rdp_480 {w : Nat} (hw : w < 12) : rdp 480 (Int32.ofNat w) = some (481 + w) := by
  rw [rdp_ok (show KS 480 = (104, 12) from rfl) hw (by decide) (by decide)]
  show (cond (Nat.blt w 12) (some (480 + 1 + w)) none) = _
  rw [show Nat.blt w 12 = true from Nat.ble_eq_true_of_le hw]
  rfl
theorem rdpl_480 {w : Nat} (hw : (OfNat.ofNat w : Nat) < 12) : rdp 480 (no_index (OfNat.ofNat w)) = some (481 + OfNat.ofNat w) := rdp_480 hw
theorem KS_480 : ∀ w : Nat, w < 12 → KS (481 + w) = (100, 2) := by decide +kernel
theorem rdr_480 {w k : Nat} {I : MJ} (hw : w < 12) (hk : k < 2) : rd I (481 + w) (Int32.ofNat k) = some (I (481 + w) k) := rd_ok (KS_480 w hw) hk (by omega) (by decide)
theorem rdrl_480 {w k : Nat} {I : MJ} (hw : w < 12) (hk : (OfNat.ofNat k : Nat) < 2) : rd I (481 + w) (no_index (OfNat.ofNat k)) = some (I (481 + w) (OfNat.ofNat k)) := rd_ok (KS_480 w hw) hk (by omega) (by decide)
theorem wrr_480 {w k : Nat} {I : MJ} {x : Int32} (hw : w < 12) (hk : k < 2) : wr I (481 + w) (Int32.ofNat k) x = some (ab_up1 I (481 + w) k x) := wr_ok (KS_480 w hw) hk (by omega) (by decide)
theorem wrrl_480 {w k : Nat} {I : MJ} {x : Int32} (hw : w < 12) (hk : (OfNat.ofNat k : Nat) < 2) : wr I (481 + w) (no_index (OfNat.ofNat k)) x = some (ab_up1 I (481 + w) (OfNat.ofNat k) x) := wr_ok (KS_480 w hw) hk (by omega) (by decide)
theorem rd_493 {k : Nat} {I : MJ} (hk : k < 160) : rd I 493 (Int32.ofNat k) = some (I 493 k) := rd_ok (show KS 493 = (100, 160) from rfl) hk (by decide) (by decide)
theorem rdl_493 {k : Nat} {I : MJ} (hk : (OfNat.ofNat k : Nat) < 160) : rd I 493 (no_index (OfNat.ofNat k)) = some (I 493 (OfNat.ofNat k)) := rd_ok (show KS 493 = (100, 160) from rfl) hk (by decide) (by decide)
theorem wr_493 {k : Nat} {I : MJ} {x : Int32} (hk : k < 160) : wr I 493 (Int32.ofNat k) x = some (ab_up1 I 493 k x) := wr_ok (show KS 493 = (100, 160) from rfl) hk (by decide) (by decide)
theorem wrl_493 {k : Nat} {I : MJ} {x : Int32} (hk : (OfNat.ofNat k : Nat) < 160) : wr I 493 (no_index (OfNat.ofNat k)) x = some (ab_up1 I 493 (OfNat.ofNat k) x) := wr_ok (show KS 493 = (100, 160) from rfl) hk (by decide) (by decide)
theorem rd_494 {k : Nat} {I : MJ} (hk : k < 6) : rd I 494 (Int32.ofNat k) = some (I 494 k) := rd_ok (show KS 494 = (100, 6) from rfl) hk (by decide) (by decide)
theorem rdl_494 {k : Nat} {I : MJ} (hk : (OfNat.ofNat k : Nat) < 6) : rd I 494 (no_index (OfNat.ofNat k)) = some (I 494 (OfNat.ofNat k)) := rd_ok (show KS 494 = (100, 6) from rfl) hk (by decide) (by decide)
theorem wr_494 {k : Nat} {I : MJ} {x : Int32} (hk : k < 6) : wr I 494 (Int32.ofNat k) x = some (ab_up1 I 494 k x) := wr_ok (show KS 494 = (100, 6) from rfl) hk (by decide) (by decide)
theorem wrl_494 {k : Nat} {I : MJ} {x : Int32} (hk : (OfNat.ofNat k : Nat) < 6) : wr I 494 (no_index (OfNat.ofNat k)) x = some (ab_up1 I 494 (OfNat.ofNat k) x) := wr_ok (show KS 494 = (100, 6) from rfl) hk (by decide) (by decide)
theorem rdp_495 {w : Nat} (hw : w < 80) : rdp 495 (Int32.ofNat w) = some (496 + w) := by
  rw [rdp_ok (show KS 495 = (104, 80) from rfl) hw (by decide) (by decide)]
  show (cond (Nat.blt w 80) (some (495 + 1 + w)) none) = _
  rw [show Nat.blt w 80 = true from Nat.ble_eq_true_of_le hw]
  rfl
theorem rdpl_495 {w : Nat} (hw : (OfNat.ofNat w : Nat) < 80) : rdp 495 (no_index (OfNat.ofNat w)) = some (496 + OfNat.ofNat w) := rdp_495 hw
theorem KS_495 : ∀ w : Nat, w < 80 → KS (496 + w) = (100, 5) := by decide +kernel
theorem rdr_495 {w k : Nat} {I : MJ} (hw : w < 80) (hk : k < 5) : rd I (496 + w) (Int32.ofNat k) = some (I (496 + w) k) := rd_ok (KS_495 w hw) hk (by omega) (by decide)
theorem rdrl_495 {w k : Nat} {I : MJ} (hw : w < 80) (hk : (OfNat.ofNat k : Nat) < 5) : rd I (496 + w) (no_index (OfNat.ofNat k)) = some (I (496 + w) (OfNat.ofNat k)) := rd_ok (KS_495 w hw) hk (by omega) (by decide)
theorem wrr_495 {w k : Nat} {I : MJ} {x : Int32} (hw : w < 80) (hk : k < 5) : wr I (496 + w) (Int32.ofNat k) x = some (ab_up1 I (496 + w) k x) := wr_ok (KS_495 w hw) hk (by omega) (by decide)
theorem wrrl_495 {w k : Nat} {I : MJ} {x : Int32} (hw : w < 80) (hk : (OfNat.ofNat k : Nat) < 5) : wr I (496 + w) (no_index (OfNat.ofNat k)) x = some (ab_up1 I (496 + w) (OfNat.ofNat k) x) := wr_ok (KS_495 w hw) hk (by omega) (by decide)
theorem rd_576 {k : Nat} {I : MJ} (hk : k < 91) : rd I 576 (Int32.ofNat k) = some (I 576 k) := rd_ok (show KS 576 = (100, 91) from rfl) hk (by decide) (by decide)
theorem rdl_576 {k : Nat} {I : MJ} (hk : (OfNat.ofNat k : Nat) < 91) : rd I 576 (no_index (OfNat.ofNat k)) = some (I 576 (OfNat.ofNat k)) := rd_ok (show KS 576 = (100, 91) from rfl) hk (by decide) (by decide)
theorem wr_576 {k : Nat} {I : MJ} {x : Int32} (hk : k < 91) : wr I 576 (Int32.ofNat k) x = some (ab_up1 I 576 k x) := wr_ok (show KS 576 = (100, 91) from rfl) hk (by decide) (by decide)
theorem wrl_576 {k : Nat} {I : MJ} {x : Int32} (hk : (OfNat.ofNat k : Nat) < 91) : wr I 576 (no_index (OfNat.ofNat k)) x = some (ab_up1 I 576 (OfNat.ofNat k) x) := wr_ok (show KS 576 = (100, 91) from rfl) hk (by decide) (by decide)
theorem rd_577 {k : Nat} {I : MJ} (hk : k < 91) : rd I 577 (Int32.ofNat k) = some (I 577 k) := rd_ok (show KS 577 = (100, 91) from rfl) hk (by decide) (by decide)
theorem rdl_577 {k : Nat} {I : MJ} (hk : (OfNat.ofNat k : Nat) < 91) : rd I 577 (no_index (OfNat.ofNat k)) = some (I 577 (OfNat.ofNat k)) := rd_ok (show KS 577 = (100, 91) from rfl) hk (by decide) (by decide)
theorem wr_577 {k : Nat} {I : MJ} {x : Int32} (hk : k < 91) : wr I 577 (Int32.ofNat k) x = some (ab_up1 I 577 k x) := wr_ok (show KS 577 = (100, 91) from rfl) hk (by decide) (by decide)
theorem wrl_577 {k : Nat} {I : MJ} {x : Int32} (hk : (OfNat.ofNat k : Nat) < 91) : wr I 577 (no_index (OfNat.ofNat k)) x = some (ab_up1 I 577 (OfNat.ofNat k) x) := wr_ok (show KS 577 = (100, 91) from rfl) hk (by decide) (by decide)
theorem rdp_578 {w : Nat} (hw : w < 16) : rdp 578 (Int32.ofNat w) = some (579 + w) := by
  rw [rdp_ok (show KS 578 = (104, 16) from rfl) hw (by decide) (by decide)]
  show (cond (Nat.blt w 16) (some (578 + 1 + w)) none) = _
  rw [show Nat.blt w 16 = true from Nat.ble_eq_true_of_le hw]
  rfl
theorem rdpl_578 {w : Nat} (hw : (OfNat.ofNat w : Nat) < 16) : rdp 578 (no_index (OfNat.ofNat w)) = some (579 + OfNat.ofNat w) := rdp_578 hw
theorem KS_578 : ∀ w : Nat, w < 16 → KS (579 + w) = (100, 91) := by decide +kernel
theorem rdr_578 {w k : Nat} {I : MJ} (hw : w < 16) (hk : k < 91) : rd I (579 + w) (Int32.ofNat k) = some (I (579 + w) k) := rd_ok (KS_578 w hw) hk (by omega) (by decide)
theorem rdrl_578 {w k : Nat} {I : MJ} (hw : w < 16) (hk : (OfNat.ofNat k : Nat) < 91) : rd I (579 + w) (no_index (OfNat.ofNat k)) = some (I (579 + w) (OfNat.ofNat k)) := rd_ok (KS_578 w hw) hk (by omega) (by decide)
theorem wrr_578 {w k : Nat} {I : MJ} {x : Int32} (hw : w < 16) (hk : k < 91) : wr I (579 + w) (Int32.ofNat k) x = some (ab_up1 I (579 + w) k x) := wr_ok (KS_578 w hw) hk (by omega) (by decide)
theorem wrrl_578 {w k : Nat} {I : MJ} {x : Int32} (hw : w < 16) (hk : (OfNat.ofNat k : Nat) < 91) : wr I (579 + w) (no_index (OfNat.ofNat k)) x = some (ab_up1 I (579 + w) (OfNat.ofNat k) x) := wr_ok (KS_578 w hw) hk (by omega) (by decide)
theorem rdp_595 {w : Nat} (hw : w < 3) : rdp 595 (Int32.ofNat w) = some (596 + w) := by
  rw [rdp_ok (show KS 595 = (104, 3) from rfl) hw (by decide) (by decide)]
  show (cond (Nat.blt w 3) (some (595 + 1 + w)) none) = _
  rw [show Nat.blt w 3 = true from Nat.ble_eq_true_of_le hw]
  rfl
theorem rdpl_595 {w : Nat} (hw : (OfNat.ofNat w : Nat) < 3) : rdp 595 (no_index (OfNat.ofNat w)) = some (596 + OfNat.ofNat w) := rdp_595 hw
theorem KS_595 : ∀ w : Nat, w < 3 → KS (596 + w) = (100, 1548) := by decide +kernel
theorem rdr_595 {w k : Nat} {I : MJ} (hw : w < 3) (hk : k < 1548) : rd I (596 + w) (Int32.ofNat k) = some (I (596 + w) k) := rd_ok (KS_595 w hw) hk (by omega) (by decide)
theorem rdrl_595 {w k : Nat} {I : MJ} (hw : w < 3) (hk : (OfNat.ofNat k : Nat) < 1548) : rd I (596 + w) (no_index (OfNat.ofNat k)) = some (I (596 + w) (OfNat.ofNat k)) := rd_ok (KS_595 w hw) hk (by omega) (by decide)
theorem wrr_595 {w k : Nat} {I : MJ} {x : Int32} (hw : w < 3) (hk : k < 1548) : wr I (596 + w) (Int32.ofNat k) x = some (ab_up1 I (596 + w) k x) := wr_ok (KS_595 w hw) hk (by omega) (by decide)
theorem wrrl_595 {w k : Nat} {I : MJ} {x : Int32} (hw : w < 3) (hk : (OfNat.ofNat k : Nat) < 1548) : wr I (596 + w) (no_index (OfNat.ofNat k)) x = some (ab_up1 I (596 + w) (OfNat.ofNat k) x) := wr_ok (KS_595 w hw) hk (by omega) (by decide)
theorem rd_599 {k : Nat} {I : MJ} (hk : k < 91) : rd I 599 (Int32.ofNat k) = some (I 599 k) := rd_ok (show KS 599 = (100, 91) from rfl) hk (by decide) (by decide)
theorem rdl_599 {k : Nat} {I : MJ} (hk : (OfNat.ofNat k : Nat) < 91) : rd I 599 (no_index (OfNat.ofNat k)) = some (I 599 (OfNat.ofNat k)) := rd_ok (show KS 599 = (100, 91) from rfl) hk (by decide) (by decide)
theorem wr_599 {k : Nat} {I : MJ} {x : Int32} (hk : k < 91) : wr I 599 (Int32.ofNat k) x = some (ab_up1 I 599 k x) := wr_ok (show KS 599 = (100, 91) from rfl) hk (by decide) (by decide)
theorem wrl_599 {k : Nat} {I : MJ} {x : Int32} (hk : (OfNat.ofNat k : Nat) < 91) : wr I 599 (no_index (OfNat.ofNat k)) x = some (ab_up1 I 599 (OfNat.ofNat k) x) := wr_ok (show KS 599 = (100, 91) from rfl) hk (by decide) (by decide)
theorem rdb_600 {k : Nat} {I : MJ} (hk : k < 12) : rdb I 600 (Int32.ofNat k) = some (I 600 k) := rdb_ok (Or.inr (show KS 600 = (102, 12) from rfl)) hk (by decide) (by decide)
theorem wrb_600 {k : Nat} {I : MJ} {x : Int32} (hk : k < 12) : wrb I 600 (Int32.ofNat k) x = some (ab_up1 I 600 k (vp_nar .boolean x)) := by
  unfold wrb
  rw [i_in (by omega), i_clamp (by omega), show KS 600 = (102, 12) from rfl, decide_eq_true hk]
  rfl
theorem rdp_601 {w : Nat} (hw : w < 13) : rdp 601 (Int32.ofNat w) = some (602 + 7 * w) := by
  unfold rdp
  rw [i_in (by omega), i_clamp (by omega), show KS 601 = (105, 13) from rfl, decide_eq_true hw]
  show (cond (Nat.blt w 13) (some (601 + 1 + w * 7)) none) = _
  rw [show Nat.blt w 13 = true from Nat.ble_eq_true_of_le hw]
  show some (601 + 1 + w * 7) = _
  rw [show 601 + 1 + w * 7 = 602 + 7 * w by omega]
theorem KS_602 : ∀ w : Nat, w < 13 → KS (602 + 7 * w) = (104, 6) := by decide +kernel
theorem PS_602 : ∀ w : Nat, w < 13 → ∀ k : Nat, k < 6 → PS (602 + 7 * w) k = some (603 + 7 * w + k) := by decide +kernel
theorem rdp_602 {w k : Nat} (hw : w < 13) (hk : k < 6) : rdp (602 + 7 * w) (Int32.ofNat k) = some (603 + 7 * w + k) := by
  rw [rdp_ok (KS_602 w hw) hk (by omega) (by decide)]
  exact PS_602 w hw k hk
theorem KS_603 : ∀ w : Nat, w < 13 → ∀ k : Nat, k < 6 → KS (603 + 7 * w + k) = (100, 13) := by decide +kernel
theorem rd_603 {w k j : Nat} {I : MJ} (hw : w < 13) (hk : k < 6) (hj : j < 13) : rd I (603 + 7 * w + k) (Int32.ofNat j) = some (I (603 + 7 * w + k) j) := rd_ok (KS_603 w hw k hk) hj (by omega) (by decide)
theorem wr_603 {w k j : Nat} {I : MJ} {x : Int32} (hw : w < 13) (hk : k < 6) (hj : j < 13) : wr I (603 + 7 * w + k) (Int32.ofNat j) x = some (ab_up1 I (603 + 7 * w + k) j x) := wr_ok (KS_603 w hw k hk) hj (by omega) (by decide)
theorem rd_693 {k : Nat} {I : MJ} (hk : k < 12) : rd I 693 (Int32.ofNat k) = some (I 693 k) := rd_ok (show KS 693 = (100, 12) from rfl) hk (by decide) (by decide)
theorem rdl_693 {k : Nat} {I : MJ} (hk : (OfNat.ofNat k : Nat) < 12) : rd I 693 (no_index (OfNat.ofNat k)) = some (I 693 (OfNat.ofNat k)) := rd_ok (show KS 693 = (100, 12) from rfl) hk (by decide) (by decide)
theorem wr_693 {k : Nat} {I : MJ} {x : Int32} (hk : k < 12) : wr I 693 (Int32.ofNat k) x = some (ab_up1 I 693 k x) := wr_ok (show KS 693 = (100, 12) from rfl) hk (by decide) (by decide)
theorem wrl_693 {k : Nat} {I : MJ} {x : Int32} (hk : (OfNat.ofNat k : Nat) < 12) : wr I 693 (no_index (OfNat.ofNat k)) x = some (ab_up1 I 693 (OfNat.ofNat k) x) := wr_ok (show KS 693 = (100, 12) from rfl) hk (by decide) (by decide)
theorem rd_694 {k : Nat} {I : MJ} (hk : k < 12) : rd I 694 (Int32.ofNat k) = some (I 694 k) := rd_ok (show KS 694 = (100, 12) from rfl) hk (by decide) (by decide)
theorem rdl_694 {k : Nat} {I : MJ} (hk : (OfNat.ofNat k : Nat) < 12) : rd I 694 (no_index (OfNat.ofNat k)) = some (I 694 (OfNat.ofNat k)) := rd_ok (show KS 694 = (100, 12) from rfl) hk (by decide) (by decide)
theorem wr_694 {k : Nat} {I : MJ} {x : Int32} (hk : k < 12) : wr I 694 (Int32.ofNat k) x = some (ab_up1 I 694 k x) := wr_ok (show KS 694 = (100, 12) from rfl) hk (by decide) (by decide)
theorem wrl_694 {k : Nat} {I : MJ} {x : Int32} (hk : (OfNat.ofNat k : Nat) < 12) : wr I 694 (no_index (OfNat.ofNat k)) x = some (ab_up1 I 694 (OfNat.ofNat k) x) := wr_ok (show KS 694 = (100, 12) from rfl) hk (by decide) (by decide)
theorem rd_695 {k : Nat} {I : MJ} (hk : k < 12) : rd I 695 (Int32.ofNat k) = some (I 695 k) := rd_ok (show KS 695 = (100, 12) from rfl) hk (by decide) (by decide)
theorem rdl_695 {k : Nat} {I : MJ} (hk : (OfNat.ofNat k : Nat) < 12) : rd I 695 (no_index (OfNat.ofNat k)) = some (I 695 (OfNat.ofNat k)) := rd_ok (show KS 695 = (100, 12) from rfl) hk (by decide) (by decide)
theorem wr_695 {k : Nat} {I : MJ} {x : Int32} (hk : k < 12) : wr I 695 (Int32.ofNat k) x = some (ab_up1 I 695 k x) := wr_ok (show KS 695 = (100, 12) from rfl) hk (by decide) (by decide)
theorem wrl_695 {k : Nat} {I : MJ} {x : Int32} (hk : (OfNat.ofNat k : Nat) < 12) : wr I 695 (no_index (OfNat.ofNat k)) x = some (ab_up1 I 695 (OfNat.ofNat k) x) := wr_ok (show KS 695 = (100, 12) from rfl) hk (by decide) (by decide)
theorem rd_696 {k : Nat} {I : MJ} (hk : k < 10) : rd I 696 (Int32.ofNat k) = some (I 696 k) := rd_ok (show KS 696 = (100, 10) from rfl) hk (by decide) (by decide)
theorem rdl_696 {k : Nat} {I : MJ} (hk : (OfNat.ofNat k : Nat) < 10) : rd I 696 (no_index (OfNat.ofNat k)) = some (I 696 (OfNat.ofNat k)) := rd_ok (show KS 696 = (100, 10) from rfl) hk (by decide) (by decide)
theorem wr_696 {k : Nat} {I : MJ} {x : Int32} (hk : k < 10) : wr I 696 (Int32.ofNat k) x = some (ab_up1 I 696 k x) := wr_ok (show KS 696 = (100, 10) from rfl) hk (by decide) (by decide)
theorem wrl_696 {k : Nat} {I : MJ} {x : Int32} (hk : (OfNat.ofNat k : Nat) < 10) : wr I 696 (no_index (OfNat.ofNat k)) x = some (ab_up1 I 696 (OfNat.ofNat k) x) := wr_ok (show KS 696 = (100, 10) from rfl) hk (by decide) (by decide)
theorem rd_697 {k : Nat} {I : MJ} (hk : k < 6) : rd I 697 (Int32.ofNat k) = some (I 697 k) := rd_ok (show KS 697 = (100, 6) from rfl) hk (by decide) (by decide)
theorem rdl_697 {k : Nat} {I : MJ} (hk : (OfNat.ofNat k : Nat) < 6) : rd I 697 (no_index (OfNat.ofNat k)) = some (I 697 (OfNat.ofNat k)) := rd_ok (show KS 697 = (100, 6) from rfl) hk (by decide) (by decide)
theorem wr_697 {k : Nat} {I : MJ} {x : Int32} (hk : k < 6) : wr I 697 (Int32.ofNat k) x = some (ab_up1 I 697 k x) := wr_ok (show KS 697 = (100, 6) from rfl) hk (by decide) (by decide)
theorem wrl_697 {k : Nat} {I : MJ} {x : Int32} (hk : (OfNat.ofNat k : Nat) < 6) : wr I 697 (no_index (OfNat.ofNat k)) x = some (ab_up1 I 697 (OfNat.ofNat k) x) := wr_ok (show KS 697 = (100, 6) from rfl) hk (by decide) (by decide)
