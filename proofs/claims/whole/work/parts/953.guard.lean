/-! guards of calls -/
theorem nar_0 : vp_nar .boolean 0 = 0 := rfl
theorem nar_1 : vp_nar .boolean 1 = 1 := rfl
theorem nar_ite {c : Prop} [Decidable c] (a b : Int32) : vp_nar .boolean (if c then a else b) = if c then vp_nar .boolean a else vp_nar .boolean b := by split <;> rfl
theorem range_cases (p : Int32) {n : Nat} (hn : n < 2147483648) : (∃ k, k < n ∧ p = Int32.ofNat k) ∨ (p < 0 ∨ ¬ p < Int32.ofNat n) := by
  by_cases h1 : p < 0
  · exact Or.inr (Or.inl h1)
  · by_cases h2 : p < Int32.ofNat n
    · exact Or.inl (i_nat h1 h2 hn)
    · exact Or.inr (Or.inr h2)
theorem gt_iff {p : Int32} {n : Nat} (hn : n + 1 < 2147483648) : (Int32.ofNat n < p) = ¬ p < Int32.ofNat (n + 1) := by
  rw [Int32.lt_iff_toInt_lt, Int32.lt_iff_toInt_lt, Int32.toInt_ofNat_of_lt (by omega), Int32.toInt_ofNat_of_lt hn]
  exact propext (by omega)
theorem pred_lt {p : Int32} {n : Nat} (hn : n < 2147483648) : (Int32.ofNat n - 1 < p) = ¬ p < Int32.ofNat n := by
  cases n with
  | zero =>
    show ((-1 : Int32) < p) = ¬ p < 0
    rw [Int32.lt_iff_toInt_lt, Int32.lt_iff_toInt_lt]
    have h1 : (-1 : Int32).toInt = -1 := rfl
    have h2 : (0 : Int32).toInt = 0 := rfl
    rw [h1, h2]
    exact propext (by omega)
  | succ n =>
    rw [show Int32.ofNat (n + 1) - 1 = Int32.ofNat n from i_sub (a := n + 1) (b := 1) (by omega)]
    exact gt_iff hn
section GUARDS
variable {I : MJ}
theorem nE_ok {k n : Nat} (h : k < n) (hn : n < 2147483648) : f_x_needElement69 (Int32.ofNat k) (Int32.ofNat n) I = some (.inr (), I) := by
  unfold f_x_needElement69
  rw [if_neg (by rw [i_lt0 (by omega)]; exact id), if_pos (by rw [i_lt (by omega) hn]; exact h)]
theorem nE_no {p : Int32} {n : Nat} (h : p < 0 ∨ ¬ p < Int32.ofNat n) : f_x_needElement69 p (Int32.ofNat n) I = some (.inl 0, ab_up1 I 0 14 (I 0 14 + 1)) := by
  unfold f_x_needElement69
  by_cases h1 : p < 0
  · rw [if_pos h1]; rfl
  · rw [if_neg h1, if_neg (h.resolve_left h1)]; rfl
theorem nP_ok {k : Nat} (h : k < 6) : f_x_needPattern68 (Int32.ofNat k) I = some (.inr (), I) := by
  unfold f_x_needPattern68
  rw [show f_x_needElement69 (Int32.ofNat k) 6 I = _ from nE_ok (n := 6) h (by decide)]
  rfl
theorem nP_no {p : Int32} (h : p < 0 ∨ ¬ p < Int32.ofNat 6) : f_x_needPattern68 p I = some (.inl 0, ab_up1 I 0 14 (I 0 14 + 1)) := by
  unfold f_x_needPattern68
  rw [show f_x_needElement69 p 6 I = _ from nE_no (n := 6) h]
  rfl
theorem nW_ok {k n : Nat} (h : k < n + 1) (hn : n < 2147483647) : f_x_needWithin38 (Int32.ofNat k) 0 (Int32.ofNat n) I = some (.inr (), I) := by
  unfold f_x_needWithin38
  rw [if_neg (by rw [i_lt0 (by omega)]; exact id), if_neg (by rw [i_lt (by omega) (by omega)]; omega)]
theorem nW_no {p : Int32} {n : Nat} (hn : n < 2147483647) (h : p < 0 ∨ ¬ p < Int32.ofNat (n + 1)) : f_x_needWithin38 p 0 (Int32.ofNat n) I = some (.inl 1, ab_up1 I 0 15 (I 0 15 + 1)) := by
  unfold f_x_needWithin38
  by_cases h1 : p < 0
  · rw [if_pos h1]; rfl
  · rw [if_neg h1, if_pos (by rw [gt_iff (by omega)]; exact h.resolve_left h1)]; rfl
theorem in_ok {k n : Nat} (h : k < n + 1) (hn : n < 2147483647) : f_m_in264 (Int32.ofNat k) 0 (Int32.ofNat n) I = some 1 := by
  unfold f_m_in264
  rw [if_neg (by rw [i_lt0 (by omega)]; exact id), if_neg (by rw [i_lt (by omega) (by omega)]; omega)]
  rfl
theorem in_no {p : Int32} {n : Nat} (hn : n < 2147483647) (h : p < 0 ∨ ¬ p < Int32.ofNat (n + 1)) : f_m_in264 p 0 (Int32.ofNat n) I = some 0 := by
  unfold f_m_in264
  by_cases h1 : p < 0
  · rw [if_pos h1]; rfl
  · rw [if_neg h1, if_pos (by rw [gt_iff (by omega)]; exact h.resolve_left h1)]; rfl
theorem in1_ok {k n : Nat} (h : k < n) (hn : n < 2147483648) : f_m_in264 (Int32.ofNat k) 0 (Int32.ofNat n - 1) I = some 1 := by
  unfold f_m_in264
  rw [if_neg (by rw [i_lt0 (by omega)]; exact id), if_neg (by rw [pred_lt hn, i_lt (by omega) hn]; omega)]
  rfl
theorem in1_no {p : Int32} {n : Nat} (hn : n < 2147483648) (h : p < 0 ∨ ¬ p < Int32.ofNat n) : f_m_in264 p 0 (Int32.ofNat n - 1) I = some 0 := by
  unfold f_m_in264
  by_cases h1 : p < 0
  · rw [if_pos h1]; rfl
  · rw [if_neg h1, if_pos (by rw [pred_lt hn]; exact h.resolve_left h1)]; rfl
theorem mC_ok {k n : Nat} (he : I 51 1 = Int32.ofNat n) (h : k < n) (hn : n < 2147483648) : f_m_isClient328 (Int32.ofNat k) I = some 1 := by
  unfold f_m_isClient328
  rw [he, in1_ok h hn]
  rfl
theorem mC_no {p : Int32} {n : Nat} (he : I 51 1 = Int32.ofNat n) (hn : n < 2147483648) (h : p < 0 ∨ ¬ p < Int32.ofNat n) : f_m_isClient328 p I = some 0 := by
  unfold f_m_isClient328
  rw [he, in1_no hn h]
  rfl
theorem mO_ok {k n : Nat} (he : I 51 3 = Int32.ofNat n) (h : k < n) (hn : n < 2147483648) : f_m_isOrder334 (Int32.ofNat k) I = some 1 := by
  unfold f_m_isOrder334
  rw [he, in1_ok h hn]
  rfl
theorem mO_no {p : Int32} {n : Nat} (he : I 51 3 = Int32.ofNat n) (hn : n < 2147483648) (h : p < 0 ∨ ¬ p < Int32.ofNat n) : f_m_isOrder334 p I = some 0 := by
  unfold f_m_isOrder334
  rw [he, in1_no hn h]
  rfl
theorem mP_ok {k : Nat} (h : k < 6) : f_m_isPattern288 (Int32.ofNat k) I = some 1 := by
  unfold f_m_isPattern288
  rw [show f_m_in264 (Int32.ofNat k) 0 5 I = _ from in_ok (n := 5) h (by decide)]
  rfl
theorem mP_no {p : Int32} (h : p < 0 ∨ ¬ p < Int32.ofNat 6) : f_m_isPattern288 p I = some 0 := by
  unfold f_m_isPattern288
  rw [show f_m_in264 p 0 5 I = _ from in_no (n := 5) (by decide) h]
  rfl
theorem mH_ok {k : Nat} (h : k < 12) : f_m_isHour336 (Int32.ofNat k) I = some 1 := by
  unfold f_m_isHour336
  rw [show f_m_in264 (Int32.ofNat k) 0 11 I = _ from in_ok (n := 11) h (by decide)]
  rfl
theorem mH_no {p : Int32} (h : p < 0 ∨ ¬ p < Int32.ofNat 12) : f_m_isHour336 p I = some 0 := by
  unfold f_m_isHour336
  rw [show f_m_in264 p 0 11 I = _ from in_no (n := 11) (by decide) h]
  rfl
theorem bad_0 {w r : Int32} (h : I 47 0 = 0) : f_m_bad268 0 w r I = some (0, I) := by
  unfold f_m_bad268
  rw [if_pos rfl, ob_some, if_pos h]
  rfl
theorem bad_1 {w : Int32} {r : Nat} (h : I 47 0 = 0) (hw : w ≠ 0) (hr : r < 3) : f_m_bad268 1 w (Int32.ofNat r) I = some (1, ab_up1 (ab_up1 I 47 0 w) 49 r (I 49 r + 1)) := by
  unfold f_m_bad268
  rw [if_neg (by decide), if_pos h, rd_49 hr, ob_some, wr_49 hr, ob_some, ob_some]
  rw [up_ne (a := 47) (b := 49) (by omega)]
  rw [if_neg (by rw [up_ne (by omega), up_eq]; exact hw)]
  rfl
end GUARDS
/-- a refused call's end -/
def Jref (I : MJ) (E : Nat) (w : Int32) : MJ := ab_up1 (ab_up1 (ab_up1 (ab_up1 I 0 (14 + E) (I 0 (14 + E) + 1)) 47 0 0) 47 0 w) 49 E (I 49 E + 1)
theorem Jref_rel {I : MJ} {E : Nat} {w : Int32} (hE : E < 3) (h : rel I) : rel (Jref I E w) := by
  refine rel_ref hE h (fun a k hq h1 h2 => ?_) ?_ ?_
  · have h3 : ¬ (a = 47 ∧ k = 0) := by rintro ⟨rfl, rfl⟩; cases hq
    unfold Jref
    rw [up_ne h2, up_ne h3, up_ne h3, up_ne h1]
  · unfold Jref
    rw [up_ne (by omega), up_ne (by omega), up_ne (by omega), up_eq]
  · exact up_eq
theorem Jref_thrown {I : MJ} {E : Nat} {w : Int32} : Jref I E w 47 0 = w := by
  unfold Jref
  rw [up_ne (by omega), up_eq]
/-- the model's refusal behind the class' -/
theorem bad_ref {I : MJ} {E : Nat} {w : Int32} (hE : E < 3) (hw : w ≠ 0) : f_m_bad268 1 w (Int32.ofNat E) (ab_up1 (ab_up1 I 0 (14 + E) (I 0 (14 + E) + 1)) 47 0 0) = some (1, Jref I E w) := by
  rw [bad_1 up_eq hw hE]
  rw [up_ne (a := 47) (b := 49) (by omega), up_ne (a := 0) (b := 49) (by omega)]
  rfl
