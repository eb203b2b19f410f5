/-! a call that only asks: refused or answered -/
theorem qok {fx : Option ((Nat ⊕ Int32) × MJ)} {fm : MJ → Option (Int32 × MJ)} {cs : List Nat} {v : Int32} {I I1 I2 : MJ} (hr : rel I) (h1 : fx = some (.inr v, I1)) (h2 : fm I1 = some (v, I2)) (h3 : agr qs I I2) (h4 : I2 47 0 = 0) : ∃ r I1 b I2, fx = some (r, I1) ∧ fm I1 = some (b, I2) ∧ rel I2 ∧ okI cs r b (I2 47 0) := ⟨_, I1, v, I2, h1, h2, rel_agr hr h3, h4, rfl⟩
theorem qok0 {fx : Option ((Nat ⊕ Int32) × MJ)} {fm : MJ → Option (Int32 × MJ)} {cs : List Nat} {v : Int32} {I : MJ} (hr : rel I) (h1 : fx = some (.inr v, I)) (h2 : fm I = some (v, ab_up1 I 47 0 0)) : ∃ r I1 b I2, fx = some (r, I1) ∧ fm I1 = some (b, I2) ∧ rel I2 ∧ okI cs r b (I2 47 0) := qok hr h1 h2 (agr_up agr_rf rfl) up_eq
theorem qref {fx : Option ((Nat ⊕ Int32) × MJ)} {fm : MJ → Option (Int32 × MJ)} {cs : List Nat} {w : Int32} {E : Nat} {I : MJ} (hE : E < 3) (hr : rel I) (h1 : fx = some (.inl E, ab_up1 I 0 (14 + E) (I 0 (14 + E) + 1))) (h2 : fm (ab_up1 I 0 (14 + E) (I 0 (14 + E) + 1)) = some (0, Jref I E w)) (h3 : okE cs E w) : ∃ r I1 b I2, fx = some (r, I1) ∧ fm I1 = some (b, I2) ∧ rel I2 ∧ okI cs r b (I2 47 0) := ⟨_, _, 0, _, h1, h2, Jref_rel hE hr, by rw [Jref_thrown]; exact h3⟩
theorem qokB {fx : Option ((Nat ⊕ Int32) × MJ)} {fm : MJ → Option (Int32 × MJ)} {cs : List Nat} {v w : Int32} {I I1 I2 : MJ} (hr : rel I) (h1 : fx = some (.inr v, I1)) (h2 : fm I1 = some (w, I2)) (hv : v = 0 ↔ w = 0) (h3 : agr qs I I2) (h4 : I2 47 0 = 0) : ∃ r I1 b I2, fx = some (r, I1) ∧ fm I1 = some (b, I2) ∧ rel I2 ∧ okB cs r b (I2 47 0) := ⟨_, I1, w, I2, h1, h2, rel_agr hr h3, h4, hv⟩
theorem qrefB {fx : Option ((Nat ⊕ Int32) × MJ)} {fm : MJ → Option (Int32 × MJ)} {cs : List Nat} {w : Int32} {E : Nat} {I : MJ} (hE : E < 3) (hr : rel I) (h1 : fx = some (.inl E, ab_up1 I 0 (14 + E) (I 0 (14 + E) + 1))) (h2 : fm (ab_up1 I 0 (14 + E) (I 0 (14 + E) + 1)) = some (0, Jref I E w)) (h3 : okE cs E w) : ∃ r I1 b I2, fx = some (r, I1) ∧ fm I1 = some (b, I2) ∧ rel I2 ∧ okB cs r b (I2 47 0) := ⟨_, _, 0, _, h1, h2, Jref_rel hE hr, by rw [Jref_thrown]; exact h3⟩
theorem rel_cnt {I : MJ} (h : rel I) : rCnt I := by
  obtain ⟨tn, bo, st, wa, od, tb, pk, ln, ht, nl, bh, bs, nk, ni, wt, u, hS, hD, hP, hL, hB, hK, hT, hC⟩ := h
  exact hC
/-- a stand in the class' order and in the model's -/
theorem stE_day {f r : Nat → Int32} (h : stE f r) : f 0 = r 89 := h 0 (by decide)
theorem stE_pence {f r : Nat → Int32} (h : stE f r) : f 1 = r 90 := h 1 (by decide)
theorem stE_sold {f r : Nat → Int32} (h : stE f r) : f 2 = r 88 := h 2 (by decide)
theorem stE_cut {f r : Nat → Int32} (h : stE f r) {c : Nat} (hc : c < 6) : f (3 + c) = r (82 + c) := by
  rw [h (3 + c) (by omega)]
  unfold pi91
  rw [if_neg (by omega), if_neg (by omega), if_neg (by omega), if_pos (by omega), show 3 + c + 79 = 82 + c by omega]
theorem stE_left {f r : Nat → Int32} (h : stE f r) {b : Nat} (hb : b < 10) : f (9 + b) = r b := by
  rw [h (9 + b) (by omega)]
  unfold pi91
  rw [if_neg (by omega), if_neg (by omega), if_neg (by omega), if_neg (by omega), show 9 + b - 9 = b by omega]
theorem stE_suit {f r : Nat → Int32} (h : stE f r) {j : Nat} (hj : j < 72) : f (19 + j) = r (10 + j) := by
  rw [h (19 + j) (by omega)]
  unfold pi91
  rw [if_neg (by omega), if_neg (by omega), if_neg (by omega), if_neg (by omega), show 19 + j - 9 = 10 + j by omega]
