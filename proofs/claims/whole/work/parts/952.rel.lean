/-! what holds between two calls: the class' cells and the model's tell the same -/
/-- cells that tell nothing between two calls -/
def qa (a : Nat) : Bool := (9 ≤ a && a ≤ 14) || a == 17 || a == 18 || a == 21 || a == 22 || (25 ≤ a && a ≤ 30) || a == 37 || (38 ≤ a && a ≤ 46) || a == 50 || a == 52 || (54 ≤ a && a ≤ 64) || (76 ≤ a && a ≤ 92) || (110 ≤ a && a ≤ 118) || (136 ≤ a && a ≤ 144) || (306 ≤ a && a ≤ 466) || (480 ≤ a && a ≤ 575) || a == 577 || (599 ≤ a)
def qf (a k : Nat) : Bool := (a == 1 && (2 ≤ k && k ≤ 5)) || (a == 23 && k == 5) || (a == 35 && k == 4) || (a == 47 && (k == 0 || k == 2 || (4 ≤ k && k ≤ 8) || k == 26 || k == 34 || k == 43 || k == 46 || k == 47 || k == 53 || k == 55))
def qs (a k : Nat) : Bool := (qa a || qf a k) && !(a == 46 && k == 0)
/-- where a number of the class' row of a stand lies in the model's -/
def pi91 (k : Nat) : Nat := if k = 0 then 89 else if k = 1 then 90 else if k = 2 then 88 else if k < 9 then k + 79 else k - 9
def stE (f r : Nat → Int32) : Prop := ∀ k, k < 91 → f k = r (pi91 k)
def stV (nb nc : Nat) (r : Nat → Int32) : Prop :=
  ∃ day : Nat, day ≤ 60 ∧ r 89 = Int32.ofNat day ∧ (∀ b, b < 10 → ∃ m, m ≤ 60 ∧ r b = Int32.ofNat m ∧ (nb ≤ b → m = 0)) ∧ (∀ c, c < 6 → r (82 + c) = -1 ∨ (c < nc ∧ ∃ e, e ≤ day ∧ r (82 + c) = Int32.ofNat e)) ∧ (∀ j, j < 72 → ∃ m, m ≤ 6 ∧ r (10 + j) = Int32.ofNat m)
def rShop (tn : Nat → Nat) (bo : Nat → Nat → Nat) (st : Nat → Nat) (wa od : Nat → Nat → Nat) (I : MJ) : Prop :=
  (tn 0 ≤ 10 ∧ tn 1 ≤ 6 ∧ tn 2 ≤ 16 ∧ tn 3 ≤ 8 ∧ tn 4 ≤ 9 ∧ 1 ≤ tn 5 ∧ tn 5 ≤ 24 ∧ I 46 0 = 0) ∧
  (∀ j, j < 6 → I 51 j = Int32.ofNat (tn j)) ∧ (∀ j, j < 6 → I 3 (5 + j) = Int32.ofNat (tn j)) ∧
  (∀ b, b < tn 0 → bo b 0 < 6 ∧ 1 ≤ bo b 1 ∧ bo b 1 ≤ 60) ∧
  (∀ b, b < tn 0 → I (66 + b) 0 = Int32.ofNat (bo b 0)) ∧ (∀ b, b < tn 0 → I (66 + b) 1 = Int32.ofNat (bo b 1)) ∧
  (∀ b, b < tn 0 → I 4 b = Int32.ofNat (bo b 0)) ∧ (∀ b, b < tn 0 → I 5 b = Int32.ofNat (bo b 1)) ∧
  (∀ c, c < tn 1 → st c ≤ 9) ∧ (∀ c, c < tn 1 → I 53 c = Int32.ofNat (st c)) ∧ (∀ c, c < tn 1 → I 6 c = Int32.ofNat (st c)) ∧
  (∀ w, w < tn 2 → wa w 0 < tn 1 ∧ wa w 1 ≤ wa w 2 ∧ wa w 2 ≤ 11 ∧ wa w 3 < 6 ∧ 1 ≤ wa w 4 ∧ wa w 4 ≤ 9) ∧
  (∀ w j, w < tn 2 → j < 5 → I (94 + w) j = Int32.ofNat (wa w j)) ∧ (∀ w j, w < tn 2 → j < 5 → I 7 (5 * w + j) = Int32.ofNat (wa w j)) ∧
  (∀ o, o < tn 3 → od o 0 < tn 1 ∧ od o 1 < 6 ∧ 1 ≤ od o 2 ∧ od o 2 ≤ 60 ∧ od o 3 ≤ 999 ∧ 1 ≤ od o 4 ∧ od o 4 ≤ 24) ∧
  (∀ o j, o < tn 3 → j < 5 → I (120 + o) j = Int32.ofNat (od o j)) ∧ (∀ o j, o < tn 3 → j < 5 → I 8 (5 * o + j) = Int32.ofNat (od o j))
def rStand (nb nc : Nat) (I : MJ) : Prop := stE (I 16) (I 576) ∧ stV nb nc (I 576)
def rPat (tb : Nat) (pk : Nat → Nat → Nat) (I : MJ) : Prop :=
  tb < 64 ∧ I 19 3 = Int32.ofNat tb ∧ (∀ p, p < 6 → I 135 p = if tb.testBit p then 1 else 0) ∧ (∀ p h, p < 6 → h < 12 → pk p h < 6) ∧ (∀ p h, p < 6 → h < 12 → I (129 + p) h = Int32.ofNat (pk p h)) ∧ (∀ p h, p < 6 → h < 12 → I 20 (12 * p + h) = Int32.ofNat (pk p h))
/-- a code of the class' law, and the model's -/
def codeR (c how v : Int32) : Prop :=
  (how = 0 ∧ c = v ∧ ∃ n, n ≤ 999 ∧ v = Int32.ofNat n) ∨ (how = 1 ∧ ∃ j : Nat, j < 6 ∧ v = Int32.ofNat j ∧ c = -1 - Int32.ofNat j) ∨ (how = 2 ∧ c = -9) ∨ (how = 3 ∧ c = -10) ∨ (how = 4 ∧ c = -11) ∨ (how = 5 ∧ c = -12) ∨ (how = 6 ∧ c = -13) ∨ (how = 7 ∧ c = -7) ∨ (how = 8 ∧ c = -8)
def rLaw (ln : Nat) (ht : Nat → Nat) (I : MJ) : Prop :=
  ln ≤ 150 ∧ I 23 4 = Int32.ofNat ln ∧ I 47 25 = Int32.ofNat ln ∧ (∀ k, k < ln → codeR (I 24 k) (I (146 + k) 0) (I (146 + k) 1)) ∧
  ht 0 = 0 ∧ (∀ k, k < ln → if I (146 + k) 0 = 0 ∨ I (146 + k) 0 = 1 then ht (k + 1) = ht k + 1 else 2 ≤ ht k ∧ ht (k + 1) + 1 = ht k) ∧ (0 < ln → ht ln = 1) ∧ (∀ k, k ≤ ln → ht k ≤ 60)
def rBook (nl : Nat) (bh bs : Nat → Nat) (I : MJ) : Prop :=
  nl ≤ 12 ∧ I 35 3 = Int32.ofNat nl ∧ I 47 39 = Int32.ofNat nl ∧ (∀ k, k < nl → bh k < 12 ∧ bs k < 6) ∧ (∀ k, k < nl → I (468 + k) 0 = Int32.ofNat (bh k)) ∧ (∀ k, k < nl → I (468 + k) 1 = Int32.ofNat (bs k)) ∧
  (∀ j k, j < nl → k < nl → bh j = bh k → j = k) ∧ (∀ k, k < nl → I 36 (bh k) = Int32.ofNat (bs k)) ∧ (∀ h, h < 12 → (∀ k, k < nl → bh k ≠ h) → I 36 h = -1)
def rPast (nb nc nk ni : Nat) (wt : Nat → Nat) (I : MJ) : Prop :=
  nk ≤ 16 ∧ I 31 3 = Int32.ofNat nk ∧ I 47 40 = Int32.ofNat nk ∧ (∀ w, w < nk → stE (fun k => I 32 (91 * w + k)) (I (579 + w)) ∧ stV nb nc (I (579 + w))) ∧
  ni ≤ 3 ∧ I 31 4 = Int32.ofNat ni ∧ I 47 42 = Int32.ofNat ni ∧ (∀ i, i < ni → wt i ≤ 16 ∧ I 34 i = Int32.ofNat (wt i) ∧ I (596 + i) 0 = Int32.ofNat (wt i) ∧
    (stE (fun k => I 33 (1547 * i + k)) (fun k => I (596 + i) (1 + k)) ∧ stV nb nc (fun k => I (596 + i) (1 + k))) ∧
    (∀ w, w < wt i → stE (fun k => I 33 (1547 * i + 91 + 91 * w + k)) (fun k => I (596 + i) (92 + 91 * w + k)) ∧ stV nb nc (fun k => I (596 + i) (92 + 91 * w + k))))
/-- a byte as it is stored -/
def sb8 (b : Nat) : Int32 := (Int32.ofNat b).toInt8.toInt32
def rTape (u : Nat) (I : MJ) : Prop :=
  u ≤ 600 ∧ I 1 1 = Int32.ofNat u ∧ I 47 1 = Int32.ofNat u ∧ (∀ k, k < u → ∃ b, b < 256 ∧ I 48 k = Int32.ofNat b ∧ I 2 k = sb8 b)
def rCnt (I : MJ) : Prop := I 0 13 = I 47 41 ∧ I 0 14 = I 49 0 ∧ I 0 15 = I 49 1 ∧ I 0 16 = I 49 2 ∧ I 1 6 = I 47 3
def rel (I : MJ) : Prop := ∃ tn bo st wa od tb pk ln ht nl bh bs nk ni wt u, rShop tn bo st wa od I ∧ rStand (tn 0) (tn 1) I ∧ rPat tb pk I ∧ rLaw ln ht I ∧ rBook nl bh bs I ∧ rPast (tn 0) (tn 1) nk ni wt I ∧ rTape u I ∧ rCnt I
section CONGR
variable {I J : MJ}
theorem stE_congr {f f' r r' : Nat → Int32} (hf : ∀ k, k < 91 → f' k = f k) (hr : ∀ k, k < 91 → r' k = r k) (h : stE f r) : stE f' r' := fun k hk => by
  rw [hf k hk, h k hk, hr]
  unfold pi91
  repeat' split
  all_goals omega
theorem stV_congr {nb nc : Nat} {r r' : Nat → Int32} (hr : ∀ k, k < 91 → r' k = r k) (h : stV nb nc r) : stV nb nc r' := by
  obtain ⟨day, h1, h2, h3, h4, h5⟩ := h
  refine ⟨day, h1, (hr 89 (by decide)).trans h2, fun b hb => ?_, fun c hc => ?_, fun j hj => ?_⟩
  · rw [hr b (by omega)]; exact h3 b hb
  · rw [hr (82 + c) (by omega)]; exact h4 c hc
  · rw [hr (10 + j) (by omega)]; exact h5 j hj
theorem rShop_congr {tn : Nat → Nat} {bo : Nat → Nat → Nat} {st : Nat → Nat} {wa od : Nat → Nat → Nat} (e : ∀ a k, (a = 51 ∨ a = 3 ∨ (66 ≤ a ∧ a < 76) ∨ a = 4 ∨ a = 5 ∨ a = 53 ∨ a = 6 ∨ (94 ≤ a ∧ a < 110) ∨ a = 7 ∨ (120 ≤ a ∧ a < 128) ∨ a = 8 ∨ (a = 46 ∧ k = 0)) → J a k = I a k) (h : rShop tn bo st wa od I) : rShop tn bo st wa od J := by
  obtain ⟨h1, h2, h3, h4, h5, h6, h7, h8, h9, h10, h11, h12, h13, h14, h15, h16, h17⟩ := h
  refine ⟨⟨h1.1, h1.2.1, h1.2.2.1, h1.2.2.2.1, h1.2.2.2.2.1, h1.2.2.2.2.2.1, h1.2.2.2.2.2.2.1, (e 46 0 (by omega)).trans h1.2.2.2.2.2.2.2⟩, fun j hj => ?_, fun j hj => ?_, h4, fun b hb => ?_, fun b hb => ?_, fun b hb => ?_, fun b hb => ?_, h9, fun c hc => ?_, fun c hc => ?_, h12, fun w j hw hj => ?_, fun w j hw hj => ?_, h15, fun o j ho hj => ?_, fun o j ho hj => ?_⟩
  all_goals rw [e _ _ (by omega)]
  · exact h2 j hj
  · exact h3 j hj
  · exact h5 b hb
  · exact h6 b hb
  · exact h7 b hb
  · exact h8 b hb
  · exact h10 c hc
  · exact h11 c hc
  · exact h13 w j hw hj
  · exact h14 w j hw hj
  · exact h16 o j ho hj
  · exact h17 o j ho hj
theorem rStand_congr {nb nc : Nat} (e : ∀ a k, (a = 16 ∨ a = 576) → J a k = I a k) (h : rStand nb nc I) : rStand nb nc J :=
  ⟨stE_congr (fun k _ => e 16 k (Or.inl rfl)) (fun k _ => e 576 k (Or.inr rfl)) h.1, stV_congr (fun k _ => e 576 k (Or.inr rfl)) h.2⟩
theorem rPat_congr {tb : Nat} {pk : Nat → Nat → Nat} (e : ∀ a k, ((a = 19 ∧ k = 3) ∨ a = 135 ∨ (129 ≤ a ∧ a < 135) ∨ a = 20) → J a k = I a k) (h : rPat tb pk I) : rPat tb pk J := by
  obtain ⟨h1, h2, h3, h4, h5, h6⟩ := h
  refine ⟨h1, ?_, fun p hp => ?_, h4, fun p h hp hh => ?_, fun p h hp hh => ?_⟩
  all_goals rw [e _ _ (by omega)]
  · exact h2
  · exact h3 p hp
  · exact h5 p h hp hh
  · exact h6 p h hp hh
theorem rLaw_congr {ln : Nat} {ht : Nat → Nat} (e : ∀ a k, ((a = 23 ∧ k = 4) ∨ (a = 47 ∧ k = 25) ∨ a = 24 ∨ (146 ≤ a ∧ a < 296)) → J a k = I a k) (h : rLaw ln ht I) : rLaw ln ht J := by
  obtain ⟨h1, h2, h3, h4, h5, h6, h7, h8⟩ := h
  refine ⟨h1, by rw [e _ _ (by omega)]; exact h2, by rw [e _ _ (by omega)]; exact h3, fun k hk => ?_, h5, fun k hk => ?_, h7, h8⟩
  · rw [e 24 k (by omega), e (146 + k) 0 (by omega), e (146 + k) 1 (by omega)]; exact h4 k hk
  · rw [e (146 + k) 0 (by omega)]; exact h6 k hk
theorem rBook_congr {nl : Nat} {bh bs : Nat → Nat} (e : ∀ a k, ((a = 35 ∧ k = 3) ∨ (a = 47 ∧ k = 39) ∨ a = 36 ∨ (468 ≤ a ∧ a < 480)) → J a k = I a k) (h : rBook nl bh bs I) : rBook nl bh bs J := by
  obtain ⟨h1, h2, h3, h4, h5, h6, h7, h8, h9⟩ := h
  refine ⟨h1, by rw [e _ _ (by omega)]; exact h2, by rw [e _ _ (by omega)]; exact h3, h4, fun k hk => ?_, fun k hk => ?_, h7, fun k hk => ?_, fun k hk hh => ?_⟩
  all_goals rw [e _ _ (by omega)]
  · exact h5 k hk
  · exact h6 k hk
  · exact h8 k hk
  · exact h9 k hk hh
theorem rPast_congr {nb nc nk ni : Nat} {wt : Nat → Nat} (e : ∀ a k, ((a = 31 ∧ (k = 3 ∨ k = 4)) ∨ (a = 47 ∧ (k = 40 ∨ k = 42)) ∨ a = 32 ∨ a = 33 ∨ a = 34 ∨ (579 ≤ a ∧ a < 595) ∨ (596 ≤ a ∧ a < 599)) → J a k = I a k) (h : rPast nb nc nk ni wt I) : rPast nb nc nk ni wt J := by
  obtain ⟨h1, h2, h3, h4, h5, h6, h7, h8⟩ := h
  refine ⟨h1, by rw [e _ _ (by omega)]; exact h2, by rw [e _ _ (by omega)]; exact h3, fun w hw => ?_, h5, by rw [e _ _ (by omega)]; exact h6, by rw [e _ _ (by omega)]; exact h7, fun i hi => ?_⟩
  · exact ⟨stE_congr (fun k _ => e _ _ (by omega)) (fun k _ => e _ _ (by omega)) (h4 w hw).1, stV_congr (fun k _ => e _ _ (by omega)) (h4 w hw).2⟩
  · obtain ⟨g1, g2, g3, g4, g5⟩ := h8 i hi
    refine ⟨g1, by rw [e _ _ (by omega)]; exact g2, by rw [e _ _ (by omega)]; exact g3, ⟨stE_congr (fun k _ => e _ _ (by omega)) (fun k _ => e _ _ (by omega)) g4.1, stV_congr (fun k _ => e _ _ (by omega)) g4.2⟩, fun w hw => ?_⟩
    exact ⟨stE_congr (fun k _ => e _ _ (by omega)) (fun k _ => e _ _ (by omega)) (g5 w hw).1, stV_congr (fun k _ => e _ _ (by omega)) (g5 w hw).2⟩
theorem rTape_congr {u : Nat} (e : ∀ a k, ((a = 1 ∧ k = 1) ∨ (a = 47 ∧ k = 1) ∨ a = 48 ∨ a = 2) → J a k = I a k) (h : rTape u I) : rTape u J := by
  obtain ⟨h1, h2, h3, h4⟩ := h
  refine ⟨h1, by rw [e _ _ (by omega)]; exact h2, by rw [e _ _ (by omega)]; exact h3, fun k hk => ?_⟩
  rw [e 48 k (by omega), e 2 k (by omega)]
  exact h4 k hk
theorem qa_rg {lo hi : Nat} (h : mk_upto (fun j => !(qa (lo + j))) (hi - lo) = true) {a : Nat} (h1 : lo ≤ a) (h2 : a < hi) : qa a = false := by
  have h3 := mk_upto_ok h (a - lo) (by omega)
  rw [show lo + (a - lo) = a by omega] at h3
  simpa using h3
theorem qf_ne {a k : Nat} (h1 : a ≠ 1) (h2 : a ≠ 23) (h3 : a ≠ 35) (h4 : a ≠ 47) : qf a k = false := by
  unfold qf
  rw [beq_false_of_ne h1, beq_false_of_ne h2, beq_false_of_ne h3, beq_false_of_ne h4]
  rfl
theorem qs_rg {lo hi : Nat} (h : mk_upto (fun j => !(qa (lo + j))) (hi - lo) = true) {a k : Nat} (h1 : lo ≤ a) (h2 : a < hi) (h3 : 48 ≤ lo) : qs a k = false := by
  unfold qs
  rw [qa_rg h h1 h2, qf_ne (by omega) (by omega) (by omega) (by omega)]
  rfl
theorem qs_at {a k : Nat} (h : qa a = false) (h1 : a ≠ 1) (h2 : a ≠ 23) (h3 : a ≠ 35) (h4 : a ≠ 47) : qs a k = false := by
  unfold qs
  rw [h, qf_ne h1 h2 h3 h4]
  rfl
theorem qsS {a k : Nat} (h : (a = 51 ∨ a = 3 ∨ (66 ≤ a ∧ a < 76) ∨ a = 4 ∨ a = 5 ∨ a = 53 ∨ a = 6 ∨ (94 ≤ a ∧ a < 110) ∨ a = 7 ∨ (120 ≤ a ∧ a < 128) ∨ a = 8 ∨ (a = 46 ∧ k = 0))) : qs a k = false := by
  rcases h with rfl | rfl | ⟨h1, h2⟩ | rfl | rfl | rfl | rfl | ⟨h1, h2⟩ | rfl | ⟨h1, h2⟩ | rfl | ⟨rfl, rfl⟩
  · exact qs_at rfl (by decide) (by decide) (by decide) (by decide)
  · exact qs_at rfl (by decide) (by decide) (by decide) (by decide)
  · exact qs_rg (lo := 66) (hi := 76) (by decide +kernel) h1 h2 (by decide)
  · exact qs_at rfl (by decide) (by decide) (by decide) (by decide)
  · exact qs_at rfl (by decide) (by decide) (by decide) (by decide)
  · exact qs_at rfl (by decide) (by decide) (by decide) (by decide)
  · exact qs_at rfl (by decide) (by decide) (by decide) (by decide)
  · exact qs_rg (lo := 94) (hi := 110) (by decide +kernel) h1 h2 (by decide)
  · exact qs_at rfl (by decide) (by decide) (by decide) (by decide)
  · exact qs_rg (lo := 120) (hi := 128) (by decide +kernel) h1 h2 (by decide)
  · exact qs_at rfl (by decide) (by decide) (by decide) (by decide)
  · rfl
theorem qsD {a k : Nat} (h : (a = 16 ∨ a = 576)) : qs a k = false := by
  rcases h with rfl | rfl
  · exact qs_at rfl (by decide) (by decide) (by decide) (by decide)
  · exact qs_at rfl (by decide) (by decide) (by decide) (by decide)
theorem qsP {a k : Nat} (h : ((a = 19 ∧ k = 3) ∨ a = 135 ∨ (129 ≤ a ∧ a < 135) ∨ a = 20)) : qs a k = false := by
  rcases h with ⟨rfl, rfl⟩ | rfl | ⟨h1, h2⟩ | rfl
  · rfl
  · exact qs_at rfl (by decide) (by decide) (by decide) (by decide)
  · exact qs_rg (lo := 129) (hi := 135) (by decide +kernel) h1 h2 (by decide)
  · exact qs_at rfl (by decide) (by decide) (by decide) (by decide)
theorem qsL {a k : Nat} (h : ((a = 23 ∧ k = 4) ∨ (a = 47 ∧ k = 25) ∨ a = 24 ∨ (146 ≤ a ∧ a < 296))) : qs a k = false := by
  rcases h with ⟨rfl, rfl⟩ | ⟨rfl, rfl⟩ | rfl | ⟨h1, h2⟩
  · rfl
  · rfl
  · exact qs_at rfl (by decide) (by decide) (by decide) (by decide)
  · exact qs_rg (lo := 146) (hi := 296) (by decide +kernel) h1 h2 (by decide)
theorem qsB {a k : Nat} (h : ((a = 35 ∧ k = 3) ∨ (a = 47 ∧ k = 39) ∨ a = 36 ∨ (468 ≤ a ∧ a < 480))) : qs a k = false := by
  rcases h with ⟨rfl, rfl⟩ | ⟨rfl, rfl⟩ | rfl | ⟨h1, h2⟩
  · rfl
  · rfl
  · exact qs_at rfl (by decide) (by decide) (by decide) (by decide)
  · exact qs_rg (lo := 468) (hi := 480) (by decide +kernel) h1 h2 (by decide)
theorem qsK {a k : Nat} (h : ((a = 31 ∧ (k = 3 ∨ k = 4)) ∨ (a = 47 ∧ (k = 40 ∨ k = 42)) ∨ a = 32 ∨ a = 33 ∨ a = 34 ∨ (579 ≤ a ∧ a < 595) ∨ (596 ≤ a ∧ a < 599))) : qs a k = false := by
  rcases h with ⟨rfl, rfl | rfl⟩ | ⟨rfl, rfl | rfl⟩ | rfl | rfl | rfl | ⟨h1, h2⟩ | ⟨h1, h2⟩
  · rfl
  · rfl
  · rfl
  · rfl
  · exact qs_at rfl (by decide) (by decide) (by decide) (by decide)
  · exact qs_at rfl (by decide) (by decide) (by decide) (by decide)
  · exact qs_at rfl (by decide) (by decide) (by decide) (by decide)
  · exact qs_rg (lo := 579) (hi := 595) (by decide +kernel) h1 h2 (by decide)
  · exact qs_rg (lo := 596) (hi := 599) (by decide +kernel) h1 h2 (by decide)
theorem qsT {a k : Nat} (h : ((a = 1 ∧ k = 1) ∨ (a = 47 ∧ k = 1) ∨ a = 48 ∨ a = 2)) : qs a k = false := by
  rcases h with ⟨rfl, rfl⟩ | ⟨rfl, rfl⟩ | rfl | rfl
  · rfl
  · rfl
  · exact qs_at rfl (by decide) (by decide) (by decide) (by decide)
  · exact qs_at rfl (by decide) (by decide) (by decide) (by decide)
theorem qsC {a k : Nat} (h : (a = 0 ∨ a = 49 ∨ (a = 47 ∧ (k = 41 ∨ k = 3)) ∨ (a = 1 ∧ k = 6))) : qs a k = false := by
  rcases h with rfl | rfl | ⟨rfl, rfl | rfl⟩ | ⟨rfl, rfl⟩
  · exact qs_at rfl (by decide) (by decide) (by decide) (by decide)
  · exact qs_at rfl (by decide) (by decide) (by decide) (by decide)
  · rfl
  · rfl
  · rfl
/-- scratch doesn't count -/
theorem rel_agr (h : rel I) (e : agr qs I J) : rel J := by
  obtain ⟨tn, bo, st, wa, od, tb, pk, ln, ht, nl, bh, bs, nk, ni, wt, u, h1, h2, h3, h4, h5, h6, h7, h8⟩ := h
  refine ⟨tn, bo, st, wa, od, tb, pk, ln, ht, nl, bh, bs, nk, ni, wt, u, rShop_congr (fun a k h => e a k (qsS h)) h1, rStand_congr (fun a k h => e a k (qsD h)) h2, rPat_congr (fun a k h => e a k (qsP h)) h3, rLaw_congr (fun a k h => e a k (qsL h)) h4, rBook_congr (fun a k h => e a k (qsB h)) h5, rPast_congr (fun a k h => e a k (qsK h)) h6, rTape_congr (fun a k h => e a k (qsT h)) h7, ?_⟩
  obtain ⟨c1, c2, c3, c4, c5⟩ := h8
  refine ⟨?_, ?_, ?_, ?_, ?_⟩
  · rw [e 0 13 rfl, e 47 41 rfl]; exact c1
  · rw [e 0 14 rfl, e 49 0 rfl]; exact c2
  · rw [e 0 15 rfl, e 49 1 rfl]; exact c3
  · rw [e 0 16 rfl, e 49 2 rfl]; exact c4
  · rw [e 1 6 rfl, e 47 3 rfl]; exact c5
theorem nz_of {a k : Nat} {E : Nat} (h : ¬ (a = 0 ∨ a = 49)) : ¬ (a = 0 ∧ k = 14 + E) ∧ ¬ (a = 49 ∧ k = E) := ⟨fun e => h (Or.inl e.1), fun e => h (Or.inr e.1)⟩
/-- a call is refused: both count it -/
theorem rel_ref {E : Nat} (hE : E < 3) (h : rel I) (e1 : ∀ a k, qs a k = false → ¬ (a = 0 ∧ k = 14 + E) → ¬ (a = 49 ∧ k = E) → J a k = I a k) (e2 : J 0 (14 + E) = I 0 (14 + E) + 1) (e3 : J 49 E = I 49 E + 1) : rel J := by
  obtain ⟨tn, bo, st, wa, od, tb, pk, ln, ht, nl, bh, bs, nk, ni, wt, u, h1, h2, h3, h4, h5, h6, h7, h8⟩ := h
  have e0 : ∀ a k, qs a k = false → ¬ (a = 0 ∨ a = 49) → J a k = I a k := fun a k hq h => e1 a k hq (nz_of h).1 (nz_of h).2
  refine ⟨tn, bo, st, wa, od, tb, pk, ln, ht, nl, bh, bs, nk, ni, wt, u, rShop_congr (fun a k h => e0 a k (qsS h) (by omega)) h1, rStand_congr (fun a k h => e0 a k (qsD h) (by omega)) h2, rPat_congr (fun a k h => e0 a k (qsP h) (by omega)) h3, rLaw_congr (fun a k h => e0 a k (qsL h) (by omega)) h4, rBook_congr (fun a k h => e0 a k (qsB h) (by omega)) h5, rPast_congr (fun a k h => e0 a k (qsK h) (by omega)) h6, rTape_congr (fun a k h => e0 a k (qsT h) (by omega)) h7, ?_⟩
  obtain ⟨c1, c2, c3, c4, c5⟩ := h8
  have hc : ∀ j, j < 3 → I 0 (14 + j) = I 49 j := by
    intro j hj
    match j, hj with
    | 0, _ => exact c2
    | 1, _ => exact c3
    | 2, _ => exact c4
  have hd : ∀ j, j < 3 → J 0 (14 + j) = J 49 j := by
    intro j hj
    by_cases hjE : j = E
    · subst hjE
      rw [e2, e3, hc j hj]
    · rw [e1 0 (14 + j) (qsC (Or.inl rfl)) (by omega) (by omega), e1 49 j (qsC (Or.inr (Or.inl rfl))) (by omega) (by omega)]
      exact hc j hj
  refine ⟨?_, hd 0 (by decide), hd 1 (by decide), hd 2 (by decide), ?_⟩
  · rw [e1 0 13 rfl (by omega) (by omega), e1 47 41 rfl (by omega) (by omega)]
    exact c1
  · rw [e1 1 6 rfl (by omega) (by omega), e1 47 3 rfl (by omega) (by omega)]
    exact c5
end CONGR
