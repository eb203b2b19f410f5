/-! readers, fourth: skies -/
section READ4
variable {I : MJ}
theorem i_mod12 : ∀ m : Nat, m < 24 → Int32.ofNat m - Int32.ofNat m / 12 * 12 = Int32.ofNat (m % 12) := by decide +kernel
theorem i_back : ∀ h : Nat, h < 12 → ∀ s : Nat, s < 12 → Int32.ofNat h - Int32.ofNat s + 12 = Int32.ofNat (h + 12 - s) := by decide +kernel
theorem x_kindLater {pk : Nat → Nat → Nat} {p h s : Nat} (hp : p < 6) (hh : h < 12) (hs : s < 12) (hk : ∀ p h, p < 6 → h < 12 → I 20 (12 * p + h) = Int32.ofNat (pk p h)) : f_boo_kindLater28 (Int32.ofNat p) (Int32.ofNat h) (Int32.ofNat s) I = some (Int32.ofNat (pk p ((h + 12 - s) % 12))) := by
  unfold f_boo_kindLater28
  have e1 : (Int32.ofNat h + 12) - Int32.ofNat s = Int32.ofNat (h + 12 - s) := by
    rw [show Int32.ofNat h + 12 = Int32.ofNat (h + 12) from i_addr (n := 12), i_sub (by omega)]
  rw [e1, i_mod12 _ (by omega)]
  have e2 : (12 : Int32) * Int32.ofNat p + Int32.ofNat ((h + 12 - s) % 12) = Int32.ofNat (12 * p + (h + 12 - s) % 12) := by simp (disch := omega) only [i_add, i_addr, i_addl, i_mul, i_mulr, i_mull, i_lt, i_ltr, i_ltl, i_eq, i_eqr, i_eql, i_clamp, i_neg1, i_lt0, n_lt, n_nlt, n_eq, n_ne, ob_some, tb_inr, tb_inl, o_ite, nar_0, nar_1, nar_ite, if_true, if_false, Nat.reduceAdd, Nat.reduceMul, Nat.reduceSub]
  rw [e2, at_20 (by omega), hk p _ hp (by omega)]
  rfl
theorem m_skyAt {pk : Nat → Nat → Nat} {p h s : Nat} (hp : p < 6) (hh : h < 12) (hs : s < 12) (hk : ∀ p h, p < 6 → h < 12 → I (129 + p) h = Int32.ofNat (pk p h)) : f_m_skyAt366 (Int32.ofNat p) (Int32.ofNat s) (Int32.ofNat h) I = some (Int32.ofNat (pk p ((h + 12 - s) % 12))) := by
  unfold f_m_skyAt366
  rw [rdp_128 hp, ob_some, i_back h hh s hs, i_mod12 _ (by omega), rdr_128 hp (by omega), hk p _ hp (by omega)]
  rfl
/-- is the book so, if a pattern begins s hours later? -/
noncomputable def soF (nl : Nat) (bh bs : Nat → Nat) (pk : Nat → Nat → Nat) (p s : Nat) : Int32 := @ite _ (∀ k, k < nl → pk p ((bh k + 12 - s) % 12) = bs k) (Classical.propDecidable _) 1 0
theorem x_isSo {nl : Nat} {bh bs : Nat → Nat} {pk : Nat → Nat → Nat} {p s : Nat} (hp : p < 6) (hs : s < 12) (hB : rBook nl bh bs I) (h4 : ∀ p h, p < 6 → h < 12 → pk p h < 6) (hk : ∀ p h, p < 6 → h < 12 → I 20 (12 * p + h) = Int32.ofNat (pk p h)) : f_boo_isSo27 (Int32.ofNat p) (Int32.ofNat s) I = some (soF nl bh bs pk p s) := by
  obtain ⟨b1, b2, b3, b4, b5, b6, b7, b8, b9⟩ := hB
  unfold f_boo_isSo27
  have h1 := wh_all (f := fun (s1 : Int32) =>
    (if s1 < (12 : Int32) then
      (Option.bind (f_x_at16 36 s1 I) fun v2 =>
      (if v2 = (-1 : Int32) then some (.inl (s1 + (1 : Int32))) else
      (Option.bind (f_boo_kindLater28 (Int32.ofNat p) s1 (Int32.ofNat s) I) fun v3 =>
      (if v2 = v3 then some (.inl (s1 + (1 : Int32))) else some (.inr (0 : Int32)))))) else some (.inr (1 : Int32))))
    (fun h => I 36 h = -1 ∨ I 36 h = Int32.ofNat (pk p ((h + 12 - s) % 12))) 0 12 (by omega) (1 : Int32) (0 : Int32) (by
      intro k h3 h5 h6
      try dsimp only at h6
      rw [if_pos (by rw [i_ltr (by omega) (by decide)]; exact h5), at_36 h5, ob_some]
      by_cases h7 : I 36 k = -1
      · rw [if_pos h7]
        exact congrArg some (congrArg Sum.inl (i_addr (n := 1)))
      · rw [if_neg h7, x_kindLater hp h5 hs hk, ob_some, if_pos (h6.resolve_left h7)]
        exact congrArg some (congrArg Sum.inl (i_addr (n := 1)))) (by
      intro k h3 h5 h6
      try dsimp only at h6
      rw [if_pos (by rw [i_ltr (by omega) (by decide)]; exact h5), at_36 h5, ob_some, if_neg (fun e => h6 (Or.inl e)), x_kindLater hp h5 hs hk, ob_some, if_neg (fun e => h6 (Or.inr e))]) rfl
  refine h1.trans (congrArg some ?_)
  unfold soF
  by_cases h2 : ∀ k, k < nl → pk p ((bh k + 12 - s) % 12) = bs k
  · rw [if_pos h2]
    refine if_pos fun h _ hh => ?_
    by_cases h3 : ∃ k, k < nl ∧ bh k = h
    · obtain ⟨k, hk1, hk2⟩ := h3
      right
      rw [← hk2, b8 k hk1, h2 k hk1]
    · left
      exact b9 h hh (fun k hk1 hk2 => h3 ⟨k, hk1, hk2⟩)
  · rw [if_neg h2]
    refine if_neg fun h3 => h2 fun k hk1 => ?_
    have c := b4 k hk1
    have := h3 (bh k) (by omega) c.1
    rw [b8 k hk1] at this
    rcases this with h5 | h5
    · rw [i_neg1 (by omega)] at h5
      exact h5.elim
    · have d := h4 p ((bh k + 12 - s) % 12) hp (by omega)
      rw [i_eq (by omega) (by omega)] at h5
      exact h5.symm
/-- the skies of a pattern, bits -/
noncomputable def skyF (nl : Nat) (bh bs : Nat → Nat) (pk : Nat → Nat → Nat) (tb p : Nat) : Int32 := if tb.testBit p = true then bo (fun s => if soF nl bh bs pk p s = 0 then 0 else 1 <<< (Int32.ofNat s &&& 31)) 12 else 0
theorem x_skiesOf {nl tb : Nat} {bh bs : Nat → Nat} {pk : Nat → Nat → Nat} {p : Nat} (hp : p < 6) (hB : rBook nl bh bs I) (hP : rPat tb pk I) : f_boo_skiesOf24 (Int32.ofNat p) I = some (skyF nl bh bs pk tb p) := by
  obtain ⟨g1, g2, g3, g4, g5, g6⟩ := hP
  unfold f_boo_skiesOf24 skyF
  by_cases ht : tb.testBit p = true
  · rw [if_pos ht, wh_bits0 (fun s => if soF nl bh bs pk p s = 0 then 0 else 1 <<< (Int32.ofNat s &&& 31)) 12 ?_ ?_]
    · rfl
    · intro k hk s
      have e := x_isTold (p := p) g2 g1 hp
      rw [if_pos ht] at e
      simp (disch := omega) only [i_add, i_addr, i_addl, i_mul, i_mulr, i_mull, i_lt, i_ltr, i_ltl, i_eq, i_eqr, i_eql, i_clamp, i_neg1, i_lt0, n_lt, n_nlt, n_eq, n_ne, ob_some, tb_inr, tb_inl, o_ite, nar_0, nar_1, nar_ite, if_true, if_false, Nat.reduceAdd, Nat.reduceMul, Nat.reduceSub, e, x_isSo hp hk hB g4 g6]
      try rfl
    · intro s; rfl
  · rw [if_neg ht]
    have e := x_isTold (p := p) g2 g1 hp
    rw [if_neg ht] at e
    rw [wh_inr (b := (0 : Int32)) (by
      show (if (0 : Int32) < 12 then _ else _) = _
      rw [if_pos (by decide), e]
      rfl)]
    rfl
theorem m_isSo {nl : Nat} {bh bs : Nat → Nat} {pk : Nat → Nat → Nat} {p s : Nat} (hp : p < 6) (hs : s < 12) (b1 : nl ≤ 12) (b3 : I 47 39 = Int32.ofNat nl) (b4 : ∀ k, k < nl → bh k < 12 ∧ bs k < 6) (b5 : ∀ k, k < nl → I (468 + k) 0 = Int32.ofNat (bh k)) (b6 : ∀ k, k < nl → I (468 + k) 1 = Int32.ofNat (bs k)) (h4 : ∀ p h, p < 6 → h < 12 → pk p h < 6) (g5 : ∀ p h, p < 6 → h < 12 → I (129 + p) h = Int32.ofNat (pk p h)) : wh (fun (s4 : Int32 × Int32) =>
  (if s4.2 < (I 47 39) then
  (Option.bind (α := Int32)
  (if s4.1 = 0 then
  some (0 : Int32)
  else
  (Option.bind (rdp 467 s4.2) fun r8 =>
  (Option.bind (rd I r8 (0 : Int32)) fun v9 =>
  (Option.bind (f_m_skyAt366 (Int32.ofNat p) (Int32.ofNat s) v9 I) fun v10 =>
  (Option.bind (rdp 467 s4.2) fun r11 =>
  (Option.bind (rd I r11 (1 : Int32)) fun v12 =>
  (if v10 = v12 then
  some (1 : Int32)
  else
  some (0 : Int32))))))))
  fun b7 =>
  some (.inl (b7, (s4.2 + (1 : Int32)))))
  else
  some (.inr s4.1))) ((1 : Int32), (0 : Int32)) = some (soF nl bh bs pk p s) := by
  have hA : ∃ A : Nat → Int32, ∀ j, (A j = 1 ∧ ∀ k, k < j → pk p ((bh k + 12 - s) % 12) = bs k) ∨ (A j = 0 ∧ ¬ ∀ k, k < j → pk p ((bh k + 12 - s) % 12) = bs k) := by
    refine ⟨fun j => @ite Int32 (∀ k, k < j → pk p ((bh k + 12 - s) % 12) = bs k) (Classical.propDecidable _) 1 0, fun j => ?_⟩
    by_cases h : ∀ k, k < j → pk p ((bh k + 12 - s) % 12) = bs k
    · exact Or.inl ⟨if_pos h, h⟩
    · exact Or.inr ⟨if_neg h, h⟩
  obtain ⟨A, hA⟩ := hA
  have hA0 : A 0 = 1 := (hA 0).elim (fun h => h.1) (fun h => absurd (fun k hk => by omega) h.2)
  have hAn : A nl = soF nl bh bs pk p s := by
    unfold soF
    rcases hA nl with h | h
    · rw [h.1, if_pos h.2]
    · rw [h.1, if_neg h.2]
  rw [show ((1 : Int32), (0 : Int32)) = (A 0, Int32.ofNat 0) from Prod.ext hA0.symm rfl, ← hAn]
  refine wh_seq (fun j => (A j, Int32.ofNat j)) nl ?_ ?_
  · intro j hj
    have hlt : Int32.ofNat j < I 47 39 := by rw [b3, i_lt (by omega) (by omega)]; exact hj
    have d := b4 j hj
    dsimp only
    rw [if_pos hlt]
    rcases hA j with h | h
    · rw [h.1, if_neg (by decide), rdp_467 (by omega), ob_some, show rd I (468 + j) 0 = some (I (468 + j) 0) from rdr_467 (w := j) (k := 0) (by omega) (by decide), ob_some, b5 j hj, m_skyAt hp d.1 hs g5, ob_some, ob_some, show rd I (468 + j) 1 = some (I (468 + j) 1) from rdr_467 (w := j) (k := 1) (by omega) (by decide), ob_some, b6 j hj, o_ite, ob_some]
      have c := h4 p ((bh j + 12 - s) % 12) hp (by omega)
      refine congrArg some (congrArg Sum.inl (Prod.ext ?_ (i_addr (n := 1))))
      show (if Int32.ofNat (pk p ((bh j + 12 - s) % 12)) = Int32.ofNat (bs j) then (1 : Int32) else 0) = A (j + 1)
      by_cases he : pk p ((bh j + 12 - s) % 12) = bs j
      · rw [he, if_pos rfl]
        rcases hA (j + 1) with h' | h'
        · exact h'.1.symm
        · exact absurd (fun k hk => if hkj : k = j then hkj ▸ he else h.2 k (by omega)) h'.2
      · rw [if_neg (by rw [i_eq (by omega) (by omega)]; exact he)]
        rcases hA (j + 1) with h' | h'
        · exact absurd (h'.2 j (by omega)) he
        · exact h'.1.symm
    · rw [h.1, if_pos rfl, ob_some]
      refine congrArg some (congrArg Sum.inl (Prod.ext ?_ (i_addr (n := 1))))
      rcases hA (j + 1) with h' | h'
      · exact absurd (fun k hk => h'.2 k (by omega)) h.2
      · exact h'.1.symm
  · exact if_neg (by rw [b3]; exact Int32.lt_irrefl)
theorem m_skiesOf {nl tb : Nat} {bh bs : Nat → Nat} {pk : Nat → Nat → Nat} {p : Nat} (hp : p < 6) (hB : rBook nl bh bs I) (hP : rPat tb pk I) : f_m_skiesOf365 (Int32.ofNat p) I = some (skyF nl bh bs pk tb p) := by
  obtain ⟨g1, g2, g3, g4, g5, g6⟩ := hP
  obtain ⟨b1, b2, b3, b4, b5, b6, b7, b8, b9⟩ := hB
  have h4 := g4
  unfold f_m_skiesOf365 skyF
  have et := g3 p hp
  by_cases ht : tb.testBit p = true
  · rw [if_pos ht] at et
    rw [if_pos ht, wh_bits0 (fun s => if soF nl bh bs pk p s = 0 then 0 else 1 <<< (Int32.ofNat s &&& 31)) 12 ?_ ?_]
    · rfl
    · intro s hs acc
      rw [if_pos (show (acc, Int32.ofNat s).2 < (12 : Int32) by rw [i_ltr (by omega) (by decide)]; exact hs), rdb_135 hp, ob_some, et, if_neg (by decide)]
      have hin := m_isSo (I := I) (nl := nl) (bh := bh) (bs := bs) (pk := pk) hp hs b1 b3 b4 b5 b6 h4 g5
      rw [show wh _ ((1 : Int32), (0 : Int32)) = some (soF nl bh bs pk p s) from hin, ob_some, o_ite, ob_some]
      exact congrArg some (congrArg Sum.inl (Prod.ext rfl (i_addr (n := 1))))
    · intro s; rfl
  · rw [if_neg ht] at et
    rw [if_neg ht]
    rw [wh_inr (b := (0 : Int32)) (by
      show (if (0 : Int32) < 12 then _ else _) = _
      rw [if_pos (by decide), rdb_135 hp, ob_some, et]
      rfl)]
    rfl
end READ4
