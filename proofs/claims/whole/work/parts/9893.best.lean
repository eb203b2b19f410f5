/-! the row that is best worn: the class -/
/-- the first of 0 .. n by which t is greatest -/
def amF (t : Nat → Int32) : Nat → Nat
  | 0 => 0
  | n + 1 => if t (amF t n) < t (n + 1) then n + 1 else amF t n
theorem amF_step {t : Nat → Int32} {n : Nat} : amF t (n + 1) = if t (amF t n) < t (n + 1) then n + 1 else amF t n := rfl
theorem amF_le {t : Nat → Int32} : ∀ n, amF t n ≤ n
  | 0 => Nat.le_refl _
  | n + 1 => by
    have := amF_le (t := t) n
    unfold amF
    split <;> omega
theorem amF_top {t : Nat → Int32} : ∀ n, (∀ j, j ≤ n → ¬ t (amF t n) < t j) ∧ ∀ j, j < amF t n → t j < t (amF t n)
  | 0 => ⟨fun j hj => by
      rw [show j = 0 by omega]
      exact Int32.lt_irrefl, fun j hj => absurd hj (Nat.not_lt_zero j)⟩
  | n + 1 => by
    obtain ⟨h1, h2⟩ := amF_top (t := t) n
    unfold amF
    split
    · rename_i h
      refine ⟨fun j hj hl => ?_, fun j hj => ?_⟩
      · by_cases e : j = n + 1
        · rw [e] at hl
          exact Int32.lt_irrefl hl
        · have := h1 j (by omega)
          rw [Int32.lt_iff_toInt_lt] at *
          omega
      · have := h1 j (by omega)
        rw [Int32.lt_iff_toInt_lt] at *
        omega
    · rename_i h
      refine ⟨fun j hj => ?_, h2⟩
      by_cases e : j = n + 1
      · rw [e]; exact h
      · exact h1 j (by omega)
theorem amF_congr {t u : Nat → Int32} : ∀ {n : Nat}, (∀ k, k ≤ n → t k = u k) → amF t n = amF u n
  | 0, _ => rfl
  | n + 1, h => by
    have h1 := amF_congr (t := t) (u := u) (n := n) (fun k hk => h k (by omega))
    have h2 := amF_le (t := u) n
    unfold amF
    rw [h1, h (amF u n) (by omega), h (n + 1) (by omega)]
def gnF (nw : Nat) (wa : Nat → Nat → Nat) (c h b k : Nat) : Int32 := sm (fun w => if wa w 0 = c ∧ wa w 2 = h ∧ wa w 3 = k ∧ b ≤ wa w 1 then Int32.ofNat (wa w 4) else 0) nw
def bgF (h last fr k : Nat) : Nat := if 0 < h ∧ k = last then fr else h
def gnO (gn : Nat → Nat → Nat → Int32) (se : Int32) (Gn : Nat → Nat → Int32) (h last fr k : Nat) : Int32 := (gn h (bgF h last fr k) k - (if 0 < h ∧ ¬ k = last then se else 0)) + Gn k (bgF h last fr k)
def gG (gn : Nat → Nat → Nat → Int32) (se : Int32) : Nat → Nat → Nat → Int32
  | 0 => fun _ _ => 0
  | d + 1 => fun last fr => gnO gn se (gG gn se d) (11 - d) last fr (amF (gnO gn se (gG gn se d) (11 - d) last fr) 5)
def gnG (gn : Nat → Nat → Nat → Int32) (se : Int32) (h : Nat) : Nat → Nat → Int32 := gG gn se (12 - h)
theorem gnG_step {gn : Nat → Nat → Nat → Int32} {se : Int32} {h last fr : Nat} (hh : h < 12) : gnG gn se h last fr = gnO gn se (gnG gn se (h + 1)) h last fr (amF (gnO gn se (gnG gn se (h + 1)) h last fr) 5) := by
  unfold gnG
  rw [show 12 - h = (11 - h) + 1 by omega, show 12 - (h + 1) = 11 - h by omega]
  show gnO gn se (gG gn se (11 - h)) (11 - (11 - h)) last fr _ = _
  rw [show 11 - (11 - h) = h by omega]
theorem lv_dec (i : Nat) : (11 : Int32) - Int32.ofNat i + (-1 : Int32) = 11 - Int32.ofNat (i + 1) := by
  rw [Int32.ofNat_add]
  show _ = 11 - (Int32.ofNat i + 1)
  grind
/-- what the class keeps: a kind in an hour of a run begun at b, and all behind -/
def wtW (gn : Nat → Nat → Nat → Int32) (se : Int32) (h b k : Nat) : Int32 := gn h b k + gnG gn se (h + 1) k b
/-- the kinds of the best row, and where their runs begin -/
def sqF (gn : Nat → Nat → Nat → Int32) (se : Int32) : Nat → Nat × Nat
  | 0 => (amF (gnO gn se (gnG gn se 1) 0 0 0) 5, 0)
  | h + 1 => (amF (gnO gn se (gnG gn se (h + 2)) (h + 1) (sqF gn se h).1 (sqF gn se h).2) 5, if amF (gnO gn se (gnG gn se (h + 2)) (h + 1) (sqF gn se h).1 (sqF gn se h).2) 5 = (sqF gn se h).1 then (sqF gn se h).2 else h + 1)
theorem sqF_0 {gn : Nat → Nat → Nat → Int32} {se : Int32} : sqF gn se 0 = (amF (gnO gn se (gnG gn se 1) 0 0 0) 5, 0) := rfl
theorem sqF_s {gn : Nat → Nat → Nat → Int32} {se : Int32} {h : Nat} : sqF gn se (h + 1) = (amF (gnO gn se (gnG gn se (h + 2)) (h + 1) (sqF gn se h).1 (sqF gn se h).2) 5, if amF (gnO gn se (gnG gn se (h + 2)) (h + 1) (sqF gn se h).1 (sqF gn se h).2) 5 = (sqF gn se h).1 then (sqF gn se h).2 else h + 1) := rfl
theorem sqF_ok {gn : Nat → Nat → Nat → Int32} {se : Int32} : ∀ h, (sqF gn se h).1 < 6 ∧ (sqF gn se h).2 ≤ h
  | 0 => by
    have h2 := amF_le (t := gnO gn se (gnG gn se 1) 0 0 0) 5
    rw [sqF_0]
    generalize amF (gnO gn se (gnG gn se 1) 0 0 0) 5 = k at h2 ⊢
    show k < 6 ∧ 0 ≤ 0
    omega
  | h + 1 => by
    have := sqF_ok (gn := gn) (se := se) h
    have h2 := amF_le (t := gnO gn se (gnG gn se (h + 2)) (h + 1) (sqF gn se h).1 (sqF gn se h).2) 5
    rw [sqF_s]
    generalize amF (gnO gn se (gnG gn se (h + 2)) (h + 1) (sqF gn se h).1 (sqF gn se h).2) 5 = k at h2 ⊢
    show k < 6 ∧ (if k = (sqF gn se h).1 then (sqF gn se h).2 else h + 1) ≤ h + 1
    refine ⟨by omega, ?_⟩
    split <;> omega
section BESTX
variable {I : MJ} {nw se c : Nat} {wa : Nat → Nat → Nat}
theorem x_cell {h b k : Nat} : f_fit_cell189 (Int32.ofNat h) (Int32.ofNat b) (Int32.ofNat k) I = some (Int32.ofNat ((12 * h + b) * 6 + k)) := by
  unfold f_fit_cell189
  rw [show (12 : Int32) * Int32.ofNat h = Int32.ofNat (12 * h) from i_mull (n := 12), i_add, show Int32.ofNat (12 * h + b) * (6 : Int32) = Int32.ofNat ((12 * h + b) * 6) from i_mulr (n := 6), i_add]
theorem x_gain {h b k : Nat} (hn : nw ≤ 16) (hc : c < 6) (hh : h < 12) (hb : b < 12) (hk : k < 6) (e7 : I 3 7 = Int32.ofNat nw) (hw : ∀ w, w < nw → wa w 0 < 6 ∧ wa w 1 ≤ 11 ∧ wa w 2 ≤ 11 ∧ wa w 3 < 6) (hwa : ∀ w j, w < nw → j < 5 → I 7 (5 * w + j) = Int32.ofNat (wa w j)) : f_fit_gain185 (Int32.ofNat c) (Int32.ofNat h) (Int32.ofNat b) (Int32.ofNat k) I = some (gnF nw wa c h b k) := by
  unfold f_fit_gain185 gnF
  rw [wh_sum0 (fun w => if wa w 0 = c ∧ wa w 2 = h ∧ wa w 3 = k ∧ b ≤ wa w 1 then Int32.ofNat (wa w 4) else 0) nw ?_ ?_]
  · rfl
  · intro w h0 s
    have h1 := hw w h0
    have p0 : f_sho_wantPart152 (Int32.ofNat w) 0 I = _ := x_wantPart (j := 0) hn h0 (by decide) hwa
    have p1 : f_sho_wantPart152 (Int32.ofNat w) 1 I = _ := x_wantPart (j := 1) hn h0 (by decide) hwa
    have p2 : f_sho_wantPart152 (Int32.ofNat w) 2 I = _ := x_wantPart (j := 2) hn h0 (by decide) hwa
    have p3 : f_sho_wantPart152 (Int32.ofNat w) 3 I = _ := x_wantPart (j := 3) hn h0 (by decide) hwa
    have p4 : f_sho_wantPart152 (Int32.ofNat w) 4 I = _ := x_wantPart (j := 4) hn h0 (by decide) hwa
    try dsimp only
    rw [if_pos (by rw [e7, i_lt (by omega) (by omega)]; exact h0), p0, ob_some]
    by_cases a1 : wa w 0 = c
    · rw [if_pos (by rw [a1]), p2, ob_some]
      by_cases a2 : wa w 2 = h
      · rw [if_pos (by rw [a2]), p3, ob_some]
        by_cases a3 : wa w 3 = k
        · rw [if_pos (by rw [a3]), p1, ob_some]
          by_cases a4 : wa w 1 < b
          · rw [if_pos (lt_l a4 (by omega)), ob_some, if_pos rfl, ob_some, if_neg (fun z => by omega), i_addr]
          · rw [if_neg (nlt_l a4 (by omega) (by omega)), ob_some, if_neg (by decide), p4, ob_some, ob_some, if_pos ⟨a1, a2, a3, by omega⟩, i_addr]
        · rw [if_neg (by rw [i_eq (by omega) (by omega)]; exact a3), ob_some, if_pos rfl, ob_some, if_neg (fun z => a3 z.2.2.1), i_addr]
      · rw [if_neg (by rw [i_eq (by omega) (by omega)]; exact a2), ob_some, if_pos rfl, ob_some, if_neg (fun z => a2 z.2.1), i_addr]
    · rw [if_neg (by rw [i_eq (by omega) (by omega)]; exact a1), ob_some, if_pos rfl, ob_some, if_neg (fun z => a1 z.1), i_addr]
  · intro s
    exact if_neg (by rw [e7]; exact Int32.lt_irrefl)
theorem x_worthOf {gn : Nat → Nat → Nat → Int32} {h b k n : Nat} (hh : h + 1 < 12) (hb : b ≤ h) (hk : k < 6) (hn : n < 6) (e9 : I 3 9 = Int32.ofNat se) (hW : ∀ b k, b ≤ h + 1 → k < 6 → I 41 ((12 * (h + 1) + b) * 6 + k) = wtW gn (Int32.ofNat se) (h + 1) b k) : f_fit_worthOf188 (Int32.ofNat h) (Int32.ofNat b) (Int32.ofNat k) (Int32.ofNat n) I = some (gnO gn (Int32.ofNat se) (gnG gn (Int32.ofNat se) (h + 2)) (h + 1) k b n) := by
  unfold f_fit_worthOf188 gnO bgF
  rw [show Int32.ofNat h + 1 = Int32.ofNat (h + 1) from i_addr]
  by_cases e : n = k
  · subst e
    rw [if_pos rfl, x_cell, ob_some, at_41 (by omega), ob_some, ob_some, hW b n (by omega) hn, if_pos ⟨by omega, rfl⟩, if_neg (fun z => z.2 rfl), Int32.sub_zero]
    rfl
  · rw [if_neg (neq_l e (by omega) (by omega)), x_cell, ob_some, at_41 (by omega), ob_some, ob_some, hW (h + 1) n (Nat.le_refl _) hn, if_neg (fun z => e z.2), if_pos ⟨by omega, e⟩, e9]
    unfold wtW
    refine congrArg some ?_
    show gn (h + 1) (h + 1) n + gnG gn (Int32.ofNat se) (h + 2) n (h + 1) - _ = _
    grind
theorem x_onwardKind {gn : Nat → Nat → Nat → Int32} {h b k : Nat} (hh : h + 1 < 12) (hb : b ≤ h) (hk : k < 6) (e9 : I 3 9 = Int32.ofNat se) (hW : ∀ b k, b ≤ h + 1 → k < 6 → I 41 ((12 * (h + 1) + b) * 6 + k) = wtW gn (Int32.ofNat se) (h + 1) b k) : f_fit_onwardKind187 (Int32.ofNat h) (Int32.ofNat b) (Int32.ofNat k) I = some (Int32.ofNat (amF (gnO gn (Int32.ofNat se) (gnG gn (Int32.ofNat se) (h + 2)) (h + 1) k b) 5)) := by
  unfold f_fit_onwardKind187
  refine (congrArg (fun z => Option.bind z _) (show _ = some (Int32.ofNat (amF (gnO gn (Int32.ofNat se) (gnG gn (Int32.ofNat se) (h + 2)) (h + 1) k b) 5)) from wh_seq (fun i => (Int32.ofNat (amF (gnO gn (Int32.ofNat se) (gnG gn (Int32.ofNat se) (h + 2)) (h + 1) k b) i), Int32.ofNat (i + 1))) 5 ?_ ?_)).trans rfl
  · intro i hi
    have hl := amF_le (t := gnO gn (Int32.ofNat se) (gnG gn (Int32.ofNat se) (h + 2)) (h + 1) k b) i
    try dsimp only
    rw [if_pos (show Int32.ofNat (i + 1) < (6 : Int32) from lt_l (a := (i + 1)) (b := 6) (by omega) (by omega)), x_worthOf hh hb hk (by omega) e9 hW, ob_some, x_worthOf hh hb hk (by omega) e9 hW, ob_some]
    rw [amF_step]
    by_cases e : gnO gn (Int32.ofNat se) (gnG gn (Int32.ofNat se) (h + 2)) (h + 1) k b (amF (gnO gn (Int32.ofNat se) (gnG gn (Int32.ofNat se) (h + 2)) (h + 1) k b) i) < gnO gn (Int32.ofNat se) (gnG gn (Int32.ofNat se) (h + 2)) (h + 1) k b (i + 1)
    · rw [if_pos e, if_pos e, ob_some, i_addr]
    · rw [if_neg e, if_neg e, ob_some, i_addr]
  · exact if_neg (show ¬ Int32.ofNat 6 < (6 : Int32) by decide)
theorem x_onward {gn : Nat → Nat → Nat → Int32} {h b k : Nat} (hh : h < 12) (hb : b ≤ h) (hk : k < 6) (e9 : I 3 9 = Int32.ofNat se) (hW : h + 1 < 12 → ∀ b k, b ≤ h + 1 → k < 6 → I 41 ((12 * (h + 1) + b) * 6 + k) = wtW gn (Int32.ofNat se) (h + 1) b k) : f_fit_onward186 (Int32.ofNat h) (Int32.ofNat b) (Int32.ofNat k) I = some (gnG gn (Int32.ofNat se) (h + 1) k b) := by
  unfold f_fit_onward186
  by_cases h1 : h + 1 < 12
  · have hl := amF_le (t := gnO gn (Int32.ofNat se) (gnG gn (Int32.ofNat se) (h + 2)) (h + 1) k b) 5
    rw [show Int32.ofNat h + 1 = Int32.ofNat (h + 1) from i_addr, if_pos (show Int32.ofNat (h + 1) < (12 : Int32) from lt_l (a := (h + 1)) (b := 12) (by omega) (by omega)), x_onwardKind h1 hb hk e9 (hW h1), ob_some, x_worthOf h1 hb hk (by omega) e9 (hW h1), ob_some, ob_some, gnG_step h1]
  · have h2 : h = 11 := by omega
    subst h2
    rw [if_neg (by decide), ob_some]
    rfl
/-- all worths are laid -/
theorem x_worths (hn : nw ≤ 16) (hc : c < 6) (e7 : I 3 7 = Int32.ofNat nw) (e9 : I 3 9 = Int32.ofNat se) (hw : ∀ w, w < nw → wa w 0 < 6 ∧ wa w 1 ≤ 11 ∧ wa w 2 ≤ 11 ∧ wa w 3 < 6) (hwa : ∀ w j, w < nw → j < 5 → I 7 (5 * w + j) = Int32.ofNat (wa w j)) : ∃ J, wh (β := MJ) (fun (s1 : Int32 × MJ) =>
  (if s1.1 < 0 then
  some (.inr s1.2)
  else
  (Option.bind (wh (β := MJ) (fun (s13 : Int32 × MJ) =>
  (if s1.1 < s13.1 then
  some (.inr s13.2)
  else
  (Option.bind (wh (β := MJ) (fun (s15 : Int32 × MJ) =>
  (if s15.1 < (6 : Int32) then
  (Option.bind (f_fit_gain185 (Int32.ofNat c) s1.1 s13.1 s15.1 s15.2) fun v17 =>
  (Option.bind (f_fit_onward186 s1.1 s13.1 s15.1 s15.2) fun v18 =>
  (Option.bind (f_fit_cell189 s1.1 s13.1 s15.1 s15.2) fun v19 =>
  (Option.bind (f_x_put15 41 v19 (v17 + v18) s15.2) fun I20 =>
  some (.inl ((s15.1 + (1 : Int32)), I20))
  )
  )
  )
  )
  else
  some (.inr s15.2)
  )
  ) ((0 : Int32), s13.2)) fun b16 =>
  some (.inl ((s13.1 + (1 : Int32)), b16))
  )
  )
  ) ((0 : Int32), s1.2)) fun b14 =>
  some (.inl ((s1.1 + (-1 : Int32)), b14))
  )
  )
  ) ((11 : Int32), I) = some J ∧ (∀ g k, g ≠ 41 → J g k = I g k) ∧ ∀ h b k, h < 12 → b ≤ h → k < 6 → J 41 ((12 * h + b) * 6 + k) = wtW (gnF nw wa c) (Int32.ofNat se) h b k := by
  refine wh_inv (fun i s => ∃ J : MJ, s = ((11 : Int32) - Int32.ofNat i, J) ∧ (∀ g k, g ≠ 41 → J g k = I g k) ∧ ∀ h b k, h < 12 → 12 ≤ h + i → b ≤ h → k < 6 → J 41 ((12 * h + b) * 6 + k) = wtW (gnF nw wa c) (Int32.ofNat se) h b k) (fun J : MJ => (∀ g k, g ≠ 41 → J g k = I g k) ∧ ∀ h b k, h < 12 → b ≤ h → k < 6 → J 41 ((12 * h + b) * 6 + k) = wtW (gnF nw wa c) (Int32.ofNat se) h b k) 12 ?_ ?_ ⟨I, rfl, fun _ _ _ => rfl, fun h b k h1 h2 => by omega⟩
  · intro i hi s hs
    obtain ⟨J, rfl, j1, j2⟩ := hs
    obtain ⟨h, hh⟩ : ∃ h, h = 11 - i := ⟨_, rfl⟩
    try dsimp only
    rw [lv_dec, show (11 : Int32) - Int32.ofNat i = Int32.ofNat h from by rw [hh]; exact i_subl (n := 11) (show i ≤ 11 by omega), if_neg (by rw [i_lt0 (by omega)]; exact id)]
    refine bindl (wh_inv (fun b s => ∃ M : MJ, s = (Int32.ofNat b, M) ∧ (∀ g k, g ≠ 41 → M g k = I g k) ∧ ∀ h' b' k, h' < 12 → (h < h' ∨ (h' = h ∧ b' < b)) → b' ≤ h' → k < 6 → M 41 ((12 * h' + b') * 6 + k) = wtW (gnF nw wa c) (Int32.ofNat se) h' b' k) _ (h + 1) ?_ ?_ ⟨J, rfl, j1, fun h' b' k h1 h2 h3 h4 => j2 h' b' k h1 (by omega) h3 h4⟩)
    · intro b hb s hs
      obtain ⟨M, rfl, m1, m2⟩ := hs
      try dsimp only
      rw [if_neg (by rw [i_lt (by omega) (by omega)]; omega)]
      refine bindl (wh_inv (fun k s => ∃ N : MJ, s = (Int32.ofNat k, N) ∧ (∀ g k, g ≠ 41 → N g k = I g k) ∧ ∀ h' b' k', h' < 12 → (h < h' ∨ (h' = h ∧ (b' < b ∨ (b' = b ∧ k' < k)))) → b' ≤ h' → k' < 6 → N 41 ((12 * h' + b') * 6 + k') = wtW (gnF nw wa c) (Int32.ofNat se) h' b' k') _ 6 ?_ ?_ ⟨M, rfl, m1, fun h' b' k' h1 h2 h3 h4 => m2 h' b' k' h1 (by omega) h3 h4⟩)
      · intro k hk s hs
        obtain ⟨N, rfl, n1, n2⟩ := hs
        try dsimp only
        rw [if_pos (show Int32.ofNat k < (6 : Int32) from lt_l (a := k) (b := 6) (by omega) (by omega)), x_gain (I := N) (nw := nw) (wa := wa) hn hc (by omega) (by omega) hk (by rw [n1 3 7 (by decide)]; exact e7) hw (fun w j hw hj => by rw [n1 7 _ (by decide)]; exact hwa w j hw hj), ob_some, x_onward (I := N) (gn := gnF nw wa c) (se := se) (by omega) (by omega) hk (by rw [n1 3 9 (by decide)]; exact e9) (fun h1 b' k' hb' hk' => n2 (h + 1) b' k' h1 (by omega) hb' hk'), ob_some, x_cell, ob_some, put_41 (by omega), ob_some]
        refine ⟨_, rfl, _, Prod.ext i_addr rfl, fun g k hg => by rw [up_ne (fun h => hg h.1), n1 g k hg], fun h' b' k' h1 h2 h3 h4 => ?_⟩
        by_cases e : h' = h ∧ b' = b ∧ k' = k
        · obtain ⟨rfl, rfl, rfl⟩ := e
          rw [up_eq]
          rfl
        · rw [up_ne (by omega), n2 h' b' k' h1 (by omega) h3 h4]
      · intro s hs
        obtain ⟨N, rfl, n1, n2⟩ := hs
        try dsimp only
        rw [if_neg (by decide)]
        exact ⟨_, rfl, _, rfl, N, Prod.ext i_addr rfl, n1, fun h' b' k' h1 h2 h3 h4 => n2 h' b' k' h1 (by omega) h3 h4⟩
    · intro s hs
      obtain ⟨M, rfl, m1, m2⟩ := hs
      try dsimp only
      rw [if_pos (by rw [i_lt (by omega) (by omega)]; omega)]
      exact ⟨_, rfl, _, rfl, M, rfl, m1, fun h' b' k' h1 h2 h3 h4 => m2 h' b' k' h1 (by omega) h3 h4⟩
  · intro s hs
    obtain ⟨J, rfl, j1, j2⟩ := hs
    try dsimp only
    rw [if_pos (by decide)]
    exact ⟨_, rfl, j1, fun h b k h1 h2 h3 => j2 h b k h1 (by omega) h2 h3⟩
/-- the row and its worth -/
theorem x_findBest (hn : nw ≤ 16) (hc : c < 6) (e7 : I 3 7 = Int32.ofNat nw) (e9 : I 3 9 = Int32.ofNat se) (hw : ∀ w, w < nw → wa w 0 < 6 ∧ wa w 1 ≤ 11 ∧ wa w 2 ≤ 11 ∧ wa w 3 < 6) (hwa : ∀ w j, w < nw → j < 5 → I 7 (5 * w + j) = Int32.ofNat (wa w j)) : ∃ b : Int32 × MJ, f_fit_findBest184 (Int32.ofNat c) I = some b ∧ b.1 = gnG (gnF nw wa c) (Int32.ofNat se) 0 0 0 ∧ (∀ g k, g ≠ 40 → g ≠ 41 → b.2 g k = I g k) ∧ ∀ h, h < 12 → b.2 40 h = Int32.ofNat (sqF (gnF nw wa c) (Int32.ofNat se) h).1 := by
  generalize hgn : gnF nw wa c = gn
  obtain ⟨J, w1, w2, w3⟩ := x_worths hn hc e7 e9 hw hwa
  rw [hgn] at w3
  have e9' : J 3 9 = Int32.ofNat se := (w2 3 9 (by decide)).trans e9
  have h00 : ∀ k, k < 6 → J 41 k = gnO gn (Int32.ofNat se) (gnG gn (Int32.ofNat se) 1) 0 0 0 k := fun k hk => by
    have := w3 0 0 k (by decide) (Nat.le_refl _) hk
    rw [show (12 * 0 + 0) * 6 + k = k by omega] at this
    rw [this]
    unfold wtW gnO bgF
    rw [if_neg (by omega), if_neg (by omega), Int32.sub_zero]
  have hc00 : ∀ (M : MJ) (k : Nat), f_fit_cell189 (0 : Int32) (0 : Int32) (Int32.ofNat k) M = some (Int32.ofNat k) := fun M k => by
    have := x_cell (I := M) (h := 0) (b := 0) (k := k)
    rw [show (12 * 0 + 0) * 6 + k = k by omega] at this
    exact this
  have hl := amF_le (t := gnO gn (Int32.ofNat se) (gnG gn (Int32.ofNat se) 1) 0 0 0) 5
  obtain ⟨k0, hk0⟩ : ∃ k0, k0 = amF (gnO gn (Int32.ofNat se) (gnG gn (Int32.ofNat se) 1) 0 0 0) 5 := ⟨_, rfl⟩
  rw [← hk0] at hl
  have q0 : sqF gn (Int32.ofNat se) 0 = (k0, 0) := by rw [sqF_0, hk0]
  unfold f_fit_findBest184
  refine bindx ⟨J, w1, ?_⟩
  refine bindx ⟨Int32.ofNat k0, hk0 ▸ wh_seq (fun i => (Int32.ofNat (amF (gnO gn (Int32.ofNat se) (gnG gn (Int32.ofNat se) 1) 0 0 0) i), Int32.ofNat (i + 1))) 5 ?_ ?_, ?_⟩
  · intro i hi
    have hl := amF_le (t := gnO gn (Int32.ofNat se) (gnG gn (Int32.ofNat se) 1) 0 0 0) i
    try dsimp only
    rw [if_pos (show Int32.ofNat (i + 1) < (6 : Int32) from lt_l (a := (i + 1)) (b := 6) (by omega) (by omega)), hc00, ob_some, at_41 (by omega), ob_some, hc00, ob_some, at_41 (by omega), ob_some, h00 _ (by omega), h00 _ (by omega)]
    rw [amF_step]
    by_cases e : gnO gn (Int32.ofNat se) (gnG gn (Int32.ofNat se) 1) 0 0 0 (amF (gnO gn (Int32.ofNat se) (gnG gn (Int32.ofNat se) 1) 0 0 0) i) < gnO gn (Int32.ofNat se) (gnG gn (Int32.ofNat se) 1) 0 0 0 (i + 1)
    · rw [if_pos e, if_pos e, ob_some, i_addr]
    · rw [if_neg e, if_neg e, ob_some, i_addr]
  · exact if_neg (show ¬ Int32.ofNat 6 < (6 : Int32) by decide)
  · unfold f_fit_follow190
    rw [show f_x_put15 40 (0 : Int32) _ J = _ from put_40 (k := 0) (by decide), ob_some]
    have fl : ∃ M, wh (β := MJ) (fun (s2 : Int32 × Int32 × Int32 × MJ) => (if (s2.2.2.1 + (1 : Int32)) < (12 : Int32) then (Option.bind (f_fit_onwardKind187 s2.2.2.1 s2.2.1 s2.1 s2.2.2.2) fun v4 => (Option.bind (α := Int32) (if v4 = s2.1 then some s2.2.1 else some (s2.2.2.1 + (1 : Int32)) ) fun b5 => (Option.bind (f_x_put15 40 (s2.2.2.1 + (1 : Int32)) v4 s2.2.2.2) fun I6 => some (.inl (v4, b5, (s2.2.2.1 + (1 : Int32)), I6)) ) ) ) else some (.inr s2.2.2.2) ) ) (Int32.ofNat k0, (0 : Int32), (0 : Int32), ab_up1 J 40 0 (Int32.ofNat k0)) = some M ∧ (∀ g k, g ≠ 40 → M g k = J g k) ∧ ∀ h, h < 12 → M 40 h = Int32.ofNat (sqF gn (Int32.ofNat se) h).1 := by
      refine wh_inv (fun i s => ∃ M : MJ, s = (Int32.ofNat (sqF gn (Int32.ofNat se) i).1, Int32.ofNat (sqF gn (Int32.ofNat se) i).2, Int32.ofNat i, M) ∧ (∀ g k, g ≠ 40 → M g k = J g k) ∧ ∀ h, h ≤ i → M 40 h = Int32.ofNat (sqF gn (Int32.ofNat se) h).1) (fun M : MJ => (∀ g k, g ≠ 40 → M g k = J g k) ∧ ∀ h, h < 12 → M 40 h = Int32.ofNat (sqF gn (Int32.ofNat se) h).1) 11 ?_ ?_ ⟨ab_up1 J 40 0 (Int32.ofNat k0), by rw [q0]; rfl, fun g k hg => up_ne (fun h => hg h.1), fun h hh => by rw [show h = 0 by omega, up_eq, q0]⟩
      · intro i hi s hs
        obtain ⟨M, rfl, m1, m2⟩ := hs
        obtain ⟨q1, q2⟩ := sqF_ok (gn := gn) (se := Int32.ofNat se) i
        try dsimp only
        rw [show Int32.ofNat i + 1 = Int32.ofNat (i + 1) from i_addr, if_pos (show Int32.ofNat (i + 1) < (12 : Int32) from lt_l (a := (i + 1)) (b := 12) (by omega) (by omega)), x_onwardKind (I := M) (gn := gn) (se := se) (by omega) q2 q1 (by rw [m1 3 9 (by decide)]; exact e9') (fun b k hb hk => by rw [m1 41 _ (by decide)]; exact w3 (i + 1) b k (by omega) hb hk), ob_some]
        have hl2 := amF_le (t := gnO gn (Int32.ofNat se) (gnG gn (Int32.ofNat se) (i + 2)) (i + 1) (sqF gn (Int32.ofNat se) i).1 (sqF gn (Int32.ofNat se) i).2) 5
        rw [o_ite, ob_some, put_40 (by omega), ob_some]
        refine ⟨_, rfl, ab_up1 M 40 (i + 1) (Int32.ofNat (amF (gnO gn (Int32.ofNat se) (gnG gn (Int32.ofNat se) (i + 2)) (i + 1) (sqF gn (Int32.ofNat se) i).1 (sqF gn (Int32.ofNat se) i).2) 5)), ?_, fun g k hg => by rw [up_ne (fun h => hg h.1), m1 g k hg], fun h hh => ?_⟩
        · rw [sqF_s]
          refine Prod.ext rfl (Prod.ext ?_ rfl)
          show (if _ then _ else _) = Int32.ofNat (if _ then _ else _)
          by_cases e : amF (gnO gn (Int32.ofNat se) (gnG gn (Int32.ofNat se) (i + 2)) (i + 1) (sqF gn (Int32.ofNat se) i).1 (sqF gn (Int32.ofNat se) i).2) 5 = (sqF gn (Int32.ofNat se) i).1
          · rw [if_pos (eq_l e), if_pos e]
          · rw [if_neg (neq_l e (by omega) (by omega)), if_neg e]
        · by_cases e : h = i + 1
          · subst e
            rw [up_eq, sqF_s]
          · rw [up_ne (fun z => e z.2), m2 h (by omega)]
      · intro s hs
        obtain ⟨M, rfl, m1, m2⟩ := hs
        try dsimp only
        rw [if_neg (by decide)]
        exact ⟨_, rfl, m1, fun h hh => m2 h (by omega)⟩
    obtain ⟨M, f1, f2, f3⟩ := fl
    refine bindx ⟨M, ?_, ?_⟩
    · refine (congrArg (fun z => Option.bind z _) f1).trans rfl
    · rw [hc00, ob_some, at_41 (by omega), ob_some]
      refine ⟨_, rfl, ?_, fun g k h1 h2 => by show M g k = I g k; rw [f2 g k h1, w2 g k h2], f3⟩
      show M 41 k0 = _
      rw [f2 41 _ (by decide), h00 _ (by omega), gnG_step (by decide), hk0]
end BESTX
