/-! the row that is best worn: the model, and both -/
section BESTM
variable {I : MJ} {nw se c : Nat} {wa : Nat → Nat → Nat}
theorem m_endsIn {h b k : Nat} (hn : nw ≤ 16) (hc : c < 6) (hh : h < 12) (hb : b < 12) (hk : k < 6) (e7 : I 51 2 = Int32.ofNat nw) (hw : ∀ w, w < nw → wa w 0 < 6 ∧ wa w 1 ≤ 11 ∧ wa w 2 ≤ 11 ∧ wa w 3 < 6) (hwa : ∀ w j, w < nw → j < 5 → I (94 + w) j = Int32.ofNat (wa w j)) : f_m_endsIn347 (Int32.ofNat c) (Int32.ofNat k) (Int32.ofNat b) (Int32.ofNat h) I = some (gnF nw wa c h b k) := by
  unfold f_m_endsIn347 gnF
  rw [wh_sum0 (fun w => if wa w 0 = c ∧ wa w 2 = h ∧ wa w 3 = k ∧ b ≤ wa w 1 then Int32.ofNat (wa w 4) else 0) nw ?_ ?_]
  · rfl
  · intro w h0 s
    have h1 := hw w h0
    have r : ∀ j, j < 5 → rd I (94 + w) (Int32.ofNat j) = some (Int32.ofNat (wa w j)) := fun j hj => by rw [rdr_93 (by omega) hj, hwa w j h0 hj]
    have r0 : rd I (94 + w) 0 = some (Int32.ofNat (wa w 0)) := r 0 (by decide)
    have r1 : rd I (94 + w) 1 = some (Int32.ofNat (wa w 1)) := r 1 (by decide)
    have r2 : rd I (94 + w) 2 = some (Int32.ofNat (wa w 2)) := r 2 (by decide)
    have r3 : rd I (94 + w) 3 = some (Int32.ofNat (wa w 3)) := r 3 (by decide)
    have r4 : rd I (94 + w) 4 = some (Int32.ofNat (wa w 4)) := r 4 (by decide)
    try dsimp only
    rw [if_pos (by rw [e7, i_lt (by omega) (by omega)]; exact h0), rdp_93 (by omega), ob_some, r0, ob_some]
    by_cases a1 : wa w 0 = c
    · rw [if_pos (by rw [a1]), ob_some, r3, ob_some]
      by_cases a3 : wa w 3 = k
      · rw [if_pos (by rw [a3]), ob_some, r2, ob_some]
        by_cases a2 : wa w 2 = h
        · rw [if_pos (by rw [a2]), ob_some, r1, ob_some]
          by_cases a4 : wa w 1 < b
          · rw [if_pos (lt_l a4 (by omega)), ob_some, if_neg (fun z => by omega), i_addr]
          · rw [if_neg (nlt_l a4 (by omega) (by omega)), ob_some, r4, ob_some, ob_some, if_pos ⟨a1, a2, a3, by omega⟩, i_addr]
        · rw [if_neg (by rw [i_eq (by omega) (by omega)]; exact a2), ob_some, if_neg (fun z => a2 z.2.1), i_addr]
      · rw [if_neg (by rw [i_eq (by omega) (by omega)]; exact a3), ob_some, if_neg (fun z => a3 z.2.2.1), i_addr]
    · rw [if_neg (by rw [i_eq (by omega) (by omega)]; exact a1), ob_some, if_neg (fun z => a1 z.1), i_addr]
  · intro s
    exact if_neg (by rw [e7]; exact Int32.lt_irrefl)
theorem m_gainOf {h last fr k : Nat} (hn : nw ≤ 16) (hc : c < 6) (hh : h < 12) (hl : last < 6) (hf : fr ≤ h) (hk : k < 6) (e7 : I 51 2 = Int32.ofNat nw) (e4 : I 51 4 = Int32.ofNat se) (hw : ∀ w, w < nw → wa w 0 < 6 ∧ wa w 1 ≤ 11 ∧ wa w 2 ≤ 11 ∧ wa w 3 < 6) (hwa : ∀ w j, w < nw → j < 5 → I (94 + w) j = Int32.ofNat (wa w j)) (hG : ∀ k f, k < 6 → f ≤ h + 1 → I (603 + 7 * (h + 1) + k) f = gnG (gnF nw wa c) (Int32.ofNat se) (h + 1) k f) : f_m_gainOf346 (Int32.ofNat c) (Int32.ofNat h) (Int32.ofNat last) (Int32.ofNat fr) (Int32.ofNat k) I = some (gnO (gnF nw wa c) (Int32.ofNat se) (gnG (gnF nw wa c) (Int32.ofNat se) (h + 1)) h last fr k) := by
  have fin : ∀ b s : Nat → Nat → Int32, True := fun _ _ => trivial
  unfold f_m_gainOf346 gnO bgF
  rw [show Int32.ofNat h + 1 = Int32.ofNat (h + 1) from i_addr]
  have rest : ∀ (b : Nat) (s : Int32), b ≤ h → (Option.bind (f_m_endsIn347 (Int32.ofNat c) (Int32.ofNat k) (Int32.ofNat b) (Int32.ofNat h) I) fun v2 => Option.bind (some s) fun b3 => Option.bind (rdp 601 (Int32.ofNat (h + 1))) fun r4 => Option.bind (rdp r4 (Int32.ofNat k)) fun r5 => Option.bind (rd I r5 (Int32.ofNat b)) fun v6 => some ((v2 - b3) + v6)) = some ((gnF nw wa c h b k - s) + gnG (gnF nw wa c) (Int32.ofNat se) (h + 1) k b) := fun b s hb => by
    rw [m_endsIn hn hc hh (by omega) hk e7 hw hwa, ob_some, ob_some, rdp_601 (by omega), ob_some, rdp_602 (by omega) hk, ob_some, rd_603 (by omega) hk (by omega), ob_some, hG k b hk (by omega)]
  by_cases h0 : 0 < h
  · by_cases e : k = last
    · rw [if_pos (show (0 : Int32) < Int32.ofNat h from lt_l (a := 0) h0 (by omega)), if_pos (eq_l e), ob_some, if_pos (show (0 : Int32) < Int32.ofNat h from lt_l (a := 0) h0 (by omega)), if_pos (eq_l e), if_pos ⟨h0, e⟩, if_neg (fun z => z.2 e)]
      exact rest fr 0 hf
    · rw [if_pos (show (0 : Int32) < Int32.ofNat h from lt_l (a := 0) h0 (by omega)), if_neg (neq_l e (by omega) (by omega)), ob_some, if_pos (show (0 : Int32) < Int32.ofNat h from lt_l (a := 0) h0 (by omega)), if_neg (neq_l e (by omega) (by omega)), if_neg (fun z => e z.2), if_pos ⟨h0, e⟩, e4]
      exact rest h (Int32.ofNat se) (Nat.le_refl _)
  · rw [if_neg (show ¬ (0 : Int32) < Int32.ofNat h from nlt_l (a := 0) h0 (by omega) (by omega)), ob_some, if_neg (show ¬ (0 : Int32) < Int32.ofNat h from nlt_l (a := 0) h0 (by omega) (by omega)), if_neg (fun z => h0 z.1), if_neg (fun z => h0 z.1)]
    exact rest h 0 (Nat.le_refl _)
/-- no gains behind the last hour -/
theorem m_fill : ∃ J, wh (β := MJ) (fun (s1 : Int32 × MJ) =>
  (if s1.1 < (6 : Int32) then
  (Option.bind (wh (β := MJ) (fun (s33 : Int32 × MJ) =>
  (if (12 : Int32) < s33.1 then
  some (.inr s33.2)
  else
  (Option.bind (rdp 686 s1.1) fun r35 =>
  (Option.bind (wr s33.2 r35 s33.1 (0 : Int32)) fun I36 =>
  some (.inl ((s33.1 + (1 : Int32)), I36))
  )
  )
  )
  ) ((0 : Int32), s1.2)) fun b34 =>
  some (.inl ((s1.1 + (1 : Int32)), b34))
  )
  else
  some (.inr s1.2)
  )
  ) ((0 : Int32), I) = some J ∧ (∀ g k, g < 602 ∨ 693 < g → J g k = I g k) ∧ J 693 = I 693 ∧ ∀ k f, k < 6 → f ≤ 12 → J (603 + 7 * 12 + k) f = 0 := by
  refine wh_inv (fun i s => ∃ J : MJ, s = (Int32.ofNat i, J) ∧ (∀ g k, g < 602 ∨ 693 < g → J g k = I g k) ∧ J 693 = I 693 ∧ ∀ k f, k < i → f ≤ 12 → J (603 + 7 * 12 + k) f = 0) (fun J : MJ => (∀ g k, g < 602 ∨ 693 < g → J g k = I g k) ∧ J 693 = I 693 ∧ ∀ k f, k < 6 → f ≤ 12 → J (603 + 7 * 12 + k) f = 0) 6 ?_ ?_ ⟨I, rfl, fun _ _ _ => rfl, rfl, fun k f hk => absurd hk (Nat.not_lt_zero k)⟩
  · intro i hi s hs
    obtain ⟨J, rfl, j1, j3, j2⟩ := hs
    try dsimp only
    rw [if_pos (show Int32.ofNat i < (6 : Int32) from lt_l (a := i) (b := 6) (by omega) (by omega))]
    refine bindl (wh_inv (fun f s => ∃ M : MJ, s = (Int32.ofNat f, M) ∧ (∀ g k, g ≠ 603 + 7 * 12 + i → M g k = J g k) ∧ ∀ f', f' < f → M (603 + 7 * 12 + i) f' = 0) _ 13 ?_ ?_ ⟨J, rfl, fun _ _ _ => rfl, fun f' hf => absurd hf (Nat.not_lt_zero f')⟩)
    · intro f hf s hs
      obtain ⟨M, rfl, m1, m2⟩ := hs
      try dsimp only
      rw [if_neg (show ¬ (12 : Int32) < Int32.ofNat f from nlt_l (a := 12) (b := f) (by omega) (by omega) (by omega)), show rdp 686 (Int32.ofNat i) = some (603 + 7 * 12 + i) from rdp_602 (w := 12) (by decide) hi, ob_some, wr_603 (w := 12) (by decide) hi hf, ob_some]
      refine ⟨_, rfl, _, Prod.ext i_addr rfl, fun g k hg => by rw [up_ne (fun h => hg h.1), m1 g k hg], fun f' hf' => ?_⟩
      by_cases e : f' = f
      · rw [e, up_eq]
      · rw [up_ne (fun h => e h.2), m2 f' (by omega)]
    · intro s hs
      obtain ⟨M, rfl, m1, m2⟩ := hs
      try dsimp only
      rw [if_pos (by decide)]
      refine ⟨_, rfl, _, rfl, M, Prod.ext i_addr rfl, fun g k hg => by rw [m1 g k (by omega), j1 g k hg], funext fun k => by rw [m1 693 k (by omega), j3], fun k f hk hf => ?_⟩
      by_cases e : k = i
      · rw [e, m2 f (by omega)]
      · rw [m1 _ _ (by omega), j2 k f (by omega) hf]
  · intro s hs
    obtain ⟨J, rfl, j1, j3, j2⟩ := hs
    try dsimp only
    rw [if_neg (by decide)]
    exact ⟨_, rfl, j1, j3, j2⟩
/-- all gains are laid -/
theorem m_gains (hn : nw ≤ 16) (hc : c < 6) (e7 : I 51 2 = Int32.ofNat nw) (e4 : I 51 4 = Int32.ofNat se) (hw : ∀ w, w < nw → wa w 0 < 6 ∧ wa w 1 ≤ 11 ∧ wa w 2 ≤ 11 ∧ wa w 3 < 6) (hwa : ∀ w j, w < nw → j < 5 → I (94 + w) j = Int32.ofNat (wa w j)) (h12 : ∀ k f, k < 6 → f ≤ 12 → I (603 + 7 * 12 + k) f = 0) : ∃ J, wh (β := MJ) (fun (s3 : Int32 × MJ) =>
  (if s3.1 < 0 then
  some (.inr s3.2)
  else
  (Option.bind (wh (β := MJ) (fun (s15 : Int32 × MJ) =>
  (if s15.1 < (6 : Int32) then
  (Option.bind (wh (β := MJ) (fun (s17 : Int32 × MJ) =>
  (if s3.1 < s17.1 then
  some (.inr s17.2)
  else
  (Option.bind (rdp 601 s3.1) fun r19 =>
  (Option.bind (rdp r19 s15.1) fun r20 =>
  (Option.bind (f_m_gainOf346 (Int32.ofNat c) s3.1 s15.1 s17.1 (0 : Int32) s17.2) fun v21 =>
  (Option.bind (wr s17.2 r20 s17.1 v21) fun I22 =>
  (Option.bind (wh (β := MJ) (fun (s23 : Int32 × MJ) =>
  (if s23.1 < (6 : Int32) then
  (Option.bind (rdp 601 s3.1) fun r25 =>
  (Option.bind (rdp r25 s15.1) fun r26 =>
  (Option.bind (rdp 601 s3.1) fun r27 =>
  (Option.bind (rdp r27 s15.1) fun r28 =>
  (Option.bind (rd s23.2 r28 s17.1) fun v29 =>
  (Option.bind (f_m_gainOf346 (Int32.ofNat c) s3.1 s15.1 s17.1 s23.1 s23.2) fun v30 =>
  (Option.bind (f_m_more320 v29 v30 s23.2) fun v31 =>
  (Option.bind (wr s23.2 r26 s17.1 v31) fun I32 =>
  some (.inl ((s23.1 + (1 : Int32)), I32))
  )
  )
  )
  )
  )
  )
  )
  )
  else
  some (.inr s23.2)
  )
  ) ((1 : Int32), I22)) fun b24 =>
  some (.inl ((s17.1 + (1 : Int32)), b24))
  )
  )
  )
  )
  )
  )
  ) ((0 : Int32), s15.2)) fun b18 =>
  some (.inl ((s15.1 + (1 : Int32)), b18))
  )
  else
  some (.inr s15.2)
  )
  ) ((0 : Int32), s3.2)) fun b16 =>
  some (.inl ((s3.1 + (-1 : Int32)), b16))
  )
  )
  ) ((11 : Int32), I) = some J ∧ (∀ g k, g < 602 ∨ 693 ≤ g → J g k = I g k) ∧ ∀ h k f, h ≤ 12 → k < 6 → f ≤ h → J (603 + 7 * h + k) f = gnG (gnF nw wa c) (Int32.ofNat se) h k f := by
  generalize hgn : gnF nw wa c = gn
  refine wh_inv (fun i s => ∃ J : MJ, s = ((11 : Int32) - Int32.ofNat i, J) ∧ (∀ g k, g < 602 ∨ 693 ≤ g → J g k = I g k) ∧ ∀ h k f, h ≤ 12 → 12 ≤ h + i → k < 6 → f ≤ h → J (603 + 7 * h + k) f = gnG gn (Int32.ofNat se) h k f) (fun J : MJ => (∀ g k, g < 602 ∨ 693 ≤ g → J g k = I g k) ∧ ∀ h k f, h ≤ 12 → k < 6 → f ≤ h → J (603 + 7 * h + k) f = gnG gn (Int32.ofNat se) h k f) 12 ?_ ?_ ⟨I, rfl, fun _ _ _ => rfl, fun h k f h1 h2 h3 h4 => by
    obtain rfl : h = 12 := by omega
    rw [h12 k f h3 h4]
    rfl⟩
  · intro i hi s hs
    obtain ⟨J, rfl, j1, j2⟩ := hs
    obtain ⟨h, hh⟩ : ∃ h, h = 11 - i := ⟨_, rfl⟩
    try dsimp only
    rw [lv_dec, show (11 : Int32) - Int32.ofNat i = Int32.ofNat h from by rw [hh]; exact i_subl (n := 11) (show i ≤ 11 by omega), if_neg (by rw [i_lt0 (by omega)]; exact id)]
    refine bindl (wh_inv (fun k s => ∃ M : MJ, s = (Int32.ofNat k, M) ∧ (∀ g k, g < 602 ∨ 693 ≤ g → M g k = I g k) ∧ ∀ h' k' f, h' ≤ 12 → (h < h' ∨ (h' = h ∧ k' < k)) → k' < 6 → f ≤ h' → M (603 + 7 * h' + k') f = gnG gn (Int32.ofNat se) h' k' f) _ 6 ?_ ?_ ⟨J, rfl, j1, fun h' k' f h1 h2 h3 h4 => j2 h' k' f h1 (by omega) h3 h4⟩)
    · intro k hk s hs
      obtain ⟨M, rfl, m1, m2⟩ := hs
      try dsimp only
      rw [if_pos (show Int32.ofNat k < (6 : Int32) from lt_l (a := k) (b := 6) (by omega) (by omega))]
      refine bindl (wh_inv (fun f s => ∃ N : MJ, s = (Int32.ofNat f, N) ∧ (∀ g k, g < 602 ∨ 693 ≤ g → N g k = I g k) ∧ ∀ h' k' f', h' ≤ 12 → (h < h' ∨ (h' = h ∧ (k' < k ∨ (k' = k ∧ f' < f)))) → k' < 6 → f' ≤ h' → N (603 + 7 * h' + k') f' = gnG gn (Int32.ofNat se) h' k' f') _ (h + 1) ?_ ?_ ⟨M, rfl, m1, fun h' k' f h1 h2 h3 h4 => m2 h' k' f h1 (by omega) h3 h4⟩)
      · intro f hf s hs
        obtain ⟨N, rfl, n1, n2⟩ := hs
        have hg : ∀ (O : MJ), (∀ g k, g < 602 ∨ 693 ≤ g → O g k = I g k) → (∀ h' k' f', h' ≤ 12 → h < h' → k' < 6 → f' ≤ h' → O (603 + 7 * h' + k') f' = gnG gn (Int32.ofNat se) h' k' f') → ∀ x, x < 6 → f_m_gainOf346 (Int32.ofNat c) (Int32.ofNat h) (Int32.ofNat k) (Int32.ofNat f) (Int32.ofNat x) O = some (gnO gn (Int32.ofNat se) (gnG gn (Int32.ofNat se) (h + 1)) h k f x) := fun O o1 o2 x hx => by
          rw [m_gainOf (I := O) (nw := nw) (se := se) (wa := wa) hn hc (by omega) hk (by omega) hx (by rw [o1 _ _ (by omega)]; exact e7) (by rw [o1 _ _ (by omega)]; exact e4) hw (fun w j hw hj => by rw [o1 _ _ (by omega)]; exact hwa w j hw hj) (fun k' f' hk' hf' => by rw [hgn]; exact o2 (h + 1) k' f' (by omega) (by omega) hk' hf'), hgn]
        try dsimp only
        rw [if_neg (by rw [i_lt (by omega) (by omega)]; omega), rdp_601 (by omega), ob_some, rdp_602 (by omega) hk, ob_some, show f_m_gainOf346 (Int32.ofNat c) (Int32.ofNat h) (Int32.ofNat k) (Int32.ofNat f) 0 N = _ from hg N n1 (fun h' k' f' h1 h2 h3 h4 => n2 h' k' f' h1 (Or.inl h2) h3 h4) 0 (by decide), ob_some, wr_603 (by omega) hk (by omega), ob_some]
        refine bindl (wh_inv (fun i s => ∃ O : MJ, s = (Int32.ofNat (i + 1), O) ∧ (∀ g j, ¬ (g = 603 + 7 * h + k ∧ j = f) → O g j = N g j) ∧ O (603 + 7 * h + k) f = gnO gn (Int32.ofNat se) (gnG gn (Int32.ofNat se) (h + 1)) h k f (amF (gnO gn (Int32.ofNat se) (gnG gn (Int32.ofNat se) (h + 1)) h k f) i)) _ 5 ?_ ?_ ⟨_, rfl, fun g j hgj => up_ne hgj, up_eq⟩)
        · intro x hx s hs
          obtain ⟨O, rfl, o1, o2⟩ := hs
          have oI : ∀ g j, g < 602 ∨ 693 ≤ g → O g j = I g j := fun g j hg => by rw [o1 g j (by omega), n1 g j hg]
          try dsimp only
          rw [if_pos (show Int32.ofNat (x + 1) < (6 : Int32) from lt_l (a := (x + 1)) (b := 6) (by omega) (by omega)), ob_some, rdp_602 (by omega) hk, ob_some, ob_some, rdp_602 (by omega) hk, ob_some, rd_603 (by omega) hk (by omega), ob_some, hg O oI (fun h' k' f' h1 h2 h3 h4 => by rw [o1 _ _ (by omega)]; exact n2 h' k' f' h1 (Or.inl h2) h3 h4) (x + 1) (by omega), ob_some, o2]
          unfold f_m_more320
          rw [o_ite, ob_some, ob_some, wr_603 (by omega) hk (by omega), ob_some, i_more]
          refine ⟨_, rfl, _, Prod.ext i_addr rfl, fun g j hgj => by rw [up_ne hgj, o1 g j hgj], ?_⟩
          rw [up_eq]
          conv => rhs; rw [show amF (gnO gn (Int32.ofNat se) (gnG gn (Int32.ofNat se) (h + 1)) h k f) (x + 1) = if gnO gn (Int32.ofNat se) (gnG gn (Int32.ofNat se) (h + 1)) h k f (amF (gnO gn (Int32.ofNat se) (gnG gn (Int32.ofNat se) (h + 1)) h k f) x) < gnO gn (Int32.ofNat se) (gnG gn (Int32.ofNat se) (h + 1)) h k f (x + 1) then x + 1 else amF (gnO gn (Int32.ofNat se) (gnG gn (Int32.ofNat se) (h + 1)) h k f) x from rfl]
          split <;> rfl
        · intro s hs
          obtain ⟨O, rfl, o1, o2⟩ := hs
          try dsimp only
          rw [if_neg (by decide)]
          refine ⟨_, rfl, _, rfl, O, Prod.ext i_addr rfl, fun g j hg => by rw [o1 g j (by omega), n1 g j hg], fun h' k' f' h1 h2 h3 h4 => ?_⟩
          by_cases e : h' = h ∧ k' = k ∧ f' = f
          · obtain ⟨rfl, rfl, rfl⟩ := e
            rw [o2, ← gnG_step (by omega)]
          · rw [o1 _ _ (by omega), n2 h' k' f' h1 (by omega) h3 h4]
      · intro s hs
        obtain ⟨N, rfl, n1, n2⟩ := hs
        try dsimp only
        rw [if_pos (by rw [i_lt (by omega) (by omega)]; omega)]
        exact ⟨_, rfl, _, rfl, N, Prod.ext i_addr rfl, n1, fun h' k' f' h1 h2 h3 h4 => n2 h' k' f' h1 (by omega) h3 h4⟩
    · intro s hs
      obtain ⟨M, rfl, m1, m2⟩ := hs
      try dsimp only
      rw [if_neg (by decide)]
      exact ⟨_, rfl, _, rfl, M, rfl, m1, fun h' k' f' h1 h2 h3 h4 => m2 h' k' f' h1 (by omega) h3 h4⟩
  · intro s hs
    obtain ⟨J, rfl, j1, j2⟩ := hs
    try dsimp only
    rw [if_pos (by decide)]
    exact ⟨_, rfl, j1, fun h k f h1 h2 h3 => j2 h k f h1 (by omega) h2 h3⟩
theorem m_laysBest (hn : nw ≤ 16) (hc : c < 6) (e7 : I 51 2 = Int32.ofNat nw) (e4 : I 51 4 = Int32.ofNat se) (hw : ∀ w, w < nw → wa w 0 < 6 ∧ wa w 1 ≤ 11 ∧ wa w 2 ≤ 11 ∧ wa w 3 < 6) (hwa : ∀ w j, w < nw → j < 5 → I (94 + w) j = Int32.ofNat (wa w j)) : ∃ b : Int32 × MJ, f_m_laysBest345 (Int32.ofNat c) I = some b ∧ b.1 = gnG (gnF nw wa c) (Int32.ofNat se) 0 0 0 ∧ (∀ g k, g < 602 ∨ 693 < g → b.2 g k = I g k) ∧ ∀ h, h < 12 → b.2 693 h = Int32.ofNat (sqF (gnF nw wa c) (Int32.ofNat se) h).1 := by
  obtain ⟨J, f1, f2, f4, f3⟩ := m_fill (I := I)
  obtain ⟨K, g1, g2, g3⟩ := m_gains (I := J) (nw := nw) (se := se) (wa := wa) hn hc (by rw [f2 _ _ (by omega)]; exact e7) (by rw [f2 _ _ (by omega)]; exact e4) hw (fun w j hw hj => by rw [f2 _ _ (by omega)]; exact hwa w j hw hj) f3
  generalize hgn : gnF nw wa c = gn at *
  have kI : ∀ g k, g < 602 ∨ 693 < g → K g k = I g k := fun g k hg => by rw [g2 g k (by omega), f2 g k hg]
  unfold f_m_laysBest345
  refine bindx ⟨J, f1, ?_⟩
  refine bindx ⟨K, g1, ?_⟩
  refine bindx (wh_inv (fun i s => ∃ M : MJ, s = ((if i = 0 then (0 : Int32) else Int32.ofNat (sqF gn (Int32.ofNat se) (i - 1)).1), (if i = 0 then (0 : Int32) else Int32.ofNat (sqF gn (Int32.ofNat se) (i - 1)).2), Int32.ofNat i, M) ∧ (∀ g k, g ≠ 693 → M g k = K g k) ∧ ∀ h, h < i → M 693 h = Int32.ofNat (sqF gn (Int32.ofNat se) h).1) _ 12 ?_ ?_ ⟨K, rfl, fun _ _ _ => rfl, fun h hh => absurd hh (Nat.not_lt_zero h)⟩)
  · intro i hi s hs
    obtain ⟨M, rfl, m1, m2⟩ := hs
    obtain ⟨la, fr, hla, hfr, e1, e2, e3⟩ : ∃ la fr : Nat, la < 6 ∧ fr ≤ i ∧ (if i = 0 then (0 : Int32) else Int32.ofNat (sqF gn (Int32.ofNat se) (i - 1)).1) = Int32.ofNat la ∧ (if i = 0 then (0 : Int32) else Int32.ofNat (sqF gn (Int32.ofNat se) (i - 1)).2) = Int32.ofNat fr ∧ sqF gn (Int32.ofNat se) i = (amF (gnO gn (Int32.ofNat se) (gnG gn (Int32.ofNat se) (i + 1)) i la fr) 5, if 0 < i ∧ amF (gnO gn (Int32.ofNat se) (gnG gn (Int32.ofNat se) (i + 1)) i la fr) 5 = la then fr else i) := by
      cases i with
      | zero => exact ⟨0, 0, by decide, Nat.le_refl _, rfl, rfl, by rw [sqF_0, if_neg (show ¬ (0 < 0 ∧ _) from fun z => absurd z.1 (Nat.lt_irrefl 0))]⟩
      | succ i =>
        have q := sqF_ok (gn := gn) (se := Int32.ofNat se) i
        refine ⟨(sqF gn (Int32.ofNat se) i).1, (sqF gn (Int32.ofNat se) i).2, q.1, by omega, if_neg (by omega), if_neg (by omega), Prod.ext rfl ?_⟩
        show (if _ then _ else _) = (if _ then _ else _)
        by_cases e : amF (gnO gn (Int32.ofNat se) (gnG gn (Int32.ofNat se) (i + 2)) (i + 1) (sqF gn (Int32.ofNat se) i).1 (sqF gn (Int32.ofNat se) i).2) 5 = (sqF gn (Int32.ofNat se) i).1
        · rw [if_pos e, if_pos ⟨by omega, e⟩]
        · rw [if_neg e, if_neg (fun z => e z.2)]
    have hl := amF_le (t := gnO gn (Int32.ofNat se) (gnG gn (Int32.ofNat se) (i + 1)) i la fr) 5
    obtain ⟨t1, t2⟩ := amF_top (t := gnO gn (Int32.ofNat se) (gnG gn (Int32.ofNat se) (i + 1)) i la fr) 5
    have hg : ∀ x, x < 6 → f_m_gainOf346 (Int32.ofNat c) (Int32.ofNat i) (Int32.ofNat la) (Int32.ofNat fr) (Int32.ofNat x) M = some (gnO gn (Int32.ofNat se) (gnG gn (Int32.ofNat se) (i + 1)) i la fr x) := fun x hx => by
      rw [m_gainOf (I := M) (nw := nw) (se := se) (wa := wa) hn hc hi hla hfr hx (by rw [m1 _ _ (by decide), kI _ _ (by omega)]; exact e7) (by rw [m1 _ _ (by decide), kI _ _ (by omega)]; exact e4) hw (fun w j hw hj => by rw [m1 _ _ (by omega), kI _ _ (by omega)]; exact hwa w j hw hj) (fun k' f' hk' hf' => by rw [hgn, m1 _ _ (by omega)]; exact g3 (i + 1) k' f' (by omega) hk' hf'), hgn]
    have hgg : M (603 + 7 * i + la) fr = gnO gn (Int32.ofNat se) (gnG gn (Int32.ofNat se) (i + 1)) i la fr (amF (gnO gn (Int32.ofNat se) (gnG gn (Int32.ofNat se) (i + 1)) i la fr) 5) := by
      rw [m1 _ _ (by omega), g3 i la fr (by omega) hla hfr, gnG_step hi]
    rw [e1, e2]
    try dsimp only
    rw [if_pos (show Int32.ofNat i < (12 : Int32) from lt_l (a := i) (b := 12) (by omega) (by omega))]
    refine bindl ⟨Int32.ofNat (amF (gnO gn (Int32.ofNat se) (gnG gn (Int32.ofNat se) (i + 1)) i la fr) 5), wh_seq (fun x => Int32.ofNat x) (amF (gnO gn (Int32.ofNat se) (gnG gn (Int32.ofNat se) (i + 1)) i la fr) 5) ?_ ?_, ?_⟩
    · intro x hx
      try dsimp only
      rw [hg x (by omega), ob_some, rdp_601 (by omega), ob_some, rdp_602 (by omega) hla, ob_some, rd_603 (by omega) hla (by omega), ob_some, hgg, if_neg (fun z => ?_), i_addr]
      have := t2 x hx
      rw [z] at this
      exact Int32.lt_irrefl this
    · rw [hg _ (by omega), ob_some, rdp_601 (by omega), ob_some, rdp_602 (by omega) hla, ob_some, rd_603 (by omega) hla (by omega), ob_some, hgg, if_pos rfl]
    · have hif : (if (0 : Int32) < Int32.ofNat i then (if Int32.ofNat (amF (gnO gn (Int32.ofNat se) (gnG gn (Int32.ofNat se) (i + 1)) i la fr) 5) = Int32.ofNat la then some (Int32.ofNat fr) else some (Int32.ofNat i)) else some (Int32.ofNat i)) = some (Int32.ofNat (sqF gn (Int32.ofNat se) i).2) := by
        rw [e3]
        by_cases h0 : 0 < i
        · by_cases e : amF (gnO gn (Int32.ofNat se) (gnG gn (Int32.ofNat se) (i + 1)) i la fr) 5 = la
          · rw [if_pos (show (0 : Int32) < Int32.ofNat i from lt_l (a := 0) h0 (by omega)), if_pos (eq_l e)]
            exact congrArg (fun z => some (Int32.ofNat z)) (if_pos ⟨h0, e⟩).symm
          · rw [if_pos (show (0 : Int32) < Int32.ofNat i from lt_l (a := 0) h0 (by omega)), if_neg (neq_l e (by omega) (by omega))]
            exact congrArg (fun z => some (Int32.ofNat z)) (if_neg (fun z => e z.2)).symm
        · rw [if_neg (show ¬ (0 : Int32) < Int32.ofNat i from nlt_l (a := 0) h0 (by omega) (by omega))]
          exact congrArg (fun z => some (Int32.ofNat z)) (if_neg (fun z => h0 z.1)).symm
      rw [hif, ob_some, wr_693 hi, ob_some]
      refine ⟨_, rfl, _, Prod.ext ?_ (Prod.ext ?_ (Prod.ext i_addr rfl)), fun g k hg => by rw [up_ne (fun h => hg h.1), m1 g k hg], fun h hh => ?_⟩
      · show _ = if i + 1 = 0 then (0 : Int32) else Int32.ofNat (sqF gn (Int32.ofNat se) (i + 1 - 1)).1
        rw [if_neg (by omega), show i + 1 - 1 = i by omega, e3]
      · show _ = if i + 1 = 0 then (0 : Int32) else Int32.ofNat (sqF gn (Int32.ofNat se) (i + 1 - 1)).2
        rw [if_neg (by omega), show i + 1 - 1 = i by omega]
      · by_cases e : h = i
        · subst e
          rw [up_eq, e3]
        · rw [up_ne (fun z => e z.2), m2 h (by omega)]
  · intro s hs
    obtain ⟨M, rfl, m1, m2⟩ := hs
    try dsimp only
    rw [if_neg (by decide)]
    exact ⟨_, rfl, _, rfl, by show M 603 0 = _; rw [m1 603 0 (by decide)]; exact g3 0 0 0 (by decide) (by decide) (Nat.le_refl _), fun g k hg => by show M g k = I g k; rw [m1 g k (by omega), kI g k hg], m2⟩
end BESTM
theorem qs_best {g k : Nat} (h : qs g k = false) : g ≠ 40 ∧ g ≠ 41 ∧ g < 602 := by
  refine ⟨?_, ?_, ?_⟩
  · rintro rfl; exact Bool.noConfusion (show true = false from h)
  · rintro rfl; exact Bool.noConfusion (show true = false from h)
  · by_cases e : g < 602
    · exact e
    · have : qa g = true := by
        unfold qa
        rw [show decide (599 ≤ g) = true from decide_eq_true (by omega), Bool.or_true]
      unfold qs at h
      rw [this, beq_false_of_ne (show g ≠ 46 by omega)] at h
      exact Bool.noConfusion (show true = false from h)
set_option maxHeartbeats 1000000 in
theorem op_best_ok : op_best rel := by
  intro p I hr
  have hr0 := hr
  obtain ⟨tn, bl, st, wa, od, tb, pk, ln, ht, nl, bh, bs, nk, ni, wt, u, hS, hD, hP, hL, hB, hK, hT, hC⟩ := hr
  obtain ⟨s1, s2, s3, s4, s5, s6, s7, s8, s9, s10, s11, s12, s13, s14, s15, s16, s17⟩ := hS
  have t6 : I 3 6 = Int32.ofNat (tn 1) := s3 1 (by decide)
  have t7 : I 3 7 = Int32.ofNat (tn 2) := s3 2 (by decide)
  have t9 : I 3 9 = Int32.ofNat (tn 4) := s3 4 (by decide)
  have u1 : I 51 1 = Int32.ofNat (tn 1) := s2 1 (by decide)
  have u2 : I 51 2 = Int32.ofNat (tn 2) := s2 2 (by decide)
  have u4 : I 51 4 = Int32.ofNat (tn 4) := s2 4 (by decide)
  have hw : ∀ w, w < tn 2 → wa w 0 < 6 ∧ wa w 1 ≤ 11 ∧ wa w 2 ≤ 11 ∧ wa w 3 < 6 := fun w hw => by have := s12 w hw; omega
  rcases range_cases p (n := tn 1) (by omega) with ⟨c, hc, rfl⟩ | hp
  · have hc6 : c < 6 := by omega
    obtain ⟨⟨v, J⟩, x1, x2, x3, x4⟩ := x_findBest (I := I) (se := tn 4) (by omega) hc6 t7 t9 hw s14
    dsimp only at x2 x3 x4
    have hM : ∀ g k, g ≠ 40 → g ≠ 41 → ¬ (g = 47 ∧ k = 0) → ab_up1 J 47 0 0 g k = I g k := fun g k h1 h2 h3 => by rw [up_ne h3, x3 g k h1 h2]
    obtain ⟨⟨w, K⟩, m1, m2, m3, m4⟩ := m_laysBest (I := ab_up1 J 47 0 0) (se := tn 4) (c := c) (wa := wa) (nw := tn 2) (by omega) hc6 (by rw [hM _ _ (by decide) (by decide) (by decide)]; exact u2) (by rw [hM _ _ (by decide) (by decide) (by decide)]; exact u4) hw (fun w j hw hj => by rw [hM _ _ (by omega) (by omega) (by omega)]; exact s13 w j hw hj)
    dsimp only at m2 m3 m4
    refine qok (v := v) (I1 := J) (I2 := K) hr0 ?_ ?_ (fun g k h => ?_) (by rw [m3 47 0 (by omega)]; exact up_eq)
    · unfold f_x_best183
      rw [t6, nE_ok hc (by omega), tb_inr, x1, ob_some]
    · unfold f_m_best344
      rw [mC_ok (I := ab_up1 J 47 0 0) (by rw [hM _ _ (by decide) (by decide) (by decide)]; exact u1) hc (by omega), ob_some, if_neg (by decide), ob_some, bad_0 up_eq, ob_some, if_pos rfl]
      try dsimp only
      rw [m1, ob_some, m2, x2]
    · obtain ⟨z1, z2, z3⟩ := qs_best h
      rw [m3 g k (Or.inl z3), hM g k z1 z2 (qs_sc h).2.2.2.2.2.2.2.2.2.1]
  · refine qref (E := 0) (w := 1) (by decide) hr0 ?_ ?_ (Or.inl ⟨rfl, rfl⟩)
    · unfold f_x_best183
      rw [t6, nE_no hp]
      rfl
    · unfold f_m_best344
      rw [mC_no (I := ab_up1 (ab_up1 I 0 (14 + 0) (I 0 (14 + 0) + 1)) 47 0 0) u1 (by omega) hp, ob_some, if_pos rfl, ob_some, show f_m_bad268 1 1 0 _ = _ from bad_ref (E := 0) (by decide) (by decide)]
      rfl
set_option maxHeartbeats 1000000 in
theorem op_bestAt_ok : op_bestAt rel := by
  intro p q I hr
  have hr0 := hr
  obtain ⟨tn, bl, st, wa, od, tb, pk, ln, ht, nl, bh, bs, nk, ni, wt, u, hS, hD, hP, hL, hB, hK, hT, hC⟩ := hr
  obtain ⟨s1, s2, s3, s4, s5, s6, s7, s8, s9, s10, s11, s12, s13, s14, s15, s16, s17⟩ := hS
  have t6 : I 3 6 = Int32.ofNat (tn 1) := s3 1 (by decide)
  have t7 : I 3 7 = Int32.ofNat (tn 2) := s3 2 (by decide)
  have t9 : I 3 9 = Int32.ofNat (tn 4) := s3 4 (by decide)
  have u1 : I 51 1 = Int32.ofNat (tn 1) := s2 1 (by decide)
  have u2 : I 51 2 = Int32.ofNat (tn 2) := s2 2 (by decide)
  have u4 : I 51 4 = Int32.ofNat (tn 4) := s2 4 (by decide)
  have hw : ∀ w, w < tn 2 → wa w 0 < 6 ∧ wa w 1 ≤ 11 ∧ wa w 2 ≤ 11 ∧ wa w 3 < 6 := fun w hw => by have := s12 w hw; omega
  rcases range_cases p (n := tn 1) (by omega) with ⟨c, hc, rfl⟩ | hp
  · rcases range_cases q (n := 12) (by decide) with ⟨h, hh, rfl⟩ | hq
    · have hc6 : c < 6 := by omega
      obtain ⟨⟨v, J⟩, x1, x2, x3, x4⟩ := x_findBest (I := I) (se := tn 4) (by omega) hc6 t7 t9 hw s14
      dsimp only at x2 x3 x4
      have hM : ∀ g k, g ≠ 40 → g ≠ 41 → ¬ (g = 47 ∧ k = 0) → ab_up1 J 47 0 0 g k = I g k := fun g k h1 h2 h3 => by rw [up_ne h3, x3 g k h1 h2]
      obtain ⟨⟨w, K⟩, m1, m2, m3, m4⟩ := m_laysBest (I := ab_up1 J 47 0 0) (se := tn 4) (c := c) (wa := wa) (nw := tn 2) (by omega) hc6 (by rw [hM _ _ (by decide) (by decide) (by decide)]; exact u2) (by rw [hM _ _ (by decide) (by decide) (by decide)]; exact u4) hw (fun w j hw hj => by rw [hM _ _ (by omega) (by omega) (by omega)]; exact s13 w j hw hj)
      dsimp only at m2 m3 m4
      refine qok (v := Int32.ofNat (sqF (gnF (tn 2) wa c) (Int32.ofNat (tn 4)) h).1) (I1 := J) (I2 := K) hr0 ?_ ?_ (fun g k h => ?_) (by rw [m3 47 0 (by omega)]; exact up_eq)
      · unfold f_x_bestAt192
        rw [t6, nE_ok hc (by omega), tb_inr, show f_x_needWithin38 (Int32.ofNat h) 0 11 I = _ from nWW_ok (lo := 0) (hi := 11) (Nat.zero_le _) (by omega) (by decide), tb_inr, x1, ob_some]
        try dsimp only
        rw [at_40 hh, ob_some, x4 h hh]
      · unfold f_m_bestAt348
        rw [mC_ok (I := ab_up1 J 47 0 0) (by rw [hM _ _ (by decide) (by decide) (by decide)]; exact u1) hc (by omega), ob_some, if_neg (by decide), ob_some, bad_0 up_eq, ob_some, if_pos rfl]
        try dsimp only
        rw [mH_ok hh, ob_some, if_neg (by decide), ob_some, bad_0 up_eq, ob_some, if_pos rfl]
        try dsimp only
        rw [m1, ob_some]
        try dsimp only
        rw [rd_693 hh, ob_some, m4 h hh]
      · obtain ⟨z1, z2, z3⟩ := qs_best h
        rw [m3 g k (Or.inl z3), hM g k z1 z2 (qs_sc h).2.2.2.2.2.2.2.2.2.1]
    · refine qref (E := 1) (w := 2) (by decide) hr0 ?_ ?_ (Or.inr ⟨rfl, rfl⟩)
      · unfold f_x_bestAt192
        rw [t6, nE_ok hc (by omega), tb_inr, show f_x_needWithin38 q 0 11 I = _ from nW_no (n := 11) (by decide) hq]
        rfl
      · unfold f_m_bestAt348
        rw [mC_ok (I := ab_up1 (ab_up1 I 0 (14 + 1) (I 0 (14 + 1) + 1)) 47 0 0) u1 hc (by omega), ob_some, if_neg (by decide), ob_some, bad_0 up_eq, ob_some, if_pos rfl]
        try dsimp only
        rw [mH_no hq, ob_some, if_pos rfl, ob_some, show f_m_bad268 1 2 1 _ = _ from bad_ref (E := 1) (by decide) (by decide)]
        rfl
  · refine qref (E := 0) (w := 1) (by decide) hr0 ?_ ?_ (Or.inl ⟨rfl, rfl⟩)
    · unfold f_x_bestAt192
      rw [t6, nE_no hp]
      rfl
    · unfold f_m_bestAt348
      rw [mC_no (I := ab_up1 (ab_up1 I 0 (14 + 0) (I 0 (14 + 0) + 1)) 47 0 0) u1 (by omega) hp, ob_some, if_pos rfl, ob_some, show f_m_bad268 1 1 0 _ = _ from bad_ref (E := 0) (by decide) (by decide)]
      rfl
