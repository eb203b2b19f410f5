/-! book -/
theorem okI_0 {cs : List Nat} {v b t : Int32} (h1 : t = 0) (h2 : v = b) : okI cs (.inr v) b t := ⟨h1, h2⟩
/-- the model's guard of a text, with the same bound as the class' -/
theorem mTx_ok {I : MJ} {k mo u : Nat} (hu : I 47 1 = Int32.ofNat u) (h6 : u ≤ 600) (h1 : k ≤ mo) (h2 : k ≤ u) (h3 : mo ≤ 600) : (Option.bind (f_m_in264 (Int32.ofNat k) (0 : Int32) (I 47 1) I) fun v1 => (Option.bind (α := Int32) (if v1 = 0 then some (1 : Int32) else (if Int32.ofNat mo < Int32.ofNat k then some (1 : Int32) else some (0 : Int32))) fun b2 => some b2)) = some 0 := by
  rw [hu, show f_m_in264 (Int32.ofNat k) 0 (Int32.ofNat u) I = _ from inW_ok (lo := 0) (Nat.zero_le _) h2 (by omega), ob_some, if_neg (by decide), if_neg (nlt_l (by omega) (by omega) (by omega)), ob_some]
theorem mTx_bad {I : MJ} {p : Int32} {mo u : Nat} (hu : I 47 1 = Int32.ofNat u) (h6 : u ≤ 600) (h3 : mo ≤ 600) (h : p < Int32.ofNat 0 ∨ Int32.ofNat (min u mo) < p) : (Option.bind (f_m_in264 p (0 : Int32) (I 47 1) I) fun v1 => (Option.bind (α := Int32) (if v1 = 0 then some (1 : Int32) else (if Int32.ofNat mo < p then some (1 : Int32) else some (0 : Int32))) fun b2 => some b2)) = some 1 := by
  rw [hu]
  rcases mTx_no h6 h3 h with h | h
  · rw [show f_m_in264 p 0 (Int32.ofNat u) I = _ from inW_no h, ob_some, if_pos rfl, ob_some]
  · have : ∃ v, f_m_in264 p 0 (Int32.ofNat u) I = some v := by
      unfold f_m_in264
      split
      · exact ⟨_, rfl⟩
      · split
        · exact ⟨_, rfl⟩
        · exact ⟨_, rfl⟩
    obtain ⟨v, hv⟩ := this
    rw [hv, ob_some, if_pos h]
    split <;> rfl
/-- a guard, and what comes behind it -/
theorem bind_key {γ : Type} {e : Option Int32} {f : Int32 → Option Int32} {k : Int32 → Option γ} {b : Int32} (h : (Option.bind e fun v => Option.bind (f v) fun b2 => some b2) = some b) : (Option.bind e fun v => Option.bind (f v) k) = k b := by
  cases e with
  | none => cases h
  | some v =>
    rw [ob_some] at h ⊢
    cases hf : f v with
    | none => rw [hf] at h; cases h
    | some z =>
      rw [hf] at h
      have : z = b := Option.some.inj h
      rw [this]
      rfl
set_option maxHeartbeats 2000000 in
theorem op_book_ok : op_book rel := by
  intro p I hr
  have hr0 := hr
  obtain ⟨tn, bl, st, wa, od, tb, pk, ln, ht, nl, bh, bs, nk, ni, wt, u, hS, hD, hP, hL, hB, hK, hT, hC⟩ := hr
  have hB_ := hB
  have hu : u ≤ 600 := hT.1
  have tu : I 1 1 = Int32.ofNat u := hT.2.1
  have mu : I 47 1 = Int32.ofNat u := hT.2.2.1
  rcases rcW p (lo := 0) (hi := min u 100) (by omega) (Nat.zero_le _) with ⟨n, -, hn, rfl⟩ | hp
  · clear hB
    obtain ⟨B, hB⟩ := tape_B hT
    have hn1 : n ≤ u := by omega
    have hn2 : n ≤ 100 := by omega
    have hn6 : n ≤ 600 := by omega
    obtain ⟨C0, o1, o2, o3⟩ := x_open (I := I) (B := B) hn6 (fun k hk => ⟨(hB k (by omega)).1, (hB k (by omega)).2.2⟩)
    obtain ⟨F, f1, f2, f3⟩ := fill_ok (a := 37) (n := 12) (x := -1) (I := C0) rfl (by decide) (by decide)
    have cF : cR B n (ab_up1 F 35 4 0) (sk B n 0) := by
      obtain ⟨q1, q2, q3, p0, q4, q5, q6⟩ := o2
      exact ⟨cE_up (cE_c q1 (f2 _ _ (by decide)) (fun k => f2 _ _ (by decide))) (by decide) (by decide), by rw [up_ne (by omega), f2 _ _ (by decide)]; exact q2, by rw [up_ne (by omega), f2 _ _ (by decide)]; exact q3, p0, q4, by rw [up_ne (by omega), f2 _ _ (by decide)]; exact q5, q6⟩
    have D0 : ∀ Jm, bkD 0 (fun _ => 0) (fun _ => 0) 0 (ab_up1 F 35 4 0) Jm := fun Jm => ⟨fun k hk => absurd hk (Nat.not_lt_zero k), fun j k hj => absurd hj (Nat.not_lt_zero j), fun h hh => ⟨fun e => (by rw [bitF_0 (by omega)] at e; cases e), fun ⟨k, hk, _⟩ => absurd hk (Nat.not_lt_zero k)⟩, by
      have : sN (fun h => if bitF 0 h = true then 1 else 0) 12 ≤ 0 * 12 := sN_le fun k hk => by
        rw [bitF_0 (by omega), if_neg (by decide)]
        exact Nat.le_refl 0
      omega, fun k hk => absurd hk (Nat.not_lt_zero k), fun h hh _ => by rw [up_ne (by omega), f3 h hh], fun k hk => absurd hk (Nat.not_lt_zero k), up_eq⟩
    -- the class' loop
    obtain ⟨K0, s1, s2, s3, s4, s5⟩ := m_starts (I := I) (B := B) hn6 (fun k hk => ⟨(hB k (by omega)).1, (hB k (by omega)).2.1⟩)
    obtain ⟨bc, bm0, r1, -, r3, -, r5⟩ := book_run (C0 := ab_up1 F 35 4 0) (M0 := K0) (n + 1) 0 (sk B n 0) (fun _ => 0) (fun _ => 0) 0 _ _ (by omega) cF s2 s3 (D0 K0) (fun _ _ _ _ _ => rfl) (fun _ _ _ _ => rfl)
    have bcI : ∀ a k, ¬ (a = 1 ∧ 2 ≤ k ∧ k ≤ 6) → a ≠ 37 → ¬ (a = 35 ∧ k = 4) → bc a k = I a k := fun a k h1 h2 h3 => by rw [r3 a k (by omega) h2 h3, up_ne h3, f2 a k h2, o3 a k h1]
    have hrd : f_boo_readFrom138 C0 = some bc := by
      unfold f_boo_readFrom138
      rw [f1, ob_some]
      have e1 : (Option.bind (wh bkC ((0 : Int32), ab_up1 F 35 4 (0 : Int32))) fun b3 => some b3) = some bc := by
        rw [show ((0 : Int32), ab_up1 F 35 4 (0 : Int32)) = (Int32.ofNat 0, ab_up1 F 35 4 0) from rfl, r1]
        rfl
      exact e1
    have hX : ∃ v J, f_x_book137 (Int32.ofNat n) I = some (.inr v, J) ∧ J 1 1 = Int32.ofNat 0 ∧ (∀ a k, a ≠ 1 → a ≠ 37 → ¬ (a = 35 ∧ (k = 3 ∨ k = 4)) → a ≠ 36 → J a k = I a k) ∧ J 1 6 = bc 1 6 ∧ (bc 1 5 = 0 → v = bc 35 4 ∧ J 35 3 = bc 35 4 ∧ ∀ k, k < 12 → J 36 k = bc 37 k) ∧ (¬ bc 1 5 = 0 → v = bc 1 5 - 10 ∧ J 35 3 = I 35 3 ∧ ∀ k, J 36 k = I 36 k) := by
      unfold f_x_book137
      rw [show f_x_needText37 (Int32.ofNat n) 100 I = _ from nTx_ok (mo := 100) tu hu (by omega) (by omega) (by decide), tb_inr, o1, ob_some, hrd, ob_some, x_sound, ob_some]
      by_cases h5 : bc 1 5 = 0
      · rw [if_pos h5, if_neg (by decide)]
        unfold f_boo_keep139
        rw [show f_x_copy22 37 0 36 0 12 (ab_up1 bc 35 3 (bc 35 4)) = _ from copy_ok (la := 12) (lb := 12) (sp := 0) (dp := 0) (n := 12) rfl rfl (by decide) (by decide) (by decide) (by decide) (by decide) (by decide), ob_some, ob_some, ob_some, x_close, ob_some]
        dsimp only
        have hcp : ∀ a k, a ≠ 36 → ¬ (a = 35 ∧ k = 3) → ab_cpy (ab_up1 bc 35 3 (bc 35 4)) 37 36 0 0 12 a k = bc a k := fun a k h1 h2 => by rw [cpy_ne h1, up_ne h2]
        refine ⟨_, _, rfl, (up_eq (I := ab_cpy (ab_up1 bc 35 3 (bc 35 4)) 37 36 0 0 12) (a := 1) (j := 1) (x := 0)), fun a k h1 h2 h3 h4 => ?_, ?_, fun _ => ⟨?_, ?_, fun k hk => ?_⟩, fun z => absurd h5 z⟩
        · rw [up_ne (by omega), hcp a k h4 (by omega), bcI a k (by omega) h2 (by omega)]
        · rw [up_ne (by omega), hcp 1 6 (by decide) (by decide)]
        · rw [if_pos (by rw [hcp 1 5 (by decide) (by decide)]; exact h5), cpy_ne (by decide), up_eq]
        · rw [up_ne (by omega), cpy_ne (by decide), up_eq]
        · rw [up_ne (by omega), cpy_at, if_pos ⟨Nat.zero_le _, by omega⟩, up_ne (by omega), show 0 + (k - 0) = k by omega]
      · rw [if_neg h5, if_pos rfl, ob_some, x_close, ob_some]
        dsimp only
        refine ⟨_, _, rfl, (up_eq (I := bc) (a := 1) (j := 1) (x := 0)), fun a k h1 h2 h3 h4 => ?_, ?_, fun z => absurd z h5, fun _ => ⟨?_, ?_, fun k => ?_⟩⟩
        · rw [up_ne (by omega), bcI a k (by omega) h2 (by omega)]
        · rw [up_ne (by omega)]
        · rw [if_neg h5]
        · rw [up_ne (by omega), bcI _ _ (by omega) (by decide) (by decide)]
        · rw [up_ne (by omega), bcI _ _ (by omega) (by omega) (by omega)]
    obtain ⟨v, J, x1, x2, x3, x4, x5, x6⟩ := hX
    -- the model's
    obtain ⟨K1, t1, t2, t3, t4, t5⟩ := m_starts (I := ab_up1 J 47 0 0) (B := B) hn6 (fun k hk => ⟨(hB k (by omega)).1, by rw [up_ne (by omega), x3 _ _ (by omega) (by omega) (by omega) (by omega)]; exact (hB k (by omega)).2.1⟩)
    obtain ⟨bc', bm, r1', r2, -, r4, r6⟩ := book_run (C0 := ab_up1 F 35 4 0) (M0 := K1) (n + 1) 0 (sk B n 0) (fun _ => 0) (fun _ => 0) 0 _ _ (by omega) cF t2 t3 (D0 K1) (fun _ _ _ _ _ => rfl) (fun _ _ _ _ => rfl)
    have hbc : bc' = bc := Option.some.inj (r1'.symm.trans r1)
    subst hbc
    have bmI : ∀ a k, ¬ (a = 47 ∧ (k = 0 ∨ k = 1 ∨ k = 2 ∨ k = 4 ∨ k = 5 ∨ k = 6 ∨ k = 7 ∨ k = 8)) → ¬ (481 ≤ a ∧ a < 493) → bm.2 a k = J a k := fun a k h1 h2 => by rw [r4 a k (by omega) h2, t5 a k (by omega), up_ne (by omega)]
    have b1 : bm.2 47 1 = Int32.ofNat 0 := by rw [r4 47 1 (by omega) (by omega)]; exact t4.1
    have b0 : bm.2 47 0 = 0 := by rw [r4 47 0 (by omega) (by omega), t5 47 0 (by omega), up_eq]
    have hgd := mTx_ok (I := ab_up1 J 47 0 0) (k := n) (mo := 100) (u := u) (by rw [up_ne (by omega), x3 _ _ (by decide) (by decide) (by decide) (by decide)]; exact mu) hu hn2 hn1 (by decide)
    have hm : ∃ w K, f_m_book322 (Int32.ofNat n) J = some (w, K) ∧ K 47 0 = 0 ∧ K 47 1 = Int32.ofNat 0 ∧ (∀ a k, ¬ (a = 47 ∧ (k = 0 ∨ k = 1 ∨ k = 2 ∨ k = 3 ∨ k = 4 ∨ k = 5 ∨ k = 6 ∨ k = 7 ∨ k = 8 ∨ k = 39)) → ¬ (468 ≤ a ∧ a < 493) → K a k = J a k) ∧ (∀ nl, nl ≤ 12 → bm.1 = Int32.ofNat nl → bm.2 47 5 = 0 → w = Int32.ofNat nl ∧ K 47 3 = -1 ∧ K 47 39 = Int32.ofNat nl ∧ ∀ k, k < nl → K (468 + k) 0 = bm.2 (481 + k) 0 ∧ K (468 + k) 1 = bm.2 (481 + k) 1) ∧ (¬ bm.2 47 5 = 0 → w = bm.2 47 5 - 10 ∧ K 47 3 = bm.2 47 6 ∧ K 47 39 = J 47 39 ∧ ∀ a k, 468 ≤ a → a < 480 → K a k = J a k) := by
      unfold f_m_book322
      have hg2 : ∀ (k : Int32 → Option (Int32 × MJ)) (R : Option (Int32 × MJ)), k 0 = R → (Option.bind (f_m_in264 (Int32.ofNat n) (0 : Int32) (ab_up1 J 47 0 0 47 1) (ab_up1 J 47 0 (0 : Int32))) fun v1 => Option.bind (α := Int32) (if v1 = 0 then some (1 : Int32) else (if (100 : Int32) < Int32.ofNat n then some (1 : Int32) else some (0 : Int32))) k) = R := fun k R h => (bind_key hgd).trans h
      have hlp : (wh bkM ((0 : Int32), (0 : Int32), K1)) = some bm := r2
      by_cases h5 : bm.2 47 5 = 0
      · rcases r6 with ⟨nl, bh, bs, been, n1, n2, -, -, -, -⟩ | ⟨k, w, g1, g2, -⟩
        · obtain ⟨L, l1, l2, l3⟩ := m_lays (I := ab_up1 (ab_up1 bm.2 47 3 (-1)) 47 39 (Int32.ofNat nl)) (a := 480) (b := 467) (r := 2) (many := nl) (fun k hk => rdp_480 (by omega)) (fun k hk => rdp_467 (by omega)) (fun k hk => KS_480 k (by omega)) (fun k hk => KS_467 k (by omega)) (by decide) (by omega) (by omega) (by omega) (by omega)
          refine ⟨Int32.ofNat nl, L, hg2 _ _ ?_, ?_, ?_, fun a k h1 h2 => ?_, fun nl' h1 h2 _ => ?_, fun z => absurd h5 z⟩
          · try dsimp only
            rw [bad_0 up_eq, ob_some, if_pos rfl]
            try dsimp only
            rw [t1, ob_some]
            refine (congrArg (fun z => Option.bind z _) hlp).trans ?_
            rw [ob_some, if_pos h5, n2, l1, ob_some]
          · rw [l2 _ _ (by omega), up_ne (by omega), up_ne (by omega)]; exact b0
          · rw [l2 _ _ (by omega), up_ne (by omega), up_ne (by omega)]; exact b1
          · rw [l2 _ _ (by omega), up_ne (by omega), up_ne (by omega), bmI a k (by omega) (by omega)]
          · have hnl : nl' = nl := (i_eq (by omega) (by omega)).mp (h2.symm.trans n2)
            subst hnl
            refine ⟨rfl, ?_, ?_, fun k hk => ⟨?_, ?_⟩⟩
            · rw [l2 _ _ (by omega), up_ne (by omega), up_eq]
            · rw [l2 _ _ (by omega), up_eq]
            · rw [show 468 + k = 467 + 1 + k by omega, l3 k hk 0 (by decide), up_ne (by omega), up_ne (by omega), show 480 + 1 + k = 481 + k by omega]
            · rw [show 468 + k = 467 + 1 + k by omega, l3 k hk 1 (by decide), up_ne (by omega), up_ne (by omega), show 480 + 1 + k = 481 + k by omega]
        · exact absurd h5 (by rw [g2]; exact neq_l (b := 0) (by have := g1.1; omega) (by have := g1.1; omega) (by decide))
      · refine ⟨bm.2 47 5 - 10, ab_up1 bm.2 47 3 (bm.2 47 6), hg2 _ _ ?_, ?_, ?_, fun a k h1 h2 => ?_, fun _ _ _ z => absurd z h5, fun _ => ⟨rfl, up_eq, ?_, fun a k h1 h2 => ?_⟩⟩
        · try dsimp only
          rw [bad_0 up_eq, ob_some, if_pos rfl]
          try dsimp only
          rw [t1, ob_some]
          refine (congrArg (fun z => Option.bind z _) hlp).trans ?_
          rw [ob_some, if_neg h5]
          rfl
        · rw [up_ne (by omega)]; exact b0
        · rw [up_ne (by omega)]; exact b1
        · rw [up_ne (by omega), bmI a k (by omega) (by omega)]
        · rw [up_ne (by omega), bmI _ _ (by omega) (by omega)]
        · rw [up_ne (by omega), bmI _ _ (by omega) (by omega)]
    obtain ⟨w, K, y1, y2, y3, y4, y5, y6⟩ := hm
    have kI : ∀ a k, a ≠ 1 → a ≠ 37 → ¬ (a = 35 ∧ (k = 3 ∨ k = 4)) → a ≠ 36 → ¬ (a = 47 ∧ (k = 0 ∨ k = 1 ∨ k = 2 ∨ k = 3 ∨ k = 4 ∨ k = 5 ∨ k = 6 ∨ k = 7 ∨ k = 8 ∨ k = 39)) → ¬ (468 ≤ a ∧ a < 493) → K a k = I a k := fun a k h1 h2 h3 h4 h5 h6 => by rw [y4 a k h5 h6, x3 a k h1 h2 h3 h4]
    have hrel : (K 1 6 = K 47 3) → (∃ nl bh bs, rBook nl bh bs K) → rel K := fun hpl ⟨nl', bh', bs', hB'⟩ => by
      obtain ⟨c1, c2, c3, c4, c5⟩ := hC
      refine ⟨tn, bl, st, wa, od, tb, pk, ln, ht, nl', bh', bs', nk, ni, wt, 0, rShop_congr (fun a k h => kI a k (by omega) (by omega) (by omega) (by omega) (by omega) (by omega)) hS, rStand_congr (fun a k h => kI a k (by omega) (by omega) (by omega) (by omega) (by omega) (by omega)) hD, rPat_congr (fun a k h => kI a k (by omega) (by omega) (by omega) (by omega) (by omega) (by omega)) hP, rLaw_congr (fun a k h => kI a k (by omega) (by omega) (by omega) (by omega) (by omega) (by omega)) hL, hB', rPast_congr (fun a k h => kI a k (by omega) (by omega) (by omega) (by omega) (by omega) (by omega)) hK, ⟨by decide, ?_, y3, fun k hk => absurd hk (Nat.not_lt_zero k)⟩, ?_, ?_, ?_, ?_, hpl⟩
      · rw [y4 1 1 (by omega) (by omega)]; exact x2
      · rw [kI _ _ (by decide) (by decide) (by decide) (by decide) (by decide) (by decide), kI _ _ (by decide) (by decide) (by decide) (by decide) (by decide) (by decide)]; exact c1
      · rw [kI _ _ (by decide) (by decide) (by decide) (by decide) (by decide) (by decide), kI _ _ (by decide) (by decide) (by decide) (by decide) (by decide) (by decide)]; exact c2
      · rw [kI _ _ (by decide) (by decide) (by decide) (by decide) (by decide) (by decide), kI _ _ (by decide) (by decide) (by decide) (by decide) (by decide) (by decide)]; exact c3
      · rw [kI _ _ (by decide) (by decide) (by decide) (by decide) (by decide) (by decide), kI _ _ (by decide) (by decide) (by decide) (by decide) (by decide) (by decide)]; exact c4
    have k16 : K 1 6 = bc' 1 6 := by rw [y4 1 6 (by omega) (by omega)]; exact x4
    rcases r6 with ⟨nl', bh', bs', been, n1, n2, n3, n4, n5, D1, D2, D3, D4, D5, D6, D7, D8⟩ | ⟨k, wf, g1, g2, g3⟩
    · obtain ⟨z1, z2, z3⟩ := x5 n3
      obtain ⟨w1, w2, w3, w4⟩ := y5 nl' n1 n2 n5
      have k35 : K 35 3 = Int32.ofNat nl' := by rw [y4 _ _ (by omega) (by omega), z2, D8]
      have k36 : ∀ h, h < 12 → K 36 h = bc' 37 h := fun h hh => by rw [y4 _ _ (by omega) (by omega), z3 h hh]
      refine ⟨_, J, w, K, x1, y1, hrel ?_ ⟨nl', bh', bs', n1, k35, w3, D1, fun k hk => ?_, fun k hk => ?_, D2, fun k hk => ?_, fun h hh hk => ?_⟩, okI_0 y2 ?_⟩
      · rw [k16, n4, w2]
      · rw [(w4 k hk).1, (D7 k hk).1]
      · rw [(w4 k hk).2, (D7 k hk).2]
      · rw [k36 _ (D1 k hk).1, D5 k hk]
      · rw [k36 h hh, D6 h hh hk]
      · rw [z1, w1, D8]
    · have hf : ¬ bc' 1 5 = 0 := cX_ne g1
      have hf2 : ¬ bm.2 47 5 = 0 := by rw [g2]; exact neq_l (b := 0) (by have := g1.1; omega) (by have := g1.1; omega) (by decide)
      obtain ⟨z1, z2, z3⟩ := x6 hf
      obtain ⟨w1, w2, w3, w4⟩ := y6 hf2
      refine ⟨_, J, w, K, x1, y1, hrel ?_ ⟨nl, bh, bs, rBook_congr (fun a k h => ?_) hB_⟩, okI_0 y2 ?_⟩
      · rw [k16, g1.2.2, w2, g3]
      · rcases h with ⟨rfl, rfl⟩ | ⟨rfl, rfl⟩ | rfl | ⟨h1, h2⟩
        · rw [y4 _ _ (by omega) (by omega), z2]
        · rw [w3, x3 _ _ (by decide) (by decide) (by decide) (by decide)]
        · rw [y4 _ _ (by omega) (by omega), z3]
        · rw [w4 a k h1 h2, x3 _ _ (by omega) (by omega) (by omega) (by omega)]
      · rw [z1, w1, g1.2.1, g2]
  · refine qref (E := 1) (w := 1) (by decide) hr0 ?_ ?_ (Or.inl ⟨rfl, rfl⟩)
    · unfold f_x_book137
      rw [show f_x_needText37 p 100 I = _ from nTx_no (mo := 100) tu hu (by decide) hp]
      rfl
    · unfold f_m_book322
      refine (bind_key (mTx_bad (I := ab_up1 (ab_up1 I 0 (14 + 1) (I 0 (14 + 1) + 1)) 47 0 0) (mo := 100) mu hu (by decide) hp)).trans ?_
      try dsimp only
      rw [show f_m_bad268 1 1 1 _ = _ from bad_ref (E := 1) (by decide) (by decide)]
      rfl
