/-! pieces -/
def fF (I J : MJ) : Prop := ∀ a k, a ≠ 43 → a ≠ 44 → a ≠ 45 → ¬ (a = 46 ∧ 1 ≤ k) → J a k = I a k
section FEWEST
variable {nb no s : Nat} {bk L : Nat → Nat} {od pk : Nat → Nat → Nat} {I : MJ}
theorem x_fewest (hs : s < 256) (hn : no ≤ 8) (hb : nb ≤ 10) (hod : ∀ o, o < no → od o 1 < 6) (hpk : ∀ p h, p < 6 → h < 12 → pk p h < 6) (hbk : ∀ b, b < nb → bk b < 6) (hL : ∀ b, b < nb → L b ≤ 60) (e5 : I 3 5 = Int32.ofNat nb) (e8 : I 3 8 = Int32.ofNat no) (h4 : ∀ b, b < nb → I 4 b = Int32.ofNat (bk b)) (h8 : ∀ o j, o < no → j < 5 → I 8 (5 * o + j) = Int32.ofNat (od o j)) (h16 : ∀ b, b < nb → I 16 (9 + b) = Int32.ofNat (L b)) (g6 : ∀ p h, p < 6 → h < 12 → I 20 (12 * p + h) = Int32.ofNat (pk p h)) (h46 : I 46 0 = 0) (hlen : (RLs od pk s no).length ≤ 12) : ∃ c : Int32 × MJ, f_tas_fewestBolts207 (Int32.ofNat s) I = some c ∧ fF I c.2 ∧ ((∃ mm : Nat → Nat, c.1 = Int32.ofNat (sN mm 6) ∧ (∀ j, j < 6 → mm j ≤ 20000) ∧ ∀ j, j < 6 → KR bk L nb (lens j (RLs od pk s no)) j (some (mm j))) ∨ (c.1 = -1 ∧ ∃ j, j < 6 ∧ KR bk L nb (lens j (RLs od pk s no)) j none)) := by
  have hall : ∀ y, ∀ k, y ∈ lens k (RLs od pk s no) → y ≤ 12 := fun y k hy => lens_all (p := fun z => z ≤ 12) (fun x hx => (RLs_all (fun q hq j hj => hpk _ j (hod q hq) hj) x hx).2.2) y hy
  unfold f_tas_fewestBolts207
  refine wh_inv2 (fun k st => ∃ (J : MJ) (mm : Nat → Nat), st = (Int32.ofNat (sN mm k), Int32.ofNat k, J) ∧ fF I J ∧ (∀ j, j < k → mm j ≤ 20000) ∧ ∀ j, j < k → KR bk L nb (lens j (RLs od pk s no)) j (some (mm j))) _ 6 ?_ ?_ ⟨I, fun _ => 0, rfl, fun _ _ _ _ _ _ => rfl, fun j hj => absurd hj (Nat.not_lt_zero j), fun j hj => absurd hj (Nat.not_lt_zero j)⟩
  · intro k hk st hst
    obtain ⟨J, mm, rfl, j1, j2, j3⟩ := hst
    have hsum : sN mm k ≤ 20000 * k := sN_le j2
    obtain ⟨J1, a1, a2, a3⟩ := x_gatherRuns (I := J) (s := s) (x := k) (no := no) (od := od) (pk := pk) hs hn hk hod hpk (by rw [j1 3 8 (by decide) (by decide) (by decide) (by omega)]; exact e8) (fun o j ho hj => by rw [j1 8 _ (by decide) (by decide) (by decide) (by omega)]; exact h8 o j ho hj) (fun p h hp hh => by rw [j1 20 _ (by decide) (by decide) (by decide) (by omega)]; exact g6 p h hp hh) hlen
    have f1 : ∀ a i, a ≠ 43 → a ≠ 44 → a ≠ 45 → ¬ (a = 46 ∧ 1 ≤ i) → J1 a i = I a i := fun a i z1 z2 z3 z4 => by rw [a2 a i (fun z => z1 z.1) z2, j1 a i z1 z2 z3 z4]
    obtain ⟨J2, σ, τ, P, b1, b2, b3, b4, b5⟩ := x_gatherSizes (I := J1) (nb := nb) (x := k) (bk := bk) (L := L) hb hk hbk hL (by rw [f1 3 5 (by decide) (by decide) (by decide) (by omega)]; exact e5) (fun b hb => by rw [f1 4 b (by decide) (by decide) (by decide) (by omega)]; exact h4 b hb) (fun b hb => by rw [f1 16 _ (by decide) (by decide) (by decide) (by omega)]; exact h16 b hb)
    have f2 : ∀ a i, a ≠ 43 → a ≠ 44 → a ≠ 45 → ¬ (a = 46 ∧ 1 ≤ i) → J2 a i = I a i := fun a i z1 z2 z3 z4 => by rw [b2 a i (fun z => z1 z.1) z3, f1 a i z1 z2 z3 z4]
    have n6 : J2 43 6 = Int32.ofNat (lens k (RLs od pk s no)).length := by rw [b2 43 6 (by omega) (by decide)]; exact a3.1
    have n44 : ∀ r, r < (lens k (RLs od pk s no)).length → J2 44 r = Int32.ofNat ((lens k (RLs od pk s no)).getD r 0) := fun r hr => by rw [b2 44 r (by omega) (by decide)]; exact a3.2 r hr
    have hll : (lens k (RLs od pk s no)).length ≤ 12 := Nat.le_trans lens_len hlen
    have hmem : ∀ r, r < (lens k (RLs od pk s no)).length → (lens k (RLs od pk s no)).getD r 0 ≤ 12 := fun r hr => hall _ k (gd_mem hr)
    generalize hl : lens k (RLs od pk s no) = l at n6 n44 hll hmem
    try dsimp only
    rw [if_pos (show Int32.ofNat k < (6 : Int32) from lt_l (b := 6) hk (by omega)), a1, ob_some, b1, ob_some, n6]
    have go : ∀ (m : Nat) (J3 : MJ), m ≤ 20000 → fF I J3 → KR bk L nb l k (some m) → ∃ (J : MJ) (mm' : Nat → Nat), (Int32.ofNat (sN mm k) + Int32.ofNat m, Int32.ofNat k + 1, J3) = (Int32.ofNat (sN mm' (k + 1)), Int32.ofNat (k + 1), J) ∧ fF I J ∧ (∀ j, j < k + 1 → mm' j ≤ 20000) ∧ ∀ j, j < k + 1 → KR bk L nb (lens j (RLs od pk s no)) j (some (mm' j)) := fun m J3 hm hF hKR => by
      refine ⟨J3, fun j => if j = k then m else mm j, ?_, hF, fun j hj => ?_, fun j hj => ?_⟩
      · have e1 : sN (fun j => if j = k then m else mm j) (k + 1) = sN mm k + m := by
          show sN (fun j => if j = k then m else mm j) k + (if k = k then m else mm k) = _
          rw [if_pos rfl, sN_congr (u := mm) fun j hj => if_neg (by omega)]
        rw [e1, i_add, i_addr]
      · by_cases z : j = k
        · try dsimp only
          rw [if_pos z]; exact hm
        · try dsimp only
          rw [if_neg z]; exact j2 j (by omega)
      · by_cases z : j = k
        · subst z
          try dsimp only
          rw [if_pos rfl, hl]
          exact hKR
        · try dsimp only
          rw [if_neg z]
          exact j3 j (by omega)
    by_cases h0 : l.length = 0
    · have hnil : l = [] := List.eq_nil_of_length_eq_zero h0
      rw [if_pos (show Int32.ofNat l.length = 0 by rw [h0]; rfl), ob_some]
      try dsimp only
      rw [if_neg (show ¬ (0 : Int32) = -1 by decide)]
      exact Or.inl ⟨_, rfl, go 0 J2 (by omega) (fun a i z1 z2 z3 z4 => f2 a i z1 z2 z3 z4) ⟨σ, τ, P, b3, Or.inl ⟨hnil, rfl⟩⟩⟩
    · have hne : l ≠ [] := fun z => h0 (by rw [z]; rfl)
      obtain ⟨⟨c, J3⟩, p1, p2, pk', p3, p4, p5⟩ := x_pack (I := J2) (l := fun j => l.getD j 0) (sz := fun p => L (σ p)) (P := P) (n := l.length) (srt_szP hb hL b3) hll (by omega) (fun r hr => ⟨hmem r hr, n44 r hr⟩) n6 b4 b5 (by rw [f2 46 0 (by decide) (by decide) (by decide) (by omega)]; exact h46)
      try dsimp only at p2 p5
      have hF3 : fF I J3 := fun a i z1 z2 z3 z4 => by rw [p2 a i z4, f2 a i z1 z2 z3 z4]
      rw [if_neg (show ¬ Int32.ofNat l.length = 0 from neq_l (b := 0) h0 (by omega) (by omega)), p1, ob_some, ob_some]
      try dsimp only
      by_cases hN : pk' (2 ^ l.length - 1) = 1000000
      · rw [if_pos hN] at p5
        rw [p5, if_pos rfl]
        exact Or.inr ⟨_, rfl, hF3, Or.inr ⟨rfl, k, hk, by rw [hl]; exact ⟨σ, τ, P, b3, Or.inr ⟨hne, pk', p3, Or.inl ⟨hN, rfl⟩⟩⟩⟩⟩
      · rw [if_neg hN] at p5
        have hm : pk' (2 ^ l.length - 1) / 64 + 1 ≤ 20000 := by omega
        rw [p5, if_neg (fun z => by rw [i_neg1 (by omega)] at z; exact z)]
        exact Or.inl ⟨_, rfl, go (pk' (2 ^ l.length - 1) / 64 + 1) J3 hm hF3 ⟨σ, τ, P, b3, Or.inr ⟨hne, pk', p3, Or.inr ⟨hN, rfl⟩⟩⟩⟩
  · intro st hst
    obtain ⟨J, mm, rfl, j1, j2, j3⟩ := hst
    try dsimp only
    rw [if_neg (by decide)]
    exact ⟨_, rfl, j1, Or.inl ⟨mm, rfl, j2, j3⟩⟩
end FEWEST
set_option maxHeartbeats 2000000 in
theorem op_pieces_ok : op_pieces rel := by
  intro q I hr
  have hr0 := hr
  obtain ⟨tn, bl, st, wa, od, tb, pk, ln, ht, nl, bh, bs, nk, ni, wt, u, hS, hD, hP, hL, hB, hK, hT, hC⟩ := hr
  obtain ⟨s1, s2, s3, s4, s5, s6, s7, s8, s9, s10, s11, s12, s13, s14, s15, s16, s17⟩ := hS
  obtain ⟨d1, d2⟩ := hD
  obtain ⟨g1, g2, g3, g4, g5, g6⟩ := hP
  have t5 : I 3 5 = Int32.ofNat (tn 0) := s3 0 (by decide)
  have t8 : I 3 8 = Int32.ofNat (tn 3) := s3 3 (by decide)
  have u0 : I 51 0 = Int32.ofNat (tn 0) := s2 0 (by decide)
  have u3 : I 51 3 = Int32.ofNat (tn 3) := s2 3 (by decide)
  have hn : tn 3 ≤ 8 := s1.2.2.2.1
  have hb : tn 0 ≤ 10 := s1.1
  have h46 : I 46 0 = 0 := s1.2.2.2.2.2.2.2
  have hod : ∀ o, o < tn 3 → od o 1 < 6 := fun o ho => (s15 o ho).2.1
  have hbk : ∀ b, b < tn 0 → bl b 0 < 6 := fun b hb => (s4 b hb).1
  obtain ⟨a1, a2, a3⟩ := all_ok (tn 3) (by omega)
  have xall : f_sho_allOrders204 I = some (Int32.ofNat (2 ^ tn 3 - 1)) := by
    unfold f_sho_allOrders204
    rw [t8, a1]
  have mar : ∀ M : MJ, M 51 3 = Int32.ofNat (tn 3) → f_m_areOrders353 q M = Option.bind (f_m_in264 q 0 (Int32.ofNat (2 ^ tn 3 - 1)) M) fun v1 => some (vp_nar .boolean v1) := fun M h => by
    unfold f_m_areOrders353
    rw [h, a1]
  by_cases hq : (q &&& (Int32.ofNat (2 ^ tn 3 - 1) ^^^ (-1 : Int32))) = 0
  · obtain ⟨p, hp, rfl⟩ := bits_all hn hq
    have hp256 : p < 256 := by omega
    have hpi : ∀ M : MJ, f_m_in264 (Int32.ofNat p) 0 (Int32.ofNat (2 ^ tn 3 - 1)) M = some 1 := fun M => inW_ok (lo := 0) (Nat.zero_le _) (by omega) (by omega)
    obtain ⟨v, x1, x2⟩ := x_canBePacked (I := I) (s := p) (no := tn 3) (tb := tb) (od := od) (pk := pk) hp256 hn hod g4 t8 s17 g1 g2 g6
    -- the model's runs, over whatever the class leaves
    have hlay : ∀ J : MJ, (∀ a k, a ≠ 0 → ¬ (38 ≤ a ∧ a ≤ 46) → J a k = I a k) → ∃ c : Int32 × MJ, f_m_laysRuns354 (Int32.ofNat p) (ab_up1 J 47 0 0) = some c ∧ fL (ab_up1 J 47 0 0) c.2 ∧ ((c.1 = 1 ∧ AM c.2 (RLs od pk p (tn 3)) ∧ OKp od pk tb p (tn 3)) ∨ (c.1 = 0 ∧ ¬ OKp od pk tb p (tn 3))) := fun J hJ => m_laysRuns (I := ab_up1 J 47 0 0) (s := p) (no := tn 3) (tb := tb) (od := od) (pk := pk) hp256 hn hod g4 (by rw [up_ne (by omega), hJ 51 3 (by decide) (by omega)]; exact u3) (fun o j ho hj => by rw [up_ne (by omega), hJ _ _ (by omega) (by omega)]; exact s16 o j ho hj) (fun p hp => by rw [up_ne (by omega), hJ _ _ (by omega) (by omega)]; exact g3 p hp) (fun p h hp hh => by rw [up_ne (by omega), hJ _ _ (by omega) (by omega)]; exact g5 p h hp hh)
    rcases x2 with ⟨rfl, x2⟩ | ⟨rfl, x2⟩
    · -- packed
      have hlen := x2.2
      obtain ⟨day, e1, e2, e3, e4, e5⟩ := id d2
      have hLx : ∀ b, b < tn 0 → ∃ m, m ≤ 60 ∧ I 576 b = Int32.ofNat m := fun b hb => by
        obtain ⟨m, m1, m2, -⟩ := e3 b (by omega)
        exact ⟨m, m1, m2⟩
      have hLe : ∀ b, b < tn 0 → (I 576 b).toNatClampNeg ≤ 60 ∧ I 576 b = Int32.ofNat (I 576 b).toNatClampNeg := fun b hb => by
        obtain ⟨m, m1, m2⟩ := hLx b hb
        obtain ⟨w1, w2⟩ := clampd m2 (by omega)
        exact ⟨by omega, w1⟩
      generalize hLd : (fun b : Nat => (I 576 b).toNatClampNeg) = L
      have hL : ∀ b, b < tn 0 → L b ≤ 60 ∧ I 576 b = Int32.ofNat (L b) := fun b hb => by rw [← hLd]; exact hLe b hb
      obtain ⟨⟨cv, J⟩, f1, f2, f3⟩ := x_fewest (I := I) (s := p) (nb := tn 0) (no := tn 3) (bk := fun b => bl b 0) (L := L) (od := od) (pk := pk) hp256 hn hb hod g4 hbk (fun b hb => (hL b hb).1) t5 t8 s7 s17 (fun b hb => by rw [stE_left d1 (by omega)]; exact (hL b hb).2) g6 h46 hlen
      try dsimp only at f2 f3
      have hJ : ∀ a k, a ≠ 0 → ¬ (38 ≤ a ∧ a ≤ 46) → J a k = I a k := fun a k z1 z2 => f2 a k (by omega) (by omega) (by omega) (by omega)
      obtain ⟨⟨w, M⟩, l1, l2, l3⟩ := hlay J hJ
      try dsimp only at l2 l3
      obtain ⟨rfl, l3, -⟩ := l3.resolve_right (fun z => z.2 x2)
      have hM : ∀ a k, a ≠ 0 → ¬ (38 ≤ a ∧ a ≤ 46) → ¬ (a = 47 ∧ (k = 0 ∨ k = 53)) → a ≠ 694 → a ≠ 695 → M a k = I a k := fun a k z1 z2 z3 z4 z5 => by rw [l2 a k (by omega) z4 z5, up_ne (by omega), hJ a k z1 z2]
      have M0 : M 47 0 = 0 := by rw [l2 47 0 (by omega) (by decide) (by decide), up_eq]
      -- room
      have hroom : ∃ K : MJ, wh (β := MJ) (fun (s7 : Int32 × MJ) => (if s7.1 < (s7.2 51 0) then (Option.bind (rd s7.2 576 ((0 : Int32) + s7.1)) fun v19 => (Option.bind (wr s7.2 696 s7.1 v19) fun I20 => some (.inl ((s7.1 + (1 : Int32)), I20)))) else some (.inr s7.2))) ((0 : Int32), M) = some K ∧ (∀ a k, a ≠ 696 → K a k = M a k) ∧ ∀ b, b < tn 0 → K 696 b = I 576 b := by
        refine wh_inv (fun i st => ∃ K : MJ, st = (Int32.ofNat i, K) ∧ (∀ a k, a ≠ 696 → K a k = M a k) ∧ ∀ b, b < i → K 696 b = I 576 b) _ (tn 0) ?_ ?_ ⟨M, rfl, fun _ _ _ => rfl, fun b hb => absurd hb (Nat.not_lt_zero b)⟩
        · intro i hi st hst
          obtain ⟨K, rfl, k1, k2⟩ := hst
          try dsimp only
          rw [if_pos (show Int32.ofNat i < K 51 0 by rw [k1 51 0 (by decide), hM 51 0 (by decide) (by omega) (by omega) (by decide) (by decide), u0]; exact lt_l hi (by omega)), Int32.zero_add, rd_ok (a := 576) (n := 91) rfl (by omega) (by decide) (by decide), ob_some, wr_ok (a := 696) (n := 10) rfl (by omega) (by decide) (by decide), ob_some, k1 576 i (by decide), hM 576 i (by decide) (by omega) (by omega) (by decide) (by decide)]
          refine ⟨_, rfl, _, Prod.ext i_addr rfl, fun a k z => by rw [up_ne (fun y => z y.1), k1 a k z], fun b hb => ?_⟩
          by_cases z : b = i
          · subst z
            exact up_eq
          · rw [up_ne (fun y => z y.2)]
            exact k2 b (by omega)
        · intro st hst
          obtain ⟨K, rfl, k1, k2⟩ := hst
          try dsimp only
          rw [if_neg (show ¬ Int32.ofNat (tn 0) < K 51 0 by rw [k1 51 0 (by decide), hM 51 0 (by decide) (by omega) (by omega) (by decide) (by decide), u0]; exact Int32.lt_irrefl)]
          exact ⟨_, rfl, k1, k2⟩
      obtain ⟨K, r1, r2, r3⟩ := hroom
      have hcK : pkC (fun b => bl b 0) (tn 0) (RLs od pk p (tn 3)) K := ⟨by rw [r2 51 0 (by decide), hM 51 0 (by decide) (by omega) (by omega) (by decide) (by decide)]; exact u0, fun b hb => by rw [r2 _ _ (by omega), hM _ _ (by omega) (by omega) (by omega) (by omega) (by omega)]; exact s5 b hb, by rw [r2 47 53 (by decide)]; exact l3.1, fun j hj => ⟨by rw [r2 694 j (by decide)]; exact (l3.2 j hj).1, by rw [r2 695 j (by decide)]; exact (l3.2 j hj).2⟩⟩
      have hRA : ∀ x, x ∈ RLs od pk p (tn 3) → x.1 < 6 ∧ 1 ≤ x.2 ∧ x.2 ≤ 12 := RLs_all (fun q hq j hj => g4 _ j (hod q hq) hj)
      obtain ⟨fin, w1, w2⟩ := m_sets (I := K) (L := L) (bk := fun b => bl b 0) (nb := tn 0) (RL := RLs od pk p (tn 3)) hb hlen hbk (fun x hx => ⟨(hRA x hx).1, (hRA x hx).2.2⟩) hcK (fun b hb => ⟨(hL b hb).1, by rw [r3 b hb]; exact (hL b hb).2⟩) (2 ^ tn 0) 0 (-1) (Nat.zero_add _) (Or.inl ⟨rfl, fun s hs => absurd hs (Nat.not_lt_zero s)⟩)
      have hfin : cv = fin := by
        rcases f3 with ⟨mm, c1, c2, c3⟩ | ⟨c1, j, hj, c2⟩
        · obtain ⟨set, y1, y2, y3⟩ := few_ok hb (fun b hb => (hL b hb).1) hbk (fun x hx => (hRA x hx).1) c3
          rcases w2 with ⟨-, z2⟩ | ⟨s0, z1, z2, z3, z4⟩
          · exact absurd y2 (z2 set y1)
          · have h1 := z4 set y1 y2
            obtain ⟨-, h2⟩ := few_le (res := fun k => some (mm k)) hb (fun b hb => (hL b hb).1) hbk c3 z2
            have h3 : sN mm 6 ≤ onesN (tn 0) s0 := h2
            rw [c1, z3, show sN mm 6 = onesN (tn 0) s0 by omega]
        · rcases w2 with ⟨z1, -⟩ | ⟨s0, z1, z2, z3, z4⟩
          · rw [c1, z1]
          · have hqq : ∀ a b c, Qk (fun b => bl b 0) (tn 0) s0 a c → Qk (fun b => bl b 0) (tn 0) s0 b c → a = b := fun a b c h1 h2 => h1.2.2.symm.trans h2.2.2
            obtain ⟨m, h1, -⟩ := KR_few hb (fun b hb => (hL b hb).1) c2 ((PM_iff hqq).mp z2 j)
            cases h1
      subst hfin
      refine qok hr0 (v := cv) (I1 := J) (I2 := K) ?_ ?_ (fun a k h => ?_) (by rw [r2 47 0 (by decide)]; exact M0)
      · unfold f_x_pieces203
        rw [xall, ob_some, nB_ok hq, tb_inr, x1, ob_some, if_neg (show ¬ (1 : Int32) = 0 by decide), f1, ob_some]
      · unfold f_m_pieces352
        rw [mar _ (by rw [up_ne (by omega), hJ 51 3 (by decide) (by omega)]; exact u3), hpi, ob_some, nar_1, ob_some, if_neg (show ¬ (1 : Int32) = 0 by decide), ob_some, bad_0 up_eq, ob_some, if_pos rfl]
        try dsimp only
        rw [l1, ob_some]
        try dsimp only
        rw [if_neg (show ¬ (1 : Int32) = 0 by decide), ob_some, bad_0 M0, ob_some, if_pos rfl]
        try dsimp only
        refine (congrArg (fun z => Option.bind z _) (show _ = some K from r1)).trans ?_
        rw [ob_some]
        refine (congrArg (fun z => Option.bind z _) (show _ = some (cv, K) from w1)).trans ?_
        rw [ob_some]
      · have z694 : a ≠ 694 := by rintro rfl; exact Bool.noConfusion (show true = false from h)
        have z695 : a ≠ 695 := by rintro rfl; exact Bool.noConfusion (show true = false from h)
        have z696 : a ≠ 696 := by rintro rfl; exact Bool.noConfusion (show true = false from h)
        have z43 : a ≠ 43 := by rintro rfl; exact Bool.noConfusion (show true = false from h)
        have z44 : a ≠ 44 := by rintro rfl; exact Bool.noConfusion (show true = false from h)
        have z45 : a ≠ 45 := by rintro rfl; exact Bool.noConfusion (show true = false from h)
        have z470 : ¬ (a = 47 ∧ k = 0) := by rintro ⟨rfl, rfl⟩; exact Bool.noConfusion (show true = false from h)
        have z473 : ¬ (a = 47 ∧ k = 53) := by rintro ⟨rfl, rfl⟩; exact Bool.noConfusion (show true = false from h)
        have z46 : ¬ (a = 46 ∧ 1 ≤ k) := by
          rintro ⟨rfl, hk⟩
          have : (k == 0) = false := beq_false_of_ne (by omega)
          unfold qs at h
          rw [this] at h
          exact Bool.noConfusion (show true = false from h)
        rw [r2 a k z696, l2 a k z473 z694 z695, up_ne z470]
        exact f2 a k z43 z44 z45 z46
    · -- refused
      obtain ⟨⟨w, M⟩, l1, l2, l3⟩ := hlay (ab_up1 I 0 (14 + 2) (I 0 (14 + 2) + 1)) (fun a k z1 _ => up_ne (fun y => z1 y.1))
      try dsimp only at l2 l3
      obtain ⟨rfl, -⟩ := l3.resolve_left (fun z => x2 z.2.2)
      have M0 : M 47 0 = 0 := by rw [l2 47 0 (by omega) (by decide) (by decide), up_eq]
      have hbd : f_m_bad268 1 2 2 M = some (1, ab_up1 (ab_up1 M 47 0 2) 49 2 (M 49 2 + 1)) := bad_1 (r := 2) M0 (by decide) (by decide)
      refine ⟨.inl 2, ab_up1 I 0 (14 + 2) (I 0 (14 + 2) + 1), 0, ab_up1 (ab_up1 M 47 0 2) 49 2 (M 49 2 + 1), ?_, ?_, rel_ref (E := 2) (by decide) hr0 (fun a k h z1 z2 => ?_) ?_ ?_, Or.inr ⟨rfl, ?_⟩⟩
      · unfold f_x_pieces203 f_x_refuseState181
        rw [xall, ob_some, nB_ok hq, tb_inr, x1, ob_some, if_pos rfl]
        rfl
      · unfold f_m_pieces352
        rw [mar _ (by rw [up_ne (by omega), up_ne (by omega)]; exact u3), hpi, ob_some, nar_1, ob_some, if_neg (show ¬ (1 : Int32) = 0 by decide), ob_some, bad_0 up_eq, ob_some, if_pos rfl]
        try dsimp only
        rw [l1, ob_some]
        try dsimp only
        rw [if_pos rfl, ob_some, hbd, ob_some]
        rfl
      · have z694 : a ≠ 694 := by rintro rfl; exact Bool.noConfusion (show true = false from h)
        have z695 : a ≠ 695 := by rintro rfl; exact Bool.noConfusion (show true = false from h)
        have z470 : ¬ (a = 47 ∧ k = 0) := by rintro ⟨rfl, rfl⟩; exact Bool.noConfusion (show true = false from h)
        have z473 : ¬ (a = 47 ∧ k = 53) := by rintro ⟨rfl, rfl⟩; exact Bool.noConfusion (show true = false from h)
        rw [up_ne z2, up_ne z470, l2 a k z473 z694 z695, up_ne z470, up_ne z1]
      · rw [up_ne (by omega), up_ne (by omega), l2 0 _ (by omega) (by decide) (by decide), up_ne (by omega), up_eq]
      · rw [up_eq, l2 49 2 (by omega) (by decide) (by decide), up_ne (by omega), up_ne (by omega)]
      · rw [up_ne (by omega), up_eq]
  · have hno : ∀ M : MJ, f_m_in264 q 0 (Int32.ofNat (2 ^ tn 3 - 1)) M = some 0 := fun M => by
      rcases rcW q (lo := 0) (hi := 2 ^ tn 3 - 1) (by omega) (by omega) with ⟨k, -, hk, rfl⟩ | h
      · exact absurd (bits_in hn (by omega)) hq
      · exact inW_no h
    refine qref (E := 1) (w := 1) (by decide) hr0 ?_ ?_ (Or.inl ⟨rfl, rfl⟩)
    · unfold f_x_pieces203
      rw [xall, ob_some, nB_no hq]
      rfl
    · unfold f_m_pieces352
      rw [mar (ab_up1 (ab_up1 I 0 (14 + 1) (I 0 (14 + 1) + 1)) 47 0 0) u3, hno, ob_some, nar_0, ob_some, if_pos rfl, ob_some, show f_m_bad268 1 1 1 _ = _ from bad_ref (E := 1) (by decide) (by decide)]
      rfl
