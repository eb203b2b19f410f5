/-! days: what is eaten of a suit, and of all suits -/
def fcF (r : Nat → Int32) (c h : Nat) : Nat → Int32 := fun j => if j = 0 then Int32.ofNat h else if j = 1 then r (10 + 12 * c + h) else if j = 2 then r 89 - r (82 + c) else if j = 3 then r 89 else if j = 4 then Int32.ofNat c else seamsF (fun h => r (10 + 12 * c + h))
def eaF (V : (Nat → Int32) → Int32) (r : Nat → Int32) (c : Nat) : Nat → Int32 := fun k => if 10 + 12 * c ≤ k ∧ k < 22 + 12 * c ∧ 0 < V (fcF r c (k - (10 + 12 * c))) then 6 else r k
/-- a day: the day is one more, then suit by suit -/
def dyS (V : (Nat → Int32) → Int32) (r : Nat → Int32) : Nat → Nat → Int32
  | 0 => fun k => if k = 89 then r 89 + 1 else r k
  | c + 1 => if dyS V r c (82 + c) = -1 then dyS V r c else eaF V (dyS V r c) c
def lawX (ln : Nat) (cd : Nat → Int32) (J : MJ) : Prop := J 23 4 = Int32.ofNat ln ∧ ∀ k, k < ln → J 24 k = cd k
def lawM (ln : Nat) (hw vv : Nat → Int32) (J : MJ) : Prop := J 47 25 = Int32.ofNat ln ∧ ∀ k, k < ln → J (146 + k) 0 = hw k ∧ J (146 + k) 1 = vv k
theorem lawX_c {ln : Nat} {cd : Nat → Int32} {I J : MJ} (h : lawX ln cd I) (h1 : ∀ k, J 23 k = I 23 k) (h2 : ∀ k, J 24 k = I 24 k) : lawX ln cd J := ⟨(h1 4).trans h.1, fun k hk => (h2 k).trans (h.2 k hk)⟩
theorem lawM_c {ln : Nat} {hw vv : Nat → Int32} {I J : MJ} (hl : ln ≤ 150) (h : lawM ln hw vv I) (h1 : J 47 25 = I 47 25) (h2 : ∀ a k, 146 ≤ a → a < 296 → J a k = I a k) : lawM ln hw vv J := ⟨h1.trans h.1, fun k hk => ⟨(h2 _ _ (by omega) (by omega)).trans (h.2 k hk).1, (h2 _ _ (by omega) (by omega)).trans (h.2 k hk).2⟩⟩
section STANDS
variable {J : MJ} {t c h : Nat}
theorem x_day (hK : KS (t + 1) = (100, 91)) (ha : t + 1 < 699) : f_sta_day113 t J = some (J (t + 1) 0) := by
  unfold f_sta_day113
  rw [show f_x_at16 (t + 1) 0 J = some (J (t + 1) 0) from at_ok (k := 0) hK ha (by decide) (by decide), ob_some]
theorem x_age (hK : KS (t + 1) = (100, 91)) (ha : t + 1 < 699) (hc : c < 6) : f_sta_ageOf132 t (Int32.ofNat c) J = some (J (t + 1) 0 - J (t + 1) (3 + c)) := by
  unfold f_sta_ageOf132
  rw [x_day hK ha, ob_some, show (3 : Int32) + Int32.ofNat c = Int32.ofNat (3 + c) from i_addl (n := 3), at_ok hK ha (by decide) (by omega), ob_some]
theorem x_suitAt : f_sta_suitAt114 t (Int32.ofNat c) J = some (Int32.ofNat (19 + 12 * c)) := by
  unfold f_sta_suitAt114
  rw [show (12 : Int32) * Int32.ofNat c = Int32.ofNat (12 * c) from i_mull (n := 12), show (19 : Int32) + Int32.ofNat (12 * c) = Int32.ofNat (19 + 12 * c) from i_addl (n := 19)]
theorem x_worn (hK : KS (t + 1) = (100, 91)) (ha : t + 1 < 699) (hc : c < 6) (hh : h < 12) : f_sta_wornAt116 t (Int32.ofNat c) (Int32.ofNat h) J = some (J (t + 1) (19 + 12 * c + h)) := by
  unfold f_sta_wornAt116
  rw [x_suitAt, ob_some, i_add, at_ok hK ha (by decide) (by omega), ob_some]
theorem x_alter {x : Int32} (hK : KS (t + 1) = (100, 91)) (ha : t + 1 < 699) (hc : c < 6) (hh : h < 12) : f_sta_alter117 t (Int32.ofNat c) (Int32.ofNat h) x J = some (ab_up1 J (t + 1) (19 + 12 * c + h) x) := by
  unfold f_sta_alter117
  rw [x_suitAt, ob_some, i_add, put_ok hK ha (by decide) (by omega), ob_some]
theorem m_suitOf : f_m_suitOf310 (Int32.ofNat c) J = some (Int32.ofNat (10 + 12 * c)) := by
  unfold f_m_suitOf310
  rw [show (12 : Int32) * Int32.ofNat c = Int32.ofNat (12 * c) from i_mull (n := 12), show (10 : Int32) + Int32.ofNat (12 * c) = Int32.ofNat (10 + 12 * c) from i_addl (n := 10)]
end STANDS
section EAT
variable {I : MJ} {ln : Nat} {ht : Nat → Nat} {cd hw vv : Nat → Int32} {r : Nat → Int32} {c : Nat}
theorem pi_suit {j : Nat} : pi91 (19 + j) = 10 + j := by
  unfold pi91
  repeat' split
  all_goals omega
theorem x_eat {t : Nat} (hp : lawP ln ht cd hw vv) (hK : KS (t + 1) = (100, 91)) (ha : t + 1 = 16 ∨ t + 1 = 18) (hc : c < 6) (hl : lawX ln cd I) (hr : stE (I (t + 1)) r) : ∃ J, f_mot_eat131 t (Int32.ofNat c) I = some J ∧ (∀ a k, a ≠ 26 → a ≠ 27 → a ≠ t + 1 → J a k = I a k) ∧ stE (J (t + 1)) (eaF (lvV ln ht hw vv) r c) := by
  have h699 : t + 1 < 699 := by omega
  have q0 : I (t + 1) 0 = r 89 := stE_day hr
  have q1 : I (t + 1) (3 + c) = r (82 + c) := stE_cut hr hc
  have q2 : ∀ j, j < 72 → I (t + 1) (19 + j) = r (10 + j) := fun j hj => stE_suit hr hj
  have hn : ∀ {J : MJ} {j k : Nat} {x : Int32}, ab_up1 J 27 j x (t + 1) k = J (t + 1) k := fun {J j k x} => up_ne (by omega)
  unfold f_mot_eat131
  rw [x_age hK h699 hc, ob_some, show f_x_put15 27 (2 : Int32) _ _ = _ from put_27 (k := 2) (by decide), ob_some, x_day hK h699, ob_some, show f_x_put15 27 (3 : Int32) _ _ = _ from put_27 (k := 3) (by decide), ob_some, show f_x_put15 27 (4 : Int32) _ _ = _ from put_27 (k := 4) (by decide), ob_some, x_suitAt, ob_some, x_seamsOf hK h699 (by decide) (by omega), ob_some, show f_x_put15 27 (5 : Int32) _ _ = _ from put_27 (k := 5) (by decide), ob_some]
  simp only [hn, q0, q1]
  have hs : seamsF (fun h => I (t + 1) (19 + 12 * c + h)) = seamsF (fun h => r (10 + 12 * c + h)) := seamsF_congr fun k hk => by rw [Nat.add_assoc, q2 _ (by omega), Nat.add_assoc]
  rw [hs]
  generalize hI8 : ab_up1 (ab_up1 (ab_up1 (ab_up1 I 27 2 (r 89 - r (82 + c))) 27 3 (r 89)) 27 4 (Int32.ofNat c)) 27 5 (seamsF (fun h => r (10 + 12 * c + h))) = I8
  have k1 : ∀ a k, a ≠ 27 → I8 a k = I a k := fun a k h => by rw [← hI8, up_ne (by omega), up_ne (by omega), up_ne (by omega), up_ne (by omega)]
  have k2 : ∀ j, 2 ≤ j → j < 6 → I8 27 j = fcF r c 0 j := by
    intro j h1 h2
    rw [← hI8]
    have h3 : j = 2 ∨ j = 3 ∨ j = 4 ∨ j = 5 := by omega
    rcases h3 with rfl | rfl | rfl | rfl
    · rw [up_ne (by omega), up_ne (by omega), up_ne (by omega), up_eq]; rfl
    · rw [up_ne (by omega), up_ne (by omega), up_eq]; rfl
    · rw [up_ne (by omega), up_eq]; rfl
    · rw [up_eq]; rfl
  clear hI8
  refine bindx (wh_inv (fun h s => ∃ J : MJ, s = (Int32.ofNat h, J) ∧ (∀ a k, a ≠ 26 → a ≠ 27 → a ≠ t + 1 → J a k = I a k) ∧ (∀ j, 2 ≤ j → j < 6 → J 27 j = fcF r c 0 j) ∧ (∀ k, J (t + 1) k = if 19 + 12 * c ≤ k ∧ k < 19 + 12 * c + h then eaF (lvV ln ht hw vv) r c (k - 9) else I (t + 1) k)) _ 12 ?_ ?_ ⟨I8, rfl, fun a k _ h _ => k1 a k h, k2, fun k => by rw [if_neg (by omega)]; exact k1 _ _ (by omega)⟩)
  · intro h hh s hs
    obtain ⟨J, rfl, j1, j2, j3⟩ := hs
    dsimp only
    have e0 : J (t + 1) (19 + 12 * c + h) = r (10 + 12 * c + h) := by
      rw [j3, if_neg (by omega), Nat.add_assoc, q2 _ (by omega), Nat.add_assoc]
    rw [if_pos (show Int32.ofNat h < (12 : Int32) from lt_l (a := h) (b := 12) (by omega) (by omega)), show f_x_put15 27 (0 : Int32) _ _ = _ from put_27 (k := 0) (by decide), ob_some, x_worn hK h699 hc hh, ob_some, hn, e0, show f_x_put15 27 (1 : Int32) _ _ = _ from put_27 (k := 1) (by decide), ob_some]
    obtain ⟨⟨v, M⟩, v1, v2, v3⟩ := x_value (I := ab_up1 (ab_up1 J 27 0 (Int32.ofNat h)) 27 1 (r (10 + 12 * c + h))) (F := fcF r c h) hp (by rw [up_ne (by omega), up_ne (by omega), j1 _ _ (by omega) (by omega) (by omega)]; exact hl.1) (fun k hk => by rw [up_ne (by omega), up_ne (by omega), j1 _ _ (by omega) (by omega) (by omega)]; exact hl.2 k hk) (fun j hj => by
      by_cases h1 : j = 1
      · subst h1
        rw [up_eq]; rfl
      · rw [up_ne (by omega)]
        by_cases h0 : j = 0
        · subst h0
          rw [up_eq]; rfl
        · rw [up_ne (by omega), j2 j (by omega) hj]
          unfold fcF
          rw [if_neg h0, if_neg h1, if_neg h0, if_neg h1])
    dsimp only at v2 v3
    subst v2
    rw [v1, ob_some]
    dsimp only
    have m1 : ∀ a k, a ≠ 26 → a ≠ 27 → M a k = J a k := fun a k h1 h2 => by rw [v3 a k h1, up_ne (by omega), up_ne (by omega)]
    have m2 : ∀ j, 2 ≤ j → j < 6 → M 27 j = fcF r c 0 j := fun j h1 h2 => by rw [v3 27 j (by decide), up_ne (by omega), up_ne (by omega), j2 j h1 h2]
    have m3 : eaF (lvV ln ht hw vv) r c (10 + 12 * c + h) = if 0 < lvV ln ht hw vv (fcF r c h) then 6 else r (10 + 12 * c + h) := by
      unfold eaF
      rw [show 10 + 12 * c + h - (10 + 12 * c) = h by omega]
      by_cases hv : 0 < lvV ln ht hw vv (fcF r c h)
      · rw [if_pos hv, if_pos ⟨by omega, by omega, hv⟩]
      · rw [if_neg hv, if_neg (fun q => hv q.2.2)]
    by_cases hv : 0 < lvV ln ht hw vv (fcF r c h)
    · rw [if_pos hv] at m3
      rw [if_pos hv, x_alter hK h699 hc hh, ob_some, ob_some]
      refine ⟨_, rfl, ab_up1 M (t + 1) (19 + 12 * c + h) 6, Prod.ext i_addr rfl, fun a k h1 h2 h3 => by rw [up_ne (by omega), m1 a k h1 h2, j1 a k h1 h2 h3], fun j h1 h2 => by rw [up_ne (by omega), m2 j h1 h2], fun k => ?_⟩
      by_cases hk : k = 19 + 12 * c + h
      · subst hk
        rw [up_eq, if_pos (by omega), show 19 + 12 * c + h - 9 = 10 + 12 * c + h by omega, m3]
      · rw [up_ne (by omega), m1 _ _ (by omega) (by omega), j3]
        by_cases hk2 : 19 + 12 * c ≤ k ∧ k < 19 + 12 * c + h
        · rw [if_pos hk2, if_pos (by omega)]
        · rw [if_neg hk2, if_neg (by omega)]
    · rw [if_neg hv] at m3
      rw [if_neg hv, ob_some]
      refine ⟨_, rfl, M, Prod.ext i_addr rfl, fun a k h1 h2 h3 => by rw [m1 a k h1 h2, j1 a k h1 h2 h3], m2, fun k => ?_⟩
      rw [m1 _ _ (by omega) (by omega), j3]
      by_cases hk : k = 19 + 12 * c + h
      · subst hk
        rw [if_neg (by omega), if_pos (by omega), show 19 + 12 * c + h - 9 = 10 + 12 * c + h by omega, m3, Nat.add_assoc, q2 _ (by omega), Nat.add_assoc]
      · by_cases hk2 : 19 + 12 * c ≤ k ∧ k < 19 + 12 * c + h
        · rw [if_pos hk2, if_pos (by omega)]
        · rw [if_neg hk2, if_neg (by omega)]
  · intro s hs
    obtain ⟨J, rfl, j1, j2, j3⟩ := hs
    dsimp only
    rw [if_neg (by decide)]
    refine ⟨_, rfl, J, rfl, j1, fun k hk => ?_⟩
    rw [j3]
    by_cases hk2 : 19 + 12 * c ≤ k ∧ k < 19 + 12 * c + 12
    · obtain ⟨j, rfl⟩ : ∃ j, k = 19 + j := ⟨k - 19, by omega⟩
      rw [if_pos hk2, pi_suit, show 19 + j - 9 = 10 + j by omega]
    · rw [if_neg hk2, hr k hk]
      unfold eaF
      refine (if_neg fun q => hk2 ?_).symm
      have h1 := q.1
      have h2 := q.2.1
      unfold pi91 at h1 h2
      repeat' split at h1
      all_goals (repeat' split at h2) <;> omega
theorem m_eats {a : Nat} (hp : lawP ln ht cd hw vv) (hK : KS a = (100, 91)) (ha : a = 576 ∨ a = 577) (hc : c < 6) (hl : lawM ln hw vv I) (hr : ∀ k, k < 91 → I a k = r k) : ∃ J, f_m_eats315 a (Int32.ofNat c) I = some J ∧ (∀ g k, g ≠ 493 → g ≠ 494 → g ≠ 600 → g ≠ a → J g k = I g k) ∧ ∀ k, k < 91 → J a k = eaF (lvV ln ht hw vv) r c k := by
  have h699 : a < 699 := by omega
  have rda : ∀ (J : MJ) (k : Nat), k < 91 → rd J a (Int32.ofNat k) = some (J a k) := fun J k hk => rd_ok hK hk h699 (by decide)
  have hn : ∀ {J : MJ} {j k : Nat} {x : Int32}, ab_up1 J 494 j x a k = J a k := fun {J j k x} => up_ne (by omega)
  have r89 : ∀ J : MJ, rd J a (89 : Int32) = some (J a 89) := fun J => rda J 89 (by decide)
  have r82 : ∀ J : MJ, rd J a ((82 : Int32) + Int32.ofNat c) = some (J a (82 + c)) := fun J => by
    rw [show (82 : Int32) + Int32.ofNat c = Int32.ofNat (82 + c) from i_addl (n := 82)]
    exact rda J _ (by omega)
  have hs : seamsF (fun h => I a (10 + 12 * c + h)) = seamsF (fun h => r (10 + 12 * c + h)) := seamsF_congr fun k hk => hr _ (by omega)
  unfold f_m_eats315
  rw [m_suitOf, ob_some, m_seamsOf hK h699 (by decide) (by omega), ob_some, hs]
  refine bindx (wh_inv (fun h s => ∃ J : MJ, s = (Int32.ofNat h, J) ∧ (∀ g k, g ≠ 493 → g ≠ 494 → g ≠ 600 → J g k = I g k) ∧ ∀ i, i < h → J 600 i = if 0 < lvV ln ht hw vv (fcF r c i) then 1 else 0) _ 12 ?_ ?_ ⟨I, rfl, fun _ _ _ _ _ => rfl, fun i hi => by omega⟩)
  · intro h hh s hs
    obtain ⟨J, rfl, j1, j2⟩ := hs
    dsimp only
    have e0 : J a (10 + 12 * c + h) = r (10 + 12 * c + h) := by rw [j1 _ _ (by omega) (by omega) (by omega), hr _ (by omega)]
    have e1 : J a 89 = r 89 := by rw [j1 _ _ (by omega) (by omega) (by omega), hr _ (by omega)]
    have e2 : J a (82 + c) = r (82 + c) := by rw [j1 _ _ (by omega) (by omega) (by omega), hr _ (by omega)]
    rw [if_pos (show Int32.ofNat h < (12 : Int32) from lt_l (a := h) (b := 12) (by omega) (by omega)), m_suitOf, ob_some, i_add, rda _ _ (by omega), ob_some, hn, e0, r89, ob_some, hn, hn, e1, r82, ob_some, hn, hn, e2, r89, ob_some, hn, hn, hn, e1]
    obtain ⟨⟨v, M⟩, v1, v2, v3⟩ := m_byLaw (I := ab_up1 (ab_up1 (ab_up1 (ab_up1 (ab_up1 (ab_up1 J 494 0 (Int32.ofNat h)) 494 1 (r (10 + 12 * c + h))) 494 2 (r 89 - r (82 + c))) 494 3 (r 89)) 494 4 (Int32.ofNat c)) 494 5 (seamsF (fun h => r (10 + 12 * c + h)))) (F := fcF r c h) hp (by rw [up_ne (by omega), up_ne (by omega), up_ne (by omega), up_ne (by omega), up_ne (by omega), up_ne (by omega), j1 _ _ (by omega) (by omega) (by omega)]; exact hl.1) (fun k hk => by
      have p1 := hp.1
      rw [up_ne (by omega), up_ne (by omega), up_ne (by omega), up_ne (by omega), up_ne (by omega), up_ne (by omega), j1 _ _ (by omega) (by omega) (by omega), up_ne (by omega), up_ne (by omega), up_ne (by omega), up_ne (by omega), up_ne (by omega), up_ne (by omega), j1 _ _ (by omega) (by omega) (by omega)]
      exact hl.2 k hk) (fun j hj => by
      have h3 : j = 0 ∨ j = 1 ∨ j = 2 ∨ j = 3 ∨ j = 4 ∨ j = 5 := by omega
      rcases h3 with rfl | rfl | rfl | rfl | rfl | rfl
      · rw [up_ne (by omega), up_ne (by omega), up_ne (by omega), up_ne (by omega), up_ne (by omega), up_eq]; rfl
      · rw [up_ne (by omega), up_ne (by omega), up_ne (by omega), up_ne (by omega), up_eq]; rfl
      · rw [up_ne (by omega), up_ne (by omega), up_ne (by omega), up_eq]; rfl
      · rw [up_ne (by omega), up_ne (by omega), up_eq]; rfl
      · rw [up_ne (by omega), up_eq]; rfl
      · rw [up_eq]; rfl)
    dsimp only at v2 v3
    subst v2
    rw [v1, ob_some]
    dsimp only
    have m1 : ∀ g k, g ≠ 493 → g ≠ 494 → M g k = J g k := fun g k h1 h2 => by rw [v3 g k h1, up_ne (by omega), up_ne (by omega), up_ne (by omega), up_ne (by omega), up_ne (by omega), up_ne (by omega)]
    rw [o_ite, ob_some, wrb_600 hh, ob_some]
    refine ⟨_, rfl, ab_up1 M 600 h (vp_nar .boolean (if 0 < lvV ln ht hw vv (fcF r c h) then 1 else 0)), Prod.ext i_addr rfl, fun g k h1 h2 h3 => by rw [up_ne (by omega), m1 g k h1 h2, j1 g k h1 h2 h3], fun i hi => ?_⟩
    by_cases hih : i = h
    · subst hih
      rw [up_eq, nar_ite, nar_1, nar_0]
    · rw [up_ne (by omega), m1 _ _ (by omega) (by omega), j2 i (by omega)]
  · intro s hs
    obtain ⟨J, rfl, j1, j2⟩ := hs
    dsimp only
    rw [if_neg (by decide)]
    refine ⟨_, rfl, ?_⟩
    refine bindx (wh_inv (fun h s => ∃ M : MJ, s = (Int32.ofNat h, M) ∧ (∀ g k, g ≠ a → M g k = J g k) ∧ ∀ k, k < 91 → M a k = if k < 10 + 12 * c + h then eaF (lvV ln ht hw vv) r c k else r k) _ 12 ?_ ?_ ⟨J, rfl, fun _ _ _ => rfl, fun k hk => ?_⟩)
    · intro h hh s hs
      obtain ⟨M, rfl, m1, m2⟩ := hs
      dsimp only
      rw [if_pos (show Int32.ofNat h < (12 : Int32) from lt_l (a := h) (b := 12) (by omega) (by omega)), m_suitOf, ob_some, rdb_600 hh, ob_some, m1 600 h (by omega), j2 h hh, i_add]
      have m3 : eaF (lvV ln ht hw vv) r c (10 + 12 * c + h) = if 0 < lvV ln ht hw vv (fcF r c h) then 6 else r (10 + 12 * c + h) := by
        unfold eaF
        rw [show 10 + 12 * c + h - (10 + 12 * c) = h by omega]
        by_cases hv : 0 < lvV ln ht hw vv (fcF r c h)
        · rw [if_pos hv, if_pos ⟨by omega, by omega, hv⟩]
        · rw [if_neg hv, if_neg (fun q => hv q.2.2)]
      have wra : ∀ x : Int32, wr M a (Int32.ofNat (10 + 12 * c + h)) x = some (ab_up1 M a (10 + 12 * c + h) x) := fun x => wr_ok hK (by omega) h699 (by decide)
      have fin : ∀ x : Int32, x = eaF (lvV ln ht hw vv) r c (10 + 12 * c + h) → ∃ t, (Option.bind (some x) fun b9 => Option.bind (wr M a (Int32.ofNat (10 + 12 * c + h)) b9) fun I10 => some (Sum.inl (β := MJ) (Int32.ofNat h + 1, I10))) = some (.inl t) ∧ ∃ M : MJ, t = (Int32.ofNat (h + 1), M) ∧ (∀ g k, g ≠ a → M g k = J g k) ∧ ∀ k, k < 91 → M a k = if k < 10 + 12 * c + (h + 1) then eaF (lvV ln ht hw vv) r c k else r k := by
        intro x hx
        rw [ob_some, wra, ob_some]
        refine ⟨_, rfl, _, Prod.ext i_addr rfl, fun g k hg => by rw [up_ne (by omega), m1 g k hg], fun k hk => ?_⟩
        by_cases hkh : k = 10 + 12 * c + h
        · subst hkh
          rw [up_eq, if_pos (by omega), hx]
        · rw [up_ne (by omega), m2 k hk]
          by_cases h2 : k < 10 + 12 * c + h
          · rw [if_pos h2, if_pos (by omega)]
          · rw [if_neg h2, if_neg (by omega)]
      by_cases hv : 0 < lvV ln ht hw vv (fcF r c h)
      · rw [if_pos hv] at m3
        rw [if_pos hv, if_neg (by decide)]
        exact fin 6 m3.symm
      · rw [if_neg hv] at m3
        rw [if_neg hv, if_pos rfl, ob_some, i_add, rda _ _ (by omega), ob_some]
        refine fin _ ?_
        rw [m3, m2 _ (by omega), if_neg (by omega)]
    · intro s hs
      obtain ⟨M, rfl, m1, m2⟩ := hs
      dsimp only
      rw [if_neg (by decide)]
      refine ⟨_, rfl, M, rfl, fun g k h1 h2 h3 h4 => by rw [m1 g k h4, j1 g k h1 h2 h3], fun k hk => ?_⟩
      rw [m2 k hk]
      by_cases h2 : k < 10 + 12 * c + 12
      · rw [if_pos h2]
      · rw [if_neg h2]
        unfold eaF
        rw [if_neg (by omega)]
    · rw [j1 _ _ (by omega) (by omega) (by omega), hr k hk]
      by_cases h2 : k < 10 + 12 * c + 0
      · rw [if_pos h2]
        unfold eaF
        rw [if_neg (by omega)]
      · rw [if_neg h2]
end EAT
