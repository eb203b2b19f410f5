/-! days of a whole stand -/
theorem eaF_out {V : (Nat → Int32) → Int32} {r : Nat → Int32} {c k : Nat} (hc : c < 6) (hk : k < 10 ∨ 82 ≤ k) : eaF V r c k = r k := by
  unfold eaF
  rw [if_neg (by omega)]
theorem dyS_out {V : (Nat → Int32) → Int32} {r : Nat → Int32} {k : Nat} (hk : k < 10 ∨ 82 ≤ k) (h9 : k ≠ 89) : ∀ {c : Nat}, c ≤ 6 → dyS V r c k = r k
  | 0, _ => if_neg h9
  | c + 1, hc => by
    unfold dyS
    split
    · exact dyS_out hk h9 (by omega)
    · rw [eaF_out (by omega) hk]
      exact dyS_out hk h9 (by omega)
theorem dyS_89 {V : (Nat → Int32) → Int32} {r : Nat → Int32} : ∀ {c : Nat}, c ≤ 6 → dyS V r c 89 = r 89 + 1
  | 0, _ => (if_pos rfl : (if 89 = 89 then r 89 + 1 else r 89) = r 89 + 1)
  | c + 1, hc => by
    unfold dyS
    split
    · exact dyS_89 (by omega)
    · rw [eaF_out (by omega) (by omega)]
      exact dyS_89 (by omega)
theorem fcF_congr {r q : Nat → Int32} {c h : Nat} (hc : c < 6) (hh : h < 12) (e : ∀ k, 10 ≤ k → k < 91 → r k = q k) : fcF r c h = fcF q c h := by
  have hs : seamsF (fun h => r (10 + 12 * c + h)) = seamsF (fun h => q (10 + 12 * c + h)) := seamsF_congr fun k hk => e _ (by omega) (by omega)
  funext j
  unfold fcF
  rw [e (10 + 12 * c + h) (by omega) (by omega), e 89 (by omega) (by omega), e (82 + c) (by omega) (by omega), hs]
theorem eaF_congr {V : (Nat → Int32) → Int32} {r q : Nat → Int32} {c : Nat} (hc : c < 6) (e : ∀ k, 10 ≤ k → k < 91 → r k = q k) : ∀ k, 10 ≤ k → k < 91 → eaF V r c k = eaF V q c k := by
  intro k h1 h2
  unfold eaF
  by_cases hk : 10 + 12 * c ≤ k ∧ k < 22 + 12 * c
  · rw [fcF_congr (h := k - (10 + 12 * c)) hc (by omega) e, e k h1 h2]
  · rw [if_neg (fun p => hk ⟨p.1, p.2.1⟩), if_neg (fun p => hk ⟨p.1, p.2.1⟩), e k h1 h2]
theorem dyS_congr {V : (Nat → Int32) → Int32} {r q : Nat → Int32} (e : ∀ k, 10 ≤ k → k < 91 → r k = q k) : ∀ {c : Nat}, c ≤ 6 → ∀ k, 10 ≤ k → k < 91 → dyS V r c k = dyS V q c k
  | 0, _, k, h1, h2 => by
    unfold dyS
    rw [e k h1 h2, e 89 (by omega) (by omega)]
  | c + 1, hc, k, h1, h2 => by
    have ih := dyS_congr (V := V) e (c := c) (by omega)
    unfold dyS
    rw [ih (82 + c) (by omega) (by omega)]
    split
    · exact ih k h1 h2
    · exact eaF_congr (by omega) ih k h1 h2
/-- a suit's kinds stay kinds, cuts and cloth stay -/
theorem stV_dy {V : (Nat → Int32) → Int32} {nb nc : Nat} {r : Nat → Int32} {day : Nat} (h60 : day < 60) (hd : r 89 = Int32.ofNat day) (h : stV nb nc r) : ∀ {c : Nat}, c ≤ 6 → stV nb nc (dyS V r c) := by
  intro c hc
  obtain ⟨d', g1, g2, g3, g4, g5⟩ := h
  have hdd : d' = day := by
    have := g2.symm.trans hd
    exact (i_eq (by omega) (by omega)).mp this
  subst hdd
  refine ⟨d' + 1, by omega, ?_, fun b hb => ?_, fun b hb => ?_, ?_⟩
  · rw [dyS_89 hc, hd]
    exact i_addr
  · rw [dyS_out (by omega) (by omega) hc]
    exact g3 b hb
  · rw [dyS_out (by omega) (by omega) hc]
    rcases g4 b hb with h | ⟨h1, e, h2, h3⟩
    · exact Or.inl h
    · exact Or.inr ⟨h1, e, by omega, h3⟩
  · induction c with
    | zero =>
      intro j hj
      rw [show dyS V r 0 (10 + j) = r (10 + j) from if_neg (by omega)]
      exact g5 j hj
    | succ c ih =>
      intro j hj
      have ih2 := ih (by omega) j hj
      unfold dyS
      split
      · exact ih2
      · unfold eaF
        split
        · exact ⟨6, by omega, rfl⟩
        · exact ih2
section DAYS
variable {I : MJ} {ln nc : Nat} {ht : Nat → Nat} {cd hw vv : Nat → Int32} {r : Nat → Int32} {day : Nat}
theorem x_passDay {t : Nat} (hp : lawP ln ht cd hw vv) (hK : KS (t + 1) = (100, 91)) (ha : t + 1 = 16 ∨ t + 1 = 18) (hl : lawX ln cd I) (e6 : I 3 6 = Int32.ofNat nc) (hn : nc ≤ 6) (hr : stE (I (t + 1)) r) (hd : r 89 = Int32.ofNat day) (h60 : day < 60) : ∃ c : Int32 × MJ, f_tra_passDay129 t I = some c ∧ c.1 = 1 ∧ (∀ a k, a ≠ 26 → a ≠ 27 → a ≠ t + 1 → c.2 a k = I a k) ∧ stE (c.2 (t + 1)) (dyS (lvV ln ht hw vv) r nc) := by
  have h699 : t + 1 < 699 := by omega
  unfold f_tra_passDay129
  rw [x_day hK h699, ob_some, stE_day hr, hd, if_pos (show Int32.ofNat day < (60 : Int32) from lt_l (a := day) (b := 60) (by omega) (by omega))]
  unfold f_sta_nextDay130
  rw [x_day hK h699, ob_some, show f_x_put15 (t + 1) (0 : Int32) _ I = _ from put_ok (k := 0) hK h699 (by decide) (by decide), ob_some, ob_some]
  refine bindx (wh_inv (fun c s => ∃ J : MJ, s = (Int32.ofNat c, J) ∧ (∀ a k, a ≠ 26 → a ≠ 27 → a ≠ t + 1 → J a k = I a k) ∧ stE (J (t + 1)) (dyS (lvV ln ht hw vv) r c)) _ nc ?_ ?_ ⟨_, rfl, fun a k _ _ h => up_ne (by omega), fun k hk => ?_⟩)
  · intro c hc s hs
    obtain ⟨J, rfl, j1, j2⟩ := hs
    dsimp only
    rw [if_pos (by rw [j1 3 6 (by omega) (by omega) (by omega), e6, i_lt (by omega) (by omega)]; exact hc), x_hasSuit hK h699 (by omega), stE_cut j2 (by omega), ob_some]
    by_cases hs : dyS (lvV ln ht hw vv) r c (82 + c) = -1
    · rw [if_pos hs, if_pos rfl, ob_some]
      refine ⟨_, rfl, J, Prod.ext i_addr rfl, j1, ?_⟩
      unfold dyS
      rw [if_pos hs]
      exact j2
    · rw [if_neg hs, if_neg (by decide)]
      obtain ⟨M, m1, m2, m3⟩ := x_eat (I := J) hp hK ha (c := c) (by omega) (lawX_c hl (fun k => j1 _ _ (by omega) (by omega) (by omega)) (fun k => j1 _ _ (by omega) (by omega) (by omega))) j2
      rw [m1, ob_some, ob_some]
      refine ⟨_, rfl, M, Prod.ext i_addr rfl, fun a k h1 h2 h3 => by rw [m2 a k h1 h2 h3, j1 a k h1 h2 h3], ?_⟩
      unfold dyS
      rw [if_neg hs]
      exact m3
  · intro s hs
    obtain ⟨J, rfl, j1, j2⟩ := hs
    dsimp only
    rw [if_neg (by rw [j1 3 6 (by omega) (by omega) (by omega), e6]; exact Int32.lt_irrefl)]
    exact ⟨_, rfl, _, rfl, rfl, j1, j2⟩
  · unfold dyS
    by_cases h0 : k = 0
    · subst h0
      rw [up_eq, stE_day hr]
      exact (if_pos rfl).symm
    · rw [up_ne (by omega), hr k hk]
      refine (if_neg fun h => ?_).symm
      unfold pi91 at h
      repeat' split at h
      all_goals omega
theorem x_passDay_no {t : Nat} (hK : KS (t + 1) = (100, 91)) (ha : t + 1 = 16 ∨ t + 1 = 18) (hd : I (t + 1) 0 = Int32.ofNat 60) : f_tra_passDay129 t I = some (0, I) := by
  unfold f_tra_passDay129
  rw [x_day hK (by omega), ob_some, hd, if_neg (by decide)]
theorem m_dayEnds {a : Nat} (hp : lawP ln ht cd hw vv) (hK : KS a = (100, 91)) (ha : a = 576 ∨ a = 577) (hl : lawM ln hw vv I) (e1 : I 51 1 = Int32.ofNat nc) (hn : nc ≤ 6) (hr : ∀ k, k < 91 → I a k = r k) (hd : r 89 = Int32.ofNat day) (h60 : day < 60) : ∃ c : Int32 × MJ, f_m_dayEnds314 a I = some c ∧ c.1 = 1 ∧ (∀ g k, g ≠ 493 → g ≠ 494 → g ≠ 600 → g ≠ a → c.2 g k = I g k) ∧ ∀ k, k < 91 → c.2 a k = dyS (lvV ln ht hw vv) r nc k := by
  have h699 : a < 699 := by omega
  have r89 : rd I a (89 : Int32) = some (r 89) := by rw [show rd I a (89 : Int32) = some (I a 89) from rd_ok (k := 89) hK (by decide) h699 (by decide), hr 89 (by decide)]
  have p1 := hp.1
  unfold f_m_dayEnds314
  rw [r89, ob_some, if_neg (by rw [hd, show (60 : Int32) = Int32.ofNat 60 from rfl, i_eq (by omega) (by omega)]; omega), ob_some, show wr I a (89 : Int32) _ = _ from wr_ok (k := 89) hK (by decide) h699 (by decide), ob_some]
  refine bindx (wh_inv (fun c s => ∃ J : MJ, s = (Int32.ofNat c, J) ∧ (∀ g k, g ≠ 493 → g ≠ 494 → g ≠ 600 → g ≠ a → J g k = I g k) ∧ ∀ k, k < 91 → J a k = dyS (lvV ln ht hw vv) r c k) _ nc ?_ ?_ ⟨_, rfl, fun g k _ _ _ h => up_ne (by omega), fun k hk => ?_⟩)
  · intro c hc s hs
    obtain ⟨J, rfl, j1, j2⟩ := hs
    dsimp only
    rw [if_pos (by rw [j1 51 1 (by omega) (by omega) (by omega) (by omega), e1, i_lt (by omega) (by omega)]; exact hc), m_hasSuit hK h699 (by omega) (by omega), j2 _ (by omega), ob_some]
    by_cases hs : dyS (lvV ln ht hw vv) r c (82 + c) = -1
    · rw [if_pos hs, if_pos rfl, ob_some]
      refine ⟨_, rfl, J, Prod.ext i_addr rfl, j1, ?_⟩
      unfold dyS
      rw [if_pos hs]
      exact j2
    · rw [if_neg hs, if_neg (by decide)]
      obtain ⟨M, m1, m2, m3⟩ := m_eats (I := J) hp hK ha (c := c) (by omega) (lawM_c p1 hl (j1 _ _ (by omega) (by omega) (by omega) (by omega)) (fun g k h1 h2 => j1 _ _ (by omega) (by omega) (by omega) (by omega))) j2
      rw [m1, ob_some, ob_some]
      refine ⟨_, rfl, M, Prod.ext i_addr rfl, fun g k h1 h2 h3 h4 => by rw [m2 g k h1 h2 h3 h4, j1 g k h1 h2 h3 h4], ?_⟩
      unfold dyS
      rw [if_neg hs]
      exact m3
  · intro s hs
    obtain ⟨J, rfl, j1, j2⟩ := hs
    dsimp only
    rw [if_neg (by rw [j1 51 1 (by omega) (by omega) (by omega) (by omega), e1]; exact Int32.lt_irrefl)]
    exact ⟨_, rfl, _, rfl, rfl, j1, j2⟩
  · unfold dyS
    by_cases h0 : k = 89
    · subst h0
      rw [up_eq]
      exact (if_pos rfl).symm
    · rw [up_ne (by omega), hr k hk]
      exact (if_neg h0).symm
theorem m_dayEnds_no {a : Nat} (hK : KS a = (100, 91)) (ha : a < 699) (hd : I a 89 = Int32.ofNat 60) : f_m_dayEnds314 a I = some (0, I) := by
  unfold f_m_dayEnds314
  rw [show rd I a (89 : Int32) = some (I a 89) from rd_ok (k := 89) hK (by decide) ha (by decide), ob_some, hd, if_pos (show Int32.ofNat 60 = 60 from rfl)]
/-- the stand behind i days, day 60 being the last -/
def dysI (V : (Nat → Int32) → Int32) (nc : Nat) (r : Nat → Int32) : Nat → Nat → Int32
  | 0 => r
  | i + 1 => if dysI V nc r i 89 = 60 then dysI V nc r i else dyS V (dysI V nc r i) nc
theorem dysI_day {V : (Nat → Int32) → Int32} (hn : nc ≤ 6) (hd : r 89 = Int32.ofNat day) (h60 : day ≤ 60) : ∀ i, dysI V nc r i 89 = Int32.ofNat (min 60 (day + i))
  | 0 => by
    rw [show min 60 (day + 0) = day by omega]
    exact hd
  | i + 1 => by
    have ih := dysI_day (V := V) hn hd h60 i
    unfold dysI
    split
    · rename_i h
      rw [ih] at h ⊢
      have := (i_eq (b := 60) (by omega) (by omega)).mp h
      rw [show min 60 (day + i) = 60 by omega, show min 60 (day + (i + 1)) = 60 by omega]
    · rename_i h
      rw [ih] at h
      have : ¬ min 60 (day + i) = 60 := fun e => h (by rw [e]; rfl)
      rw [dyS_89 hn, ih, show min 60 (day + (i + 1)) = min 60 (day + i) + 1 by omega]
      exact i_addr
theorem dysI_stay {V : (Nat → Int32) → Int32} {i : Nat} (h : dysI V nc r i 89 = 60) : ∀ d, dysI V nc r (i + d) = dysI V nc r i
  | 0 => rfl
  | d + 1 => by
    have ih := dysI_stay h d
    show (if dysI V nc r (i + d) 89 = 60 then dysI V nc r (i + d) else _) = _
    rw [ih, if_pos h]
theorem dysI_out {V : (Nat → Int32) → Int32} (hn : nc ≤ 6) {k : Nat} (hk : k < 10 ∨ 82 ≤ k) (h9 : k ≠ 89) : ∀ i, dysI V nc r i k = r k
  | 0 => rfl
  | i + 1 => by
    unfold dysI
    split
    · exact dysI_out hn hk h9 i
    · rw [dyS_out hk h9 hn]
      exact dysI_out hn hk h9 i
theorem x_passDays {days : Nat} (hp : lawP ln ht cd hw vv) (hl : lawX ln cd I) (e6 : I 3 6 = Int32.ofNat nc) (hn : nc ≤ 6) (hr : stE (I 18) r) (hd : r 89 = Int32.ofNat day) (h60 : day ≤ 60) (hds : days ≤ 60) : ∃ J, f_tra_passDays249 (Int32.ofNat days) I = some J ∧ (∀ a k, a ≠ 26 → a ≠ 27 → a ≠ 18 → J a k = I a k) ∧ stE (J 18) (dysI (lvV ln ht hw vv) nc r days) := by
  unfold f_tra_passDays249
  refine bindx (wh_inv2 (fun i s => ∃ J : MJ, s = (Int32.ofNat i, J) ∧ (∀ a k, a ≠ 26 → a ≠ 27 → a ≠ 18 → J a k = I a k) ∧ stE (J 18) (dysI (lvV ln ht hw vv) nc r i)) _ days ?_ ?_ ⟨I, rfl, fun _ _ _ _ _ => rfl, hr⟩)
  · intro i hi s hs
    obtain ⟨J, rfl, j1, j2⟩ := hs
    have hdi := dysI_day (V := lvV ln ht hw vv) hn hd h60 i
    dsimp only
    rw [if_pos (by rw [i_lt (by omega) (by omega)]; exact hi), x_day (t := 17) rfl (by decide), ob_some]
    have e0 : J (17 + 1) 0 = Int32.ofNat (min 60 (day + i)) := (stE_day j2).trans hdi
    rw [e0]
    by_cases h : day + i < 60
    · rw [if_pos (show Int32.ofNat (min 60 (day + i)) < (60 : Int32) from lt_l (b := 60) (by omega) (by omega))]
      obtain ⟨⟨v, M⟩, m1, m2, m3, m4⟩ := x_passDay (I := J) (t := 17) (r := dysI (lvV ln ht hw vv) nc r i) (nc := nc) hp rfl (Or.inr rfl) (lawX_c hl (fun k => j1 _ _ (by omega) (by omega) (by omega)) (fun k => j1 _ _ (by omega) (by omega) (by omega))) ((j1 3 6 (by decide) (by decide) (by decide)).trans e6) hn j2 hdi (by omega)
      rw [m1, ob_some]
      refine Or.inl ⟨_, rfl, M, Prod.ext i_addr rfl, fun a k h1 h2 h3 => by
        dsimp only at m3
        rw [m3 a k h1 h2 h3, j1 a k h1 h2 h3], ?_⟩
      unfold dysI
      rw [if_neg (by rw [hdi, show (60 : Int32) = Int32.ofNat 60 from rfl, i_eq (by omega) (by omega)]; omega)]
      exact m4
    · rw [if_neg (show ¬ Int32.ofNat (min 60 (day + i)) < (60 : Int32) from nlt_l (b := 60) (by omega) (by omega) (by omega))]
      refine Or.inr ⟨_, rfl, _, rfl, j1, ?_⟩
      have h1 := dysI_stay (V := lvV ln ht hw vv) (nc := nc) (r := r) (i := i) (by rw [hdi, show min 60 (day + i) = 60 by omega]; rfl) (days - i)
      rw [show i + (days - i) = days by omega] at h1
      rw [h1]
      exact j2
  · intro s hs
    obtain ⟨J, rfl, j1, j2⟩ := hs
    dsimp only
    rw [if_neg Int32.lt_irrefl]
    exact ⟨_, rfl, _, rfl, j1, j2⟩
end DAYS
