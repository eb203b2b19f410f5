/-! look: chances -/
theorem fill_ok {a n : Nat} {x : Int32} {I : MJ} (hK : KS a = (100, n)) (ha : a < 699) (hn : n < 100000) : ∃ J, f_x_fill10 a x I = some J ∧ (∀ g k, g ≠ a → J g k = I g k) ∧ ∀ k, k < n → J a k = x := by
  unfold f_x_fill10
  refine bindx (wh_inv (fun i s => ∃ J : MJ, s = (Int32.ofNat i, J) ∧ (∀ g k, g ≠ a → J g k = I g k) ∧ ∀ k, k < i → J a k = x) _ n ?_ ?_ ⟨I, rfl, fun _ _ _ => rfl, fun k hk => absurd hk (Nat.not_lt_zero k)⟩)
  · intro i hi s hs
    obtain ⟨J, rfl, j1, j2⟩ := hs
    try dsimp only
    rw [KS_in hK (by decide), if_pos ha, ob_some, if_pos (by rw [i_lt (by omega) (by omega)]; exact hi), wr_ok hK hi ha (by omega), ob_some]
    refine ⟨_, rfl, _, Prod.ext i_addr rfl, fun g k hg => by rw [up_ne (fun h => hg h.1), j1 g k hg], fun k hk => ?_⟩
    by_cases h : k = i
    · rw [h, up_eq]
    · rw [up_ne (fun e => h e.2), j2 k (by omega)]
  · intro s hs
    obtain ⟨J, rfl, j1, j2⟩ := hs
    try dsimp only
    rw [KS_in hK (by decide), if_pos ha, ob_some, if_neg Int32.lt_irrefl]
    exact ⟨_, rfl, _, rfl, j1, j2⟩
/-- how many of the skies ahead show a kind in an hour -/
def cS (Z : Nat → Nat → Bool) (K : Nat → Nat → Nat → Nat) (p h k : Nat) : Nat → Nat
  | 0 => 0
  | j + 1 => cS Z K p h k j + if Z p j = true ∧ K p j h = k then 1 else 0
def cP (Z : Nat → Nat → Bool) (K : Nat → Nat → Nat → Nat) (h k : Nat) : Nat → Nat
  | 0 => 0
  | i + 1 => cP Z K h k i + cS Z K i h k 12
theorem cS_le {Z : Nat → Nat → Bool} {K : Nat → Nat → Nat → Nat} {p h k : Nat} : ∀ j, cS Z K p h k j ≤ j
  | 0 => Nat.le_refl _
  | j + 1 => by
    have := cS_le (Z := Z) (K := K) (p := p) (h := h) (k := k) j
    unfold cS
    split <;> omega
theorem cP_le {Z : Nat → Nat → Bool} {K : Nat → Nat → Nat → Nat} {h k : Nat} : ∀ i, cP Z K h k i ≤ 12 * i
  | 0 => Nat.le_refl _
  | i + 1 => by
    have h1 := cP_le (Z := Z) (K := K) (h := h) (k := k) i
    have h2 := cS_le (Z := Z) (K := K) (p := i) (h := h) (k := k) 12
    unfold cP
    omega
def mxF (t : Nat → Int32) : Nat → Int32
  | 0 => 0
  | k + 1 => if mxF t k < t k then t k else mxF t k
theorem mxF_congr {t u : Nat → Int32} : ∀ {n : Nat}, (∀ k, k < n → t k = u k) → mxF t n = mxF u n
  | 0, _ => rfl
  | n + 1, h => by
    show (if mxF t n < t n then t n else mxF t n) = (if mxF u n < u n then u n else mxF u n)
    rw [mxF_congr (fun k hk => h k (by omega)), h n (by omega)]
theorem cS_step {Z : Nat → Nat → Bool} {K : Nat → Nat → Nat → Nat} {p h k j : Nat} : cS Z K p h k (j + 1) = cS Z K p h k j + if Z p j = true ∧ K p j h = k then 1 else 0 := rfl
section CHANCES
variable {I : MJ} {nl tb : Nat} {bh bs : Nat → Nat} {pk : Nat → Nat → Nat}
theorem x_countSky {p s : Nat} (hp : p < 6) (hs : s < 12) (hk : ∀ p h, p < 6 → h < 12 → I 20 (12 * p + h) = Int32.ofNat (pk p h)) (h6 : ∀ p h, p < 6 → h < 12 → pk p h < 6) : ∃ J, f_boo_countSky235 (Int32.ofNat p) (Int32.ofNat s) I = some J ∧ (∀ g k, g ≠ 38 → J g k = I g k) ∧ ∀ h k, h < 12 → k < 6 → J 38 (6 * h + k) = if pk p ((h + 12 - s) % 12) = k then I 38 (6 * h + k) + 1 else I 38 (6 * h + k) := by
  unfold f_boo_countSky235
  refine bindx (wh_inv (fun i st => ∃ J : MJ, st = (Int32.ofNat i, J) ∧ (∀ g k, g ≠ 38 → J g k = I g k) ∧ ∀ h k, h < 12 → k < 6 → J 38 (6 * h + k) = if h < i ∧ pk p ((h + 12 - s) % 12) = k then I 38 (6 * h + k) + 1 else I 38 (6 * h + k)) _ 12 ?_ ?_ ⟨I, rfl, fun _ _ _ => rfl, fun h k _ _ => (if_neg (fun e => absurd e.1 (Nat.not_lt_zero h))).symm⟩)
  · intro i hi st hst
    obtain ⟨J, rfl, j1, j2⟩ := hst
    have hm : (i + 12 - s) % 12 < 12 := Nat.mod_lt _ (by decide)
    have h6' := h6 p ((i + 12 - s) % 12) hp hm
    try dsimp only
    rw [if_pos (show Int32.ofNat i < (12 : Int32) from lt_l (a := i) (b := 12) (by omega) (by omega)), x_kindLater (pk := pk) hp hi hs (fun p h hp hh => by rw [j1 20 _ (by decide)]; exact hk p h hp hh), ob_some, show (6 : Int32) * Int32.ofNat i = Int32.ofNat (6 * i) from i_mull (n := 6), i_add, at_38 (by omega), ob_some, put_38 (by omega), ob_some]
    refine ⟨_, rfl, _, Prod.ext i_addr rfl, fun g k hg => by rw [up_ne (fun h => hg h.1), j1 g k hg], fun h k hh hk6 => ?_⟩
    by_cases e : h = i ∧ k = pk p ((i + 12 - s) % 12)
    · obtain ⟨rfl, rfl⟩ := e
      rw [up_eq, j2 h _ hh hk6, if_neg (fun e => absurd e.1 (Nat.lt_irrefl h)), if_pos ⟨by omega, rfl⟩]
    · rw [up_ne (by omega), j2 h k hh hk6]
      by_cases e2 : h < i ∧ pk p ((h + 12 - s) % 12) = k
      · rw [if_pos e2, if_pos ⟨by omega, e2.2⟩]
      · rw [if_neg e2, if_neg (fun e3 => ?_)]
        by_cases e4 : h = i
        · subst e4
          exact e ⟨rfl, e3.2.symm⟩
        · exact e2 ⟨by omega, e3.2⟩
  · intro st hst
    obtain ⟨J, rfl, j1, j2⟩ := hst
    try dsimp only
    rw [if_neg (by decide)]
    refine ⟨_, rfl, J, rfl, j1, fun h k hh hk6 => ?_⟩
    rw [j2 h k hh hk6]
    by_cases e : pk p ((h + 12 - s) % 12) = k
    · rw [if_pos ⟨hh, e⟩, if_pos e]
    · rw [if_neg (fun z => e z.2), if_neg e]
theorem x_countChances (hB : rBook nl bh bs I) (hP : rPat tb pk I) : ∃ J, f_boo_countChances234 I = some J ∧ (∀ g k, g ≠ 38 → J g k = I g k) ∧ ∀ h k, h < 12 → k < 6 → J 38 (6 * h + k) = Int32.ofNat (cP (fun p s => bitF (skyF nl bh bs pk tb p) s) (fun p s h => pk p ((h + 12 - s) % 12)) h k 6) := by
  obtain ⟨g1, g2, g3, g4, g5, g6⟩ := hP
  unfold f_boo_countChances234
  obtain ⟨F, f1, f2, f3⟩ := fill_ok (a := 38) (n := 72) (x := 0) (I := I) rfl (by decide) (by decide)
  rw [f1, ob_some]
  refine bindx (wh_inv (fun i st => ∃ J : MJ, st = (Int32.ofNat i, J) ∧ (∀ g k, g ≠ 38 → J g k = I g k) ∧ ∀ h k, h < 12 → k < 6 → J 38 (6 * h + k) = Int32.ofNat (cP (fun p s => bitF (skyF nl bh bs pk tb p) s) (fun p s h => pk p ((h + 12 - s) % 12)) h k i)) _ 6 ?_ ?_ ⟨F, rfl, f2, fun h k hh hk => f3 _ (by omega)⟩)
  · intro i hi st hst
    obtain ⟨J, rfl, j1, j2⟩ := hst
    try dsimp only
    rw [if_pos (show Int32.ofNat i < (6 : Int32) from lt_l (a := i) (b := 6) (by omega) (by omega)), x_skiesOf (nl := nl) (tb := tb) (bh := bh) (bs := bs) (pk := pk) hi (rBook_congr (fun a k h => j1 a k (by omega)) hB) (rPat_congr (fun a k h => j1 a k (by omega)) ⟨g1, g2, g3, g4, g5, g6⟩), ob_some]
    have inner : ∃ M, wh (β := MJ) (fun (s5 : Int32 × MJ) => (if s5.1 < (12 : Int32) then (Option.bind (f_x_holds26 (skyF nl bh bs pk tb i) s5.1 s5.2) fun v7 => (Option.bind (α := MJ) (if v7 = 0 then some s5.2 else (Option.bind (f_boo_countSky235 (Int32.ofNat i) s5.1 s5.2) fun I9 => some I9 ) ) fun b8 => some (.inl ((s5.1 + (1 : Int32)), b8)) ) ) else some (.inr s5.2) ) ) ((0 : Int32), J) = some M ∧ (∀ g k, g ≠ 38 → M g k = I g k) ∧ ∀ h k, h < 12 → k < 6 → M 38 (6 * h + k) = Int32.ofNat (cP (fun p s => bitF (skyF nl bh bs pk tb p) s) (fun p s h => pk p ((h + 12 - s) % 12)) h k i + cS (fun p s => bitF (skyF nl bh bs pk tb p) s) (fun p s h => pk p ((h + 12 - s) % 12)) i h k 12) := by
      refine wh_inv (fun s st => ∃ M : MJ, st = (Int32.ofNat s, M) ∧ (∀ g k, g ≠ 38 → M g k = I g k) ∧ ∀ h k, h < 12 → k < 6 → M 38 (6 * h + k) = Int32.ofNat (cP (fun p s => bitF (skyF nl bh bs pk tb p) s) (fun p s h => pk p ((h + 12 - s) % 12)) h k i + cS (fun p s => bitF (skyF nl bh bs pk tb p) s) (fun p s h => pk p ((h + 12 - s) % 12)) i h k s)) (fun M : MJ => (∀ g k, g ≠ 38 → M g k = I g k) ∧ ∀ h k, h < 12 → k < 6 → M 38 (6 * h + k) = Int32.ofNat (cP (fun p s => bitF (skyF nl bh bs pk tb p) s) (fun p s h => pk p ((h + 12 - s) % 12)) h k i + cS (fun p s => bitF (skyF nl bh bs pk tb p) s) (fun p s h => pk p ((h + 12 - s) % 12)) i h k 12)) 12 ?_ ?_ ⟨J, rfl, j1, j2⟩
      · intro s hs st hst
        obtain ⟨M, rfl, m1, m2⟩ := hst
        try dsimp only
        rw [if_pos (show Int32.ofNat s < (12 : Int32) from lt_l (a := s) (b := 12) (by omega) (by omega)), x_holds, ob_some]
        by_cases hb : bitF (skyF nl bh bs pk tb i) s = true
        · obtain ⟨N, n1, n2, n3⟩ := x_countSky (I := M) (pk := pk) hi hs (fun p h hp hh => by rw [m1 20 _ (by decide)]; exact g6 p h hp hh) g4
          rw [if_pos hb, if_neg (by decide), n1, ob_some, ob_some]
          refine ⟨_, rfl, N, Prod.ext i_addr rfl, fun g k hg => by rw [n2 g k hg, m1 g k hg], fun h k hh hk => ?_⟩
          rw [n3 h k hh hk, m2 h k hh hk]
          rw [cS_step]
          by_cases e : pk i ((h + 12 - s) % 12) = k
          · rw [if_pos e, if_pos ⟨hb, e⟩, ← Nat.add_assoc]
            exact i_addr
          · rw [if_neg e, if_neg (fun z => e z.2), Nat.add_zero]
        · rw [if_neg hb, if_pos rfl, ob_some]
          refine ⟨_, rfl, M, Prod.ext i_addr rfl, m1, fun h k hh hk => ?_⟩
          rw [m2 h k hh hk]
          rw [cS_step]
          rw [if_neg (fun z => hb z.1), Nat.add_zero]
      · intro st hst
        obtain ⟨M, rfl, m1, m2⟩ := hst
        try dsimp only
        rw [if_neg (by decide)]
        exact ⟨_, rfl, m1, m2⟩
    obtain ⟨M, k1, k2, k3⟩ := inner
    refine bindl ⟨M, k1, ?_⟩
    exact ⟨_, rfl, M, Prod.ext i_addr rfl, k2, k3⟩
  · intro st hst
    obtain ⟨J, rfl, j1, j2⟩ := hst
    try dsimp only
    rw [if_neg (by decide)]
    exact ⟨_, rfl, J, rfl, j1, j2⟩
theorem x_leftAtWorst {h : Nat} (hh : h < 12) : f_boo_leftAtWorst236 (Int32.ofNat h) I = some (mxF (fun k => I 38 (6 * h + k)) 6) := by
  unfold f_boo_leftAtWorst236
  refine (congrArg (fun z => Option.bind z _) (show _ = some (mxF (fun k => I 38 (6 * h + k)) 6) from wh_seq (fun i => (mxF (fun k => I 38 (6 * h + k)) i, Int32.ofNat i)) 6 ?_ ?_)).trans rfl
  · intro k hk
    try dsimp only
    rw [if_pos (show Int32.ofNat k < (6 : Int32) from lt_l (a := k) (b := 6) (by omega) (by omega)), show (6 : Int32) * Int32.ofNat h = Int32.ofNat (6 * h) from i_mull (n := 6), i_add, at_38 (by omega), ob_some, i_addr]
    rfl
  · exact if_neg (show ¬ Int32.ofNat 6 < (6 : Int32) by decide)
theorem m_worstAt {h : Nat} (hh : h < 12) (hB : rBook nl bh bs I) (hP : rPat tb pk I) : ∃ c : Int32 × MJ, f_m_worstAt370 (Int32.ofNat h) I = some c ∧ c.1 = mxF (fun k => Int32.ofNat (cP (fun p s => bitF (skyF nl bh bs pk tb p) s) (fun p s h => pk p ((h + 12 - s) % 12)) h k 6)) 6 ∧ ∀ g k, g ≠ 697 → c.2 g k = I g k := by
  have hP0 := hP
  obtain ⟨g1, g2, g3, g4, g5, g6⟩ := hP
  unfold f_m_worstAt370
  refine bindx (wh_inv (fun i st => ∃ J : MJ, st = (Int32.ofNat i, J) ∧ (∀ g k, g ≠ 697 → J g k = I g k) ∧ ∀ k, k < i → J 697 k = 0) _ 6 ?_ ?_ ⟨I, rfl, fun _ _ _ => rfl, fun k hk => absurd hk (Nat.not_lt_zero k)⟩)
  · intro i hi s hs
    obtain ⟨J, rfl, j1, j2⟩ := hs
    try dsimp only
    rw [if_pos (show Int32.ofNat i < (6 : Int32) from lt_l (a := i) (b := 6) (by omega) (by omega)), wr_697 (by omega), ob_some]
    refine ⟨_, rfl, _, Prod.ext i_addr rfl, fun g k hg => by rw [up_ne (fun h => hg h.1), j1 g k hg], fun k hk => ?_⟩
    by_cases h : k = i
    · rw [h, up_eq]
    · rw [up_ne (fun e => h e.2), j2 k (by omega)]
  · intro s hs
    obtain ⟨F, rfl, f1, f2⟩ := hs
    try dsimp only
    rw [if_neg (by decide)]
    refine ⟨_, rfl, ?_⟩
    refine bindx (wh_inv (fun i st => ∃ J : MJ, st = (Int32.ofNat i, J) ∧ (∀ g k, g ≠ 697 → J g k = I g k) ∧ ∀ k, k < 6 → J 697 k = Int32.ofNat (cP (fun p s => bitF (skyF nl bh bs pk tb p) s) (fun p s h => pk p ((h + 12 - s) % 12)) h k i)) _ 6 ?_ ?_ ⟨F, rfl, f1, f2⟩)
    · intro i hi st hst
      obtain ⟨J, rfl, j1, j2⟩ := hst
      try dsimp only
      rw [if_pos (show Int32.ofNat i < (6 : Int32) from lt_l (a := i) (b := 6) (by omega) (by omega))]
      have inner : ∃ M, wh (β := MJ) (fun (s9 : Int32 × MJ) => (if s9.1 < (12 : Int32) then (Option.bind (f_m_skiesOf365 (Int32.ofNat i) s9.2) fun v11 => (Option.bind (f_m_has313 v11 s9.1 s9.2) fun v12 => (Option.bind (α := MJ) (if v12 = 0 then some s9.2 else (Option.bind (f_m_skyAt366 (Int32.ofNat i) s9.1 (Int32.ofNat h) s9.2) fun v14 => (Option.bind (rd s9.2 697 v14) fun v15 => (Option.bind (wr s9.2 697 v14 (v15 + (1 : Int32))) fun I16 => some I16 ) ) ) ) fun b13 => some (.inl ((s9.1 + (1 : Int32)), b13)) ) ) ) else some (.inr s9.2) ) ) ((0 : Int32), J) = some M ∧ (∀ g k, g ≠ 697 → M g k = I g k) ∧ ∀ k, k < 6 → M 697 k = Int32.ofNat (cP (fun p s => bitF (skyF nl bh bs pk tb p) s) (fun p s h => pk p ((h + 12 - s) % 12)) h k i + cS (fun p s => bitF (skyF nl bh bs pk tb p) s) (fun p s h => pk p ((h + 12 - s) % 12)) i h k 12) := by
        refine wh_inv (fun s st => ∃ M : MJ, st = (Int32.ofNat s, M) ∧ (∀ g k, g ≠ 697 → M g k = I g k) ∧ ∀ k, k < 6 → M 697 k = Int32.ofNat (cP (fun p s => bitF (skyF nl bh bs pk tb p) s) (fun p s h => pk p ((h + 12 - s) % 12)) h k i + cS (fun p s => bitF (skyF nl bh bs pk tb p) s) (fun p s h => pk p ((h + 12 - s) % 12)) i h k s)) (fun M : MJ => (∀ g k, g ≠ 697 → M g k = I g k) ∧ ∀ k, k < 6 → M 697 k = Int32.ofNat (cP (fun p s => bitF (skyF nl bh bs pk tb p) s) (fun p s h => pk p ((h + 12 - s) % 12)) h k i + cS (fun p s => bitF (skyF nl bh bs pk tb p) s) (fun p s h => pk p ((h + 12 - s) % 12)) i h k 12)) 12 ?_ ?_ ⟨J, rfl, j1, j2⟩
        · intro s hs st hst
          obtain ⟨M, rfl, m1, m2⟩ := hst
          have h6' := g4 i ((h + 12 - s) % 12) hi (Nat.mod_lt _ (by decide))
          try dsimp only
          rw [if_pos (show Int32.ofNat s < (12 : Int32) from lt_l (a := s) (b := 12) (by omega) (by omega)), m_skiesOf (nl := nl) (tb := tb) (bh := bh) (bs := bs) (pk := pk) hi (rBook_congr (fun a k h => m1 a k (by omega)) hB) (rPat_congr (fun a k h => m1 a k (by omega)) hP0), ob_some, m_has, ob_some]
          by_cases hb : bitF (skyF nl bh bs pk tb i) s = true
          · rw [if_pos hb, if_neg (by decide), m_skyAt (pk := pk) hi hh hs (fun p h hp hh => by rw [m1 _ _ (by omega)]; exact g5 p h hp hh), ob_some, rd_697 h6', ob_some, wr_697 h6', ob_some, ob_some]
            refine ⟨_, rfl, _, Prod.ext i_addr rfl, fun g k hg => by rw [up_ne (fun h => hg h.1), m1 g k hg], fun k hk => ?_⟩
            rw [cS_step]
            by_cases e : pk i ((h + 12 - s) % 12) = k
            · subst e
              rw [up_eq, m2 _ hk, if_pos ⟨hb, rfl⟩, ← Nat.add_assoc]
              exact i_addr
            · rw [up_ne (fun z => e z.2.symm), m2 k hk, if_neg (fun z => e z.2), Nat.add_zero]
          · rw [if_neg hb, if_pos rfl, ob_some]
            refine ⟨_, rfl, M, Prod.ext i_addr rfl, m1, fun k hk => ?_⟩
            rw [m2 k hk]
            rw [cS_step]
            rw [if_neg (fun z => hb z.1), Nat.add_zero]
        · intro st hst
          obtain ⟨M, rfl, m1, m2⟩ := hst
          try dsimp only
          rw [if_neg (by decide)]
          exact ⟨_, rfl, m1, m2⟩
      obtain ⟨M, k1, k2, k3⟩ := inner
      refine bindl ⟨M, k1, ?_⟩
      exact ⟨_, rfl, M, Prod.ext i_addr rfl, k2, k3⟩
    · intro st hst
      obtain ⟨J, rfl, j1, j2⟩ := hst
      try dsimp only
      rw [if_neg (by decide)]
      refine ⟨_, rfl, ?_⟩
      refine bindx ⟨mxF (fun k => J 697 k) 6, wh_seq (fun i => (mxF (fun k => J 697 k) i, Int32.ofNat i)) 6 ?_ ?_, ?_⟩
      · intro k hk
        try dsimp only
        unfold f_m_more320
        rw [if_pos (show Int32.ofNat k < (6 : Int32) from lt_l (a := k) (b := 6) (by omega) (by omega)), rd_697 hk, ob_some, o_ite, ob_some, ob_some, i_more, i_addr]
        rfl
      · exact if_neg (show ¬ Int32.ofNat 6 < (6 : Int32) by decide)
      · exact ⟨_, rfl, mxF_congr j2, j1⟩
theorem m_isInBook {h : Nat} (hh : h < 12) (hB : rBook nl bh bs I) : ∃ v, f_m_isInBook369 (Int32.ofNat h) I = some v ∧ ((v = 1 ∧ ∃ k, k < nl ∧ bh k = h) ∨ (v = 0 ∧ ∀ k, k < nl → bh k ≠ h)) := by
  obtain ⟨b1, b2, b3, b4, b5, b6, b7, b8, b9⟩ := hB
  unfold f_m_isInBook369
  refine wh_inv2 (fun i s => s = Int32.ofNat i ∧ ∀ k, k < i → bh k ≠ h) (fun v => (v = 1 ∧ ∃ k, k < nl ∧ bh k = h) ∨ (v = 0 ∧ ∀ k, k < nl → bh k ≠ h)) nl ?_ ?_ ⟨rfl, fun k hk => absurd hk (Nat.not_lt_zero k)⟩
  · intro i hi s hs
    obtain ⟨rfl, hs⟩ := hs
    have h4 := b4 i hi
    try dsimp only
    rw [if_pos (by rw [b3, i_lt (by omega) (by omega)]; exact hi), rdp_467 (by omega), ob_some, show rd I (468 + i) 0 = some (I (468 + i) 0) from rdr_467 (w := i) (k := 0) (by omega) (by decide), ob_some, b5 i hi]
    by_cases e : bh i = h
    · rw [e, if_pos rfl]
      exact Or.inr ⟨_, rfl, Or.inl ⟨rfl, i, hi, e⟩⟩
    · rw [if_neg (fun z => e ((i_eq (by omega) (by omega)).mp z))]
      refine Or.inl ⟨_, rfl, i_addr, fun k hk => ?_⟩
      by_cases hki : k = i
      · rw [hki]; exact e
      · exact hs k (by omega)
  · intro s hs
    obtain ⟨rfl, hs⟩ := hs
    try dsimp only
    rw [if_neg (by rw [b3]; exact Int32.lt_irrefl)]
    exact ⟨_, rfl, Or.inr ⟨rfl, hs⟩⟩
end CHANCES
/-- the hour to look at, of the first i -/
def lkF (op : Nat → Bool) (w : Nat → Int32) : Nat → Option Nat
  | 0 => none
  | i + 1 => if op i = true then (match lkF op w i with
    | none => some i
    | some c => if w i < w c then some i else some c) else lkF op w i
theorem lkF_lt {op : Nat → Bool} {w : Nat → Int32} : ∀ {i c : Nat}, lkF op w i = some c → c < i
  | 0, c, h => by cases h
  | i + 1, c, h => by
    unfold lkF at h
    split at h
    · split at h
      · cases h
        omega
      · rename_i d hd
        have := lkF_lt hd
        split at h
        · cases h; omega
        · cases h; omega
    · have := lkF_lt h
      omega
set_option maxHeartbeats 1000000 in
theorem op_look_ok : op_look rel := by
  intro p I hr
  have hr0 := hr
  obtain ⟨tn, bl, st, wa, od, tb, pk, ln, ht, nl, bh, bs, nk, ni, wt, u, hS, hD, hP, hL, hB, hK, hT, hC⟩ := hr
  have hB0 := hB
  obtain ⟨b1, b2, b3, b4, b5, b6, b7, b8, b9⟩ := hB
  rcases rcW p (lo := 0) (hi := 1) (by decide) (by decide) with ⟨kw, -, hw, rfl⟩ | hw
  · obtain ⟨C, c1, c2, c3⟩ := x_countChances hB0 hP
    generalize hWd : (fun h => mxF (fun k => Int32.ofNat (cP (fun p s => bitF (skyF nl bh bs pk tb p) s) (fun p s h => pk p ((h + 12 - s) % 12)) h k 6)) 6) = W
    have hWi : ∀ h, mxF (fun k => Int32.ofNat (cP (fun p s => bitF (skyF nl bh bs pk tb p) s) (fun p s h => pk p ((h + 12 - s) % 12)) h k 6)) 6 = W h := fun h => by rw [← hWd]
    have hl : ∀ h, h < 12 → f_boo_leftAtWorst236 (Int32.ofNat h) C = some (W h) := fun h hh => by
      rw [x_leftAtWorst hh, ← hWi]
      exact congrArg some (mxF_congr fun k hk => c3 h k hh hk)
    have hop : ∀ h, h < 12 → (C 36 h = -1 ↔ ∀ k, k < nl → bh k ≠ h) := fun h hh => by
      rw [c2 36 h (by decide)]
      refine ⟨fun e k hk e2 => ?_, fun e => b9 h hh e⟩
      have := b8 k hk
      have h4 := b4 k hk
      rw [e2, e] at this
      have h5 := i_neg1 (a := bs k) (by omega)
      rw [← this] at h5
      exact of_eq_false h5 rfl
    have hx : f_boo_hourToLookAt233 I = some (oI (lkF (fun h => decide (C 36 h = -1)) W 12), C) := by
      unfold f_boo_hourToLookAt233
      rw [c1, ob_some]
      refine (congrArg (fun z => Option.bind z _) (show _ = some (oI (lkF (fun h => decide (C 36 h = -1)) W 12)) from wh_seq (fun i => (oI (lkF (fun h => decide (C 36 h = -1)) W i), Int32.ofNat i)) 12 ?_ ?_)).trans rfl
      · intro i hi
        try dsimp only
        rw [if_pos (show Int32.ofNat i < (12 : Int32) from lt_l (a := i) (b := 12) (by omega) (by omega)), at_36 (by omega), ob_some]
        by_cases e : C 36 i = -1
        · rw [if_pos e, ob_some, if_neg (by decide)]
          cases hc : lkF (fun h => decide (C 36 h = -1)) W i with
          | none =>
            have hu : lkF (fun h => decide (C 36 h = -1)) W (i + 1) = some i := by
              unfold lkF
              rw [hc, if_pos (decide_eq_true e)]
            rw [if_pos (show oI none = -1 from rfl), ob_some, hu, i_addr]
            rfl
          | some c =>
            have hci := lkF_lt hc
            have hu : lkF (fun h => decide (C 36 h = -1)) W (i + 1) = if W i < W c then some i else some c := by
              unfold lkF
              rw [hc, if_pos (decide_eq_true e)]
            rw [if_neg (show ¬ oI (some c) = -1 from fun h => by rw [show oI (some c) = Int32.ofNat c from rfl, i_neg1 (by omega)] at h; exact h), hl i hi, ob_some, show f_boo_leftAtWorst236 (oI (some c)) C = some (W c) from hl c (by omega), ob_some, o_ite, ob_some, hu, i_addr]
            by_cases e2 : W i < W c
            · rw [if_pos e2, if_pos e2]; rfl
            · rw [if_neg e2, if_neg e2]
        · have hu : lkF (fun h => decide (C 36 h = -1)) W (i + 1) = lkF (fun h => decide (C 36 h = -1)) W i := by
            conv => lhs; unfold lkF
            rw [if_neg (fun z => e (of_decide_eq_true z))]
          rw [if_neg e, ob_some, if_pos rfl, ob_some, hu, i_addr]
      · exact if_neg (show ¬ Int32.ofNat 12 < (12 : Int32) by decide)
    have hM : ∀ a k, a ≠ 38 → ¬ (a = 47 ∧ k = 0) → ab_up1 C 47 0 0 a k = I a k := fun a k h1 h2 => by rw [up_ne h2, c2 a k h1]
    -- the model's search
    have loop : ∃ b, wh (β := Int32 × Int32 × MJ) (fun (s4 : Int32 × Int32 × Int32 × MJ) => (if s4.2.2.1 < (12 : Int32) then (Option.bind (f_m_isInBook369 s4.2.2.1 s4.2.2.2) fun v7 => (Option.bind (α := Int32 × Int32 × MJ) (if v7 = 0 then (Option.bind (f_m_worstAt370 s4.2.2.1 s4.2.2.2) fun w9 => (if s4.1 = (-1 : Int32) then some (s4.2.2.1, w9.1, w9.2) else (if w9.1 < s4.2.1 then some (s4.2.2.1, w9.1, w9.2) else some (s4.1, s4.2.1, w9.2) ) ) ) else some (s4.1, s4.2.1, s4.2.2.2) ) fun b8 => some (.inl (b8.1, b8.2.1, (s4.2.2.1 + (1 : Int32)), b8.2.2)) ) ) else some (.inr (s4.1, s4.2.1, s4.2.2.2)) ) ) ((-1 : Int32), (-1 : Int32), (0 : Int32), ab_up1 C 47 0 0) = some b ∧ b.1 = oI (lkF (fun h => decide (C 36 h = -1)) W 12) ∧ (b.2.1 = match lkF (fun h => decide (C 36 h = -1)) W 12 with | none => -1 | some c => W c) ∧ ∀ g k, g ≠ 697 → b.2.2 g k = ab_up1 C 47 0 0 g k := by
      refine wh_inv (fun i s => ∃ K : MJ, s = (oI (lkF (fun h => decide (C 36 h = -1)) W i), (match lkF (fun h => decide (C 36 h = -1)) W i with | none => -1 | some c => W c), Int32.ofNat i, K) ∧ ∀ g k, g ≠ 697 → K g k = ab_up1 C 47 0 0 g k) (fun (b : Int32 × Int32 × MJ) => b.1 = oI (lkF (fun h => decide (C 36 h = -1)) W 12) ∧ (b.2.1 = match lkF (fun h => decide (C 36 h = -1)) W 12 with | none => -1 | some c => W c) ∧ ∀ g k, g ≠ 697 → b.2.2 g k = ab_up1 C 47 0 0 g k) 12 ?_ ?_ ⟨_, rfl, fun _ _ _ => rfl⟩
      · intro i hi s hs
        obtain ⟨K, rfl, k1⟩ := hs
        have kI : ∀ a k, a ≠ 697 → a ≠ 38 → ¬ (a = 47 ∧ k = 0) → K a k = I a k := fun a k h1 h2 h3 => by rw [k1 a k h1, hM a k h2 h3]
        have kB : rBook nl bh bs K := rBook_congr (fun a k h => kI a k (by omega) (by omega) (by omega)) hB0
        have kP : rPat tb pk K := rPat_congr (fun a k h => kI a k (by omega) (by omega) (by omega)) hP
        obtain ⟨v, v1, v2⟩ := m_isInBook hi kB
        try dsimp only
        rw [if_pos (show Int32.ofNat i < (12 : Int32) from lt_l (a := i) (b := 12) (by omega) (by omega)), v1, ob_some]
        rcases v2 with ⟨rfl, q, q1, q2⟩ | ⟨rfl, q⟩
        · have e : ¬ C 36 i = -1 := fun e => (hop i hi).mp e q q1 q2
          have hu : lkF (fun h => decide (C 36 h = -1)) W (i + 1) = lkF (fun h => decide (C 36 h = -1)) W i := by
            conv => lhs; unfold lkF
            rw [if_neg (fun z => e (of_decide_eq_true z))]
          rw [if_neg (by decide), ob_some]
          exact ⟨_, rfl, K, Prod.ext (by rw [hu]) (Prod.ext (by rw [hu]) (Prod.ext i_addr rfl)), k1⟩
        · have e : C 36 i = -1 := (hop i hi).mpr q
          obtain ⟨⟨w, N⟩, n1, n2, n3⟩ := m_worstAt hi kB kP
          dsimp only at n2 n3
          rw [hWi] at n2
          subst n2
          have kN : ∀ g k, g ≠ 697 → N g k = ab_up1 C 47 0 0 g k := fun g k hg => by rw [n3 g k hg, k1 g k hg]
          rw [if_pos rfl, n1, ob_some]
          try dsimp only
          cases hc : lkF (fun h => decide (C 36 h = -1)) W i with
          | none =>
            have hu : lkF (fun h => decide (C 36 h = -1)) W (i + 1) = some i := by
              unfold lkF
              rw [hc, if_pos (decide_eq_true e)]
            rw [if_pos (show oI none = -1 from rfl), ob_some]
            exact ⟨_, rfl, N, Prod.ext (by rw [hu]; rfl) (Prod.ext (by rw [hu]) (Prod.ext i_addr rfl)), kN⟩
          | some c =>
            have hci := lkF_lt hc
            have hu : lkF (fun h => decide (C 36 h = -1)) W (i + 1) = if W i < W c then some i else some c := by
              unfold lkF
              rw [hc, if_pos (decide_eq_true e)]
            rw [if_neg (show ¬ oI (some c) = -1 from fun h => by rw [show oI (some c) = Int32.ofNat c from rfl, i_neg1 (by omega)] at h; exact h)]
            by_cases e2 : W i < W c
            · rw [if_pos e2] at hu
              rw [if_pos (show W i < W c from e2), ob_some]
              exact ⟨_, rfl, N, Prod.ext (by rw [hu]; rfl) (Prod.ext (by rw [hu]) (Prod.ext i_addr rfl)), kN⟩
            · rw [if_neg e2] at hu
              rw [if_neg (show ¬ W i < W c from e2), ob_some]
              exact ⟨_, rfl, N, Prod.ext (by rw [hu]) (Prod.ext (by rw [hu]) (Prod.ext i_addr rfl)), kN⟩
      · intro s hs
        obtain ⟨K, rfl, k1⟩ := hs
        try dsimp only
        rw [if_neg (by decide)]
        exact ⟨_, rfl, rfl, rfl, k1⟩
    obtain ⟨⟨v1, v2, K⟩, l1, l2, l3, l4⟩ := loop
    dsimp only at l2 l3 l4
    subst l2
    refine qok (v := if kw = 0 then oI (lkF (fun h => decide (C 36 h = -1)) W 12) else v2) (I1 := C) (I2 := K) hr0 ?_ ?_ (fun g k h => ?_) (by rw [l4 47 0 (by decide)]; exact up_eq)
    · unfold f_x_look232
      rw [show f_x_needWithin38 (Int32.ofNat kw) 0 1 I = _ from nWW_ok (lo := 0) (hi := 1) (Nat.zero_le _) hw (by decide), tb_inr, hx, ob_some]
      try dsimp only
      by_cases hk : kw = 0
      · subst hk
        rw [if_pos (show Int32.ofNat 0 = 0 from rfl), ob_some, if_pos rfl]
      · rw [if_neg (show ¬ Int32.ofNat kw = 0 from neq_l (b := 0) hk (by omega) (by decide)), if_neg hk, l3]
        cases hc : lkF (fun h => decide (C 36 h = -1)) W 12 with
        | none =>
          rw [if_pos (show oI none = -1 from rfl), ob_some]
          rfl
        | some c =>
          have hci := lkF_lt hc
          rw [if_neg (show ¬ oI (some c) = -1 from fun h => by rw [show oI (some c) = Int32.ofNat c from rfl, i_neg1 (by omega)] at h; exact h), show f_boo_leftAtWorst236 (oI (some c)) C = some (W c) from hl c (by omega), ob_some, ob_some]
    · unfold f_m_look368
      rw [show f_m_in264 (Int32.ofNat kw) 0 1 _ = _ from inW_ok (lo := 0) (hi := 1) (Nat.zero_le _) hw (by decide), ob_some, if_neg (by decide), ob_some, bad_0 up_eq, ob_some, if_pos rfl]
      try dsimp only
      refine (congrArg (fun z => Option.bind z _) l1).trans ?_
      rw [ob_some]
      try dsimp only
      by_cases hk : kw = 0
      · subst hk
        rw [if_pos (show Int32.ofNat 0 = 0 from rfl), ob_some, if_pos rfl]
      · rw [if_neg (show ¬ Int32.ofNat kw = 0 from neq_l (b := 0) hk (by omega) (by decide)), if_neg hk, ob_some]
    · have z38 : g ≠ 38 := by rintro rfl; exact Bool.noConfusion (show true = false from h)
      have z697 : g ≠ 697 := by rintro rfl; exact Bool.noConfusion (show true = false from h)
      rw [l4 g k z697, hM g k z38 (qs_sc h).2.2.2.2.2.2.2.2.2.1]
  · refine qref (E := 1) (w := 1) (by decide) hr0 ?_ ?_ (Or.inl ⟨rfl, rfl⟩)
    · unfold f_x_look232
      rw [show f_x_needWithin38 p 0 1 I = _ from nWW_no hw]
      rfl
    · unfold f_m_look368
      rw [show f_m_in264 p 0 1 _ = _ from inW_no hw, ob_some, if_pos rfl, ob_some, show f_m_bad268 1 1 1 _ = _ from bad_ref (E := 1) (by decide) (by decide)]
      rfl
