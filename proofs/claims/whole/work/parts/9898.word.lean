/-! texts: words -/
def wdl (B : Nat → Nat) : Nat → Nat → List Nat
  | _, 0 => []
  | q, m + 1 => B q :: wdl B (q + 1) m
def wdE (B : Nat → Nat) (n q : Nat) : Nat := scn (ltP B) n q
/-- the word that stands at a place -/
def wdW (B : Nat → Nat) (n q : Nat) : List Nat := wdl B q (wdE B n q - q)
/-- which of some words it is -/
def wIx : List (List Nat) → List Nat → Option Nat
  | [], _ => none
  | l :: ls, w => if l = w then some 0 else (wIx ls w).map (fun k => k + 1)
theorem wIx_yes {l : List Nat} {ls : List (List Nat)} {w : List Nat} (h : l = w) : wIx (l :: ls) w = some 0 := if_pos h
theorem wIx_no {l : List Nat} {ls : List (List Nat)} {w : List Nat} (h : ¬ l = w) : wIx (l :: ls) w = (wIx ls w).map (fun k => k + 1) := if_neg h
theorem wdl_eq {B : Nat → Nat} : ∀ (l : List Nat) (q m : Nat), l = wdl B q m ↔ (l.length = m ∧ ∀ i, i < m → l.getD i 0 = B (q + i))
  | [], q, 0 => ⟨fun _ => ⟨rfl, fun i hi => absurd hi (Nat.not_lt_zero i)⟩, fun _ => rfl⟩
  | [], q, m + 1 => ⟨fun h => (by cases h), fun h => (by have := h.1; cases this)⟩
  | a :: l, q, 0 => ⟨fun h => (by cases h), fun h => (by have := h.1; cases this)⟩
  | a :: l, q, m + 1 => by
    have ih := wdl_eq (B := B) l (q + 1) m
    show (a :: l = B q :: wdl B (q + 1) m) ↔ _
    rw [List.cons.injEq, ih]
    constructor
    · rintro ⟨h1, h2, h3⟩
      refine ⟨by rw [List.length_cons, h2], fun i hi => ?_⟩
      cases i with
      | zero => exact h1
      | succ i =>
        have := h3 i (by omega)
        rw [show q + (i + 1) = q + 1 + i by omega]
        exact this
    · rintro ⟨h1, h2⟩
      refine ⟨h2 0 (by omega), by rw [List.length_cons] at h1; omega, fun i hi => ?_⟩
      have := h2 (i + 1) (by omega)
      rw [show q + 1 + i = q + (i + 1) by omega]
      exact this
theorem wdl_len {B : Nat → Nat} {q m : Nat} : (wdl B q m).length = m := ((wdl_eq (wdl B q m) q m).mp rfl).1
/-- the words of a text, one behind the other from a place on -/
def SG (L : Nat) (ch : Nat → Nat) : Nat → List (List Nat) → Bool
  | st, [] => decide (st = L + 1)
  | st, w :: ws => (List.range w.length).all (fun i => decide (st + i < L) && decide (ch (st + i) = w.getD i 0) && !(decide (ch (st + i) = 32))) && (decide (st + w.length = L) || (decide (st + w.length < L) && decide (ch (st + w.length) = 32))) && SG L ch (st + w.length + 1) ws
theorem SG_ok {L : Nat} {ch : Nat → Nat} {st : Nat} {w : List Nat} {ws : List (List Nat)} (h : SG L ch st (w :: ws) = true) : (∀ i, i < w.length → st + i < L ∧ ch (st + i) = w.getD i 0 ∧ ch (st + i) ≠ 32) ∧ (st + w.length = L ∨ (st + w.length < L ∧ ch (st + w.length) = 32)) ∧ SG L ch (st + w.length + 1) ws = true := by
  unfold SG at h
  rw [Bool.and_eq_true, Bool.and_eq_true, List.all_eq_true, Bool.or_eq_true, Bool.and_eq_true, decide_eq_true_iff, decide_eq_true_iff, decide_eq_true_iff] at h
  refine ⟨fun i hi => ?_, h.1.2, h.2⟩
  have := h.1.1 i (List.mem_range.mpr hi)
  rw [Bool.and_eq_true, Bool.and_eq_true, decide_eq_true_iff, decide_eq_true_iff] at this
  refine ⟨this.1.1, this.1.2, fun e => ?_⟩
  have h2 := this.2
  rw [decide_eq_true e] at h2
  cases h2
section WORDX
variable {B : Nat → Nat} {n : Nat} {J : MJ} {q e : Nat} {p1 L : Nat} {ch : Nat → Nat}
theorem x_isSpelt {l : List Nat} {fr : Nat} (hs : sln p1 = some (Int32.ofNat L)) (hc : ∀ i, i < L → sat p1 (Int32.ofNat i) = some (Int32.ofNat (ch i))) (hch : ∀ i, i < L → ch i < 128) (hl : ∀ i, i < l.length → ch (fr + i) = l.getD i 0) (hL : fr + l.length ≤ L) (hL2 : L < 1000) (h : cE B n J) (e2 : J 1 2 = Int32.ofNat e) (e4 : J 1 4 = Int32.ofNat q) (hqe : q ≤ e) (hen : e ≤ n) : f_tap_isSpelt49 p1 (Int32.ofNat fr) (Int32.ofNat (fr + l.length)) J = some (if l = wdl B q (e - q) then 1 else 0) := by
  have hn := h.1
  have ew := wdl_eq (B := B) l q (e - q)
  have d1 : Int32.ofNat (fr + l.length) - Int32.ofNat fr = Int32.ofNat l.length := by rw [i_sub (by omega), show fr + l.length - fr = l.length by omega]
  have d2 : J 1 2 - J 1 4 = Int32.ofNat (e - q) := by rw [e2, e4, i_sub hqe]
  unfold f_tap_isSpelt49
  by_cases hlen : l.length = e - q
  · rw [if_pos (by rw [d1, d2, hlen]), if_neg (by rw [i_lt0 (by omega)]; exact id), hs, ob_some, if_neg (nlt_l (by omega) (by omega) (by omega)), if_neg (by rw [e4, i_lt0 (by omega)]; exact id), if_neg (show ¬ (600 : Int32) < J 1 2 by rw [e2]; exact nlt_l (a := 600) (by omega) (by decide) (by omega))]
    refine (wh_all (fun i => ch (fr + i) = B (q + i)) 0 l.length (Nat.zero_le _) 1 0 ?_ ?_ ?_).trans (congrArg some ?_)
    · intro k _ hk hp
      have hb := h.2.2 (q + k) (by omega)
      try dsimp only
      rw [if_pos (by rw [d1]; exact lt_l hk (by omega)), i_add, hc _ (by omega), ob_some, e4, i_add, rdb_2 (by omega), ob_some, hb.2, if_pos (by rw [hp]; exact ((sb8_is hb.1 (hp ▸ hch _ (by omega))).mpr rfl).symm), i_addr]
    · intro k _ hk hp
      have hb := h.2.2 (q + k) (by omega)
      try dsimp only
      rw [if_pos (by rw [d1]; exact lt_l hk (by omega)), i_add, hc _ (by omega), ob_some, e4, i_add, rdb_2 (by omega), ob_some, hb.2, if_neg (fun z => hp ((sb8_is hb.1 (hch _ (by omega))).mp z.symm).symm)]
    · try dsimp only
      rw [if_neg (by rw [d1]; exact Int32.lt_irrefl)]
    · by_cases hw : l = wdl B q (e - q)
      · rw [if_pos hw, if_pos (fun k _ hk => (hl k hk).trans ((ew.mp hw).2 k (by omega)))]
      · rw [if_neg hw, if_neg (fun z => hw (ew.mpr ⟨hlen, fun i hi => (hl i (by omega)).symm.trans (z i (Nat.zero_le _) (by omega))⟩))]
  · rw [if_neg (by rw [d1, d2]; exact neq_l hlen (by omega) (by omega)), if_neg (fun z => hlen (ew.mp z).1)]
noncomputable def spF (p1 : Nat) (I : MJ) : Int32 × Int32 × Int32 → Option ((Int32 × Int32 × Int32) ⊕ Int32) := fun (s1 : Int32 × Int32 × Int32) =>
  (Option.bind (sln p1) fun v2 =>
  (if v2 < s1.2.2 then
  some (.inr (-1 : Int32))
  else
  (Option.bind (sln p1) fun v3 =>
  (if s1.2.2 = v3 then
  (Option.bind (f_tap_isSpelt49 p1 s1.2.1 s1.2.2 I) fun v4 =>
  (if v4 = 0 then
  some (.inl ((s1.1 + (1 : Int32)), (s1.2.2 + (1 : Int32)), (s1.2.2 + (1 : Int32))))
  else
  some (.inr s1.1)
  )
  )
  else
  (Option.bind (sat p1 s1.2.2) fun v5 =>
  (if v5 = (32 : Int32) then
  (Option.bind (f_tap_isSpelt49 p1 s1.2.1 s1.2.2 I) fun v6 =>
  (if v6 = 0 then
  some (.inl ((s1.1 + (1 : Int32)), (s1.2.2 + (1 : Int32)), (s1.2.2 + (1 : Int32))))
  else
  some (.inr s1.1)
  )
  )
  else
  some (.inl (s1.1, s1.2.1, (s1.2.2 + (1 : Int32))))
  )
  )
  )
  )
  )
  )
theorem sp_walk {l : List Nat} {ix st : Nat} (hs : sln p1 = some (Int32.ofNat L)) (hc : ∀ i, i < L → sat p1 (Int32.ofNat i) = some (Int32.ofNat (ch i))) (hch : ∀ i, i < L → ch i < 128) (hL2 : L < 1000) (hl : ∀ i, i < l.length → st + i < L ∧ ch (st + i) = l.getD i 0 ∧ ch (st + i) ≠ 32) : ∀ m j, m + j = l.length → wh (spF p1 J) (Int32.ofNat ix, Int32.ofNat st, Int32.ofNat (st + j)) = wh (spF p1 J) (Int32.ofNat ix, Int32.ofNat st, Int32.ofNat (st + l.length))
  | 0, j, h => by rw [show j = l.length by omega]
  | m + 1, j, h => by
    obtain ⟨h1, h2, h3⟩ := hl j (by omega)
    refine (wh_inl (t := (Int32.ofNat ix, Int32.ofNat st, Int32.ofNat (st + (j + 1)))) ?_).trans (sp_walk hs hc hch hL2 hl m (j + 1) (by omega))
    unfold spF
    try dsimp only
    rw [hs, ob_some, if_neg (nlt_l (by omega) (by omega) (by omega)), ob_some, if_neg (neq_l (by omega) (by omega) (by omega)), hc _ h1, ob_some, if_neg (show ¬ Int32.ofNat (ch (st + j)) = 32 from neq_l (b := 32) h3 (by have := hch _ h1; omega) (by decide)), i_addr]
    rfl
theorem sp_run (hs : sln p1 = some (Int32.ofNat L)) (hc : ∀ i, i < L → sat p1 (Int32.ofNat i) = some (Int32.ofNat (ch i))) (hch : ∀ i, i < L → ch i < 128) (hL2 : L < 1000) (h : cE B n J) (e2 : J 1 2 = Int32.ofNat e) (e4 : J 1 4 = Int32.ofNat q) (hqe : q ≤ e) (hen : e ≤ n) : ∀ (ws : List (List Nat)) (ix st : Nat), SG L ch st ws = true → st ≤ L + 1 → wh (spF p1 J) (Int32.ofNat ix, Int32.ofNat st, Int32.ofNat st) = some (match wIx ws (wdl B q (e - q)) with | some k => Int32.ofNat (ix + k) | none => -1)
  | [], ix, st, hg, hst => by
    have hst2 : st = L + 1 := of_decide_eq_true hg
    refine wh_inr ?_
    unfold spF
    try dsimp only
    rw [hs, ob_some, if_pos (lt_l (by omega) (by omega))]
    rfl
  | w :: ws, ix, st, hg, hst => by
    obtain ⟨g1, g2, g3⟩ := SG_ok hg
    have hle : st + w.length ≤ L := by omega
    have hsp := x_isSpelt (l := w) (fr := st) hs hc hch (fun i hi => (g1 i hi).2.1) hle hL2 h e2 e4 hqe hen
    refine (sp_walk (j := 0) hs hc hch hL2 g1 w.length (by omega)).trans ?_
    have hn2 : ¬ Int32.ofNat L < Int32.ofNat (st + w.length) := nlt_l (by omega) (by omega) (by omega)
    by_cases hw : w = wdl B q (e - q)
    · rw [if_pos hw] at hsp
      rw [wIx_yes hw]
      refine wh_inr ?_
      unfold spF
      try dsimp only
      rw [hs, ob_some, if_neg hn2, ob_some, hsp]
      rcases g2 with g2 | ⟨g2, g4⟩
      · rw [if_pos (eq_l g2), ob_some, if_neg (by decide)]
        rfl
      · rw [if_neg (neq_l (by omega) (by omega) (by omega)), hc _ g2, ob_some, if_pos (show Int32.ofNat _ = 32 from eq_l (b := 32) g4), ob_some, if_neg (by decide)]
        rfl
    · rw [if_neg hw] at hsp
      rw [wIx_no hw]
      refine (wh_inl (t := (Int32.ofNat (ix + 1), Int32.ofNat (st + w.length + 1), Int32.ofNat (st + w.length + 1))) ?_).trans ?_
      · unfold spF
        try dsimp only
        rw [hs, ob_some, if_neg hn2, ob_some, hsp]
        rcases g2 with g2 | ⟨g2, g4⟩
        · rw [if_pos (eq_l g2), ob_some, if_pos rfl, i_addr, i_addr]
        · rw [if_neg (neq_l (by omega) (by omega) (by omega)), hc _ g2, ob_some, if_pos (show Int32.ofNat _ = 32 from eq_l (b := 32) g4), ob_some, if_pos rfl, i_addr, i_addr]
      · rw [sp_run hs hc hch hL2 h e2 e4 hqe hen ws (ix + 1) (st + w.length + 1) g3 (by omega)]
        cases wIx ws (wdl B q (e - q)) with
        | none => rfl
        | some k =>
          show some (Int32.ofNat (ix + 1 + k)) = some (Int32.ofNat (ix + (k + 1)))
          rw [show ix + 1 + k = ix + (k + 1) by omega]
/-- the class reads a word of a list -/
theorem x_word {ws : List (List Nat)} (hs : sln p1 = some (Int32.ofNat L)) (hc : ∀ i, i < L → sat p1 (Int32.ofNat i) = some (Int32.ofNat (ch i))) (hch : ∀ i, i < L → ch i < 128) (hL2 : L < 1000) (hg : SG L ch 0 ws = true) (h : cR B n J q) : ∃ J', f_tap_word45 p1 J = some (oI (wIx ws (wdW B n q)), J') ∧ fr1 J J' ∧ ((∃ k, wIx ws (wdW B n q) = some k ∧ cR B n J' (sk B n (wdE B n q)) ∧ J' 1 4 = Int32.ofNat q) ∨ (wIx ws (wdW B n q) = none ∧ cX J' 1 q)) := by
  obtain ⟨h1, h2, h3, h4, h5⟩ := cR_next h
  obtain ⟨o1, o2, o3, o4⟩ := scn_ok (P := ltP B) h1
  unfold f_tap_word45
  rw [if_pos h.2.1, h3, ob_some]
  try dsimp only
  rw [up_eq]
  have hJ0 : cE B n (ab_up1 (ab_up1 J 1 2 (Int32.ofNat q)) 1 4 (Int32.ofNat q)) := cE_up h4.1 (by decide) (by decide)
  have hn := hJ0.1
  have l := wh_scn (P := ltP B) (n := n) (p := q) (f := fun (s2 : MJ) => (if (s2 1 2) < (s2 1 3) then (Option.bind (f_tap_byteAt46 (s2 1 2) s2) fun v7 => (Option.bind (f_tap_isLetter47 v7 s2) fun v8 => (if v8 = 0 then some (.inr s2) else some (.inl (ab_up1 s2 1 2 ((s2 1 2) + (1 : Int32))))))) else some (.inr s2))) (fun k => ab_up1 (ab_up1 (ab_up1 J 1 2 (Int32.ofNat q)) 1 4 (Int32.ofNat q)) 1 2 (Int32.ofNat k)) (fun k => ab_up1 (ab_up1 (ab_up1 J 1 2 (Int32.ofNat q)) 1 4 (Int32.ofNat q)) 1 2 (Int32.ofNat k)) (s := ab_up1 (ab_up1 J 1 2 (Int32.ofNat q)) 1 4 (Int32.ofNat q)) (up_self (by rw [up_ne (by omega), up_eq])).symm h1 (fun k k1 k2 k3 => by
      have hk := (hJ0.2.2 k k2).1
      try dsimp only
      rw [if_pos (show ab_up1 (ab_up1 (ab_up1 J 1 2 (Int32.ofNat q)) 1 4 (Int32.ofNat q)) 1 2 (Int32.ofNat k) 1 2 < ab_up1 (ab_up1 (ab_up1 J 1 2 (Int32.ofNat q)) 1 4 (Int32.ofNat q)) 1 2 (Int32.ofNat k) 1 3 by rw [up_eq, up_ne (by omega), hJ0.2.1]; exact lt_l k2 (by omega)), up_eq, x_byteAt (cE_up hJ0 (by decide) (by decide)) k2, ob_some, x_isLetter hk, if_pos (show decide (97 ≤ B k ∧ B k ≤ 122) = true from k3), ob_some, if_neg (by decide), up_up, i_addr]) (fun k k1 k2 k3 => by
      try dsimp only
      by_cases hkn : k < n
      · have hk := (hJ0.2.2 k hkn).1
        rw [if_pos (show ab_up1 (ab_up1 (ab_up1 J 1 2 (Int32.ofNat q)) 1 4 (Int32.ofNat q)) 1 2 (Int32.ofNat k) 1 2 < ab_up1 (ab_up1 (ab_up1 J 1 2 (Int32.ofNat q)) 1 4 (Int32.ofNat q)) 1 2 (Int32.ofNat k) 1 3 by rw [up_eq, up_ne (by omega), hJ0.2.1]; exact lt_l hkn (by omega)), up_eq, x_byteAt (cE_up hJ0 (by decide) (by decide)) hkn, ob_some, x_isLetter hk, if_neg (show ¬ decide (97 ≤ B k ∧ B k ≤ 122) = true from fun z => k3 ⟨hkn, z⟩), ob_some, if_pos rfl]
      · rw [if_neg (show ¬ ab_up1 (ab_up1 (ab_up1 J 1 2 (Int32.ofNat q)) 1 4 (Int32.ofNat q)) 1 2 (Int32.ofNat k) 1 2 < ab_up1 (ab_up1 (ab_up1 J 1 2 (Int32.ofNat q)) 1 4 (Int32.ofNat q)) 1 2 (Int32.ofNat k) 1 3 by rw [up_eq, up_ne (by omega), hJ0.2.1]; exact nlt_l hkn (by omega) (by omega))])
  rw [l, ob_some]
  rw [show scn (ltP B) n q = wdE B n q from rfl] at *
  generalize hJ1 : ab_up1 (ab_up1 (ab_up1 J 1 2 (Int32.ofNat q)) 1 4 (Int32.ofNat q)) 1 2 (Int32.ofNat (wdE B n q)) = J1
  have f1 : fr1 J J1 := by
    rw [← hJ1]
    exact fr1_up (fr1_up (fr1_up fr1_rf (by omega)) (by omega)) (by omega)
  have c1 : cR B n J1 (sk B n (wdE B n q)) := by
    obtain ⟨-, g2, g3, -⟩ := h4
    refine ⟨cE_fr h.1 f1, ?_, ?_, wdE B n q, o2, ?_, rfl⟩
    · rw [← hJ1, up_ne (by omega), up_ne (by omega)]; exact g2
    · rw [← hJ1, up_ne (by omega), up_ne (by omega)]; exact g3
    · rw [← hJ1, up_eq]
  have s1 : J1 1 4 = Int32.ofNat q := by rw [← hJ1, up_ne (by omega), up_eq]
  have s2 : J1 1 2 = Int32.ofNat (wdE B n q) := by rw [← hJ1, up_eq]
  have hpl : f_tap_placeIn48 p1 J1 = some (oI (wIx ws (wdW B n q))) := by
    have := sp_run (B := B) hs hc hch hL2 c1.1 s2 s1 o1 o2 ws 0 0 hg (Nat.zero_le _)
    refine Eq.trans (show f_tap_placeIn48 p1 J1 = wh (spF p1 J1) (Int32.ofNat 0, Int32.ofNat 0, Int32.ofNat 0) from rfl) (this.trans ?_)
    show some (match wIx ws (wdW B n q) with | some k => Int32.ofNat (0 + k) | none => -1) = _
    cases wIx ws (wdW B n q) with
    | none => rfl
    | some k =>
      show some (Int32.ofNat (0 + k)) = some (Int32.ofNat k)
      rw [Nat.zero_add]
  rw [hpl, ob_some]
  cases hix : wIx ws (wdW B n q) with
  | none =>
    obtain ⟨J', j1, j2, j3⟩ := x_fail_s (k := 1) (w := q) (J := J1) (by omega) c1.2.1
    rw [if_pos (show oI none = -1 from rfl), s1, show f_tap_fail50 1 (Int32.ofNat q) J1 = some J' from j1, ob_some, ob_some]
    exact ⟨J', rfl, fr1_tr f1 j3, Or.inr ⟨rfl, j2⟩⟩
  | some k =>
    have hk : ¬ oI (some k) = -1 := by
      have : ∀ (ls : List (List Nat)) (w : List Nat) (j : Nat), wIx ls w = some j → j < ls.length := by
        intro ls
        induction ls with
        | nil => intro w j hj; cases hj
        | cons a ls ih =>
          intro w j hj
          by_cases ha : a = w
          · rw [wIx_yes ha] at hj
            cases hj
            exact Nat.succ_pos _
          · rw [wIx_no ha] at hj
            cases hr : wIx ls w with
            | none => rw [hr] at hj; cases hj
            | some i =>
              rw [hr] at hj
              have := ih w i hr
              have hj2 : i + 1 = j := Option.some.inj hj
              rw [List.length_cons]
              omega
      have hlt := this _ _ _ hix
      have hlen : ∀ (ws : List (List Nat)) st, SG L ch st ws = true → ws.length + st ≤ L + 1 := by
        intro ws
        induction ws with
        | nil => intro st hst; have : st = L + 1 := of_decide_eq_true hst; simp only [List.length_nil]; omega
        | cons a ws ih =>
          intro st hst
          have := ih _ (SG_ok hst).2.2
          rw [List.length_cons]
          omega
      have := hlen ws 0 hg
      show ¬ Int32.ofNat k = -1
      rw [i_neg1 (by omega)]
      exact id
    rw [if_neg hk, ob_some]
    exact ⟨J1, rfl, f1, Or.inl ⟨k, rfl, c1, s1⟩⟩
end WORDX
def wLK : List (List Nat) := [[115, 117, 110], [114, 97, 105, 110], [103, 114, 101, 121], [119, 105, 110, 100], [102, 114, 111, 115, 116], [102, 111, 103]]
def chK (i : Nat) : Nat := ([115, 117, 110, 32, 114, 97, 105, 110, 32, 103, 114, 101, 121, 32, 119, 105, 110, 100, 32, 102, 114, 111, 115, 116, 32, 102, 111, 103] : List Nat).getD i 0
theorem SG_K : SG 28 chK 0 wLK = true := by decide +kernel
theorem chK_lt : ∀ i : Nat, i < 28 → chK i < 128 := by decide +kernel
theorem sln_1 : sln 2000001 = some (Int32.ofNat 28) := by decide +kernel
theorem sat_1 : ∀ i : Nat, i < 28 → sat 2000001 (Int32.ofNat i) = some (Int32.ofNat (chK i)) := by decide +kernel
theorem xw_1 {B : Nat → Nat} {n : Nat} {J : MJ} {q : Nat} (h : cR B n J q) : ∃ J', f_tap_word45 2000001 J = some (oI (wIx wLK (wdW B n q)), J') ∧ fr1 J J' ∧ ((∃ k, wIx wLK (wdW B n q) = some k ∧ cR B n J' (sk B n (wdE B n q)) ∧ J' 1 4 = Int32.ofNat q) ∨ (wIx wLK (wdW B n q) = none ∧ cX J' 1 q)) := x_word sln_1 sat_1 chK_lt (by decide) SG_K h
theorem sln_2 : sln 2000002 = some (Int32.ofNat 28) := by decide +kernel
theorem sat_2 : ∀ i : Nat, i < 28 → sat 2000002 (Int32.ofNat i) = some (Int32.ofNat (chK i)) := by decide +kernel
theorem xw_2 {B : Nat → Nat} {n : Nat} {J : MJ} {q : Nat} (h : cR B n J q) : ∃ J', f_tap_word45 2000002 J = some (oI (wIx wLK (wdW B n q)), J') ∧ fr1 J J' ∧ ((∃ k, wIx wLK (wdW B n q) = some k ∧ cR B n J' (sk B n (wdE B n q)) ∧ J' 1 4 = Int32.ofNat q) ∨ (wIx wLK (wdW B n q) = none ∧ cX J' 1 q)) := x_word sln_2 sat_2 chK_lt (by decide) SG_K h
theorem sln_6 : sln 2000006 = some (Int32.ofNat 28) := by decide +kernel
theorem sat_6 : ∀ i : Nat, i < 28 → sat 2000006 (Int32.ofNat i) = some (Int32.ofNat (chK i)) := by decide +kernel
theorem xw_6 {B : Nat → Nat} {n : Nat} {J : MJ} {q : Nat} (h : cR B n J q) : ∃ J', f_tap_word45 2000006 J = some (oI (wIx wLK (wdW B n q)), J') ∧ fr1 J J' ∧ ((∃ k, wIx wLK (wdW B n q) = some k ∧ cR B n J' (sk B n (wdE B n q)) ∧ J' 1 4 = Int32.ofNat q) ∨ (wIx wLK (wdW B n q) = none ∧ cX J' 1 q)) := x_word sln_6 sat_6 chK_lt (by decide) SG_K h
theorem sln_7 : sln 2000007 = some (Int32.ofNat 28) := by decide +kernel
theorem sat_7 : ∀ i : Nat, i < 28 → sat 2000007 (Int32.ofNat i) = some (Int32.ofNat (chK i)) := by decide +kernel
theorem xw_7 {B : Nat → Nat} {n : Nat} {J : MJ} {q : Nat} (h : cR B n J q) : ∃ J', f_tap_word45 2000007 J = some (oI (wIx wLK (wdW B n q)), J') ∧ fr1 J J' ∧ ((∃ k, wIx wLK (wdW B n q) = some k ∧ cR B n J' (sk B n (wdE B n q)) ∧ J' 1 4 = Int32.ofNat q) ∨ (wIx wLK (wdW B n q) = none ∧ cX J' 1 q)) := x_word sln_7 sat_7 chK_lt (by decide) SG_K h
def wLC : List (List Nat) := [[98, 111, 108, 116], [99, 108, 105, 101, 110, 116], [119, 97, 110, 116, 115], [111, 114, 100, 101, 114], [115, 101, 97, 109], [104, 97, 110, 100, 115]]
def chC (i : Nat) : Nat := ([98, 111, 108, 116, 32, 99, 108, 105, 101, 110, 116, 32, 119, 97, 110, 116, 115, 32, 111, 114, 100, 101, 114, 32, 115, 101, 97, 109, 32, 104, 97, 110, 100, 115] : List Nat).getD i 0
theorem SG_C : SG 34 chC 0 wLC = true := by decide +kernel
theorem chC_lt : ∀ i : Nat, i < 34 → chC i < 128 := by decide +kernel
theorem sln_0 : sln 2000000 = some (Int32.ofNat 34) := by decide +kernel
theorem sat_0 : ∀ i : Nat, i < 34 → sat 2000000 (Int32.ofNat i) = some (Int32.ofNat (chC i)) := by decide +kernel
theorem xw_0 {B : Nat → Nat} {n : Nat} {J : MJ} {q : Nat} (h : cR B n J q) : ∃ J', f_tap_word45 2000000 J = some (oI (wIx wLC (wdW B n q)), J') ∧ fr1 J J' ∧ ((∃ k, wIx wLC (wdW B n q) = some k ∧ cR B n J' (sk B n (wdE B n q)) ∧ J' 1 4 = Int32.ofNat q) ∨ (wIx wLC (wdW B n q) = none ∧ cX J' 1 q)) := x_word sln_0 sat_0 chC_lt (by decide) SG_C h
def wLA : List (List Nat) := [[97, 103, 97, 105, 110]]
def chA (i : Nat) : Nat := ([97, 103, 97, 105, 110] : List Nat).getD i 0
theorem SG_A : SG 5 chA 0 wLA = true := by decide +kernel
theorem chA_lt : ∀ i : Nat, i < 5 → chA i < 128 := by decide +kernel
theorem sln_3 : sln 2000003 = some (Int32.ofNat 5) := by decide +kernel
theorem sat_3 : ∀ i : Nat, i < 5 → sat 2000003 (Int32.ofNat i) = some (Int32.ofNat (chA i)) := by decide +kernel
theorem xw_3 {B : Nat → Nat} {n : Nat} {J : MJ} {q : Nat} (h : cR B n J q) : ∃ J', f_tap_word45 2000003 J = some (oI (wIx wLA (wdW B n q)), J') ∧ fr1 J J' ∧ ((∃ k, wIx wLA (wdW B n q) = some k ∧ cR B n J' (sk B n (wdE B n q)) ∧ J' 1 4 = Int32.ofNat q) ∨ (wIx wLA (wdW B n q) = none ∧ cX J' 1 q)) := x_word sln_3 sat_3 chA_lt (by decide) SG_A h
def wLV : List (List Nat) := [[104, 111, 117, 114], [107, 105, 110, 100], [97, 103, 101], [100, 97, 121], [99, 108, 105, 101, 110, 116], [115, 101, 97, 109, 115], [108, 101, 97, 115, 116], [109, 111, 115, 116]]
def chV (i : Nat) : Nat := ([104, 111, 117, 114, 32, 107, 105, 110, 100, 32, 97, 103, 101, 32, 100, 97, 121, 32, 99, 108, 105, 101, 110, 116, 32, 115, 101, 97, 109, 115, 32, 108, 101, 97, 115, 116, 32, 109, 111, 115, 116] : List Nat).getD i 0
theorem SG_V : SG 41 chV 0 wLV = true := by decide +kernel
theorem chV_lt : ∀ i : Nat, i < 41 → chV i < 128 := by decide +kernel
theorem sln_4 : sln 2000004 = some (Int32.ofNat 41) := by decide +kernel
theorem sat_4 : ∀ i : Nat, i < 41 → sat 2000004 (Int32.ofNat i) = some (Int32.ofNat (chV i)) := by decide +kernel
theorem xw_4 {B : Nat → Nat} {n : Nat} {J : MJ} {q : Nat} (h : cR B n J q) : ∃ J', f_tap_word45 2000004 J = some (oI (wIx wLV (wdW B n q)), J') ∧ fr1 J J' ∧ ((∃ k, wIx wLV (wdW B n q) = some k ∧ cR B n J' (sk B n (wdE B n q)) ∧ J' 1 4 = Int32.ofNat q) ∨ (wIx wLV (wdW B n q) = none ∧ cX J' 1 q)) := x_word sln_4 sat_4 chV_lt (by decide) SG_V h
def wLT : List (List Nat) := [[99, 117, 116], [97, 108, 116, 101, 114], [116, 117, 114, 110], [115, 116, 114, 105, 112], [115, 101, 108, 108], [100, 97, 121], [97, 103, 97, 105, 110]]
def chT (i : Nat) : Nat := ([99, 117, 116, 32, 97, 108, 116, 101, 114, 32, 116, 117, 114, 110, 32, 115, 116, 114, 105, 112, 32, 115, 101, 108, 108, 32, 100, 97, 121, 32, 97, 103, 97, 105, 110] : List Nat).getD i 0
theorem SG_T : SG 35 chT 0 wLT = true := by decide +kernel
theorem chT_lt : ∀ i : Nat, i < 35 → chT i < 128 := by decide +kernel
theorem sln_5 : sln 2000005 = some (Int32.ofNat 35) := by decide +kernel
theorem sat_5 : ∀ i : Nat, i < 35 → sat 2000005 (Int32.ofNat i) = some (Int32.ofNat (chT i)) := by decide +kernel
theorem xw_5 {B : Nat → Nat} {n : Nat} {J : MJ} {q : Nat} (h : cR B n J q) : ∃ J', f_tap_word45 2000005 J = some (oI (wIx wLT (wdW B n q)), J') ∧ fr1 J J' ∧ ((∃ k, wIx wLT (wdW B n q) = some k ∧ cR B n J' (sk B n (wdE B n q)) ∧ J' 1 4 = Int32.ofNat q) ∨ (wIx wLT (wdW B n q) = none ∧ cX J' 1 q)) := x_word sln_5 sat_5 chT_lt (by decide) SG_T h
