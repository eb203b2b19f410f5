/-! texts: states of reading, numbers, signs -/
/-- the class reads soundly, the next place that is no blank being q; it has met a fault -/
def cR (B : Nat → Nat) (n : Nat) (J : MJ) (q : Nat) : Prop := cE B n J ∧ J 1 5 = 0 ∧ J 1 6 = -1 ∧ ∃ p, p ≤ n ∧ J 1 2 = Int32.ofNat p ∧ sk B n p = q
def cX (J : MJ) (k w : Nat) : Prop := (1 ≤ k ∧ k ≤ 4) ∧ J 1 5 = Int32.ofNat k ∧ J 1 6 = Int32.ofNat w
def mR (B : Nat → Nat) (n : Nat) (J : MJ) (q : Nat) : Prop := mE B n J ∧ J 47 5 = 0 ∧ J 47 6 = -1 ∧ ∃ p, p ≤ n ∧ J 47 4 = Int32.ofNat p ∧ sk B n p = q
def mX (B : Nat → Nat) (n : Nat) (J : MJ) (k w : Nat) : Prop := (1 ≤ k ∧ k ≤ 4) ∧ J 47 5 = Int32.ofNat k ∧ J 47 6 = Int32.ofNat w ∧ mE B n J ∧ ∃ p, p ≤ n ∧ J 47 4 = Int32.ofNat p
/-- only the tape's places have changed -/
def fr1 (I J : MJ) : Prop := ∀ a k, ¬ (a = 1 ∧ (k = 2 ∨ k = 4 ∨ k = 5 ∨ k = 6)) → J a k = I a k
def fr47 (I J : MJ) : Prop := ∀ a k, ¬ (a = 47 ∧ (k = 4 ∨ k = 5 ∨ k = 6)) → J a k = I a k
theorem fr1_rf {I : MJ} : fr1 I I := fun _ _ _ => rfl
theorem fr1_tr {I J K : MJ} (h1 : fr1 I J) (h2 : fr1 J K) : fr1 I K := fun a k h => (h2 a k h).trans (h1 a k h)
theorem fr1_up {I J : MJ} {k : Nat} {x : Int32} (h : fr1 I J) (hk : k = 2 ∨ k = 4 ∨ k = 5 ∨ k = 6) : fr1 I (ab_up1 J 1 k x) := fun b j hj => (up_ne (fun e => hj ⟨e.1, by have := e.2; omega⟩)).trans (h b j hj)
theorem fr47_rf {I : MJ} : fr47 I I := fun _ _ _ => rfl
theorem fr47_tr {I J K : MJ} (h1 : fr47 I J) (h2 : fr47 J K) : fr47 I K := fun a k h => (h2 a k h).trans (h1 a k h)
theorem fr47_up {I J : MJ} {k : Nat} {x : Int32} (h : fr47 I J) (hk : k = 4 ∨ k = 5 ∨ k = 6) : fr47 I (ab_up1 J 47 k x) := fun b j hj => (up_ne (fun e => hj ⟨e.1, by have := e.2; omega⟩)).trans (h b j hj)
theorem cE_fr {B : Nat → Nat} {n : Nat} {I J : MJ} (h : cE B n I) (f : fr1 I J) : cE B n J := cE_c h (f 1 3 (by omega)) (fun k => f 2 k (by omega))
theorem mE_fr {B : Nat → Nat} {n : Nat} {I J : MJ} (h : mE B n I) (f : fr47 I J) : mE B n J := mE_c h (f 47 2 (by omega)) (fun k => f 48 k (by omega))
theorem cX_ne {J : MJ} {k w : Nat} (h : cX J k w) : ¬ J 1 5 = 0 := by
  rw [h.2.1]
  exact neq_l (b := 0) (by have := h.1; omega) (by have := h.1; omega) (by decide)
theorem mX_ne {B : Nat → Nat} {n : Nat} {J : MJ} {k w : Nat} (h : mX B n J k w) : ¬ J 47 5 = 0 := by
  rw [h.2.1]
  exact neq_l (b := 0) (by have := h.1; omega) (by have := h.1; omega) (by decide)
/-- the number at a place -/
def vlN (cap : Nat) (B : Nat → Nat) (q : Nat) : Nat → Nat
  | 0 => 0
  | m + 1 => min cap (10 * vlN cap B q m + (B (q + m) - 48))
theorem vlN_step {cap : Nat} {B : Nat → Nat} {q m : Nat} : vlN cap B q (m + 1) = min cap (10 * vlN cap B q m + (B (q + m) - 48)) := rfl
def nmE (B : Nat → Nat) (n q : Nat) : Nat := scn (dgP B) n q
def nmV (B : Nat → Nat) (n q : Nat) : Nat := vlN 1000000 B q (nmE B n q - q)
/-- 0: a number lo .. m - 1 stands there; 1: none does; 2: another -/
def nmO (B : Nat → Nat) (n q lo m : Nat) : Nat := if ¬ (q < n ∧ dgP B q = true) then 1 else if lo ≤ nmV B n q ∧ nmV B n q < m then 0 else 2
theorem vl_le {cap : Nat} {B : Nat → Nat} {q : Nat} : ∀ m, vlN cap B q m ≤ cap
  | 0 => Nat.zero_le _
  | m + 1 => Nat.min_le_left _ _
theorem vl_caps {B : Nat → Nat} {q : Nat} : ∀ m, vlN 100000 B q m = min 100000 (vlN 1000000 B q m)
  | 0 => rfl
  | m + 1 => by
    have ih := vl_caps (B := B) (q := q) m
    unfold vlN
    rw [ih]
    omega
theorem nmO_le {B : Nat → Nat} {n q lo m : Nat} : nmO B n q lo m ≤ 2 := by
  unfold nmO
  split
  · omega
  · split <;> omega
theorem nr0 {J : MJ} : (some (vp_nar .boolean ((0 : Int32), J).1, ((0 : Int32), J).2) : Option (Int32 × MJ)) = some (0, J) := by
  show some (vp_nar .boolean 0, J) = _
  rw [nar_0]
theorem nr1 {J : MJ} : (some (vp_nar .boolean ((1 : Int32), J).1, ((1 : Int32), J).2) : Option (Int32 × MJ)) = some (1, J) := by
  show some (vp_nar .boolean 1, J) = _
  rw [nar_1]
section READ
variable {B : Nat → Nat} {n : Nat} {J : MJ} {q : Nat}
theorem x_fail_f {a b : Int32} (h : ¬ J 1 5 = 0) : f_tap_fail50 a b J = some J := by
  unfold f_tap_fail50
  rw [if_neg h, ob_some]
theorem x_fail_s {k w : Nat} (hk : 1 ≤ k ∧ k ≤ 4) (h : J 1 5 = 0) : ∃ J', f_tap_fail50 (Int32.ofNat k) (Int32.ofNat w) J = some J' ∧ cX J' k w ∧ fr1 J J' := by
  unfold f_tap_fail50
  rw [if_pos h, ob_some]
  exact ⟨_, rfl, ⟨hk, by rw [up_ne (by omega), up_eq], up_eq⟩, fr1_up (fr1_up fr1_rf (by omega)) (by omega)⟩
theorem x_number_f {lo hi : Int32} (h : ¬ J 1 5 = 0) : f_tap_number53 lo hi J = some (lo, J) := by
  unfold f_tap_number53
  rw [if_neg h]
theorem x_sign_f {c : Int32} (h : ¬ J 1 5 = 0) : f_tap_sign58 c J = some J := by
  unfold f_tap_sign58
  rw [if_neg h]
theorem x_word_f {p : Nat} (h : ¬ J 1 5 = 0) : f_tap_word45 p J = some (-1, J) := by
  unfold f_tap_word45
  rw [if_neg h]
theorem x_more_f (h : ¬ J 1 5 = 0) : f_tap_hasMore42 J = some (0, J) := by
  unfold f_tap_hasMore42
  rw [if_neg h, ob_some]
  exact nr0
theorem x_isNext_f {c : Int32} (h : ¬ J 1 5 = 0) : f_tap_isNext73 c J = some (0, J) := by
  unfold f_tap_isNext73
  rw [if_neg h, ob_some]
  exact nr0
theorem x_isNum_f (h : ¬ J 1 5 = 0) : f_tap_isNumberNext74 J = some (0, J) := by
  unfold f_tap_isNumberNext74
  rw [if_neg h, ob_some]
  exact nr0
theorem x_sound : f_tap_isSound59 J = some (if J 1 5 = 0 then 1 else 0) := by
  unfold f_tap_isSound59
  rw [o_ite, ob_some, nar_ite, nar_1, nar_0]
theorem m_wrong_f {a b : Int32} (h : ¬ J 47 5 = 0) : f_m_wrong278 a b J = some J := by
  unfold f_m_wrong278
  rw [if_neg h, ob_some]
theorem m_wrong_s {k w p : Nat} (hk : 1 ≤ k ∧ k ≤ 4) (h : J 47 5 = 0) (he : mE B n J) (hp : p ≤ n) (e : J 47 4 = Int32.ofNat p) : ∃ J', f_m_wrong278 (Int32.ofNat k) (Int32.ofNat w) J = some J' ∧ mX B n J' k w ∧ fr47 J J' := by
  unfold f_m_wrong278
  rw [if_pos h, ob_some]
  have hf : fr47 J (ab_up1 (ab_up1 J 47 5 (Int32.ofNat k)) 47 6 (Int32.ofNat w)) := fr47_up (fr47_up fr47_rf (by omega)) (by omega)
  exact ⟨_, rfl, ⟨hk, by rw [up_ne (by omega), up_eq], up_eq, mE_fr he hf, p, hp, by rw [up_ne (by omega), up_ne (by omega)]; exact e⟩, hf⟩
theorem m_number_f {lo hi : Int32} (h : ¬ J 47 5 = 0) : f_m_number283 lo hi J = some (0, J) := by
  unfold f_m_number283
  rw [if_neg h]
theorem m_sign_f {c : Int32} (h : ¬ J 47 5 = 0) : f_m_sign285 c J = some J := by
  unfold f_m_sign285
  rw [if_neg h]
theorem m_takesSign_f {c : Int32} (h : ¬ J 47 5 = 0) : f_m_takesSign298 c J = some (0, J) := by
  unfold f_m_takesSign298
  rw [if_neg h]
theorem m_isWord_f {a b c d e f : Int32} (h : ¬ J 47 5 = 0) : f_m_isWord274 a b c d e f J = some (0, J) := by
  unfold f_m_isWord274
  rw [if_neg h, ob_some]
  exact nr0
theorem m_takes_f {a b c d e f : Int32} (h : ¬ J 47 5 = 0) : f_m_takes282 a b c d e f J = some (0, J) := by
  unfold f_m_takes282
  rw [m_isWord_f h, ob_some]
  exact nr0
theorem cR_next (h : cR B n J q) : q ≤ n ∧ sk B n q = q ∧ f_tap_next43 J = some (byt B n q, ab_up1 J 1 2 (Int32.ofNat q)) ∧ cR B n (ab_up1 J 1 2 (Int32.ofNat q)) q ∧ ¬ (q < n ∧ B q = 32) := by
  obtain ⟨h1, h2, h3, p, hp, e, rfl⟩ := h
  obtain ⟨o1, o2, o3, o4⟩ := scn_ok (P := bkP B) hp
  have hs : sk B n (sk B n p) = sk B n p := scn_end hp
  exact ⟨o2, hs, x_next h1 hp e, ⟨cE_up h1 (by decide) (by decide), by rw [up_ne (by omega)]; exact h2, by rw [up_ne (by omega)]; exact h3, sk B n p, o2, up_eq, hs⟩, fun z => o3 ⟨z.1, decide_eq_true z.2⟩⟩
theorem mR_blanks (h : mR B n J q) : q ≤ n ∧ sk B n q = q ∧ f_m_blanks270 J = some (ab_up1 J 47 4 (Int32.ofNat q)) ∧ mR B n (ab_up1 J 47 4 (Int32.ofNat q)) q := by
  obtain ⟨h1, h2, h3, p, hp, e, rfl⟩ := h
  obtain ⟨o1, o2, o3, o4⟩ := scn_ok (P := bkP B) hp
  have hs : sk B n (sk B n p) = sk B n p := scn_end hp
  exact ⟨o2, hs, m_blanks h1 hp e, ⟨mE_up h1 (by decide) (by decide), by rw [up_ne (by omega)]; exact h2, by rw [up_ne (by omega)]; exact h3, sk B n p, o2, up_eq, hs⟩⟩
theorem mX_blanks {k w : Nat} (h : mX B n J k w) : ∃ J', f_m_blanks270 J = some J' ∧ mX B n J' k w ∧ fr47 J J' := by
  obtain ⟨h1, h2, h3, h4, p, hp, e⟩ := h
  obtain ⟨o1, o2, o3, o4⟩ := scn_ok (P := bkP B) hp
  have hf : fr47 J (ab_up1 J 47 4 (Int32.ofNat (sk B n p))) := fr47_up fr47_rf (by omega)
  exact ⟨_, m_blanks h4 hp e, ⟨h1, by rw [up_ne (by omega)]; exact h2, by rw [up_ne (by omega)]; exact h3, mE_fr h4 hf, _, o2, up_eq⟩, hf⟩
/-- is there more? -/
theorem x_more (h : cR B n J q) : ∃ J', f_tap_hasMore42 J = some (if q < n then 1 else 0, J') ∧ cR B n J' q ∧ fr1 J J' ∧ J' 1 4 = J 1 4 := by
  obtain ⟨h1, h2, h3, h4, h5⟩ := cR_next h
  unfold f_tap_hasMore42
  rw [if_pos h.2.1, h3, ob_some]
  refine ⟨_, ?_, h4, fr1_up fr1_rf (by omega), up_ne (by omega)⟩
  try dsimp only
  unfold byt
  by_cases hq : q < n
  · have := (h.1.2.2 q hq).1
    rw [if_pos hq, if_pos hq, if_neg (by rw [i_neg1 (by omega)]; exact id), ob_some]
    exact nr1
  · rw [if_neg hq, if_neg hq, if_pos rfl, ob_some]
    exact nr0
theorem x_isNext {c : Nat} (hc : c < 128) (h : cR B n J q) : ∃ J', f_tap_isNext73 (Int32.ofNat c) J = some (if q < n ∧ B q = c then 1 else 0, J') ∧ cR B n J' q ∧ fr1 J J' ∧ J' 1 4 = J 1 4 := by
  obtain ⟨h1, h2, h3, h4, h5⟩ := cR_next h
  have hb := byt_eq (B := B) (n := n) (k := q) (c := c) (fun hk => (h.1.2.2 _ hk).1) hc
  unfold f_tap_isNext73
  rw [if_pos h.2.1, h3, ob_some]
  refine ⟨_, ?_, h4, fr1_up fr1_rf (by omega), up_ne (by omega)⟩
  try dsimp only
  by_cases hq : q < n ∧ B q = c
  · rw [if_pos (hb.mpr hq), if_pos hq, ob_some]
    exact nr1
  · rw [if_neg (fun z => hq (hb.mp z)), if_neg hq, ob_some]
    exact nr0
theorem x_isNum (h : cR B n J q) : ∃ J', f_tap_isNumberNext74 J = some (if q < n ∧ dgP B q = true then 1 else 0, J') ∧ cR B n J' q ∧ fr1 J J' ∧ J' 1 4 = J 1 4 := by
  obtain ⟨h1, h2, h3, h4, h5⟩ := cR_next h
  unfold f_tap_isNumberNext74
  rw [if_pos h.2.1, h3, ob_some]
  refine ⟨_, ?_, h4, fr1_up fr1_rf (by omega), up_ne (by omega)⟩
  try dsimp only
  unfold byt
  by_cases hq : q < n
  · rw [if_pos hq, x_isDigit (h.1.2.2 q hq).1, ob_some]
    by_cases hd : dgP B q = true
    · rw [if_pos (show decide (48 ≤ B q ∧ B q ≤ 57) = true from hd), if_neg (by decide), ob_some, if_pos ⟨hq, hd⟩]
      exact nr1
    · rw [if_neg (show ¬ decide (48 ≤ B q ∧ B q ≤ 57) = true from hd), if_pos rfl, ob_some, if_neg (fun z => hd z.2)]
      exact nr0
  · rw [if_neg hq, if_neg (fun z => hq z.1), show f_tap_isDigit54 (-1) (ab_up1 J 1 2 (Int32.ofNat q)) = some 0 from rfl, ob_some, if_pos rfl, ob_some]
    exact nr0
theorem x_sign {c : Nat} (hc : c < 128) (h : cR B n J q) : ∃ J', f_tap_sign58 (Int32.ofNat c) J = some J' ∧ fr1 J J' ∧ ((q < n ∧ B q = c ∧ cR B n J' (sk B n (q + 1))) ∨ (¬ (q < n ∧ B q = c) ∧ cX J' 1 q)) := by
  obtain ⟨h1, h2, h3, h4, h5⟩ := cR_next h
  have hb := byt_eq (B := B) (n := n) (k := q) (c := c) (fun hk => (h.1.2.2 _ hk).1) hc
  unfold f_tap_sign58
  rw [if_pos h.2.1, h3, ob_some]
  try dsimp only
  by_cases hq : q < n ∧ B q = c
  · rw [if_pos (hb.mpr hq), ob_some, if_neg (by decide), ob_some]
    refine ⟨_, rfl, fr1_up (fr1_up (fr1_up fr1_rf (by omega)) (by omega)) (by omega), Or.inl ⟨hq.1, hq.2, ?_⟩⟩
    obtain ⟨c1, c2, c3, c4⟩ := h4
    exact ⟨cE_up (cE_up c1 (by decide) (by decide)) (by decide) (by decide), by rw [up_ne (by omega), up_ne (by omega)]; exact c2, by rw [up_ne (by omega), up_ne (by omega)]; exact c3, q + 1, hq.1, by rw [up_eq, up_eq]; exact i_addr, rfl⟩
  · rw [if_neg (fun z => hq (hb.mp z)), ob_some, if_pos rfl]
    obtain ⟨J', j1, j2, j3⟩ := x_fail_s (k := 1) (w := q) (J := ab_up1 (ab_up1 J 1 2 (Int32.ofNat q)) 1 4 (ab_up1 J 1 2 (Int32.ofNat q) 1 2)) (by omega) (by rw [up_ne (by omega), up_ne (by omega)]; exact h.2.1)
    rw [up_eq] at j1
    rw [up_eq, show f_tap_fail50 (1 : Int32) (Int32.ofNat q) _ = _ from j1, ob_some, ob_some]
    exact ⟨J', rfl, fr1_tr (fr1_up (fr1_up fr1_rf (by omega)) (by omega)) j3, Or.inr ⟨hq, j2⟩⟩
theorem m_sign {c : Nat} (hc : c < 128) (h : mR B n J q) : ∃ J', f_m_sign285 (Int32.ofNat c) J = some J' ∧ fr47 J J' ∧ ((q < n ∧ B q = c ∧ mR B n J' (sk B n (q + 1))) ∨ (¬ (q < n ∧ B q = c) ∧ mX B n J' 1 q)) := by
  obtain ⟨h1, h2, h3, h4⟩ := mR_blanks h
  have hn := h.1.1
  have hb := byt_eq (B := B) (n := n) (k := q) (c := c) (fun hk => (h.1.2.2 _ hk).1) hc
  unfold f_m_sign285
  rw [if_pos h.2.1, h3, ob_some, up_eq, m_byteAt h4.1 (by omega), ob_some]
  by_cases hq : q < n ∧ B q = c
  · rw [if_pos (hb.mpr hq), ob_some, up_up]
    refine ⟨_, rfl, fr47_up fr47_rf (by omega), Or.inl ⟨hq.1, hq.2, ?_⟩⟩
    obtain ⟨c1, c2, c3, c4⟩ := h
    exact ⟨mE_up c1 (by decide) (by decide), by rw [up_ne (by omega)]; exact c2, by rw [up_ne (by omega)]; exact c3, q + 1, hq.1, by rw [up_eq]; exact i_addr, rfl⟩
  · rw [if_neg (fun z => hq (hb.mp z))]
    obtain ⟨J', j1, j2, j3⟩ := m_wrong_s (B := B) (n := n) (k := 1) (w := q) (p := q) (J := ab_up1 J 47 4 (Int32.ofNat q)) (by omega) h4.2.1 h4.1 h1 up_eq
    rw [show f_m_wrong278 (1 : Int32) (Int32.ofNat q) _ = _ from j1, ob_some, ob_some]
    exact ⟨J', rfl, fr47_tr (fr47_up fr47_rf (by omega)) j3, Or.inr ⟨hq, j2⟩⟩
theorem m_takesSign {c : Nat} (hc : c < 128) (h : mR B n J q) : ∃ J', f_m_takesSign298 (Int32.ofNat c) J = some (if q < n ∧ B q = c then 1 else 0, J') ∧ fr47 J J' ∧ mR B n J' (if q < n ∧ B q = c then sk B n (q + 1) else q) := by
  obtain ⟨h1, h2, h3, h4⟩ := mR_blanks h
  have hn := h.1.1
  have hb := byt_eq (B := B) (n := n) (k := q) (c := c) (fun hk => (h.1.2.2 _ hk).1) hc
  unfold f_m_takesSign298
  rw [if_pos h.2.1, h3, ob_some, up_eq, m_byteAt h4.1 (by omega), ob_some]
  by_cases hq : q < n ∧ B q = c
  · rw [if_pos (hb.mpr hq), ob_some, if_neg (by decide), ob_some, up_up, if_pos hq, if_pos hq]
    refine ⟨_, rfl, fr47_up fr47_rf (by omega), ?_⟩
    obtain ⟨c1, c2, c3, c4⟩ := h
    exact ⟨mE_up c1 (by decide) (by decide), by rw [up_ne (by omega)]; exact c2, by rw [up_ne (by omega)]; exact c3, q + 1, hq.1, by rw [up_eq]; exact i_addr, rfl⟩
  · rw [if_neg (fun z => hq (hb.mp z)), ob_some, if_pos rfl, ob_some, if_neg hq, if_neg hq]
    exact ⟨_, rfl, fr47_up fr47_rf (by omega), h4⟩
end READ
