/-! moths: what the law says of an hour, in the class and in the model -/
theorem bindl {β γ δ : Type} {e : Option β} {k : β → Option (γ ⊕ δ)} {R : γ → Prop} (h : ∃ b, e = some b ∧ ∃ t, k b = some (.inl t) ∧ R t) : ∃ t, Option.bind e k = some (.inl t) ∧ R t := by
  obtain ⟨b, h1, h2⟩ := h
  rw [h1]
  exact h2
theorem lt_l {a b : Nat} (h : a < b) (hb : b < 2147483648) : Int32.ofNat a < Int32.ofNat b := by
  rw [i_lt (by omega) hb]
  exact h
theorem nlt_l {a b : Nat} (h : ¬ a < b) (ha : a < 2147483648) (hb : b < 2147483648) : ¬ Int32.ofNat a < Int32.ofNat b := by
  rw [i_lt ha hb]
  exact h
theorem neq_l {a b : Nat} (h : ¬ a = b) (ha : a < 2147483648) (hb : b < 2147483648) : ¬ Int32.ofNat a = Int32.ofNat b := by
  rw [i_eq ha hb]
  exact h
theorem eq_l {a b : Nat} (h : a = b) : Int32.ofNat a = Int32.ofNat b := congrArg _ h
theorem i_divm1 (a : Int32) : a / (-1) = -a := by
  apply Int32.toInt_inj.mp
  rw [Int32.toInt_div, show (-1 : Int32).toInt = -1 from rfl, Int.tdiv_neg, Int.tdiv_one, Int32.toInt_neg]
theorem i_remm1 (a : Int32) : a - a / (-1) * (-1) = 0 := by
  rw [i_divm1]
  grind
theorem i_less (a b : Int32) : (if a < b then a else b) = (if b < a then b else a) := by
  by_cases h1 : a < b
  · by_cases h2 : b < a
    · rw [Int32.lt_iff_toInt_lt] at h1 h2
      omega
    · rw [if_pos h1, if_neg h2]
  · by_cases h2 : b < a
    · rw [if_neg h1, if_pos h2]
    · rw [if_neg h1, if_neg h2]
      rw [Int32.lt_iff_toInt_lt] at h1 h2
      exact Int32.toInt_inj.mp (by omega)
theorem i_more (a b : Int32) : (if b < a then a else b) = (if a < b then b else a) := by
  by_cases h1 : a < b
  · by_cases h2 : b < a
    · rw [Int32.lt_iff_toInt_lt] at h1 h2
      omega
    · rw [if_pos h1, if_neg h2]
  · by_cases h2 : b < a
    · rw [if_neg h1, if_pos h2]
    · rw [if_neg h1, if_neg h2]
      rw [Int32.lt_iff_toInt_lt] at h1 h2
      exact Int32.toInt_inj.mp (by omega)
theorem i_dec {a : Nat} (h : 1 ≤ a) : Int32.ofNat a + (-1 : Int32) = Int32.ofNat (a - 1) := by
  obtain ⟨b, rfl⟩ : ∃ b, a = b + 1 := ⟨a - 1, by omega⟩
  rw [show b + 1 - 1 = b by omega, Int32.ofNat_add]
  show Int32.ofNat b + 1 + -1 = _
  grind
theorem i_gem6 {n : Nat} (hn : n < 2147483648) : ¬ Int32.ofNat n < (-6 : Int32) := by
  rw [Int32.lt_iff_toInt_lt, Int32.toInt_ofNat_of_lt hn, show (-6 : Int32).toInt = -6 from rfl]
  omega
theorem i_fact : ∀ j : Nat, j < 6 → ¬ ((-1 : Int32) - Int32.ofNat j < (-6 : Int32)) ∧ ((-1 : Int32) - Int32.ofNat j < (0 : Int32)) ∧ (-1 : Int32) - ((-1 : Int32) - Int32.ofNat j) = Int32.ofNat j := by decide +kernel
/-- what a code does with the two that stand highest -/
def reF (how a b : Int32) : Int32 := if how = 2 then a + b else if how = 3 then a - b else if how = 4 then a * b else if how = 5 then (if b = 0 then 0 else a / b) else if how = 6 then (if b = 0 then 0 else a - a / b * b) else if how = 7 then (if b < a then b else a) else (if a < b then b else a)
theorem reF_2 {a b : Int32} : reF 2 a b = a + b := by
  unfold reF
  rw [if_pos rfl]
theorem reF_3 {a b : Int32} : reF 3 a b = a - b := by
  unfold reF
  rw [if_neg (by decide), if_pos rfl]
theorem reF_4 {a b : Int32} : reF 4 a b = a * b := by
  unfold reF
  rw [if_neg (by decide), if_neg (by decide), if_pos rfl]
theorem reF_5 {a b : Int32} : reF 5 a b = (if b = 0 then 0 else a / b) := by
  unfold reF
  rw [if_neg (by decide), if_neg (by decide), if_neg (by decide), if_pos rfl]
theorem reF_6 {a b : Int32} : reF 6 a b = (if b = 0 then 0 else a - a / b * b) := by
  unfold reF
  rw [if_neg (by decide), if_neg (by decide), if_neg (by decide), if_neg (by decide), if_pos rfl]
theorem reF_7 {a b : Int32} : reF 7 a b = (if b < a then b else a) := by
  unfold reF
  rw [if_neg (by decide), if_neg (by decide), if_neg (by decide), if_neg (by decide), if_neg (by decide), if_pos rfl]
theorem reF_8 {a b : Int32} : reF 8 a b = (if a < b then b else a) := by
  unfold reF
  rw [if_neg (by decide), if_neg (by decide), if_neg (by decide), if_neg (by decide), if_neg (by decide), if_neg (by decide)]
def codeO (c how : Int32) : Prop := (how = 2 ∧ c = -9) ∨ (how = 3 ∧ c = -10) ∨ (how = 4 ∧ c = -11) ∨ (how = 5 ∧ c = -12) ∨ (how = 6 ∧ c = -13) ∨ (how = 7 ∧ c = -7) ∨ (how = 8 ∧ c = -8)
theorem codeO_lt {c how : Int32} (h : codeO c how) : c < (-6 : Int32) ∧ ¬ how < (2 : Int32) ∧ ¬ (how = 0 ∨ how = 1) := by
  rcases h with ⟨rfl, rfl⟩ | ⟨rfl, rfl⟩ | ⟨rfl, rfl⟩ | ⟨rfl, rfl⟩ | ⟨rfl, rfl⟩ | ⟨rfl, rfl⟩ | ⟨rfl, rfl⟩ <;> decide
theorem x_reckon {I : MJ} {c how a b : Int32} (h : codeO c how) : f_mot_reckon135 c a b I = some (reF how a b) := by
  rcases h with ⟨rfl, rfl⟩ | ⟨rfl, rfl⟩ | ⟨rfl, rfl⟩ | ⟨rfl, rfl⟩ | ⟨rfl, rfl⟩ | ⟨rfl, rfl⟩ | ⟨rfl, rfl⟩
  · unfold f_mot_reckon135
    rw [if_neg (by decide), if_neg (by decide), if_neg (by decide), if_pos rfl, reF_2]
  · unfold f_mot_reckon135
    rw [if_neg (by decide), if_neg (by decide), if_pos rfl, reF_3]
  · unfold f_mot_reckon135
    rw [if_neg (by decide), if_pos rfl, reF_4]
  · unfold f_mot_reckon135
    rw [if_pos rfl, reF_5]
    by_cases hb : b = 0
    · rw [if_pos hb, if_pos hb]; rfl
    · unfold dv
      rw [if_neg hb, if_neg hb, if_neg hb]; rfl
  · unfold f_mot_reckon135
    rw [if_neg (by decide), if_neg (by decide), if_neg (by decide), if_neg (by decide), if_neg (by decide), if_neg (by decide), reF_6]
    by_cases hb : b = 0
    · rw [if_pos hb, if_pos hb]; rfl
    · unfold rmd
      rw [if_neg hb, if_neg hb, if_neg hb]; rfl
  · unfold f_mot_reckon135
    rw [if_neg (by decide), if_neg (by decide), if_neg (by decide), if_neg (by decide), if_neg (by decide), if_pos rfl, reF_7]
  · unfold f_mot_reckon135
    rw [if_neg (by decide), if_neg (by decide), if_neg (by decide), if_neg (by decide), if_pos rfl, reF_8]
theorem m_by {I : MJ} {c how a b : Int32} (h : codeO c how) : f_m_by318 how a b I = some (reF how a b) := by
  rcases h with ⟨rfl, -⟩ | ⟨rfl, -⟩ | ⟨rfl, -⟩ | ⟨rfl, -⟩ | ⟨rfl, -⟩ | ⟨rfl, -⟩ | ⟨rfl, -⟩
  · unfold f_m_by318
    rw [if_pos rfl, reF_2]
  · unfold f_m_by318
    rw [if_neg (by decide), if_pos rfl, reF_3]
  · unfold f_m_by318
    rw [if_neg (by decide), if_neg (by decide), if_pos rfl, reF_4]
  · unfold f_m_by318
    rw [if_neg (by decide), if_neg (by decide), if_neg (by decide), if_pos rfl, reF_5]
    by_cases hb : b = 0
    · rw [if_pos hb, if_pos hb]; rfl
    · by_cases h1 : b = -1
      · subst h1
        rw [if_neg hb, if_pos rfl, if_neg hb, i_divm1]; rfl
      · unfold dv
        rw [if_neg hb, if_neg h1, if_neg hb, if_neg hb]; rfl
  · unfold f_m_by318
    rw [if_neg (by decide), if_neg (by decide), if_neg (by decide), if_neg (by decide), if_pos rfl, reF_6]
    by_cases hb : b = 0
    · rw [if_pos hb, if_pos hb]; rfl
    · by_cases h1 : b = -1
      · subst h1
        rw [if_neg hb, if_pos rfl, if_neg hb, i_remm1]; rfl
      · unfold rmd
        rw [if_neg hb, if_neg h1, if_neg hb, if_neg hb]; rfl
  · unfold f_m_by318
    rw [if_neg (by decide), if_neg (by decide), if_neg (by decide), if_neg (by decide), if_neg (by decide), if_pos rfl, reF_7]
    unfold f_m_less319
    rw [o_ite, ob_some, ob_some, i_less]
  · unfold f_m_by318
    rw [if_neg (by decide), if_neg (by decide), if_neg (by decide), if_neg (by decide), if_neg (by decide), if_neg (by decide), reF_8]
    unfold f_m_more320
    rw [o_ite, ob_some, ob_some, i_more]
/-- what stands at j when k codes are reckoned -/
def lvS (hw vv F : Nat → Int32) (ht : Nat → Nat) : Nat → Nat → Int32
  | 0, _ => 0
  | k + 1, j => if hw k = 0 ∨ hw k = 1 then (if j = ht k then (if hw k = 0 then vv k else F (vv k).toNatClampNeg) else lvS hw vv F ht k j) else if j + 2 = ht k then reF (hw k) (lvS hw vv F ht k (ht k - 2)) (lvS hw vv F ht k (ht k - 1)) else lvS hw vv F ht k j
def lvV (ln : Nat) (ht : Nat → Nat) (hw vv F : Nat → Int32) : Int32 := if ln = 0 then 0 else lvS hw vv F ht ln 0
/-- a law as codes: heights, the class' codes, the model's -/
def lawP (ln : Nat) (ht : Nat → Nat) (cd hw vv : Nat → Int32) : Prop :=
  ln ≤ 150 ∧ (∀ k, k < ln → (hw k = 0 ∧ cd k = vv k ∧ ∃ n, n ≤ 999 ∧ vv k = Int32.ofNat n) ∨ (hw k = 1 ∧ ∃ j : Nat, j < 6 ∧ vv k = Int32.ofNat j ∧ cd k = -1 - Int32.ofNat j) ∨ codeO (cd k) (hw k)) ∧ ht 0 = 0 ∧ (∀ k, k < ln → if hw k = 0 ∨ hw k = 1 then ht (k + 1) = ht k + 1 else 2 ≤ ht k ∧ ht (k + 1) + 1 = ht k) ∧ (0 < ln → ht ln = 1) ∧ (∀ k, k ≤ ln → ht k ≤ 60)
theorem lawP_of {ln : Nat} {ht : Nat → Nat} {I : MJ} (h : rLaw ln ht I) : lawP ln ht (I 24) (fun k => I (146 + k) 0) (fun k => I (146 + k) 1) := by
  obtain ⟨h1, h2, h3, h4, h5, h6, h7, h8⟩ := h
  exact ⟨h1, h4, h5, h6, h7, h8⟩
section VALUE
variable {I : MJ} {ln : Nat} {ht : Nat → Nat} {cd hw vv F : Nat → Int32}
theorem x_value (hp : lawP ln ht cd hw vv) (e : I 23 4 = Int32.ofNat ln) (hc : ∀ k, k < ln → I 24 k = cd k) (hF : ∀ j, j < 6 → I 27 j = F j) : ∃ c : Int32 × MJ, f_mot_value134 I = some c ∧ c.1 = lvV ln ht hw vv F ∧ ∀ a k, a ≠ 26 → c.2 a k = I a k := by
  obtain ⟨p1, p2, p3, p5, p6, p7⟩ := hp
  unfold f_mot_value134
  refine bindx (wh_inv (fun k s => ∃ J : MJ, s = (Int32.ofNat (ht k), Int32.ofNat k, J) ∧ (∀ j, j < ht k → J 26 j = lvS hw vv F ht k j) ∧ ∀ a k, a ≠ 26 → J a k = I a k) _ ln ?_ ?_ ⟨I, Prod.ext (congrArg Int32.ofNat p3).symm rfl, fun j hj => by omega, fun _ _ _ => rfl⟩)
  · intro k hk s hs
    obtain ⟨J, rfl, h26, hJ⟩ := hs
    have e' : J 23 4 = Int32.ofNat ln := (hJ 23 4 (by decide)).trans e
    have h60 := p7 k (by omega)
    have h5 := p5 k hk
    dsimp only
    rw [if_pos (by rw [e', i_lt (by omega) (by omega)]; exact hk), at_24 (by omega), ob_some, hJ 24 k (by decide), hc k hk]
    rcases p2 k hk with ⟨h0, h1, n, hn, hv⟩ | ⟨h0, j, hj, hv, hcd⟩ | hO
    · rw [if_pos (Or.inl h0)] at h5
      rw [if_neg (by rw [h1, hv]; exact i_gem6 (by omega)), if_neg (by rw [h1, hv, i_lt0 (by omega)]; exact id), ob_some, put_26 (by omega), ob_some, ob_some]
      refine ⟨_, rfl, ab_up1 J 26 (ht k) (cd k), ?_, ?_, ?_⟩
      · rw [h5]
        exact Prod.ext i_addr (Prod.ext i_addr rfl)
      · intro i hi
        rw [h5] at hi
        unfold lvS
        rw [if_pos (Or.inl h0)]
        by_cases hik : i = ht k
        · rw [if_pos hik, if_pos h0, hik, up_eq, h1]
        · rw [if_neg hik, up_ne (by omega), h26 i (by omega)]
      · intro a i ha
        rw [up_ne (by omega), hJ a i ha]
    · rw [if_pos (Or.inr h0)] at h5
      obtain ⟨f1, f2, f3⟩ := i_fact j hj
      rw [hcd, if_neg f1, if_pos f2, f3, at_27 (by omega), ob_some, ob_some, put_26 (by omega), ob_some, ob_some]
      refine ⟨_, rfl, ab_up1 J 26 (ht k) (J 27 j), ?_, ?_, ?_⟩
      · rw [h5]
        exact Prod.ext i_addr (Prod.ext i_addr rfl)
      · intro i hi
        rw [h5] at hi
        unfold lvS
        rw [if_pos (Or.inr h0)]
        by_cases hik : i = ht k
        · rw [if_pos hik, if_neg (by rw [h0]; decide), hik, up_eq, hv, i_clamp (by omega), hJ 27 j (by decide), hF j hj]
        · rw [if_neg hik, up_ne (by omega), h26 i (by omega)]
      · intro a i ha
        rw [up_ne (by omega), hJ a i ha]
    · obtain ⟨c1, c2, c3⟩ := codeO_lt hO
      rw [if_neg c3] at h5
      obtain ⟨g1, g2⟩ := h5
      rw [if_pos c1, i_dec (by omega), show Int32.ofNat (ht k - 1) - (1 : Int32) = Int32.ofNat (ht k - 1 - 1) from i_sub (b := 1) (by omega), at_26 (by omega), ob_some, at_26 (by omega), ob_some, x_reckon hO, ob_some, put_26 (by omega), ob_some, ob_some]
      refine ⟨_, rfl, ab_up1 J 26 (ht k - 1 - 1) (reF (hw k) (J 26 (ht k - 1 - 1)) (J 26 (ht k - 1))), ?_, ?_, ?_⟩
      · rw [show ht (k + 1) = ht k - 1 by omega]
        exact Prod.ext rfl (Prod.ext i_addr rfl)
      · intro i hi
        unfold lvS
        rw [if_neg c3]
        by_cases hik : i + 2 = ht k
        · rw [if_pos hik, show i = ht k - 1 - 1 by omega, up_eq, h26 _ (by omega), h26 _ (by omega), show ht k - 1 - 1 = ht k - 2 by omega]
        · rw [if_neg hik, up_ne (by omega), h26 i (by omega)]
      · intro a i ha
        rw [up_ne (by omega), hJ a i ha]
  · intro s hs
    obtain ⟨J, rfl, h26, hJ⟩ := hs
    have e' : J 23 4 = Int32.ofNat ln := (hJ 23 4 (by decide)).trans e
    dsimp only
    rw [if_neg (by rw [e']; exact Int32.lt_irrefl)]
    refine ⟨_, rfl, ?_⟩
    dsimp only
    by_cases h0 : ln = 0
    · subst h0
      rw [p3, if_neg (by decide), ob_some]
      exact ⟨_, rfl, (if_pos rfl).symm, hJ⟩
    · have h1 := p6 (by omega)
      have h2 := h26 0 (by omega)
      rw [h1, if_pos (by decide), show f_x_at16 26 (Int32.ofNat 1 - 1) J = some (J 26 0) from at_26 (k := 0) (by decide), ob_some, ob_some, h2]
      exact ⟨_, rfl, (if_neg h0).symm, hJ⟩
theorem m_byLaw (hp : lawP ln ht cd hw vv) (e : I 47 25 = Int32.ofNat ln) (hc : ∀ k, k < ln → I (146 + k) 0 = hw k ∧ I (146 + k) 1 = vv k) (hF : ∀ j, j < 6 → I 494 j = F j) : ∃ c : Int32 × MJ, f_m_byLaw317 I = some c ∧ c.1 = lvV ln ht hw vv F ∧ ∀ a k, a ≠ 493 → c.2 a k = I a k := by
  obtain ⟨p1, p2, p3, p5, p6, p7⟩ := hp
  unfold f_m_byLaw317
  by_cases h0 : ln = 0
  · subst h0
    rw [if_pos (by rw [e]; rfl)]
    exact ⟨_, rfl, (if_pos rfl).symm, fun _ _ _ => rfl⟩
  rw [if_neg (by rw [e, show (0 : Int32) = Int32.ofNat 0 from rfl, i_eq (by omega) (by omega)]; exact h0)]
  refine bindx (wh_inv (fun k s => ∃ J : MJ, s = (Int32.ofNat (ht k), Int32.ofNat k, J) ∧ (∀ j, j < ht k → J 493 j = lvS hw vv F ht k j) ∧ ∀ a k, a ≠ 493 → J a k = I a k) _ ln ?_ ?_ ⟨I, Prod.ext (congrArg Int32.ofNat p3).symm rfl, fun j hj => by omega, fun _ _ _ => rfl⟩)
  · intro k hk s hs
    obtain ⟨J, rfl, h26, hJ⟩ := hs
    have e' : J 47 25 = Int32.ofNat ln := (hJ 47 25 (by decide)).trans e
    have h60 := p7 k (by omega)
    have h5 := p5 k hk
    have r0 : rd J (146 + k) 0 = some (hw k) := by rw [show rd J (146 + k) 0 = some (J (146 + k) 0) from rdr_145 (w := k) (k := 0) (by omega) (by decide), hJ _ _ (by omega), (hc k hk).1]
    have r1 : rd J (146 + k) 1 = some (vv k) := by rw [show rd J (146 + k) 1 = some (J (146 + k) 1) from rdr_145 (w := k) (k := 1) (by omega) (by decide), hJ _ _ (by omega), (hc k hk).2]
    dsimp only
    rw [if_pos (by rw [e', i_lt (by omega) (by omega)]; exact hk), rdp_145 (by omega), ob_some, r0, ob_some]
    rcases p2 k hk with ⟨h0, h1, n, hn, hv⟩ | ⟨h0, j, hj, hv, hcd⟩ | hO
    · rw [if_pos (Or.inl h0)] at h5
      rw [if_pos (by rw [h0]; decide), ob_some, r0, ob_some, if_pos h0, ob_some, r1, ob_some, ob_some, wr_493 (by omega), ob_some, ob_some]
      refine ⟨_, rfl, ab_up1 J 493 (ht k) (vv k), ?_, ?_, ?_⟩
      · rw [h5]
        exact Prod.ext i_addr (Prod.ext i_addr rfl)
      · intro i hi
        rw [h5] at hi
        unfold lvS
        rw [if_pos (Or.inl h0)]
        by_cases hik : i = ht k
        · rw [if_pos hik, if_pos h0, hik, up_eq]
        · rw [if_neg hik, up_ne (by omega), h26 i (by omega)]
      · intro a i ha
        rw [up_ne (by omega), hJ a i ha]
    · rw [if_pos (Or.inr h0)] at h5
      rw [if_pos (by rw [h0]; decide), ob_some, r0, ob_some, if_neg (by rw [h0]; decide), ob_some, r1, ob_some, hv, rd_494 (by omega), ob_some, ob_some, wr_493 (by omega), ob_some, ob_some]
      refine ⟨_, rfl, ab_up1 J 493 (ht k) (J 494 j), ?_, ?_, ?_⟩
      · rw [h5]
        exact Prod.ext i_addr (Prod.ext i_addr rfl)
      · intro i hi
        rw [h5] at hi
        unfold lvS
        rw [if_pos (Or.inr h0)]
        by_cases hik : i = ht k
        · rw [if_pos hik, if_neg (by rw [h0]; decide), hik, up_eq, hv, i_clamp (by omega), hJ 494 j (by decide), hF j hj]
        · rw [if_neg hik, up_ne (by omega), h26 i (by omega)]
      · intro a i ha
        rw [up_ne (by omega), hJ a i ha]
    · obtain ⟨c1, c2, c3⟩ := codeO_lt hO
      rw [if_neg c3] at h5
      obtain ⟨g1, g2⟩ := h5
      rw [if_neg c2, ob_some, r0, ob_some, i_dec (by omega), show Int32.ofNat (ht k - 1) - (1 : Int32) = Int32.ofNat (ht k - 1 - 1) from i_sub (b := 1) (by omega), rd_493 (by omega), ob_some, rd_493 (by omega), ob_some, m_by hO, ob_some, wr_493 (by omega), ob_some, ob_some]
      refine ⟨_, rfl, ab_up1 J 493 (ht k - 1 - 1) (reF (hw k) (J 493 (ht k - 1 - 1)) (J 493 (ht k - 1))), ?_, ?_, ?_⟩
      · rw [show ht (k + 1) = ht k - 1 by omega]
        exact Prod.ext rfl (Prod.ext i_addr rfl)
      · intro i hi
        unfold lvS
        rw [if_neg c3]
        by_cases hik : i + 2 = ht k
        · rw [if_pos hik, show i = ht k - 1 - 1 by omega, up_eq, h26 _ (by omega), h26 _ (by omega), show ht k - 1 - 1 = ht k - 2 by omega]
        · rw [if_neg hik, up_ne (by omega), h26 i (by omega)]
      · intro a i ha
        rw [up_ne (by omega), hJ a i ha]
  · intro s hs
    obtain ⟨J, rfl, h26, hJ⟩ := hs
    have e' : J 47 25 = Int32.ofNat ln := (hJ 47 25 (by decide)).trans e
    dsimp only
    rw [if_neg (by rw [e']; exact Int32.lt_irrefl)]
    have h1 := p6 (by omega)
    exact ⟨_, rfl, _, rfl, (h26 0 (by omega)).trans (if_neg h0).symm, hJ⟩
end VALUE
