/-! texts: words, as the model knows them -/
def cdF (x : Nat → Nat) : Nat → Nat
  | 0 => 0
  | m + 1 => 27 * cdF x m + (x m - 96)
theorem cdF_step {x : Nat → Nat} {m : Nat} : cdF x (m + 1) = 27 * cdF x m + (x m - 96) := rfl
theorem cd_lt {x : Nat → Nat} : ∀ m, (∀ i, i < m → x i ≤ 122) → cdF x m < 27 ^ m
  | 0, _ => Nat.one_pos
  | m + 1, h => by
    have ih := cd_lt (x := x) m (fun i hi => h i (by omega))
    have h1 := h m (by omega)
    rw [cdF_step, Nat.pow_succ]
    omega
theorem cd_inj {x y : Nat → Nat} : ∀ m k, (∀ i, i < m → 97 ≤ x i ∧ x i ≤ 122) → (∀ i, i < k → 97 ≤ y i ∧ y i ≤ 122) → cdF x m = cdF y k → m = k ∧ ∀ i, i < m → x i = y i
  | 0, 0, _, _, _ => ⟨rfl, fun i hi => absurd hi (Nat.not_lt_zero i)⟩
  | 0, k + 1, _, hy, h => by
    have := hy k (by omega)
    rw [cdF_step] at h
    have h0 : cdF x 0 = 0 := rfl
    omega
  | m + 1, 0, hx, _, h => by
    have := hx m (by omega)
    rw [cdF_step] at h
    have h0 : cdF y 0 = 0 := rfl
    omega
  | m + 1, k + 1, hx, hy, h => by
    have h1 := hx m (by omega)
    have h2 := hy k (by omega)
    rw [cdF_step, cdF_step] at h
    obtain ⟨e1, e2⟩ := cd_inj m k (fun i hi => hx i (by omega)) (fun i hi => hy i (by omega)) (by omega)
    refine ⟨by omega, fun i hi => ?_⟩
    by_cases e : i = m
    · subst e
      subst e1
      omega
    · exact e2 i (by omega)
theorem p27 : ∀ m : Nat, m < 7 → 27 ^ m ≤ 387420489 := by decide
/-- a word of letters, six at most -/
def okW (l : List Nat) : Prop := l.length ≤ 6 ∧ ∀ i, i < l.length → 97 ≤ l.getD i 0 ∧ l.getD i 0 ≤ 122
theorem wh_scn2 {P : Nat → Bool} {n p : Nat} {σ β : Type} {f : σ → Option (σ ⊕ β)} (g : Nat → σ) (b : Nat → β) {s : σ} (hs : s = g p) (hp : p ≤ n) (hy : ∀ k, p ≤ k → k < n → P k = true → (∀ j, p ≤ j → j < k → P j = true) → f (g k) = some (.inl (g (k + 1)))) (hn : ∀ k, p ≤ k → k ≤ n → ¬ (k < n ∧ P k = true) → f (g k) = some (.inr (b k))) : wh f s = some (b (scn P n p)) := by
  have key : ∀ m k, p ≤ k → k ≤ n → n - k = m → (∀ j, p ≤ j → j < k → P j = true) → wh f (g k) = some (b (scn P n k)) := by
    intro m
    induction m with
    | zero =>
      intro k h0 h1 hm _
      rw [scn_no (by omega)]
      exact wh_inr (hn k h0 h1 (by omega))
    | succ m ih =>
      intro k h0 h1 hm ha
      by_cases h : P k = true
      · rw [wh_inl (hy k h0 (by omega) h ha), scn_yes (by omega) h]
        refine ih (k + 1) (by omega) (by omega) (by omega) fun j j1 j2 => ?_
        by_cases e : j = k
        · rw [e]; exact h
        · exact ha j j1 (by omega)
      · rw [scn_no (fun z => h z.2)]
        exact wh_inr (hn k h0 h1 (fun z => h z.2))
  rw [hs]
  exact key (n - p) p (Nat.le_refl _) hp rfl (fun j j1 j2 => by omega)
section WORDM
variable {B : Nat → Nat} {n : Nat} {J : MJ} {q : Nat}
theorem m_wordHere (h : mR B n J q) : f_m_wordHere275 J = some (if 6 < wdE B n q - q then -1 else Int32.ofNat (cdF (fun i => B (q + i)) (wdE B n q - q)), ab_up1 J 47 4 (Int32.ofNat q)) := by
  obtain ⟨h1, h2, h3, h4⟩ := mR_blanks h
  have hn := h.1.1
  obtain ⟨o1, o2, o3, o4⟩ := scn_ok (P := ltP B) h1
  unfold f_m_wordHere275
  rw [h3, ob_some]
  have l := wh_scn2 (P := ltP B) (n := n) (p := q) (f := fun (s2 : Int32 × Int32) => (Option.bind (f_m_byteAt271 (((ab_up1 J 47 4 (Int32.ofNat q)) 47 4) + s2.2) (ab_up1 J 47 4 (Int32.ofNat q))) fun v5 => (Option.bind (f_m_isSmall276 v5 (ab_up1 J 47 4 (Int32.ofNat q))) fun v6 => (if v6 = 0 then some (.inr (s2.1, s2.2)) else (Option.bind (α := Int32) (if s2.2 < (6 : Int32) then (Option.bind (f_m_byteAt271 (((ab_up1 J 47 4 (Int32.ofNat q)) 47 4) + s2.2) (ab_up1 J 47 4 (Int32.ofNat q))) fun v8 => some (((((27 : Int32) * s2.1) + v8) - (97 : Int32)) + (1 : Int32))) else some s2.1) fun b7 => some (.inl (b7, (s2.2 + (1 : Int32))))))))) (fun k => (Int32.ofNat (cdF (fun i => B (q + i)) (min (k - q) 6)), Int32.ofNat (k - q))) (fun k => (Int32.ofNat (cdF (fun i => B (q + i)) (min (k - q) 6)), Int32.ofNat (k - q))) (s := ((0 : Int32), (0 : Int32))) (by
      rw [Nat.sub_self]
      rfl) h1 (fun k k1 k2 k3 k4 => by
      have hk := (h.1.2.2 k k2).1
      have hd : 97 ≤ B k ∧ B k ≤ 122 := of_decide_eq_true k3
      have hbk : byt B n k = Int32.ofNat (B k) := if_pos k2
      try dsimp only
      rw [up_eq, i_add, show q + (k - q) = k by omega, m_byteAt h4.1 (by omega), ob_some, m_isSmall (fun _ => hk), if_pos ⟨k2, k3⟩, ob_some, if_neg (by decide), show Int32.ofNat (k - q) + 1 = Int32.ofNat (k - q + 1) from i_addr, show k + 1 - q = k - q + 1 by omega]
      by_cases h6 : k - q < 6
      · have hlt : cdF (fun i => B (q + i)) (k - q) < 27 ^ (k - q) := cd_lt _ (fun i hi => (of_decide_eq_true (k4 (q + i) (by omega) (by omega)) : 97 ≤ B (q + i) ∧ B (q + i) ≤ 122).2)
        have hp := p27 (k - q) (by omega)
        rw [if_pos (show Int32.ofNat (k - q) < (6 : Int32) from lt_l (b := 6) h6 (by decide)), ob_some, hbk, ob_some, min_l (show k - q ≤ 6 by omega), min_l (show k - q + 1 ≤ 6 by omega), cdF_step, show q + (k - q) = k by omega, show (27 : Int32) * Int32.ofNat (cdF (fun i => B (q + i)) (k - q)) = Int32.ofNat (27 * cdF (fun i => B (q + i)) (k - q)) from i_mull (n := 27), i_add, show Int32.ofNat (27 * cdF (fun i => B (q + i)) (k - q) + B k) - (97 : Int32) = Int32.ofNat (27 * cdF (fun i => B (q + i)) (k - q) + B k - 97) from i_subr (n := 97) (show 97 ≤ 27 * cdF (fun i => B (q + i)) (k - q) + B k by omega), show Int32.ofNat (27 * cdF (fun i => B (q + i)) (k - q) + B k - 97) + (1 : Int32) = Int32.ofNat (27 * cdF (fun i => B (q + i)) (k - q) + B k - 97 + 1) from i_addr, show 27 * cdF (fun i => B (q + i)) (k - q) + B k - 97 + 1 = 27 * cdF (fun i => B (q + i)) (k - q) + (B k - 96) by omega]
      · rw [if_neg (show ¬ Int32.ofNat (k - q) < (6 : Int32) from nlt_l (b := 6) h6 (by omega) (by decide)), ob_some, min_r (show 6 ≤ k - q by omega), min_r (show 6 ≤ k - q + 1 by omega)]) (fun k k1 k2 k3 => by
      try dsimp only
      rw [up_eq, i_add, show q + (k - q) = k by omega, m_byteAt h4.1 (by omega), ob_some, m_isSmall (fun hk => (h.1.2.2 _ hk).1), if_neg k3, ob_some, if_pos rfl])
  rw [l, ob_some]
  rw [show scn (ltP B) n q = wdE B n q from rfl] at *
  try dsimp only
  by_cases h6 : 6 < wdE B n q - q
  · rw [if_pos (show (6 : Int32) < Int32.ofNat (wdE B n q - q) from lt_l (a := 6) h6 (by omega)), ob_some, if_pos h6]
  · rw [if_neg (show ¬ (6 : Int32) < Int32.ofNat (wdE B n q - q) from nlt_l (a := 6) h6 (by decide) (by omega)), ob_some, if_neg h6, min_l (by omega)]
theorem m_isWord {a b c d e f : Int32} {l : List Nat} (hl : okW l) (h6 : ∀ I : MJ, f_m_six277 a b c d e f I = some (Int32.ofNat (cdF (fun i => l.getD i 0) l.length))) (h : mR B n J q) : f_m_isWord274 a b c d e f J = some (if l = wdW B n q then 1 else 0, ab_up1 J 47 4 (Int32.ofNat q)) := by
  obtain ⟨h1, h2, h3, h4⟩ := mR_blanks h
  have hn := h.1.1
  obtain ⟨o1, o2, o3, o4⟩ := scn_ok (P := ltP B) h1
  have hlet : ∀ i, i < wdE B n q - q → 97 ≤ B (q + i) ∧ B (q + i) ≤ 122 := fun i hi => of_decide_eq_true (o4 (q + i) (by omega) (by have : wdE B n q = scn (ltP B) n q := rfl; omega))
  have hw := wdl_eq (B := B) l q (wdE B n q - q)
  have hcl := cd_lt (x := fun i => l.getD i 0) l.length (fun i hi => (hl.2 i hi).2)
  have hpl := p27 l.length (by have := hl.1; omega)
  unfold f_m_isWord274
  rw [if_pos h.2.1, m_wordHere h, ob_some, h6, ob_some]
  try dsimp only
  by_cases h7 : 6 < wdE B n q - q
  · have hne : ¬ l = wdW B n q := fun z => by
      have := (hw.mp z).1
      have := hl.1
      omega
    rw [if_pos h7, if_neg (fun z => ?_), if_neg hne, ob_some]
    · exact nr0
    · have := i_neg1 (a := cdF (fun i => l.getD i 0) l.length) (by omega)
      rw [← z] at this
      exact of_eq_false this rfl
  · have hcw := cd_lt (x := fun i => B (q + i)) (wdE B n q - q) (fun i hi => (hlet i hi).2)
    have hpw := p27 (wdE B n q - q) (by omega)
    rw [if_neg h7]
    by_cases hlw : l = wdW B n q
    · obtain ⟨g1, g2⟩ := hw.mp hlw
      have he : cdF (fun i => B (q + i)) (wdE B n q - q) = cdF (fun i => l.getD i 0) l.length := by
        rw [g1]
        have : ∀ m, m ≤ wdE B n q - q → cdF (fun i => B (q + i)) m = cdF (fun i => l.getD i 0) m := by
          intro m
          induction m with
          | zero => intro _; rfl
          | succ m ih =>
            intro hm
            rw [cdF_step, cdF_step, ih (by omega), g2 m (by omega)]
        exact this _ (Nat.le_refl _)
      rw [if_pos (eq_l he), if_pos hlw, ob_some]
      exact nr1
    · rw [if_neg (neq_l (fun z => hlw ?_) (by omega) (by omega)), if_neg hlw, ob_some]
      · exact nr0
      · obtain ⟨g1, g2⟩ := cd_inj _ _ hlet hl.2 z
        exact hw.mpr ⟨g1.symm, fun i hi => (g2 i hi).symm⟩
theorem m_skipWord (h : mR B n J q) (e : J 47 4 = Int32.ofNat q) : f_m_skipWord280 J = some (ab_up1 J 47 4 (Int32.ofNat (wdE B n q))) ∧ mR B n (ab_up1 J 47 4 (Int32.ofNat (wdE B n q))) (sk B n (wdE B n q)) := by
  obtain ⟨h1, h2, h3, h4⟩ := mR_blanks h
  have hn := h.1.1
  obtain ⟨o1, o2, o3, o4⟩ := scn_ok (P := ltP B) h1
  refine ⟨?_, mE_up h.1 (by decide) (by decide), by rw [up_ne (by omega)]; exact h.2.1, by rw [up_ne (by omega)]; exact h.2.2.1, wdE B n q, o2, up_eq, rfl⟩
  unfold f_m_skipWord280
  have l := wh_scn (P := ltP B) (n := n) (p := q) (f := fun (s1 : MJ) => (Option.bind (f_m_byteAt271 (s1 47 4) s1) fun v3 => (Option.bind (f_m_isSmall276 v3 s1) fun v4 => (if v4 = 0 then some (.inr s1) else some (.inl (ab_up1 s1 47 4 ((s1 47 4) + (1 : Int32)))))))) (fun k => ab_up1 J 47 4 (Int32.ofNat k)) (fun k => ab_up1 J 47 4 (Int32.ofNat k)) (s := J) (up_self e).symm h1 (fun k k1 k2 k3 => by
      try dsimp only
      rw [up_eq, m_byteAt (mE_up h.1 (by decide) (by decide)) (by omega), ob_some, m_isSmall (fun hk => (h.1.2.2 _ hk).1), if_pos ⟨k2, k3⟩, ob_some, if_neg (by decide), up_up, i_addr]) (fun k k1 k2 k3 => by
      try dsimp only
      rw [up_eq, m_byteAt (mE_up h.1 (by decide) (by decide)) (by omega), ob_some, m_isSmall (fun hk => (h.1.2.2 _ hk).1), if_neg k3, ob_some, if_pos rfl])
  rw [l]
  rfl
theorem m_takes {a b c d e f : Int32} {l : List Nat} (hl : okW l) (h6 : ∀ I : MJ, f_m_six277 a b c d e f I = some (Int32.ofNat (cdF (fun i => l.getD i 0) l.length))) (h : mR B n J q) : f_m_takes282 a b c d e f J = some (if l = wdW B n q then 1 else 0, if l = wdW B n q then ab_up1 J 47 4 (Int32.ofNat (wdE B n q)) else ab_up1 J 47 4 (Int32.ofNat q)) := by
  obtain ⟨h1, h2, h3, h4⟩ := mR_blanks h
  unfold f_m_takes282
  rw [m_isWord hl h6 h, ob_some]
  try dsimp only
  by_cases hw : l = wdW B n q
  · rw [if_pos hw, if_neg (by decide), (m_skipWord h4 up_eq).1, ob_some, ob_some, up_up, if_pos hw, nar_1]
  · rw [if_neg hw, if_pos rfl, ob_some, if_neg hw, nar_0]
theorem mR_at {p : Nat} (h : mR B n J q) (hp : p ≤ n) : mR B n (ab_up1 J 47 4 (Int32.ofNat p)) (sk B n p) := ⟨mE_up h.1 (by decide) (by decide), by rw [up_ne (by omega)]; exact h.2.1, by rw [up_ne (by omega)]; exact h.2.2.1, p, hp, up_eq, rfl⟩
end WORDM
def w_sun : List Nat := [115, 117, 110]
theorem ok_sun : okW w_sun := ⟨by decide, by decide⟩
theorem six_sun : ∀ I : MJ, f_m_six277 (19 : Int32) (21 : Int32) (14 : Int32) (0 : Int32) (0 : Int32) (0 : Int32) I = some (Int32.ofNat (cdF (fun i => w_sun.getD i 0) w_sun.length)) := fun _ => rfl
def w_rain : List Nat := [114, 97, 105, 110]
theorem ok_rain : okW w_rain := ⟨by decide, by decide⟩
theorem six_rain : ∀ I : MJ, f_m_six277 (18 : Int32) (1 : Int32) (9 : Int32) (14 : Int32) (0 : Int32) (0 : Int32) I = some (Int32.ofNat (cdF (fun i => w_rain.getD i 0) w_rain.length)) := fun _ => rfl
def w_grey : List Nat := [103, 114, 101, 121]
theorem ok_grey : okW w_grey := ⟨by decide, by decide⟩
theorem six_grey : ∀ I : MJ, f_m_six277 (7 : Int32) (18 : Int32) (5 : Int32) (25 : Int32) (0 : Int32) (0 : Int32) I = some (Int32.ofNat (cdF (fun i => w_grey.getD i 0) w_grey.length)) := fun _ => rfl
def w_wind : List Nat := [119, 105, 110, 100]
theorem ok_wind : okW w_wind := ⟨by decide, by decide⟩
theorem six_wind : ∀ I : MJ, f_m_six277 (23 : Int32) (9 : Int32) (14 : Int32) (4 : Int32) (0 : Int32) (0 : Int32) I = some (Int32.ofNat (cdF (fun i => w_wind.getD i 0) w_wind.length)) := fun _ => rfl
def w_frost : List Nat := [102, 114, 111, 115, 116]
theorem ok_frost : okW w_frost := ⟨by decide, by decide⟩
theorem six_frost : ∀ I : MJ, f_m_six277 (6 : Int32) (18 : Int32) (15 : Int32) (19 : Int32) (20 : Int32) (0 : Int32) I = some (Int32.ofNat (cdF (fun i => w_frost.getD i 0) w_frost.length)) := fun _ => rfl
def w_fog : List Nat := [102, 111, 103]
theorem ok_fog : okW w_fog := ⟨by decide, by decide⟩
theorem six_fog : ∀ I : MJ, f_m_six277 (6 : Int32) (15 : Int32) (7 : Int32) (0 : Int32) (0 : Int32) (0 : Int32) I = some (Int32.ofNat (cdF (fun i => w_fog.getD i 0) w_fog.length)) := fun _ => rfl
def w_bolt : List Nat := [98, 111, 108, 116]
theorem ok_bolt : okW w_bolt := ⟨by decide, by decide⟩
theorem six_bolt : ∀ I : MJ, f_m_six277 (2 : Int32) (15 : Int32) (12 : Int32) (20 : Int32) (0 : Int32) (0 : Int32) I = some (Int32.ofNat (cdF (fun i => w_bolt.getD i 0) w_bolt.length)) := fun _ => rfl
def w_client : List Nat := [99, 108, 105, 101, 110, 116]
theorem ok_client : okW w_client := ⟨by decide, by decide⟩
theorem six_client : ∀ I : MJ, f_m_six277 (3 : Int32) (12 : Int32) (9 : Int32) (5 : Int32) (14 : Int32) (20 : Int32) I = some (Int32.ofNat (cdF (fun i => w_client.getD i 0) w_client.length)) := fun _ => rfl
def w_wants : List Nat := [119, 97, 110, 116, 115]
theorem ok_wants : okW w_wants := ⟨by decide, by decide⟩
theorem six_wants : ∀ I : MJ, f_m_six277 (23 : Int32) (1 : Int32) (14 : Int32) (20 : Int32) (19 : Int32) (0 : Int32) I = some (Int32.ofNat (cdF (fun i => w_wants.getD i 0) w_wants.length)) := fun _ => rfl
def w_order : List Nat := [111, 114, 100, 101, 114]
theorem ok_order : okW w_order := ⟨by decide, by decide⟩
theorem six_order : ∀ I : MJ, f_m_six277 (15 : Int32) (18 : Int32) (4 : Int32) (5 : Int32) (18 : Int32) (0 : Int32) I = some (Int32.ofNat (cdF (fun i => w_order.getD i 0) w_order.length)) := fun _ => rfl
def w_seam : List Nat := [115, 101, 97, 109]
theorem ok_seam : okW w_seam := ⟨by decide, by decide⟩
theorem six_seam : ∀ I : MJ, f_m_six277 (19 : Int32) (5 : Int32) (1 : Int32) (13 : Int32) (0 : Int32) (0 : Int32) I = some (Int32.ofNat (cdF (fun i => w_seam.getD i 0) w_seam.length)) := fun _ => rfl
def w_hands : List Nat := [104, 97, 110, 100, 115]
theorem ok_hands : okW w_hands := ⟨by decide, by decide⟩
theorem six_hands : ∀ I : MJ, f_m_six277 (8 : Int32) (1 : Int32) (14 : Int32) (4 : Int32) (19 : Int32) (0 : Int32) I = some (Int32.ofNat (cdF (fun i => w_hands.getD i 0) w_hands.length)) := fun _ => rfl
def w_again : List Nat := [97, 103, 97, 105, 110]
theorem ok_again : okW w_again := ⟨by decide, by decide⟩
theorem six_again : ∀ I : MJ, f_m_six277 (1 : Int32) (7 : Int32) (1 : Int32) (9 : Int32) (14 : Int32) (0 : Int32) I = some (Int32.ofNat (cdF (fun i => w_again.getD i 0) w_again.length)) := fun _ => rfl
def w_hour : List Nat := [104, 111, 117, 114]
theorem ok_hour : okW w_hour := ⟨by decide, by decide⟩
theorem six_hour : ∀ I : MJ, f_m_six277 (8 : Int32) (15 : Int32) (21 : Int32) (18 : Int32) (0 : Int32) (0 : Int32) I = some (Int32.ofNat (cdF (fun i => w_hour.getD i 0) w_hour.length)) := fun _ => rfl
def w_kind : List Nat := [107, 105, 110, 100]
theorem ok_kind : okW w_kind := ⟨by decide, by decide⟩
theorem six_kind : ∀ I : MJ, f_m_six277 (11 : Int32) (9 : Int32) (14 : Int32) (4 : Int32) (0 : Int32) (0 : Int32) I = some (Int32.ofNat (cdF (fun i => w_kind.getD i 0) w_kind.length)) := fun _ => rfl
def w_age : List Nat := [97, 103, 101]
theorem ok_age : okW w_age := ⟨by decide, by decide⟩
theorem six_age : ∀ I : MJ, f_m_six277 (1 : Int32) (7 : Int32) (5 : Int32) (0 : Int32) (0 : Int32) (0 : Int32) I = some (Int32.ofNat (cdF (fun i => w_age.getD i 0) w_age.length)) := fun _ => rfl
def w_day : List Nat := [100, 97, 121]
theorem ok_day : okW w_day := ⟨by decide, by decide⟩
theorem six_day : ∀ I : MJ, f_m_six277 (4 : Int32) (1 : Int32) (25 : Int32) (0 : Int32) (0 : Int32) (0 : Int32) I = some (Int32.ofNat (cdF (fun i => w_day.getD i 0) w_day.length)) := fun _ => rfl
def w_seams : List Nat := [115, 101, 97, 109, 115]
theorem ok_seams : okW w_seams := ⟨by decide, by decide⟩
theorem six_seams : ∀ I : MJ, f_m_six277 (19 : Int32) (5 : Int32) (1 : Int32) (13 : Int32) (19 : Int32) (0 : Int32) I = some (Int32.ofNat (cdF (fun i => w_seams.getD i 0) w_seams.length)) := fun _ => rfl
def w_least : List Nat := [108, 101, 97, 115, 116]
theorem ok_least : okW w_least := ⟨by decide, by decide⟩
theorem six_least : ∀ I : MJ, f_m_six277 (12 : Int32) (5 : Int32) (1 : Int32) (19 : Int32) (20 : Int32) (0 : Int32) I = some (Int32.ofNat (cdF (fun i => w_least.getD i 0) w_least.length)) := fun _ => rfl
def w_most : List Nat := [109, 111, 115, 116]
theorem ok_most : okW w_most := ⟨by decide, by decide⟩
theorem six_most : ∀ I : MJ, f_m_six277 (13 : Int32) (15 : Int32) (19 : Int32) (20 : Int32) (0 : Int32) (0 : Int32) I = some (Int32.ofNat (cdF (fun i => w_most.getD i 0) w_most.length)) := fun _ => rfl
def w_cut : List Nat := [99, 117, 116]
theorem ok_cut : okW w_cut := ⟨by decide, by decide⟩
theorem six_cut : ∀ I : MJ, f_m_six277 (3 : Int32) (21 : Int32) (20 : Int32) (0 : Int32) (0 : Int32) (0 : Int32) I = some (Int32.ofNat (cdF (fun i => w_cut.getD i 0) w_cut.length)) := fun _ => rfl
def w_alter : List Nat := [97, 108, 116, 101, 114]
theorem ok_alter : okW w_alter := ⟨by decide, by decide⟩
theorem six_alter : ∀ I : MJ, f_m_six277 (1 : Int32) (12 : Int32) (20 : Int32) (5 : Int32) (18 : Int32) (0 : Int32) I = some (Int32.ofNat (cdF (fun i => w_alter.getD i 0) w_alter.length)) := fun _ => rfl
def w_turn : List Nat := [116, 117, 114, 110]
theorem ok_turn : okW w_turn := ⟨by decide, by decide⟩
theorem six_turn : ∀ I : MJ, f_m_six277 (20 : Int32) (21 : Int32) (18 : Int32) (14 : Int32) (0 : Int32) (0 : Int32) I = some (Int32.ofNat (cdF (fun i => w_turn.getD i 0) w_turn.length)) := fun _ => rfl
def w_strip : List Nat := [115, 116, 114, 105, 112]
theorem ok_strip : okW w_strip := ⟨by decide, by decide⟩
theorem six_strip : ∀ I : MJ, f_m_six277 (19 : Int32) (20 : Int32) (18 : Int32) (9 : Int32) (16 : Int32) (0 : Int32) I = some (Int32.ofNat (cdF (fun i => w_strip.getD i 0) w_strip.length)) := fun _ => rfl
def w_sell : List Nat := [115, 101, 108, 108]
theorem ok_sell : okW w_sell := ⟨by decide, by decide⟩
theorem six_sell : ∀ I : MJ, f_m_six277 (19 : Int32) (5 : Int32) (12 : Int32) (12 : Int32) (0 : Int32) (0 : Int32) I = some (Int32.ofNat (cdF (fun i => w_sell.getD i 0) w_sell.length)) := fun _ => rfl
