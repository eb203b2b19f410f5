/-! texts: both read, side by side; none: both have met the same fault -/
def TT (B : Nat → Nat) (n : Nat) (st : Option Nat) (Jc Jm : MJ) : Prop := match st with
  | some q => cR B n Jc q ∧ mR B n Jm q
  | none => ∃ k w, cX Jc k w ∧ mX B n Jm k w
section BOTH
variable {B : Nat → Nat} {n : Nat} {Jc Jm : MJ} {st : Option Nat}
theorem TT_c {Kc Km : MJ} (h : TT B n st Jc Jm) (h1 : ∀ k, 2 ≤ k → k ≤ 6 → Kc 1 k = Jc 1 k) (h2 : ∀ k, Kc 2 k = Jc 2 k) (h3 : Km 47 2 = Jm 47 2 ∧ Km 47 4 = Jm 47 4 ∧ Km 47 5 = Jm 47 5 ∧ Km 47 6 = Jm 47 6) (h4 : ∀ k, Km 48 k = Jm 48 k) : TT B n st Kc Km := by
  cases st with
  | some q =>
    obtain ⟨⟨a1, a2, a3, p, hp, a4, a5⟩, b1, b2, b3, p2, hp2, b4, b5⟩ := h
    exact ⟨⟨cE_c a1 (h1 3 (by omega) (by omega)) h2, (h1 5 (by omega) (by omega)).trans a2, (h1 6 (by omega) (by omega)).trans a3, p, hp, (h1 2 (by omega) (by omega)).trans a4, a5⟩, mE_c b1 h3.1 h4, h3.2.2.1.trans b2, h3.2.2.2.trans b3, p2, hp2, h3.2.1.trans b4, b5⟩
  | none =>
    obtain ⟨k, w, ⟨a1, a2, a3⟩, b1, b2, b3, b4, p, hp, b5⟩ := h
    exact ⟨k, w, ⟨a1, (h1 5 (by omega) (by omega)).trans a2, (h1 6 (by omega) (by omega)).trans a3⟩, b1, h3.2.2.1.trans b2, h3.2.2.2.trans b3, mE_c b4 h3.1 h4, p, hp, h3.2.1.trans b5⟩
theorem TT_cu {a k : Nat} {x : Int32} (h : TT B n st Jc Jm) (h1 : a ≠ 1) (h2 : a ≠ 2) : TT B n st (ab_up1 Jc a k x) Jm := TT_c h (fun j _ _ => up_ne (fun e => h1 e.1.symm)) (fun j => up_ne (fun e => h2 e.1.symm)) ⟨rfl, rfl, rfl, rfl⟩ (fun _ => rfl)
theorem TT_mu {a k : Nat} {x : Int32} (h : TT B n st Jc Jm) (h1 : ¬ (a = 47 ∧ (k = 2 ∨ k = 4 ∨ k = 5 ∨ k = 6))) (h2 : a ≠ 48) : TT B n st Jc (ab_up1 Jm a k x) := TT_c h (fun _ _ _ => rfl) (fun _ => rfl) ⟨up_ne (by omega), up_ne (by omega), up_ne (by omega), up_ne (by omega)⟩ (fun j => up_ne (by omega))
theorem TT_some {q : Nat} (h : TT B n (some q) Jc Jm) : Jc 1 5 = 0 ∧ Jm 47 5 = 0 ∧ q ≤ n := ⟨h.1.2.1, h.2.2.1, (cR_next h.1).1⟩
theorem TT_none (h : TT B n none Jc Jm) : ¬ Jc 1 5 = 0 ∧ ¬ Jm 47 5 = 0 := by
  obtain ⟨k, w, h1, h2⟩ := h
  exact ⟨cX_ne h1, mX_ne h2⟩
/-- a number -/
theorem tt_number {loc hic lom him : Int32} (h : TT B n st Jc Jm) (hl : ∀ q, st = some q → ∃ lo m, lo < 100000 ∧ m < 100000 ∧ loc = Int32.ofNat lo ∧ lom = Int32.ofNat lo ∧ hic = Int32.ofNat m - 1 ∧ him = Int32.ofNat m - 1) : ∃ st' vc vm Jc' Jm', f_tap_number53 loc hic Jc = some (vc, Jc') ∧ f_m_number283 lom him Jm = some (vm, Jm') ∧ TT B n st' Jc' Jm' ∧ fr1 Jc Jc' ∧ fr47 Jm Jm' ∧ (∀ q', st' = some q' → ∃ q v, st = some q ∧ q < q' ∧ vc = Int32.ofNat v ∧ vm = Int32.ofNat v ∧ ∀ lo m, lo < 100000 → m < 100000 → loc = Int32.ofNat lo → hic = Int32.ofNat m - 1 → lo ≤ v ∧ v < m) := by
  cases st with
  | some q =>
    obtain ⟨lo, m, l1, l2, rfl, rfl, rfl, rfl⟩ := hl q rfl
    obtain ⟨J2, n1, n2, n3⟩ := x_number (lo := lo) (m := m) l1 l2 h.1
    obtain ⟨K2, k1, k2, k3⟩ := m_number (lo := lo) (m := m) l1 l2 h.2
    rcases n3 with ⟨o1, n4, n5⟩ | ⟨o1, n4⟩
    · rcases k3 with ⟨-, k4⟩ | ⟨k4, -⟩
      · obtain ⟨o2, o3, o4, o5⟩ := nmO_0 o1
        have h1 := nmE_gt o2 o3
        have h2 := sk_le (B := B) h1.2
        rw [if_pos o1] at n1 k1
        refine ⟨some (sk B n (nmE B n q)), _, _, J2, K2, n1, k1, ⟨n4, k4⟩, n2, k2, fun q' hq' => ⟨q, nmV B n q, rfl, by have := Option.some.inj hq'; omega, rfl, rfl, fun lo' m' g1 g2 g3 g4 => ?_⟩⟩
        have e1 := (i_eq (by omega) (by omega)).mp g3
        have e2 : m = m' := by
          have : Int32.ofNat m = Int32.ofNat m' := by
            have : Int32.ofNat m - 1 + 1 = Int32.ofNat m' - 1 + 1 := by rw [g4]
            have e3 : ∀ x : Int32, x - 1 + 1 = x := fun x => by grind
            rw [e3, e3] at this
            exact this
          exact (i_eq (by omega) (by omega)).mp this
        omega
      · exact absurd o1 k4
    · rcases k3 with ⟨k4, -⟩ | ⟨-, k4⟩
      · exact absurd k4 o1
      · exact ⟨none, _, _, J2, K2, n1, k1, ⟨_, q, n4, k4⟩, n2, k2, fun q' hq' => by cases hq'⟩
  | none =>
    obtain ⟨h1, h2⟩ := TT_none h
    exact ⟨none, _, _, Jc, Jm, x_number_f h1, m_number_f h2, h, fr1_rf, fr47_rf, fun q' hq' => by cases hq'⟩
theorem tt_sign {c : Nat} (hc : c < 128) (h : TT B n st Jc Jm) : ∃ st' Jc' Jm', f_tap_sign58 (Int32.ofNat c) Jc = some Jc' ∧ f_m_sign285 (Int32.ofNat c) Jm = some Jm' ∧ TT B n st' Jc' Jm' ∧ fr1 Jc Jc' ∧ fr47 Jm Jm' ∧ (∀ q', st' = some q' → ∃ q, st = some q ∧ q < q') := by
  cases st with
  | some q =>
    obtain ⟨J2, n1, n2, n3⟩ := x_sign hc h.1
    obtain ⟨K2, k1, k2, k3⟩ := m_sign hc h.2
    rcases n3 with ⟨o1, o2, n4⟩ | ⟨o1, n4⟩
    · rcases k3 with ⟨-, -, k4⟩ | ⟨k4, -⟩
      · have h2 := sk_le (B := B) (n := n) (p := q + 1) o1
        exact ⟨some (sk B n (q + 1)), J2, K2, n1, k1, ⟨n4, k4⟩, n2, k2, fun q' hq' => ⟨q, rfl, by have := Option.some.inj hq'; omega⟩⟩
      · exact absurd ⟨o1, o2⟩ k4
    · rcases k3 with ⟨k4, k5, -⟩ | ⟨-, k4⟩
      · exact absurd ⟨k4, k5⟩ o1
      · exact ⟨none, J2, K2, n1, k1, ⟨_, q, n4, k4⟩, n2, k2, fun q' hq' => by cases hq'⟩
  | none =>
    obtain ⟨h1, h2⟩ := TT_none h
    exact ⟨none, Jc, Jm, x_sign_f h1, m_sign_f h2, h, fr1_rf, fr47_rf, fun q' hq' => by cases hq'⟩
theorem m_sky_f {k w : Nat} (h : mX B n Jm k w) : ∃ J', f_m_skyHere281 Jm = some (0, J') ∧ mX B n J' k w ∧ fr47 Jm J' := by
  have hf := mX_ne h
  obtain ⟨J', j1, j2, j3⟩ := mX_blanks h
  unfold f_m_skyHere281
  rw [m_takes_f hf, ob_some]
  try dsimp only
  rw [if_pos rfl, m_takes_f hf, ob_some]
  try dsimp only
  rw [if_pos rfl, m_takes_f hf, ob_some]
  try dsimp only
  rw [if_pos rfl, m_takes_f hf, ob_some]
  try dsimp only
  rw [if_pos rfl, m_takes_f hf, ob_some]
  try dsimp only
  rw [if_pos rfl, m_takes_f hf, ob_some]
  try dsimp only
  rw [if_pos rfl, j1, ob_some, m_wrong_f (mX_ne j2), ob_some]
  exact ⟨J', rfl, j2, j3⟩
/-- a kind; the class by one of its lists -/
theorem tt_sky {p1 : Nat} (hp : ∀ {J : MJ} {q : Nat}, cR B n J q → ∃ J', f_tap_word45 p1 J = some (oI (wIx wLK (wdW B n q)), J') ∧ fr1 J J' ∧ ((∃ k, wIx wLK (wdW B n q) = some k ∧ cR B n J' (sk B n (wdE B n q)) ∧ J' 1 4 = Int32.ofNat q) ∨ (wIx wLK (wdW B n q) = none ∧ cX J' 1 q))) (h : TT B n st Jc Jm) : ∃ st' vc vm Jc' Jm', f_tap_word45 p1 Jc = some (vc, Jc') ∧ f_m_skyHere281 Jm = some (vm, Jm') ∧ TT B n st' Jc' Jm' ∧ fr1 Jc Jc' ∧ fr47 Jm Jm' ∧ (∀ q', st' = some q' → ∃ q v, st = some q ∧ q ≤ q' ∧ vc = Int32.ofNat v ∧ vm = Int32.ofNat v ∧ v < 6) := by
  cases st with
  | some q =>
    obtain ⟨J2, n1, n2, n3⟩ := hp h.1
    obtain ⟨K2, k1, k2, k3⟩ := m_skyHere h.2
    rcases n3 with ⟨kd, o1, n4, n5⟩ | ⟨o1, n4⟩
    · rcases k3 with ⟨kd', -, k4⟩ | ⟨k4, -⟩
      · have h1 := wdE_ge (B := B) (TT_some h).2.2
        have h2 := sk_le (B := B) h1.2
        rw [o1] at n1 k1
        exact ⟨some (sk B n (wdE B n q)), _, _, J2, K2, n1, k1, ⟨n4, k4⟩, n2, k2, fun q' hq' => ⟨q, kd, rfl, by have := Option.some.inj hq'; omega, rfl, rfl, wIx_lt _ _ _ o1⟩⟩
      · rw [o1] at k4; cases k4
    · rcases k3 with ⟨kd', k4, -⟩ | ⟨-, k4⟩
      · rw [o1] at k4; cases k4
      · exact ⟨none, _, _, J2, K2, n1, k1, ⟨_, q, n4, k4⟩, n2, k2, fun q' hq' => by cases hq'⟩
  | none =>
    have h0 := h
    obtain ⟨k, w, h1, h2⟩ := h0
    obtain ⟨J', j1, j2, j3⟩ := m_sky_f h2
    exact ⟨none, _, _, Jc, J', x_word_f (cX_ne h1), j1, ⟨k, w, h1, j2⟩, fr1_rf, j3, fun q' hq' => by cases hq'⟩
/-- the same fault, told by both at a place -/
theorem tt_fail {k w : Nat} (hk : 1 ≤ k ∧ k ≤ 4) (h : TT B n st Jc Jm) : ∃ Jc' Jm', f_tap_fail50 (Int32.ofNat k) (Int32.ofNat w) Jc = some Jc' ∧ f_m_wrong278 (Int32.ofNat k) (Int32.ofNat w) Jm = some Jm' ∧ TT B n none Jc' Jm' ∧ fr1 Jc Jc' ∧ fr47 Jm Jm' := by
  cases st with
  | some q =>
    obtain ⟨J2, n1, n2, n3⟩ := x_fail_s (w := w) hk (TT_some h).1
    obtain ⟨p, hp, e, -⟩ := h.2.2.2.2
    obtain ⟨K2, k1, k2, k3⟩ := m_wrong_s (w := w) hk (TT_some h).2.1 h.2.1 hp e
    exact ⟨J2, K2, n1, k1, ⟨k, w, n2, k2⟩, n3, k3⟩
  | none =>
    obtain ⟨h1, h2⟩ := TT_none h
    exact ⟨Jc, Jm, x_fail_f h1, m_wrong_f h2, h, fr1_rf, fr47_rf⟩
theorem tt_blanks (h : TT B n st Jc Jm) : ∃ Jm', f_m_blanks270 Jm = some Jm' ∧ TT B n st Jc Jm' ∧ fr47 Jm Jm' ∧ ∀ q, st = some q → Jm' 47 4 = Int32.ofNat q := by
  cases st with
  | some q =>
    obtain ⟨g1, g2, g3, g4⟩ := mR_blanks h.2
    exact ⟨_, g3, ⟨h.1, g4⟩, fr47_up fr47_rf (by omega), fun q' hq' => by cases hq'; exact up_eq⟩
  | none =>
    obtain ⟨k, w, h1, h2⟩ := h
    obtain ⟨J', j1, j2, j3⟩ := mX_blanks h2
    exact ⟨J', j1, ⟨k, w, h1, j2⟩, j3, fun q' hq' => by cases hq'⟩
/-- a write that may lie outside -/
theorem put_any {a N : Nat} {i x : Int32} {J : MJ} (hK : KS a = (100, N)) (ha : a < 699) (hn : N < 100000) : ∃ J', f_x_put15 a i x J = some J' ∧ ∀ g k, g ≠ a → J' g k = J g k := by
  rcases range_cases i (n := N) (by omega) with ⟨k, hk, rfl⟩ | h
  · exact ⟨_, put_ok hK ha (by omega) hk, fun g k hg => up_ne (fun e => hg e.1)⟩
  · unfold f_x_put15
    by_cases h0 : i < 0
    · rw [if_pos h0]
      exact ⟨J, rfl, fun _ _ _ => rfl⟩
    · rw [if_neg h0, KS_in hK (by decide), if_pos ha, ob_some, if_neg (h.resolve_left h0)]
      exact ⟨J, rfl, fun _ _ _ => rfl⟩
end BOTH
