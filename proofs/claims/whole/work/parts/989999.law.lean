/-! law: the codes of both, and their heights -/
def LL (c h : Nat) (Jc Jm : MJ) : Prop := Jc 23 5 = Int32.ofNat c ∧ Jm 47 26 = Int32.ofNat c ∧ (∀ k, k < c → codeR (Jc 25 k) (Jm (307 + k) 0) (Jm (307 + k) 1)) ∧ ∃ ht : Nat → Nat, ht 0 = 0 ∧ (∀ k, k < c → if Jm (307 + k) 0 = 0 ∨ Jm (307 + k) 0 = 1 then ht (k + 1) = ht k + 1 else 2 ≤ ht k ∧ ht (k + 1) + 1 = ht k) ∧ ht c = h ∧ ∀ k, k ≤ c → ht k ≤ 60
def fcL (I J : MJ) : Prop := ∀ a k, ¬ (a = 1 ∧ (k = 2 ∨ k = 4 ∨ k = 5 ∨ k = 6)) → a ≠ 25 → ¬ (a = 23 ∧ k = 5) → J a k = I a k
def fmL (I J : MJ) : Prop := ∀ a k, ¬ (a = 47 ∧ (k = 4 ∨ k = 5 ∨ k = 6 ∨ k = 8 ∨ k = 26)) → ¬ (307 ≤ a ∧ a < 467) → J a k = I a k
theorem fcL_rf {I : MJ} : fcL I I := fun _ _ _ _ _ => rfl
theorem fmL_rf {I : MJ} : fmL I I := fun _ _ _ _ => rfl
theorem fcL_1 {I J K : MJ} (h : fcL I J) (f : fr1 J K) : fcL I K := fun a k h1 h2 h3 => (f a k h1).trans (h a k h1 h2 h3)
theorem fmL_1 {I J K : MJ} (h : fmL I J) (f : fr47 J K) : fmL I K := fun a k h1 h2 => (f a k (by omega)).trans (h a k h1 h2)
theorem fcL_2 {I J K : MJ} (h : fcL I J) (f : fcL J K) : fcL I K := fun a k h1 h2 h3 => (f a k h1 h2 h3).trans (h a k h1 h2 h3)
theorem fmL_2 {I J K : MJ} (h : fmL I J) (f : fmL J K) : fmL I K := fun a k h1 h2 => (f a k h1 h2).trans (h a k h1 h2)
theorem LL_c {c h : Nat} {Jc Jm Kc Km : MJ} (hc : c ≤ 160) (H : LL c h Jc Jm) (h1 : Kc 23 5 = Jc 23 5) (h2 : ∀ k, Kc 25 k = Jc 25 k) (h3 : Km 47 26 = Jm 47 26) (h4 : ∀ a k, 307 ≤ a → a < 467 → Km a k = Jm a k) : LL c h Kc Km := by
  obtain ⟨a1, a2, a3, ht, b1, b2, b3, b4⟩ := H
  refine ⟨h1.trans a1, h3.trans a2, fun k hk => ?_, ht, b1, fun k hk => ?_, b3, b4⟩
  · rw [h2, h4 _ _ (by omega) (by omega), h4 _ _ (by omega) (by omega)]; exact a3 k hk
  · rw [h4 _ _ (by omega) (by omega)]; exact b2 k hk
theorem LL_1 {c h : Nat} {Jc Jm Kc Km : MJ} (hc : c ≤ 160) (H : LL c h Jc Jm) (f1 : fr1 Jc Kc) (f2 : fr47 Jm Km) : LL c h Kc Km := LL_c hc H (f1 _ _ (by omega)) (fun k => f1 _ _ (by omega)) (f2 _ _ (by omega)) (fun a k h1 h2 => f2 _ _ (by omega))
noncomputable def wtC (c : Nat) (x : Int32) (J : MJ) : MJ := ab_up1 (ab_up1 J 25 c x) 23 5 (Int32.ofNat (c + 1))
noncomputable def wtM (c : Nat) (how v : Int32) (J : MJ) : MJ := ab_up1 (ab_up1 (ab_up1 J (307 + c) 0 how) (307 + c) 1 v) 47 26 (Int32.ofNat (c + 1))
theorem x_write {c : Nat} {x : Int32} {J : MJ} (e : J 23 5 = Int32.ofNat c) (hc : c < 150) : f_mot_write86 x J = some (wtC c x J) := by
  unfold f_mot_write86 wtC
  rw [e, put_25 hc, ob_some, up_ne (by omega), e, i_addr]
theorem x_write_any {x : Int32} {J : MJ} : ∃ J', f_mot_write86 x J = some J' ∧ ∀ a k, a ≠ 25 → ¬ (a = 23 ∧ k = 5) → J' a k = J a k := by
  unfold f_mot_write86
  obtain ⟨J', h1, h2⟩ := put_any (a := 25) (N := 150) (i := J 23 5) (x := x) (J := J) rfl (by decide) (by decide)
  rw [h1, ob_some]
  exact ⟨_, rfl, fun a k g1 g2 => by rw [up_ne g2, h2 a k g1]⟩
theorem m_notes {c : Nat} {how v : Int32} {J : MJ} (h5 : J 47 5 = 0) (e : J 47 26 = Int32.ofNat c) (hc : c < 150) : f_m_notes296 how v J = some (wtM c how v J) := by
  unfold f_m_notes296 wtM
  rw [if_pos h5, e, rdp_306 (by omega), ob_some, wrrl_306 (by omega) (by decide), ob_some, up_ne (by omega), e, rdp_306 (by omega), ob_some, wrrl_306 (by omega) (by decide), ob_some, up_ne (by omega), up_ne (by omega), e, i_addr]
theorem m_notes_f {how v : Int32} {J : MJ} (h5 : ¬ J 47 5 = 0) : f_m_notes296 how v J = some J := by
  unfold f_m_notes296
  rw [if_neg h5]
theorem LL_put {c h h' : Nat} {x how v : Int32} {Jc Jm : MJ} (H : LL c h Jc Jm) (hc : c < 150) (hr : codeR x how v) (hh : if how = 0 ∨ how = 1 then h' = h + 1 else 2 ≤ h ∧ h' + 1 = h) (h6 : h' ≤ 60) : LL (c + 1) h' (wtC c x Jc) (wtM c how v Jm) := by
  obtain ⟨a1, a2, a3, ht, b1, b2, b3, b4⟩ := H
  unfold wtC wtM
  refine ⟨up_eq, up_eq, fun k hk => ?_, fun k => if k = c + 1 then h' else ht k, ?_, fun k hk => ?_, if_pos rfl, fun k hk => ?_⟩
  · by_cases e : k = c
    · subst e
      rw [up_ne (by omega), up_eq, up_ne (by omega), up_ne (by omega), up_eq, up_ne (by omega), up_eq]
      exact hr
    · rw [up_ne (by omega), up_ne (by omega), up_ne (by omega), up_ne (by omega), up_ne (by omega), up_ne (by omega), up_ne (by omega), up_ne (by omega)]
      exact a3 k (by omega)
  · try dsimp only
    rw [if_neg (by omega)]
    exact b1
  · try dsimp only
    by_cases e : k = c
    · subst e
      rw [show (if k + 1 = k + 1 then h' else ht (k + 1)) = h' from if_pos rfl, show (if k = k + 1 then h' else ht k) = h from by rw [if_neg (by omega)]; exact b3, up_ne (by omega), up_ne (by omega), up_eq]
      exact hh
    · rw [show (if k + 1 = c + 1 then h' else ht (k + 1)) = ht (k + 1) from if_neg (by omega), show (if k = c + 1 then h' else ht k) = ht k from if_neg (by omega), up_ne (by omega), up_ne (by omega), up_ne (by omega)]
      exact b2 k (by omega)
  · try dsimp only
    by_cases e : k = c + 1
    · rw [if_pos e]; exact h6
    · rw [if_neg e]; exact b4 k (by omega)
theorem wtC_f {c : Nat} {x : Int32} {J : MJ} : fcL J (wtC c x J) := fun a k h1 h2 h3 => by
  unfold wtC
  rw [up_ne h3, up_ne (by omega)]
theorem wtM_f {c : Nat} {how v : Int32} {J : MJ} (hc : c < 150) : fmL J (wtM c how v J) := fun a k h1 h2 => by
  unfold wtM
  rw [up_ne (by omega), up_ne (by omega), up_ne (by omega)]
section LAW
variable {B : Nat → Nat} {n : Nat}
theorem wtT {st : Option Nat} {c : Nat} {x how v : Int32} {Jc Jm : MJ} (h : TT B n st Jc Jm) (hc : c < 150) : TT B n st (wtC c x Jc) (wtM c how v Jm) := by
  unfold wtC wtM
  exact TT_mu (TT_mu (TT_mu (TT_cu (TT_cu h (by decide) (by decide)) (by decide) (by decide)) (by omega) (by omega)) (by omega) (by omega)) (by omega) (by omega)
theorem sign_at {c q : Nat} {J J' : MJ} (hc : c < 128) (h : cR B n J q) (hq : q < n ∧ B q = c) (e : f_tap_sign58 (Int32.ofNat c) J = some J') : J' 1 4 = Int32.ofNat q := by
  obtain ⟨h1, h2, h3, h4, h5⟩ := cR_next h
  have hb := byt_eq (B := B) (n := n) (k := q) (c := c) (fun hk => (h.1.2.2 _ hk).1) hc
  unfold f_tap_sign58 at e
  rw [if_pos h.2.1, h3, ob_some] at e
  try dsimp only at e
  rw [if_pos (hb.mpr hq), ob_some, if_neg (by decide), ob_some] at e
  rw [← Option.some.inj e, up_ne (by omega), up_eq, up_eq]
/-- what the inner reader does at one level deeper -/
def HCl (B : Nat → Nat) (n : Nat) (rc : Int32 → MJ → Option MJ) (rm : MJ → Option MJ) (d : Nat) : Prop := (∀ J : MJ, ¬ J 47 5 = 0 → rm J = some J) ∧ ∀ (q c h : Nat) (Jc Jm : MJ), TT B n (some q) Jc Jm → Jm 47 8 = Int32.ofNat (d + 1) → LL c h Jc Jm → c ≤ q → h ≤ 3 * (d + 1) → ∃ st Kc Km, rc (Int32.ofNat (d + 1)) Jc = some Kc ∧ rm Jm = some Km ∧ TT B n st Kc Km ∧ fcL Jc Kc ∧ fmL Jm Km ∧ ∀ q', st = some q' → q < q' ∧ Km 47 8 = Int32.ofNat (d + 1) ∧ ∃ c', LL c' (h + 1) Kc Km ∧ c' + q ≤ q' + c
theorem inside_f {rc : Int32 → MJ → Option MJ} {d : Int32} {J : MJ} (h : ¬ J 1 5 = 0) : F_mot_readInside88 rc d J = some J := by
  unfold F_mot_readInside88
  rw [x_sound, if_neg h, ob_some, if_pos rfl, ob_some]
theorem inside_ok {rc : Int32 → MJ → Option MJ} {d : Nat} {J : MJ} (hd : d < 6) (h : J 1 5 = 0) : F_mot_readInside88 rc (Int32.ofNat d) J = rc (Int32.ofNat (d + 1)) J := by
  unfold F_mot_readInside88
  rw [x_sound, if_pos h, ob_some, if_neg (by decide), if_pos (show Int32.ofNat d < (6 : Int32) from lt_l (b := 6) hd (by decide)), i_addr, b_some, b_some]
theorem room_ok {d : Nat} {J : MJ} (hd : d < 6) : f_mot_needRoom87 (Int32.ofNat d) J = some J := by
  unfold f_mot_needRoom87
  rw [if_pos (show Int32.ofNat d < (6 : Int32) from lt_l (b := 6) hd (by decide)), ob_some]
theorem room_no {q : Nat} {J : MJ} (h : J 1 5 = 0) (e : J 1 4 = Int32.ofNat q) : ∃ J', f_mot_needRoom87 (Int32.ofNat 6) J = some J' ∧ cX J' 3 q ∧ fr1 J J' := by
  obtain ⟨J', a1, a2, a3⟩ := x_fail_s (k := 3) (w := q) (J := J) (by omega) h
  unfold f_mot_needRoom87
  rw [if_neg (show ¬ Int32.ofNat 6 < (6 : Int32) by decide), e, show f_tap_fail50 3 (Int32.ofNat q) J = some J' from a1, ob_some, ob_some]
  exact ⟨J', rfl, a2, a3⟩
end LAW
