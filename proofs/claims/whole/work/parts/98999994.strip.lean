/-! work: a suit's cell, of both stands -/
theorem stE_suitUp {I K : MJ} {v : Nat} {x : Int32} (h : stE (I 16) (K 576)) (hv : v < 6) : stE ((ab_up1 I 16 (3 + v) x) 16) ((ab_up1 K 576 (82 + v) x) 576) := fun k hk => by
  by_cases e : k = 3 + v
  · subst e
    rw [up_eq]
    unfold pi91
    rw [if_neg (by omega), if_neg (by omega), if_neg (by omega), if_pos (by omega), show 3 + v + 79 = 82 + v by omega, up_eq]
  · rw [up_ne (fun z => e z.2), h k hk, up_ne]
    intro z
    have h2 := z.2
    unfold pi91 at h2
    by_cases h0 : k = 0
    · rw [if_pos h0] at h2; omega
    rw [if_neg h0] at h2
    by_cases h1 : k = 1
    · rw [if_pos h1] at h2; omega
    rw [if_neg h1] at h2
    by_cases h3 : k = 2
    · rw [if_pos h3] at h2; omega
    rw [if_neg h3] at h2
    by_cases h4 : k < 9
    · rw [if_pos h4] at h2; omega
    · rw [if_neg h4] at h2; omega
theorem stV_strip {K : MJ} {nb nc v : Nat} (h : stV nb nc (K 576)) (hv : v < 6) : stV nb nc ((ab_up1 K 576 (82 + v) (-1)) 576) := by
  obtain ⟨day, h1, h2, h3, h4, h5⟩ := h
  refine ⟨day, h1, by rw [up_ne (by omega)]; exact h2, fun b hb => ?_, fun c hc => ?_, fun j hj => ?_⟩
  · rw [up_ne (by omega)]; exact h3 b hb
  · by_cases e : c = v
    · subst e
      exact Or.inl up_eq
    · rw [up_ne (by omega)]; exact h4 c hc
  · rw [up_ne (by omega)]; exact h5 j hj
/-- strip, of the class -/
theorem x_stripSuit {I : MJ} {v : Nat} (hv : v < 6) : f_tra_stripSuit120 (Int32.ofNat v) I = some (if I 16 (3 + v) = -1 then (0, I) else (1, ab_up1 I 16 (3 + v) (-1))) := by
  unfold f_tra_stripSuit120 f_sta_hasSuit108 f_sta_strip14
  rw [show (3 : Int32) + Int32.ofNat v = Int32.ofNat (3 + v) from i_addl, show f_x_at16 (15 + 1) (Int32.ofNat (3 + v)) I = some (I 16 (3 + v)) from at_16 (by omega), ob_some]
  by_cases h : I 16 (3 + v) = -1
  · rw [if_pos h, ob_some, nar_0, ob_some, if_pos rfl, if_pos h]
  · rw [if_neg h, ob_some, nar_1, ob_some, if_neg (by decide), put_16 (by omega), ob_some, ob_some, if_neg h]
