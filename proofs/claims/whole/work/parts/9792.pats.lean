section PATS
variable {I : MJ}
theorem x_pattern {nb tb p : Nat} {bk : Nat → Nat} {pk : Nat → Nat → Nat} (L : Nat → Int32) (hp : p < 6) (hb : nb ≤ 10) (e : I 3 5 = Int32.ofNat nb) (h4 : ∀ b, b < nb → I 4 b = Int32.ofNat (bk b)) (ht : tb < 64) (e3 : I 19 3 = Int32.ofNat tb) (hpk : ∀ p h, p < 6 → h < 12 → I 20 (12 * p + h) = Int32.ofNat (pk p h)) (hL : ∀ b, b < nb → I 18 (9 + b) = L b) : ∃ J2, f_sta_takePattern109 (Int32.ofNat p) I = some ((if tb.testBit p = true ∧ (cutF bk nb (fun h => Int32.ofNat (pk p h)) 12 1 L).1 = true then (1 : Int32) else 0), J2) ∧ (∀ g k, g ≠ 18 → J2 g k = I g k) ∧ (tb.testBit p = true → ∀ b, b < nb → J2 18 (9 + b) = (cutF bk nb (fun h => Int32.ofNat (pk p h)) 12 1 L).2 b) ∧ (∀ k, k < 9 ∨ 9 + nb ≤ k → J2 18 k = I 18 k) := by
  obtain ⟨J2, a1, a2, a3, a4⟩ := x_cutF (I := I) (nb := nb) (bk := bk) (K := fun h => Int32.ofNat (pk p h)) (p := Int32.ofNat p) hb e h4 (fun J hJ j hj => by
    unfold f_pat_kindAt110
    rw [show (12 : Int32) * Int32.ofNat p + Int32.ofNat j = Int32.ofNat (12 * p + j) by rw [Int32.ofNat_add, Int32.ofNat_mul]; rfl, at_ok (I := J) (n := 72) rfl (by decide) (by decide) (by omega), ob_some, hJ 20 _ (by decide), hpk p j hp hj]) 12 1 L I (by decide) (by decide) (fun _ _ _ => rfl) hL
  unfold f_sta_takePattern109
  rw [x_isTold e3 ht hp, ob_some]
  by_cases h : tb.testBit p = true
  · refine ⟨J2, ?_, a2, fun _ => a3, a4⟩
    rw [if_pos h, if_neg (by decide)]
    refine a1.trans ?_
    by_cases hc : (cutF bk nb (fun h => Int32.ofNat (pk p h)) 12 1 L).1 = true
    · rw [if_pos hc, if_pos ⟨h, hc⟩]
    · rw [if_neg hc, if_neg (fun q => hc q.2)]
  · refine ⟨I, ?_, fun _ _ _ => rfl, fun q => absurd q h, fun _ _ => rfl⟩
    rw [if_neg h, if_pos rfl, if_neg (fun q => h q.1)]
theorem m_pattern {a nb tb p : Nat} {bk : Nat → Nat} {pk : Nat → Nat → Nat} (L : Nat → Int32) (hK : KS a = (100, 91)) (ha : a < 699) (ha2 : a ≠ 599) (hp : p < 6) (hb : nb ≤ 10) (e : I 51 0 = Int32.ofNat nb) (h66 : ∀ b, b < nb → I (66 + b) 0 = Int32.ofNat (bk b)) (h135 : ∀ p, p < 6 → I 135 p = if tb.testBit p then 1 else 0) (hpk : ∀ p h, p < 6 → h < 12 → I (129 + p) h = Int32.ofNat (pk p h)) (hL : ∀ b, b < nb → I a b = L b) : ∃ J2, f_m_cuts307 a (Int32.ofNat p) I = some ((if tb.testBit p = true ∧ (cutF bk nb (fun h => Int32.ofNat (pk p h)) 12 1 L).1 = true then (1 : Int32) else 0), J2) ∧ (∀ g k, g ≠ 599 → J2 g k = I g k) ∧ (tb.testBit p = true → ∀ b, b < nb → J2 599 b = (cutF bk nb (fun h => Int32.ofNat (pk p h)) 12 1 L).2 b) ∧ (tb.testBit p = true → ∀ k, nb ≤ k → k < 91 → J2 599 k = I a k) := by
  obtain ⟨J2, a1, a2, a3, a4⟩ := m_cutF (I := ab_cpy I a 599 0 0 91) (nb := nb) (bk := bk) (K := fun h => Int32.ofNat (pk p h)) (p := Int32.ofNat p) (a := 129 + p) hb (by rw [cpy_ne (by decide)]; exact e) (fun b hb => by rw [cpy_ne (by omega)]; exact h66 b hb) (rdp_128 hp) (fun J hJ j hj => by
    rw [rd_ok (I := J) (a := 129 + p) (n := 12) (by rcases p with _ | _ | _ | _ | _ | _ | p <;> first | rfl | omega) hj (by omega) (by decide), hJ (129 + p) j (by omega), cpy_ne (by omega), hpk p j hp hj]) 12 0 L (ab_cpy I a 599 0 0 91) (by decide) (by decide) (fun _ _ _ => rfl) (fun b hb => by
    rw [cpy_at, if_pos ⟨Nat.zero_le _, by omega⟩, show 0 + (b - 0) = b by omega]
    exact hL b hb)
  unfold f_m_cuts307
  have r135 : rdb I 135 (Int32.ofNat p) = some (if tb.testBit p then 1 else 0) := by rw [rdb_135 hp, h135 p hp]
  rw [r135, ob_some]
  by_cases h : tb.testBit p = true
  · refine ⟨J2, ?_, fun g k hg => by rw [a2 g k hg, cpy_ne hg], fun _ => a3, fun _ k h1 h2 => by rw [a4 k h1, cpy_at, if_pos ⟨Nat.zero_le _, by omega⟩, show 0 + (k - 0) = k by omega]⟩
    rw [if_pos h, if_neg (by decide), copies_ok (la := 91) (lb := 91) hK rfl ha (by decide) (by decide) (by decide) ha2, ob_some]
    refine a1.trans ?_
    by_cases hc : (cutF bk nb (fun h => Int32.ofNat (pk p h)) 12 1 L).1 = true
    · rw [if_pos hc, if_pos ⟨h, hc⟩]
    · rw [if_neg hc, if_neg (fun q => hc q.2)]
  · refine ⟨I, ?_, fun _ _ _ => rfl, fun q => absurd q h, fun q => absurd q h⟩
    rw [if_neg h, if_pos rfl, if_neg (fun q => h q.1)]
end PATS
