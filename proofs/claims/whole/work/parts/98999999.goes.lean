/-! work: the steps done, in both -/
noncomputable def daC (r : Int32 → Int32 → Int32 → MJ → Option MJ) (p2 p3 : Int32) : Int32 × MJ → Option ((Int32 × MJ) ⊕ MJ) := fun (s1 : Int32 × MJ) =>
  (Option.bind (f_pla_part102 p2 (1 : Int32) s1.2) fun v3 =>
  (if s1.1 < v3 then
  (if (s1.2 29 2) < (200 : Int32) then
  (if p3 < (6 : Int32) then
  (Option.bind (f_pla_part102 p2 (2 : Int32) s1.2) fun v4 =>
  (Option.bind (r (p2 + (1 : Int32)) v4 (p3 + (1 : Int32)) s1.2) fun I5 =>
  some (.inl ((s1.1 + (1 : Int32)), I5))
  )
  )
  else
  some (.inr s1.2)
  )
  else
  some (.inr s1.2)
  )
  else
  some (.inr s1.2)
  )
  )
theorem daC_eq {r : Int32 → Int32 → Int32 → MJ → Option MJ} {p2 p3 : Int32} {I : MJ} : F_pla_doAgain103 r p2 p3 I = wh (daC r p2 p3) (0, I) := by
  unfold F_pla_doAgain103
  exact b_some
noncomputable def dsC (r : Int32 → Int32 → Int32 → MJ → Option MJ) (p3 p4 : Int32) : Int32 × MJ → Option ((Int32 × MJ) ⊕ MJ) := fun (s1 : Int32 × MJ) =>
  (if s1.1 < p3 then
  (if (s1.2 29 2) < (200 : Int32) then
  (Option.bind (f_pla_part102 s1.1 (0 : Int32) (ab_up1 s1.2 29 2 ((s1.2 29 2) + (1 : Int32)))) fun v3 =>
  (Option.bind (α := Int32 × MJ)
  (if v3 = (6 : Int32) then
  (Option.bind (F_pla_doAgain103 r s1.1 p4 (ab_up1 s1.2 29 2 ((s1.2 29 2) + (1 : Int32)))) fun I5 =>
  (Option.bind (f_pla_part102 s1.1 (2 : Int32) I5) fun v6 =>
  some ((if s1.1 < (v6 - (1 : Int32)) then (v6 - (1 : Int32)) else s1.1), I5)
  )
  )
  else
  (Option.bind (f_pla_part102 s1.1 (0 : Int32) (ab_up1 s1.2 29 2 ((s1.2 29 2) + (1 : Int32)))) fun v7 =>
  (Option.bind (f_pla_part102 s1.1 (1 : Int32) (ab_up1 s1.2 29 2 ((s1.2 29 2) + (1 : Int32)))) fun v8 =>
  (Option.bind (f_pla_part102 s1.1 (2 : Int32) (ab_up1 s1.2 29 2 ((s1.2 29 2) + (1 : Int32)))) fun v9 =>
  (Option.bind (f_pla_part102 s1.1 (3 : Int32) (ab_up1 s1.2 29 2 ((s1.2 29 2) + (1 : Int32)))) fun v10 =>
  (Option.bind (f_tra_step104 v7 v8 v9 v10 (ab_up1 s1.2 29 2 ((s1.2 29 2) + (1 : Int32)))) fun w11 =>
  (if w11.1 = 0 then
  some (s1.1, (ab_up1 w11.2 29 4 ((w11.2 29 4) + (1 : Int32))))
  else
  some (s1.1, (ab_up1 w11.2 29 3 ((w11.2 29 3) + (1 : Int32))))
  )
  )
  )
  )
  )
  )
  )
  fun b4 =>
  some (.inl ((b4.1 + (1 : Int32)), b4.2))
  )
  )
  else
  some (.inr s1.2)
  )
  else
  some (.inr s1.2)
  )
theorem dsC_eq {r : Int32 → Int32 → Int32 → MJ → Option MJ} {p2 p3 p4 : Int32} {I : MJ} : F_pla_doSteps101 r p2 p3 p4 I = wh (dsC r p3 p4) (p2, I) := by
  unfold F_pla_doSteps101
  exact b_some
noncomputable def gaM (r : Int32 → Int32 → MJ → Option MJ) (p1 : Int32) : Int32 × MJ → Option ((Int32 × MJ) ⊕ MJ) := fun (s8 : Int32 × MJ) =>
  (Option.bind (rdp 495 p1) fun r10 =>
  (Option.bind (rd s8.2 r10 (1 : Int32)) fun v11 =>
  (if s8.1 < v11 then
  (if (s8.2 47 46) < (200 : Int32) then
  (Option.bind (rdp 495 p1) fun r12 =>
  (Option.bind (rd s8.2 r12 (4 : Int32)) fun v13 =>
  (Option.bind (r (p1 + (1 : Int32)) v13 s8.2) fun I14 =>
  some (.inl ((s8.1 + (1 : Int32)), I14))
  )
  )
  )
  else
  some (.inr s8.2)
  )
  else
  some (.inr s8.2)
  )
  )
  )
noncomputable def gsM (r : Int32 → Int32 → MJ → Option MJ) (p2 : Int32) : Int32 × MJ → Option ((Int32 × MJ) ⊕ MJ) := fun (s1 : Int32 × MJ) =>
  (if s1.1 < p2 then
  (if (s1.2 47 46) < (200 : Int32) then
  (Option.bind (rdp 495 s1.1) fun r3 =>
  (Option.bind (rd (ab_up1 s1.2 47 46 ((s1.2 47 46) + (1 : Int32))) r3 (0 : Int32)) fun v4 =>
  (Option.bind (α := MJ)
  (if v4 = (6 : Int32) then
  (Option.bind (wh (gaM r s1.1) ((0 : Int32), (ab_up1 s1.2 47 46 ((s1.2 47 46) + (1 : Int32))))) fun b9 =>
  some b9
  )
  else
  (Option.bind (rdp 495 s1.1) fun r15 =>
  (Option.bind (f_m_does304 576 r15 (ab_up1 s1.2 47 46 ((s1.2 47 46) + (1 : Int32)))) fun w16 =>
  (Option.bind (α := Int32)
  (if w16.1 = 0 then
  some (0 : Int32)
  else
  some (1 : Int32)
  )
  fun b17 =>
  (Option.bind (α := Int32)
  (if w16.1 = 0 then
  some (1 : Int32)
  else
  some (0 : Int32)
  )
  fun b18 =>
  some (ab_up1 (ab_up1 w16.2 47 47 ((w16.2 47 47) + b17)) 47 41 ((w16.2 47 41) + b18))
  )
  )
  )
  )
  )
  fun b5 =>
  (Option.bind (rdp 495 s1.1) fun r6 =>
  (Option.bind (rd b5 r6 (4 : Int32)) fun v7 =>
  some (.inl (v7, b5))
  )
  )
  )
  )
  )
  else
  some (.inr s1.2)
  )
  else
  some (.inr s1.2)
  )
theorem gsM_eq {r : Int32 → Int32 → MJ → Option MJ} {p1 p2 : Int32} {I : MJ} : F_m_goes303 r p1 p2 I = wh (gsM r p2) (p1, I) := by
  unfold F_m_goes303
  exact b_some
theorem x_part {k j : Nat} {J : MJ} (hk : k < 64) (hj : j < 4) : f_pla_part102 (Int32.ofNat k) (Int32.ofNat j) J = some (J 30 (4 * k + j)) := by
  unfold f_pla_part102
  rw [show (4 : Int32) * Int32.ofNat k = Int32.ofNat (4 * k) from i_mull, i_add, at_30 (by omega), ob_some]
def fcG (I J : MJ) : Prop := ∀ a k, a ≠ 16 → a ≠ 18 → a ≠ 26 → a ≠ 27 → ¬ (a = 29 ∧ (k = 2 ∨ k = 3 ∨ k = 4)) → J a k = I a k
def fmG (I J : MJ) : Prop := ∀ a k, a ≠ 576 → a ≠ 599 → a ≠ 493 → a ≠ 494 → a ≠ 600 → ¬ (a = 47 ∧ (k = 41 ∨ k = 46 ∨ k = 47)) → J a k = I a k
theorem fcG_rf {I : MJ} : fcG I I := fun _ _ _ _ _ _ _ => rfl
theorem fmG_rf {I : MJ} : fmG I I := fun _ _ _ _ _ _ _ _ => rfl
theorem fcG_tr {I J K : MJ} (h : fcG I J) (g : fcG J K) : fcG I K := fun a k h1 h2 h3 h4 h5 => (g a k h1 h2 h3 h4 h5).trans (h a k h1 h2 h3 h4 h5)
theorem fmG_tr {I J K : MJ} (h : fmG I J) (g : fmG J K) : fmG I K := fun a k h1 h2 h3 h4 h5 h6 => (g a k h1 h2 h3 h4 h5 h6).trans (h a k h1 h2 h3 h4 h5 h6)
theorem fcG_D {I J : MJ} (h : fcD I J) : fcG I J := fun a k h1 h2 h3 h4 _ => h a k h1 h2 h3 h4
theorem fmG_D {I J : MJ} (h : fmD I J) : fmG I J := fun a k h1 h2 h3 h4 h5 _ => h a k h1 h2 h3 h4 h5
theorem fcG_up {I : MJ} {j : Nat} {x : Int32} (hj : j = 2 ∨ j = 3 ∨ j = 4) : fcG I (ab_up1 I 29 j x) := fun a k _ _ _ _ h5 => up_ne (fun z => h5 ⟨z.1, by obtain ⟨-, rfl⟩ := z; exact hj⟩)
theorem fmG_up {I : MJ} {j : Nat} {x : Int32} (hj : j = 41 ∨ j = 46 ∨ j = 47) : fmG I (ab_up1 I 47 j x) := fun a k _ _ _ _ _ h5 => up_ne (fun z => h5 ⟨z.1, by obtain ⟨-, rfl⟩ := z; exact hj⟩)
theorem up_row {J : MJ} {a b j : Nat} {x : Int32} (h : b ≠ a) : ab_up1 J a j x b = J b := funext fun _ => up_ne (fun z => h z.1)
section GOES1
variable {a e : Nat} {J K : MJ}
theorem dsC_end {r : Int32 → Int32 → Int32 → MJ → Option MJ} {p3 p4 : Int32} (h : ¬ (Int32.ofNat a < p3 ∧ J 29 2 < 200)) : dsC r p3 p4 (Int32.ofNat a, J) = some (.inr J) := by
  unfold dsC
  dsimp only
  by_cases h1 : Int32.ofNat a < p3
  · rw [if_pos h1, if_neg (fun z => h ⟨h1, z⟩)]
  · rw [if_neg h1]
theorem gsM_end {r : Int32 → Int32 → MJ → Option MJ} {p2 : Int32} (h : ¬ (Int32.ofNat a < p2 ∧ J 47 46 < 200)) : gsM r p2 (Int32.ofNat a, J) = some (.inr J) := by
  unfold gsM
  dsimp only
  by_cases h1 : Int32.ofNat a < p2
  · rw [if_pos h1, if_neg (fun z => h ⟨h1, z⟩)]
  · rw [if_neg h1]
theorem dsC_0 {r : Int32 → Int32 → Int32 → MJ → Option MJ} {p3 p4 : Int32} (ha : a < 64) (h1 : Int32.ofNat a < p3) (h2 : J 29 2 < 200) (h6 : ¬ J 30 (4 * a) = 6) (hs : f_tra_step104 ((ab_up1 J 29 2 (J 29 2 + 1)) 30 (4 * a)) ((ab_up1 J 29 2 (J 29 2 + 1)) 30 (4 * a + 1)) ((ab_up1 J 29 2 (J 29 2 + 1)) 30 (4 * a + 2)) ((ab_up1 J 29 2 (J 29 2 + 1)) 30 (4 * a + 3)) (ab_up1 J 29 2 (J 29 2 + 1)) = some (0, K)) : dsC r p3 p4 (Int32.ofNat a, J) = some (.inl (Int32.ofNat (a + 1), ab_up1 K 29 4 (K 29 4 + 1))) := by
  have p : ∀ j, j < 4 → f_pla_part102 (Int32.ofNat a) (Int32.ofNat j) (ab_up1 J 29 2 (J 29 2 + 1)) = some ((ab_up1 J 29 2 (J 29 2 + 1)) 30 (4 * a + j)) := fun j hj => x_part ha hj
  unfold dsC
  dsimp only
  rw [if_pos h1, if_pos h2, show f_pla_part102 (Int32.ofNat a) (0 : Int32) _ = _ from p 0 (by decide), ob_some, if_neg (show ¬ (ab_up1 J 29 2 (J 29 2 + 1)) 30 (4 * a + 0) = 6 by rw [up_ne (by omega)]; exact h6), ob_some, show f_pla_part102 (Int32.ofNat a) (1 : Int32) _ = _ from p 1 (by decide), ob_some, show f_pla_part102 (Int32.ofNat a) (2 : Int32) _ = _ from p 2 (by decide), ob_some, show f_pla_part102 (Int32.ofNat a) (3 : Int32) _ = _ from p 3 (by decide), ob_some, show f_tra_step104 ((ab_up1 J 29 2 (J 29 2 + 1)) 30 (4 * a + 0)) _ _ _ _ = some (0, K) from hs, ob_some, if_pos rfl, ob_some, i_addr]
theorem dsC_1 {r : Int32 → Int32 → Int32 → MJ → Option MJ} {p3 p4 : Int32} (ha : a < 64) (h1 : Int32.ofNat a < p3) (h2 : J 29 2 < 200) (h6 : ¬ J 30 (4 * a) = 6) (hs : f_tra_step104 ((ab_up1 J 29 2 (J 29 2 + 1)) 30 (4 * a)) ((ab_up1 J 29 2 (J 29 2 + 1)) 30 (4 * a + 1)) ((ab_up1 J 29 2 (J 29 2 + 1)) 30 (4 * a + 2)) ((ab_up1 J 29 2 (J 29 2 + 1)) 30 (4 * a + 3)) (ab_up1 J 29 2 (J 29 2 + 1)) = some (1, K)) : dsC r p3 p4 (Int32.ofNat a, J) = some (.inl (Int32.ofNat (a + 1), ab_up1 K 29 3 (K 29 3 + 1))) := by
  have p : ∀ j, j < 4 → f_pla_part102 (Int32.ofNat a) (Int32.ofNat j) (ab_up1 J 29 2 (J 29 2 + 1)) = some ((ab_up1 J 29 2 (J 29 2 + 1)) 30 (4 * a + j)) := fun j hj => x_part ha hj
  unfold dsC
  dsimp only
  rw [if_pos h1, if_pos h2, show f_pla_part102 (Int32.ofNat a) (0 : Int32) _ = _ from p 0 (by decide), ob_some, if_neg (show ¬ (ab_up1 J 29 2 (J 29 2 + 1)) 30 (4 * a + 0) = 6 by rw [up_ne (by omega)]; exact h6), ob_some, show f_pla_part102 (Int32.ofNat a) (1 : Int32) _ = _ from p 1 (by decide), ob_some, show f_pla_part102 (Int32.ofNat a) (2 : Int32) _ = _ from p 2 (by decide), ob_some, show f_pla_part102 (Int32.ofNat a) (3 : Int32) _ = _ from p 3 (by decide), ob_some, show f_tra_step104 ((ab_up1 J 29 2 (J 29 2 + 1)) 30 (4 * a + 0)) _ _ _ _ = some (1, K) from hs, ob_some, if_neg (show ¬ (1 : Int32) = 0 by decide), ob_some, i_addr]
theorem dsC_6 {r : Int32 → Int32 → Int32 → MJ → Option MJ} {p3 p4 : Int32} (ha : a < 64) (h1 : Int32.ofNat a < p3) (h2 : J 29 2 < 200) (h6 : J 30 (4 * a) = 6) (hw : wh (daC r (Int32.ofNat a) p4) (0, ab_up1 J 29 2 (J 29 2 + 1)) = some K) (he : K 30 (4 * a + 2) = Int32.ofNat e) (hae : a < e) (he2 : e ≤ 64) : dsC r p3 p4 (Int32.ofNat a, J) = some (.inl (Int32.ofNat e, K)) := by
  unfold dsC
  dsimp only
  rw [if_pos h1, if_pos h2, show f_pla_part102 (Int32.ofNat a) (0 : Int32) (ab_up1 J 29 2 (J 29 2 + 1)) = some ((ab_up1 J 29 2 (J 29 2 + 1)) 30 (4 * a + 0)) from x_part (j := 0) ha (by decide), ob_some, if_pos (show (ab_up1 J 29 2 (J 29 2 + 1)) 30 (4 * a + 0) = 6 by rw [up_ne (by omega)]; exact h6), daC_eq, hw, ob_some, show f_pla_part102 (Int32.ofNat a) (2 : Int32) K = some (K 30 (4 * a + 2)) from x_part (j := 2) ha (by decide), ob_some, he, show Int32.ofNat e - (1 : Int32) = Int32.ofNat (e - 1) from i_subr (n := 1) (by show 1 ≤ e; omega), ob_some]
  dsimp only
  by_cases h : a < e - 1
  · rw [if_pos (lt_l h (by omega)), show Int32.ofNat (e - 1) + (1 : Int32) = Int32.ofNat (e - 1 + 1) from i_addr, show e - 1 + 1 = e by omega]
  · rw [if_neg (nlt_l h (by omega) (by omega)), show Int32.ofNat a + (1 : Int32) = Int32.ofNat (a + 1) from i_addr, show a + 1 = e by omega]
theorem gsM_0 {r : Int32 → Int32 → MJ → Option MJ} {p2 : Int32} (ha : a < 64) (h1 : Int32.ofNat a < p2) (h2 : J 47 46 < 200) (h6 : ¬ J (496 + a) 0 = 6) (hs : f_m_does304 576 (496 + a) (ab_up1 J 47 46 (J 47 46 + 1)) = some (0, K)) (he : K (496 + a) 4 = Int32.ofNat e) : gsM r p2 (Int32.ofNat a, J) = some (.inl (Int32.ofNat e, ab_up1 (ab_up1 K 47 47 (K 47 47 + 0)) 47 41 (K 47 41 + 1))) := by
  unfold gsM
  dsimp only
  rw [if_pos h1, if_pos h2, rdp_495 (by omega), ob_some, show rd (ab_up1 J 47 46 (J 47 46 + 1)) (496 + a) (0 : Int32) = some ((ab_up1 J 47 46 (J 47 46 + 1)) (496 + a) 0) from rdr_495 (k := 0) (by omega) (by decide), ob_some, up_ne (by omega), if_neg h6, ob_some, hs, ob_some]
  dsimp only
  rw [if_pos rfl, ob_some, if_pos rfl, ob_some, ob_some, ob_some, show rd (ab_up1 (ab_up1 K 47 47 (K 47 47 + 0)) 47 41 (K 47 41 + 1)) (496 + a) (4 : Int32) = some ((ab_up1 (ab_up1 K 47 47 (K 47 47 + 0)) 47 41 (K 47 41 + 1)) (496 + a) 4) from rdr_495 (k := 4) (by omega) (by decide), ob_some, up_ne (by omega), up_ne (by omega), he]
theorem gsM_1 {r : Int32 → Int32 → MJ → Option MJ} {p2 : Int32} (ha : a < 64) (h1 : Int32.ofNat a < p2) (h2 : J 47 46 < 200) (h6 : ¬ J (496 + a) 0 = 6) (hs : f_m_does304 576 (496 + a) (ab_up1 J 47 46 (J 47 46 + 1)) = some (1, K)) (he : K (496 + a) 4 = Int32.ofNat e) : gsM r p2 (Int32.ofNat a, J) = some (.inl (Int32.ofNat e, ab_up1 (ab_up1 K 47 47 (K 47 47 + 1)) 47 41 (K 47 41 + 0))) := by
  unfold gsM
  dsimp only
  rw [if_pos h1, if_pos h2, rdp_495 (by omega), ob_some, show rd (ab_up1 J 47 46 (J 47 46 + 1)) (496 + a) (0 : Int32) = some ((ab_up1 J 47 46 (J 47 46 + 1)) (496 + a) 0) from rdr_495 (k := 0) (by omega) (by decide), ob_some, up_ne (by omega), if_neg h6, ob_some, hs, ob_some]
  dsimp only
  rw [if_neg (show ¬ (1 : Int32) = 0 by decide), ob_some, if_neg (show ¬ (1 : Int32) = 0 by decide), ob_some, ob_some, ob_some, show rd (ab_up1 (ab_up1 K 47 47 (K 47 47 + 1)) 47 41 (K 47 41 + 0)) (496 + a) (4 : Int32) = some ((ab_up1 (ab_up1 K 47 47 (K 47 47 + 1)) 47 41 (K 47 41 + 0)) (496 + a) 4) from rdr_495 (k := 4) (by omega) (by decide), ob_some, up_ne (by omega), up_ne (by omega), he]
theorem gsM_6 {r : Int32 → Int32 → MJ → Option MJ} {p2 : Int32} (ha : a < 64) (h1 : Int32.ofNat a < p2) (h2 : J 47 46 < 200) (h6 : J (496 + a) 0 = 6) (hw : wh (gaM r (Int32.ofNat a)) (0, ab_up1 J 47 46 (J 47 46 + 1)) = some K) (he : K (496 + a) 4 = Int32.ofNat e) : gsM r p2 (Int32.ofNat a, J) = some (.inl (Int32.ofNat e, K)) := by
  unfold gsM
  dsimp only
  rw [if_pos h1, if_pos h2, rdp_495 (by omega), ob_some, show rd (ab_up1 J 47 46 (J 47 46 + 1)) (496 + a) (0 : Int32) = some ((ab_up1 J 47 46 (J 47 46 + 1)) (496 + a) 0) from rdr_495 (k := 0) (by omega) (by decide), ob_some, up_ne (by omega), if_pos h6, hw, ob_some, ob_some, ob_some, show rd K (496 + a) (4 : Int32) = some (K (496 + a) 4) from rdr_495 (k := 4) (by omega) (by decide), ob_some, he]
end GOES1
