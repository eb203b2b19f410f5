/-! shop: a clause in both (written by wip/whole/ops/gen98997.py) -/
noncomputable def scB (w : Int32) (b2 : MJ) : Option MJ := (if w = (0 : Int32) then (Option.bind (f_sho_readBolt51 b2) fun I4 => some I4) else (if w = (1 : Int32) then (Option.bind (f_sho_readClient55 b2) fun I5 => some I5) else (if w = (2 : Int32) then (Option.bind (f_sho_readWant56 b2) fun I6 => some I6) else (if w = (3 : Int32) then (Option.bind (f_sho_readOrder57 b2) fun I7 => some I7) else (if w = (4 : Int32) then (Option.bind (f_tap_number53 (0 : Int32) (9 : Int32) b2) fun w8 => some (ab_up1 w8.2 9 9 w8.1)) else (if w = (5 : Int32) then (Option.bind (f_tap_number53 (1 : Int32) (24 : Int32) b2) fun w9 => some (ab_up1 w9.2 9 10 w9.1)) else some b2))))))
section FLAWED
variable {J : MJ}
theorem fl_bolt (h : ¬ J 1 5 = 0) : ∃ K, f_sho_readBolt51 J = some K ∧ ∀ a k, ¬ (9 ≤ a ∧ a ≤ 14) → K a k = J a k := by
  obtain ⟨J1, a1, a2⟩ := put_any (a := 10) (N := 10) (i := J 9 5) (x := -1) (J := J) rfl (by decide) (by decide)
  have h1 : ¬ J1 1 5 = 0 := by rw [a2 _ _ (by decide)]; exact h
  obtain ⟨J2, b1, b2⟩ := put_any (a := 11) (N := 10) (i := J1 9 5) (x := 1) (J := J1) rfl (by decide) (by decide)
  unfold f_sho_readBolt51
  rw [nR_f h, ob_some, x_word_f h, ob_some]
  try dsimp only
  rw [a1, ob_some, x_number_f h1, ob_some]
  try dsimp only
  rw [b1, ob_some]
  exact ⟨_, rfl, fun a k hk => by rw [up_ne (by omega), b2 a k (by omega), a2 a k (by omega)]⟩
theorem fl_client (h : ¬ J 1 5 = 0) : ∃ K, f_sho_readClient55 J = some K ∧ ∀ a k, ¬ (9 ≤ a ∧ a ≤ 14) → K a k = J a k := by
  obtain ⟨J1, a1, a2⟩ := put_any (a := 12) (N := 6) (i := J 9 6) (x := 0) (J := J) rfl (by decide) (by decide)
  unfold f_sho_readClient55
  rw [nR_f h, ob_some, x_number_f h, ob_some]
  try dsimp only
  rw [a1, ob_some]
  exact ⟨_, rfl, fun a k hk => by rw [up_ne (by omega), a2 a k (by omega)]⟩
theorem fl_want (h : ¬ J 1 5 = 0) : ∃ K, f_sho_readWant56 J = some K ∧ ∀ a k, ¬ (9 ≤ a ∧ a ≤ 14) → K a k = J a k := by
  obtain ⟨J1, a1, b1⟩ := put_any (a := 13) (N := 80) (i := (5 : Int32) * J 9 7 + (0 : Int32)) (x := 0) (J := J) rfl (by decide) (by decide)
  have h1 : ¬ J1 1 5 = 0 := by rw [b1 _ _ (by decide)]; exact h
  obtain ⟨J2, a2, b2⟩ := put_any (a := 13) (N := 80) (i := (5 : Int32) * J 9 7 + (1 : Int32)) (x := 0) (J := J1) rfl (by decide) (by decide)
  have h2 : ¬ J2 1 5 = 0 := by rw [b2 _ _ (by decide)]; exact h1
  obtain ⟨J3, a3, b3⟩ := put_any (a := 13) (N := 80) (i := (5 : Int32) * J 9 7 + (2 : Int32)) (x := 0) (J := J2) rfl (by decide) (by decide)
  have h3 : ¬ J3 1 5 = 0 := by rw [b3 _ _ (by decide)]; exact h2
  obtain ⟨J4, a4, b4⟩ := put_any (a := 13) (N := 80) (i := (5 : Int32) * J 9 7 + (3 : Int32)) (x := -1) (J := J3) rfl (by decide) (by decide)
  have h4 : ¬ J4 1 5 = 0 := by rw [b4 _ _ (by decide)]; exact h3
  obtain ⟨J5, a5, b5⟩ := put_any (a := 13) (N := 80) (i := (5 : Int32) * J 9 7 + (4 : Int32)) (x := 1) (J := J4) rfl (by decide) (by decide)
  have h5 : ¬ J5 1 5 = 0 := by rw [b5 _ _ (by decide)]; exact h4
  unfold f_sho_readWant56
  rw [nR_f h, ob_some]
  rw [x_number_f h, ob_some]
  try dsimp only
  rw [a1, ob_some]
  rw [x_number_f h1, ob_some]
  try dsimp only
  rw [a2, ob_some]
  rw [x_number_f h2, ob_some]
  try dsimp only
  rw [a3, ob_some]
  rw [x_word_f h3, ob_some]
  try dsimp only
  rw [a4, ob_some]
  rw [x_number_f h4, ob_some]
  try dsimp only
  rw [a5, ob_some]
  exact ⟨_, rfl, fun a k hk => by rw [up_ne (by omega), b5 a k (by omega), b4 a k (by omega), b3 a k (by omega), b2 a k (by omega), b1 a k (by omega)]⟩
theorem fl_order (h : ¬ J 1 5 = 0) : ∃ K, f_sho_readOrder57 J = some K ∧ ∀ a k, ¬ (9 ≤ a ∧ a ≤ 14) → K a k = J a k := by
  obtain ⟨J1, a1, b1⟩ := put_any (a := 14) (N := 40) (i := (5 : Int32) * J 9 8 + (0 : Int32)) (x := 0) (J := J) rfl (by decide) (by decide)
  have h1 : ¬ J1 1 5 = 0 := by rw [b1 _ _ (by decide)]; exact h
  obtain ⟨J2, a2, b2⟩ := put_any (a := 14) (N := 40) (i := (5 : Int32) * J 9 8 + (1 : Int32)) (x := 0) (J := J1) rfl (by decide) (by decide)
  have h2 : ¬ J2 1 5 = 0 := by rw [b2 _ _ (by decide)]; exact h1
  obtain ⟨J3, a3, b3⟩ := put_any (a := 14) (N := 40) (i := (5 : Int32) * J 9 8 + (2 : Int32)) (x := 1) (J := J2) rfl (by decide) (by decide)
  have h3 : ¬ J3 1 5 = 0 := by rw [b3 _ _ (by decide)]; exact h2
  obtain ⟨J4, a4, b4⟩ := put_any (a := 14) (N := 40) (i := (5 : Int32) * J 9 8 + (3 : Int32)) (x := 0) (J := J3) rfl (by decide) (by decide)
  have h4 : ¬ J4 1 5 = 0 := by rw [b4 _ _ (by decide)]; exact h3
  obtain ⟨J5, a5, b5⟩ := put_any (a := 14) (N := 40) (i := (5 : Int32) * J 9 8 + (4 : Int32)) (x := 1) (J := J4) rfl (by decide) (by decide)
  have h5 : ¬ J5 1 5 = 0 := by rw [b5 _ _ (by decide)]; exact h4
  unfold f_sho_readOrder57
  rw [nR_f h, ob_some]
  rw [x_number_f h, ob_some]
  try dsimp only
  rw [a1, ob_some]
  rw [x_number_f h1, ob_some]
  try dsimp only
  rw [a2, ob_some]
  rw [x_number_f h2, ob_some]
  try dsimp only
  rw [a3, ob_some]
  rw [x_number_f h3, ob_some]
  try dsimp only
  rw [a4, ob_some]
  rw [x_number_f h4, ob_some]
  try dsimp only
  rw [a5, ob_some]
  exact ⟨_, rfl, fun a k hk => by rw [up_ne (by omega), b5 a k (by omega), b4 a k (by omega), b3 a k (by omega), b2 a k (by omega), b1 a k (by omega)]⟩
theorem fl_body {k : Nat} (hk : k < 6) (h : ¬ J 1 5 = 0) : ∃ K, scB (Int32.ofNat k) J = some K ∧ ∀ a j, ¬ (9 ≤ a ∧ a ≤ 14) → K a j = J a j := by
  unfold scB
  have h6 : k = 0 ∨ k = 1 ∨ k = 2 ∨ k = 3 ∨ k = 4 ∨ k = 5 := by omega
  rcases h6 with rfl | rfl | rfl | rfl | rfl | rfl
  · obtain ⟨K, k1, k2⟩ := fl_bolt h
    rw [if_pos (show Int32.ofNat 0 = 0 from rfl), k1, ob_some]
    exact ⟨K, rfl, k2⟩
  · obtain ⟨K, k1, k2⟩ := fl_client h
    rw [if_neg (by decide), if_pos (show Int32.ofNat 1 = 1 from rfl), k1, ob_some]
    exact ⟨K, rfl, k2⟩
  · obtain ⟨K, k1, k2⟩ := fl_want h
    rw [if_neg (by decide), if_neg (by decide), if_pos (show Int32.ofNat 2 = 2 from rfl), k1, ob_some]
    exact ⟨K, rfl, k2⟩
  · obtain ⟨K, k1, k2⟩ := fl_order h
    rw [if_neg (by decide), if_neg (by decide), if_neg (by decide), if_pos (show Int32.ofNat 3 = 3 from rfl), k1, ob_some]
    exact ⟨K, rfl, k2⟩
  · rw [if_neg (by decide), if_neg (by decide), if_neg (by decide), if_neg (by decide), if_pos (show Int32.ofNat 4 = 4 from rfl), x_number_f h, ob_some]
    exact ⟨_, rfl, fun a j hj => up_ne (by omega)⟩
  · rw [if_neg (by decide), if_neg (by decide), if_neg (by decide), if_neg (by decide), if_neg (by decide), if_pos (show Int32.ofNat 5 = 5 from rfl), x_number_f h, ob_some]
    exact ⟨_, rfl, fun a j hj => up_ne (by omega)⟩
end FLAWED
def sB (nb : Nat) (Jc Jm : MJ) : Prop := ∀ b, b < nb → ∃ v0 v1, v0 < 6 ∧ 1 ≤ v1 ∧ v1 ≤ 60 ∧ Jc 10 b = Int32.ofNat v0 ∧ Jc 11 b = Int32.ofNat v1 ∧ Jm (55 + b) 0 = Int32.ofNat v0 ∧ Jm (55 + b) 1 = Int32.ofNat v1
def sC (nc : Nat) (Jc Jm : MJ) : Prop := ∀ c, c < nc → ∃ v, v ≤ 9 ∧ Jc 12 c = Int32.ofNat v ∧ Jm 52 c = Int32.ofNat v
def sW (nc nw : Nat) (Jc Jm : MJ) : Prop := ∀ w, w < nw → ∃ f : Nat → Nat, (f 0 < nc ∧ f 1 ≤ f 2 ∧ f 2 ≤ 11 ∧ f 3 < 6 ∧ 1 ≤ f 4 ∧ f 4 ≤ 9) ∧ ∀ j, j < 5 → Jc 13 (5 * w + j) = Int32.ofNat (f j) ∧ Jm (77 + w) j = Int32.ofNat (f j)
def sO (nc no : Nat) (Jc Jm : MJ) : Prop := ∀ w, w < no → ∃ f : Nat → Nat, (f 0 < nc ∧ f 1 < 6 ∧ 1 ≤ f 2 ∧ f 2 ≤ 60 ∧ f 3 ≤ 999 ∧ 1 ≤ f 4 ∧ f 4 ≤ 24) ∧ ∀ j, j < 5 → Jc 14 (5 * w + j) = Int32.ofNat (f j) ∧ Jm (111 + w) j = Int32.ofNat (f j)
def sD (i nb nc nw no se ha : Nat) (Jc Jm : MJ) : Prop :=
  (nb ≤ 10 ∧ nc ≤ 6 ∧ nw ≤ 16 ∧ no ≤ 8 ∧ se ≤ 9 ∧ 1 ≤ ha ∧ ha ≤ 24 ∧ i ≤ 60) ∧ Jm 47 7 = Int32.ofNat i ∧ (Jc 9 5 = Int32.ofNat nb ∧ Jc 9 6 = Int32.ofNat nc ∧ Jc 9 7 = Int32.ofNat nw ∧ Jc 9 8 = Int32.ofNat no ∧ Jc 9 9 = Int32.ofNat se ∧ Jc 9 10 = Int32.ofNat ha) ∧ (Jm 50 0 = Int32.ofNat nb ∧ Jm 50 1 = Int32.ofNat nc ∧ Jm 50 2 = Int32.ofNat nw ∧ Jm 50 3 = Int32.ofNat no ∧ Jm 50 4 = Int32.ofNat se ∧ Jm 50 5 = Int32.ofNat ha) ∧ sB nb Jc Jm ∧ sC nc Jc Jm ∧ sW nc nw Jc Jm ∧ sO nc no Jc Jm
theorem sB_c {nb : Nat} {Jc Jm Kc Km : MJ} (h : sB nb Jc Jm) (h1 : ∀ b, b < nb → Kc 10 b = Jc 10 b ∧ Kc 11 b = Jc 11 b) (h2 : ∀ b k, b < nb → Km (55 + b) k = Jm (55 + b) k) : sB nb Kc Km := fun b hb => by
  obtain ⟨v0, v1, a1, a2, a3, a4, a5, a6, a7⟩ := h b hb
  exact ⟨v0, v1, a1, a2, a3, (h1 b hb).1.trans a4, (h1 b hb).2.trans a5, (h2 b 0 hb).trans a6, (h2 b 1 hb).trans a7⟩
theorem sC_c {nc : Nat} {Jc Jm Kc Km : MJ} (h : sC nc Jc Jm) (h1 : ∀ b, b < nc → Kc 12 b = Jc 12 b) (h2 : ∀ b, b < nc → Km 52 b = Jm 52 b) : sC nc Kc Km := fun b hb => by
  obtain ⟨v, a1, a2, a3⟩ := h b hb
  exact ⟨v, a1, (h1 b hb).trans a2, (h2 b hb).trans a3⟩
theorem sW_c {nc nc' nw : Nat} {Jc Jm Kc Km : MJ} (h : sW nc nw Jc Jm) (hn : nc ≤ nc') (h1 : ∀ k, k < 5 * nw → Kc 13 k = Jc 13 k) (h2 : ∀ b k, b < nw → Km (77 + b) k = Jm (77 + b) k) : sW nc' nw Kc Km := fun b hb => by
  obtain ⟨f, a1, a2⟩ := h b hb
  exact ⟨f, ⟨by omega, a1.2⟩, fun j hj => ⟨(h1 _ (by omega)).trans (a2 j hj).1, (h2 b j hb).trans (a2 j hj).2⟩⟩
theorem sO_c {nc nc' no : Nat} {Jc Jm Kc Km : MJ} (h : sO nc no Jc Jm) (hn : nc ≤ nc') (h1 : ∀ k, k < 5 * no → Kc 14 k = Jc 14 k) (h2 : ∀ b k, b < no → Km (111 + b) k = Jm (111 + b) k) : sO nc' no Kc Km := fun b hb => by
  obtain ⟨f, a1, a2⟩ := h b hb
  exact ⟨f, ⟨by omega, a1.2⟩, fun j hj => ⟨(h1 _ (by omega)).trans (a2 j hj).1, (h2 b j hb).trans (a2 j hj).2⟩⟩
theorem nar_01 {c : Prop} [Decidable c] : (some (vp_nar .boolean (if c then (1 : Int32) else 0)) : Option Int32) = some (if c then 1 else 0) := by rw [nar_ite, nar_1, nar_0]
theorem full_0 {J : MJ} {c : Nat} (hc : c ≤ 10) (e : J 50 0 = Int32.ofNat c) : f_m_isFull279 (0 : Int32) J = some (if c = 10 then 1 else 0) := by
  unfold f_m_isFull279
  rw [if_pos rfl]
  by_cases h : c = 10
  · rw [if_pos (show J 50 0 = 10 by rw [e, h]; rfl), ob_some, if_pos h, nar_1]
  · rw [if_neg (show ¬ J 50 0 = 10 by rw [e]; exact neq_l (b := 10) h (by omega) (by decide)), if_neg (by decide), if_neg (by decide), if_neg (by decide), ob_some, if_neg h, nar_0]
theorem full_1 {J : MJ} {c : Nat} (hc : c ≤ 6) (e : J 50 1 = Int32.ofNat c) : f_m_isFull279 (1 : Int32) J = some (if c = 6 then 1 else 0) := by
  unfold f_m_isFull279
  rw [if_neg (by decide), if_pos rfl]
  by_cases h : c = 6
  · rw [if_pos (show J 50 1 = 6 by rw [e, h]; rfl), ob_some, if_pos h, nar_1]
  · rw [if_neg (show ¬ J 50 1 = 6 by rw [e]; exact neq_l (b := 6) h (by omega) (by decide)), if_neg (by decide), if_neg (by decide), ob_some, if_neg h, nar_0]
theorem full_2 {J : MJ} {c : Nat} (hc : c ≤ 16) (e : J 50 2 = Int32.ofNat c) : f_m_isFull279 (2 : Int32) J = some (if c = 16 then 1 else 0) := by
  unfold f_m_isFull279
  rw [if_neg (by decide), if_neg (by decide), if_pos rfl]
  by_cases h : c = 16
  · rw [if_pos (show J 50 2 = 16 by rw [e, h]; rfl), ob_some, if_pos h, nar_1]
  · rw [if_neg (show ¬ J 50 2 = 16 by rw [e]; exact neq_l (b := 16) h (by omega) (by decide)), if_neg (by decide), ob_some, if_neg h, nar_0]
theorem full_3 {J : MJ} {c : Nat} (hc : c ≤ 8) (e : J 50 3 = Int32.ofNat c) : f_m_isFull279 (3 : Int32) J = some (if c = 8 then 1 else 0) := by
  unfold f_m_isFull279
  rw [if_neg (by decide), if_neg (by decide), if_neg (by decide), if_pos rfl]
  by_cases h : c = 8
  · rw [if_pos (show J 50 3 = 8 by rw [e, h]; rfl), ob_some, if_pos h, nar_1]
  · rw [if_neg (show ¬ J 50 3 = 8 by rw [e]; exact neq_l (b := 8) h (by omega) (by decide)), ob_some, if_neg h, nar_0]
theorem full_4 {J : MJ} : f_m_isFull279 (4 : Int32) J = some 0 := by
  unfold f_m_isFull279
  rw [if_neg (by decide), if_neg (by decide), if_neg (by decide), if_neg (by decide), ob_some, nar_0]
theorem full_5 {J : MJ} : f_m_isFull279 (5 : Int32) J = some 0 := by
  unfold f_m_isFull279
  rw [if_neg (by decide), if_neg (by decide), if_neg (by decide), if_neg (by decide), ob_some, nar_0]
