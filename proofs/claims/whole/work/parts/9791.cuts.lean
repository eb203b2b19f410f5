section MCUTS
variable {I : MJ}
theorem m_cutF {nb : Nat} {bk : Nat → Nat} {K : Nat → Int32} {p : Int32} {a : Nat} (hb : nb ≤ 10) (e : I 51 0 = Int32.ofNat nb) (h66 : ∀ b, b < nb → I (66 + b) 0 = Int32.ofNat (bk b)) (hp : rdp 128 p = some a) (hk : ∀ J : MJ, (∀ g k, g ≠ 599 → J g k = I g k) → ∀ j, j < 12 → rd J a (Int32.ofNat j) = some (K j)) : ∀ (m s : Nat) (L : Nat → Int32) (J : MJ), 12 - s ≤ m → s ≤ 12 → (∀ g k, g ≠ 599 → J g k = I g k) → (∀ b, b < nb → J 599 b = L b) → ∃ J2, wh (fun (s3 : Int32 × MJ) =>
  (if s3.1 < (12 : Int32) then
  (Option.bind (rdp 128 p) fun r4 =>
  (Option.bind (f_m_runAt308 r4 (0 : Int32) s3.1 s3.2) fun v5 =>
  (Option.bind (rdp 128 p) fun r6 =>
  (Option.bind (rd s3.2 r6 s3.1) fun v7 =>
  (Option.bind (f_m_boltFor309 599 v7 v5 s3.2) fun v8 =>
  (if v8 = (-1 : Int32) then
  some (.inr ((0 : Int32), s3.2))
  else
  (Option.bind (rd s3.2 599 ((0 : Int32) + v8)) fun v9 =>
  (Option.bind (wr s3.2 599 ((0 : Int32) + v8) (v9 - v5)) fun I10 =>
  (Option.bind (rdp 128 p) fun r11 =>
  (Option.bind (f_m_runAt308 r11 (0 : Int32) s3.1 I10) fun v12 =>
  some (.inl ((s3.1 + v12), I10))
  )
  )
  )
  )
  )
  )
  )
  )
  )
  )
  else
  some (.inr ((1 : Int32), s3.2))
  )
  ) (Int32.ofNat s, J) = some ((if (cutF bk nb K (12 - s) 1 L).1 then (1 : Int32) else 0), J2) ∧ (∀ g k, g ≠ 599 → J2 g k = I g k) ∧ (∀ b, b < nb → J2 599 b = (cutF bk nb K (12 - s) 1 L).2 b) ∧ (∀ k, nb ≤ k → J2 599 k = J 599 k)
  | 0, s, L, J, hm, hs, hJ, hL => by
    have es : s = 12 := by omega
    subst es
    exact ⟨J, wh_inr (if_neg (show ¬ Int32.ofNat 12 < (12 : Int32) by decide)), hJ, hL, fun _ _ => rfl⟩
  | m + 1, s, L, J, hm, hs, hJ, hL => by
    by_cases h12 : s = 12
    · subst h12
      exact ⟨J, wh_inr (if_neg (show ¬ Int32.ofNat 12 < (12 : Int32) by decide)), hJ, hL, fun _ _ => rfl⟩
    · have hs12 : s < 12 := by omega
      obtain ⟨r1, r2, r3, r4⟩ := rlF_ok (K := K) (s := s) (f := 11) (n := 1) (Nat.le_refl _) (by omega) (by omega) (fun i hi => by rw [show i = 0 by omega]; rfl)
      have bf := m_boltFor (I := J) (a := 599) (n := 91) (nb := nb) (bk := bk) (x := K s) (hrs := Int32.ofNat (rlF K s 11 1)) rfl (by decide) (by decide) hb (by rw [hJ 51 0 (by decide)]; exact e) (fun b hb => by rw [hJ (66 + b) 0 (by omega)]; exact h66 b hb)
      have cg : chF bk (fun b => J 599 b) (K s) (Int32.ofNat (rlF K s 11 1)) nb = chF bk L (K s) (Int32.ofNat (rlF K s 11 1)) nb := chF_congr hL
      rw [cg] at bf
      have ra := m_runAt (I := J) (a := a) (K := K) hs12 (hk J hJ)
      have ks := hk J hJ s hs12
      have c1 : Int32.ofNat s < (12 : Int32) := by rw [i_ltr (by omega) (by decide)]; exact hs12
      rw [cutF_end r1 r2 r3 r4]
      cases hc : chF bk L (K s) (Int32.ofNat (rlF K s 11 1)) nb with
      | none =>
        rw [hc] at bf
        refine ⟨J, wh_inr ?_, hJ, hL, fun _ _ => rfl⟩
        dsimp only
        rw [if_pos c1, hp, ob_some, ra, ob_some, ob_some, ks, ob_some, bf, ob_some, if_pos (show oI none = -1 from rfl)]
        rfl
      | some c =>
        have hcn := chF_lt hc
        rw [hc] at bf
        have hn1 : ¬ oI (some c) = -1 := fun h => by rw [show oI (some c) = Int32.ofNat c from rfl, i_neg1 (by omega)] at h; exact h
        have hoc : (0 : Int32) + oI (some c) = Int32.ofNat c := by rw [show oI (some c) = Int32.ofNat c from rfl, Int32.zero_add]
        have hrd : rd J 599 (Int32.ofNat c) = some (J 599 c) := rd_ok (n := 91) rfl (by omega) (by decide) (by decide)
        have hwr : ∀ v, wr J 599 (Int32.ofNat c) v = some (ab_up1 J 599 c v) := fun v => wr_ok (n := 91) rfl (by omega) (by decide) (by decide)
        have hJ' : ∀ g k, g ≠ 599 → ab_up1 J 599 c (J 599 c - Int32.ofNat (rlF K s 11 1)) g k = I g k := fun g k hg => by
          rw [up_ne (fun h => hg h.1)]
          exact hJ g k hg
        have hL' : ∀ b, b < nb → ab_up1 J 599 c (J 599 c - Int32.ofNat (rlF K s 11 1)) 599 b = (if b = c then L b - Int32.ofNat (rlF K s 11 1) else L b) := fun b hb => by
          by_cases hbc : b = c
          · subst hbc
            rw [if_pos rfl, ← hL b hb]
            exact up_eq
          · rw [if_neg hbc, up_ne (fun h => hbc h.2)]
            exact hL b hb
        have ra' := m_runAt (I := ab_up1 J 599 c (J 599 c - Int32.ofNat (rlF K s 11 1))) (a := a) (K := K) hs12 (hk _ hJ')
        obtain ⟨J2, a1, a2, a3, a4⟩ := m_cutF hb e h66 hp hk m (s + rlF K s 11 1) (fun b => if b = c then L b - Int32.ofNat (rlF K s 11 1) else L b) _ (by omega) r2 hJ' hL'
        refine ⟨J2, (wh_inl ?_).trans a1, a2, a3, fun k hk => by rw [a4 k hk, up_ne (fun h => by omega)]⟩
        dsimp only
        rw [if_pos c1, hp, ob_some, ra, ob_some, ob_some, ks, ob_some, bf, ob_some, if_neg hn1, hoc, hrd, ob_some, hwr, ob_some, ob_some, ra', ob_some, i_add]
end MCUTS
