/-! work: altering, selling -/
section DOSTEP2
variable {nb nc k v : Nat} {Jc Jm : MJ} {r : Nat → Int32}
theorem do_alter {h x : Nat} {bk : Nat → Nat} (hk : k < 80) (hb : nb ≤ 10) (e5 : Jc 3 5 = Int32.ofNat nb) (h4 : ∀ b, b < nb → Jc 4 b = Int32.ofNat (bk b)) (e51 : Jm 51 0 = Int32.ofNat nb) (h66 : ∀ b, b < nb → Jm (66 + b) 0 = Int32.ofNat (bk b)) (e0 : Jm (496 + k) 0 = 1) (e1 : Jm (496 + k) 1 = Int32.ofNat v) (e2 : Jm (496 + k) 2 = Int32.ofNat h) (e3 : Jm (496 + k) 3 = Int32.ofNat x) (h6 : v < 6) (hh : h < 12) (hx6 : x < 6) (hE : stE (Jc 16) r) (hM : ∀ k, k < 91 → Jm 576 k = r k) (hV : stV nb nc r) : DOES (f_tra_step104 1 (Int32.ofNat v) (Int32.ofNat h) (Int32.ofNat x) Jc) (f_m_does304 576 (496 + k) Jm) nb nc Jc Jm := by
  have hs := m_hasSuit (I := Jm) (a := 576) (n := 91) (c := v) rfl (by decide) (by decide) h6
  have hx : f_tra_step104 1 (Int32.ofNat v) (Int32.ofNat h) (Int32.ofNat x) Jc = Option.bind (f_tra_alterHour115 (Int32.ofNat v) (Int32.ofNat h) (Int32.ofNat x) Jc) fun w4 => some ((vp_nar .boolean w4.1), w4.2) := by
    unfold f_tra_step104
    rw [if_neg (show ¬ (1 : Int32) = 0 by decide), if_pos (show (1 : Int32) = 1 from rfl)]
  rw [hM _ (by omega)] at hs
  by_cases h0 : r (82 + v) = -1
  · rw [if_pos h0] at hs
    refine ⟨0, Jc, Jm, r, ?_, does_no hk e0 (by decide) (by decide) e1 h6 hs, Or.inl rfl, fcD_rf, fmD_rf, hE, hM, hV⟩
    unfold f_tra_alterHour115 at hx
    rw [hx, x_hasSuit (t := 15) rfl (by decide) h6, stE_cut hE h6, if_pos h0, ob_some, if_pos rfl, ob_some]
    exact congrArg some (Prod.ext nar_0 rfl)
  · rw [if_neg h0] at hs
    have rr : ∀ (J : MJ) j, j < 91 → rd J 576 (Int32.ofNat j) = some (J 576 j) := fun J j hj => rd_ok (n := 91) rfl hj (by decide) (by decide)
    have ww : ∀ (J : MJ) j x, j < 91 → wr J 576 (Int32.ofNat j) x = some (ab_up1 J 576 j x) := fun J j x hj => wr_ok (n := 91) rfl hj (by decide) (by decide)
    have c16 : ∀ j, j < 12 → Jc 16 (19 + 12 * v + j) = r (10 + 12 * v + j) := fun j hj => by rw [Nat.add_assoc, stE_suit hE (by omega), ← Nat.add_assoc]
    have xw : f_sta_wornAt116 15 (Int32.ofNat v) (Int32.ofNat h) Jc = some (r (10 + 12 * v + h)) := by rw [← c16 h hh]; exact x_worn (t := 15) rfl (by decide) h6 hh
    have tk := x_take (I := Jc) (t := 15) (nb := nb) (bk := bk) (x := Int32.ofNat x) (hrs := 1) rfl (by decide) hb e5 h4
    rw [show chF bk (fun b => Jc (15 + 1) (9 + b)) (Int32.ofNat x) 1 nb = chF bk r (Int32.ofNat x) 1 nb from chF_congr fun b hb => stE_left hE (by omega)] at tk
    have bf := m_boltFor (I := Jm) (a := 576) (n := 91) (nb := nb) (bk := bk) (x := Int32.ofNat x) (hrs := 1) rfl (by decide) (by decide) hb e51 h66
    rw [show chF bk (fun b => Jm 576 b) (Int32.ofNat x) 1 nb = chF bk r (Int32.ofNat x) 1 nb from chF_congr fun b hb => hM b (by omega)] at bf
    have hMo : ∀ R, (if r (10 + 12 * v + h) = Int32.ofNat x then some ((0 : Int32), Jm) else (if oI (chF bk r (Int32.ofNat x) 1 nb) = (-1 : Int32) then some ((0 : Int32), Jm) else (Option.bind (rd Jm 576 ((0 : Int32) + oI (chF bk r (Int32.ofNat x) 1 nb))) fun v27 => Option.bind (wr Jm 576 ((0 : Int32) + oI (chF bk r (Int32.ofNat x) 1 nb)) (v27 - (1 : Int32))) fun I28 => Option.bind (f_m_suitOf310 (Int32.ofNat v) I28) fun v29 => Option.bind (rd I28 (496 + k) (2 : Int32)) fun v30 => Option.bind (rd I28 (496 + k) (3 : Int32)) fun v31 => Option.bind (wr I28 576 (v29 + v30) v31) fun I32 => some ((1 : Int32), I32)))) = R → f_m_does304 576 (496 + k) Jm = R := fun R hR => by
      unfold f_m_does304
      rw [show rd Jm (496 + k) (1 : Int32) = some (Jm (496 + k) 1) from rdr_495 (k := 1) hk (by decide), ob_some, show rd Jm (496 + k) (0 : Int32) = some (Jm (496 + k) 0) from rdr_495 (k := 0) hk (by decide), ob_some, e0, e1, if_pos (show (0 : Int32) < 1 by decide), ob_some, if_pos (show (1 : Int32) < 4 by decide), hs, ob_some, if_neg (show ¬ (1 : Int32) = 0 by decide), ob_some, if_neg (show ¬ (1 : Int32) = 0 by decide), if_pos (show (1 : Int32) = 1 from rfl), show rd Jm (496 + k) (3 : Int32) = some (Jm (496 + k) 3) from rdr_495 (k := 3) hk (by decide), ob_some, e3, bf, ob_some, m_suitOf, ob_some, show rd Jm (496 + k) (2 : Int32) = some (Jm (496 + k) 2) from rdr_495 (k := 2) hk (by decide), ob_some, e2, i_add, rr _ _ (by omega), ob_some, ob_some, hM _ (by omega)]
      exact hR
    by_cases h1 : r (10 + 12 * v + h) = Int32.ofNat x
    · refine ⟨0, Jc, Jm, r, ?_, hMo _ (if_pos h1), Or.inl rfl, fcD_rf, fmD_rf, hE, hM, hV⟩
      unfold f_tra_alterHour115 at hx
      rw [hx, x_hasSuit (t := 15) rfl (by decide) h6, stE_cut hE h6, if_neg h0, ob_some, if_neg (show ¬ (1 : Int32) = 0 by decide), xw, ob_some, if_pos h1, ob_some]
      exact congrArg some (Prod.ext nar_0 rfl)
    · cases hc : chF bk r (Int32.ofNat x) 1 nb with
      | none =>
        rw [hc] at tk hMo
        refine ⟨0, Jc, Jm, r, ?_, hMo _ (by rw [if_neg h1, if_pos (show oI none = -1 from rfl)]), Or.inl rfl, fcD_rf, fmD_rf, hE, hM, hV⟩
        unfold f_tra_alterHour115 at hx
        rw [hx, x_hasSuit (t := 15) rfl (by decide) h6, stE_cut hE h6, if_neg h0, ob_some, if_neg (show ¬ (1 : Int32) = 0 by decide), xw, ob_some, if_neg h1, tk, ob_some, if_pos rfl, ob_some]
        exact congrArg some (Prod.ext nar_0 rfl)
      | some b =>
        rw [hc] at tk hMo
        have hbn := chF_lt hc
        obtain ⟨-, hlt⟩ := chF_ok hc
        have hVr := hV
        obtain ⟨-, -, -, hb3, -, -⟩ := hVr
        obtain ⟨m, hm, hrb, -⟩ := hb3 b (by omega)
        have hm1 : 1 ≤ m := by
          rcases Nat.eq_zero_or_pos m with z | z
          · subst z
            rw [hrb] at hlt
            exact absurd (show Int32.ofNat 0 < (1 : Int32) by decide) hlt
          · exact z
        have hn1 : ¬ oI (some b) = -1 := fun h => by rw [show oI (some b) = Int32.ofNat b from rfl, i_neg1 (by omega)] at h; exact h
        have hoc : (0 : Int32) + oI (some b) = Int32.ofNat b := by rw [show oI (some b) = Int32.ofNat b from rfl, Int32.zero_add]
        have eL : Jc (15 + 1) (9 + b) = r b := stE_left hE (by omega)
        refine ⟨1, ab_up1 (ab_up1 Jc 16 (9 + b) (r b - 1)) 16 (19 + 12 * v + h) (Int32.ofNat x), ab_up1 (ab_up1 Jm 576 b (r b - 1)) 576 (10 + 12 * v + h) (Int32.ofNat x), rU (rU r b (r b - 1)) (10 + 12 * v + h) (Int32.ofNat x), ?_, hMo _ ?_, Or.inr rfl, fcD_up (fcD_up fcD_rf), fmD_up (fmD_up fmD_rf), stE_up (stE_up hE (by omega) pi_left) (by omega) pi_worn, mr_up (mr_up hM), stV_U1 (stV_U2 hV (by omega) ⟨m - 1, by omega, ?_, fun z => by omega⟩) (by omega) ⟨x, by omega, rfl⟩⟩
        · unfold f_tra_alterHour115 at hx
          rw [hx, x_hasSuit (t := 15) rfl (by decide) h6, stE_cut hE h6, if_neg h0, ob_some, if_neg (show ¬ (1 : Int32) = 0 by decide), xw, ob_some, if_neg h1, tk, ob_some]
          dsimp only
          rw [if_neg (show ¬ (1 : Int32) = 0 by decide), eL, show f_sta_alter117 15 (Int32.ofNat v) (Int32.ofNat h) (Int32.ofNat x) (ab_up1 Jc (15 + 1) (9 + b) (r b - 1)) = some (ab_up1 (ab_up1 Jc 16 (9 + b) (r b - 1)) 16 (19 + 12 * v + h) (Int32.ofNat x)) from x_alter (t := 15) rfl (by decide) h6 hh, ob_some, ob_some]
          exact congrArg some (Prod.ext nar_1 rfl)
        · rw [if_neg h1, if_neg hn1, hoc, rr _ _ (by omega), ob_some, hM _ (by omega), ww _ _ _ (by omega), ob_some, m_suitOf, ob_some, show rd (ab_up1 Jm 576 b (r b - 1)) (496 + k) (2 : Int32) = some ((ab_up1 Jm 576 b (r b - 1)) (496 + k) 2) from rdr_495 (k := 2) hk (by decide), ob_some, up_ne (by omega), e2, show rd (ab_up1 Jm 576 b (r b - 1)) (496 + k) (3 : Int32) = some ((ab_up1 Jm 576 b (r b - 1)) (496 + k) 3) from rdr_495 (k := 3) hk (by decide), ob_some, up_ne (by omega), e3, i_add, ww _ _ _ (by omega), ob_some]
        · rw [hrb]
          exact i_subr (n := 1) hm1
theorem do_sell {o no tb : Nat} {od pk : Nat → Nat → Nat} {z2 z3 : Int32} (hk : k < 80) (ho : o < no) (hn : no ≤ 8) (hod : od o 0 < 6 ∧ od o 1 < 6) (h8 : ∀ o j, o < no → j < 5 → Jc 8 (5 * o + j) = Int32.ofNat (od o j)) (h120 : ∀ o j, o < no → j < 5 → Jm (120 + o) j = Int32.ofNat (od o j)) (e19 : Jc 19 3 = Int32.ofNat tb) (ht : tb < 64) (h135 : ∀ p, p < 6 → Jm 135 p = if tb.testBit p then 1 else 0) (g5 : ∀ p h, p < 6 → h < 12 → Jm (129 + p) h = Int32.ofNat (pk p h)) (g6 : ∀ p h, p < 6 → h < 12 → Jc 20 (12 * p + h) = Int32.ofNat (pk p h)) (e0 : Jm (496 + k) 0 = 4) (e1 : Jm (496 + k) 1 = Int32.ofNat o) (hE : stE (Jc 16) r) (hM : ∀ k, k < 91 → Jm 576 k = r k) (hV : stV nb nc r) : DOES (f_tra_step104 4 (Int32.ofNat o) z2 z3 Jc) (f_m_does304 576 (496 + k) Jm) nb nc Jc Jm := by
  obtain ⟨b0, b1⟩ := hod
  have ww : ∀ (J : MJ) j x, j < 91 → wr J 576 (Int32.ofNat j) x = some (ab_up1 J 576 j x) := fun J j x hj => wr_ok (n := 91) rfl hj (by decide) (by decide)
  have hx : f_tra_step104 4 (Int32.ofNat o) z2 z3 Jc = Option.bind (f_tra_sellOrder121 (Int32.ofNat o) Jc) fun w4 => some ((vp_nar .boolean w4.1), w4.2) := by
    unfold f_tra_step104
    rw [if_neg (show ¬ (4 : Int32) = 0 by decide), if_neg (show ¬ (4 : Int32) = 1 by decide), if_neg (show ¬ (4 : Int32) = 2 by decide), if_neg (show ¬ (4 : Int32) = 3 by decide), if_pos (show (4 : Int32) = 4 from rfl)]
  unfold f_tra_sellOrder121 at hx
  have s1 := x_allowsSale (I := Jc) ho hn ⟨b0, b1⟩ h8 e19 ht
  have s2 := m_isReady (I := Jm) (a := 576) (n := 91) ho hn ⟨b0, b1⟩ h120 h135 rfl (by decide) (by decide)
  rw [stE_sold hE, stE_day hE, stE_cut hE b0, alkF_congr (q := fun h => r (10 + 12 * od o 0 + h)) (q' := fun h => Int32.ofNat (pk (od o 1) h)) (fun h hh => by rw [Nat.add_assoc, stE_suit hE (by omega), ← Nat.add_assoc]) (fun h hh => g6 _ h b1 hh)] at s1
  rw [hM _ (by omega), hM _ (by omega), hM _ (by omega), alkF_congr (q := fun h => r (10 + 12 * od o 0 + h)) (q' := fun h => Int32.ofNat (pk (od o 1) h)) (fun h hh => hM _ (by omega)) (fun h hh => g5 _ h b1 hh)] at s2
  generalize rdyF (stF (r 88) (r 89) (od o 2) o) (r (82 + od o 0)) (tb.testBit (od o 1)) (alkF (fun h => r (10 + 12 * od o 0 + h)) (fun h => Int32.ofNat (pk (od o 1) h))) = V at s1 s2
  have hMo : ∀ R, (if V = 0 then some ((0 : Int32), Jm) else (Option.bind (rd Jm 576 (88 : Int32)) fun v46 => Option.bind (some (Int32.ofNat o)) fun v47 => Option.bind (wr Jm 576 (88 : Int32) (v46 ||| ((1 : Int32) <<< (v47 &&& 31)))) fun I48 => Option.bind (rd I48 576 (90 : Int32)) fun v49 => Option.bind (rd I48 (496 + k) (1 : Int32)) fun v50 => Option.bind (rdp 119 v50) fun r51 => Option.bind (rd I48 r51 (3 : Int32)) fun v52 => Option.bind (wr I48 576 (90 : Int32) (v49 + v52)) fun I53 => Option.bind (rd I53 (496 + k) (1 : Int32)) fun v54 => Option.bind (rdp 119 v54) fun r55 => Option.bind (rd I53 r55 (0 : Int32)) fun v56 => Option.bind (wr I53 576 ((82 : Int32) + v56) (-1 : Int32)) fun I57 => some ((1 : Int32), I57))) = R → f_m_does304 576 (496 + k) Jm = R := fun R hR => by
    unfold f_m_does304
    rw [show rd Jm (496 + k) (1 : Int32) = some (Jm (496 + k) 1) from rdr_495 (k := 1) hk (by decide), ob_some, show rd Jm (496 + k) (0 : Int32) = some (Jm (496 + k) 0) from rdr_495 (k := 0) hk (by decide), ob_some, e0, e1, if_pos (show (0 : Int32) < 4 by decide), ob_some, if_neg (show ¬ (4 : Int32) < 4 by decide), ob_some, if_neg (show ¬ (4 : Int32) = 0 by decide), if_neg (show ¬ (4 : Int32) = 1 by decide), if_neg (show ¬ (4 : Int32) = 2 by decide), if_neg (show ¬ (4 : Int32) = 3 by decide), if_pos (show (4 : Int32) = 4 from rfl), ob_some, s2, ob_some]
    exact hR
  by_cases h0 : V = 0
  · refine ⟨0, Jc, Jm, r, ?_, hMo _ (if_pos h0), Or.inl rfl, fcD_rf, fmD_rf, hE, hM, hV⟩
    rw [hx, s1, ob_some, if_pos h0, ob_some]
    exact congrArg some (Prod.ext nar_0 rfl)
  · have p3 : f_sho_orderPart123 (Int32.ofNat o) 3 Jc = some (Int32.ofNat (od o 3)) := x_orderPart (j := 3) ho hn (by decide) h8
    generalize hW : r 88 ||| ((1 : Int32) <<< (Int32.ofNat o &&& 31)) = W
    generalize hY : r 90 + Int32.ofNat (od o 3) = Y
    have p0 : f_sho_orderPart123 (Int32.ofNat o) 0 (ab_up1 (ab_up1 Jc 16 2 W) 16 1 Y) = some (Int32.ofNat (od o 0)) := x_orderPart (j := 0) ho hn (by decide) (fun o j ho hj => by rw [up_ne (by omega), up_ne (by omega)]; exact h8 o j ho hj)
    have q2 : ∀ {i : Nat} {x : Int32} {j : Nat}, (ab_up1 Jm 576 i x) (120 + o) j = Jm (120 + o) j := fun {i x j} => up_ne (by omega)
    have q1 : ∀ {J : MJ} {i : Nat} {x : Int32}, (ab_up1 J 576 i x) (496 + k) 1 = J (496 + k) 1 := fun {J i x} => up_ne (by omega)
    have q0 : ∀ {J : MJ} {i : Nat} {x : Int32} {j : Nat}, (ab_up1 J 576 i x) (120 + o) j = J (120 + o) j := fun {J i x j} => up_ne (by omega)
    refine ⟨1, ab_up1 (ab_up1 (ab_up1 Jc 16 2 W) 16 1 Y) 16 (3 + od o 0) (-1), ab_up1 (ab_up1 (ab_up1 Jm 576 88 W) 576 90 Y) 576 (82 + od o 0) (-1), rU (rU (rU r 88 W) 90 Y) (82 + od o 0) (-1), ?_, hMo _ ?_, Or.inr rfl, fcD_up (fcD_up (fcD_up fcD_rf)), fmD_up (fmD_up (fmD_up fmD_rf)), stE_up (stE_up (stE_up hE (by decide) rfl) (by decide) rfl) (by omega) (pi_cut b0), mr_up (mr_up (mr_up hM)), stV_U4 (stV_U3 (stV_U3 hV (Or.inl rfl)) (Or.inr rfl)) b0⟩
    · have sl : f_sta_sell127 (Int32.ofNat o) (Int32.ofNat (od o 3)) Jc = some (ab_up1 (ab_up1 Jc 16 2 W) 16 1 Y) := by
        unfold f_sta_sell127 f_sta_pence128
        rw [show f_x_at16 16 (2 : Int32) Jc = some (Jc 16 2) from at_16 (k := 2) (by decide), ob_some, stE_sold hE, hW, show f_x_put15 16 (2 : Int32) W Jc = some (ab_up1 Jc 16 2 W) from put_16 (k := 2) (by decide), ob_some, show f_x_at16 16 (1 : Int32) (ab_up1 Jc 16 2 W) = some ((ab_up1 Jc 16 2 W) 16 1) from at_16 (k := 1) (by decide), ob_some, ob_some, up_ne (by omega), stE_pence hE, hY, show f_x_put15 16 (1 : Int32) Y (ab_up1 Jc 16 2 W) = some (ab_up1 (ab_up1 Jc 16 2 W) 16 1 Y) from put_16 (k := 1) (by decide), ob_some]
      have sp : f_sta_strip14 (Int32.ofNat (od o 0)) (ab_up1 (ab_up1 Jc 16 2 W) 16 1 Y) = some (ab_up1 (ab_up1 (ab_up1 Jc 16 2 W) 16 1 Y) 16 (3 + od o 0) (-1)) := by
        unfold f_sta_strip14
        rw [show (3 : Int32) + Int32.ofNat (od o 0) = Int32.ofNat (3 + od o 0) from i_addl (n := 3), put_16 (by omega), ob_some]
      rw [hx, s1, ob_some, if_neg h0, p3, ob_some, sl, ob_some, p0, ob_some, sp, ob_some, ob_some]
      exact congrArg some (Prod.ext nar_1 rfl)
    · rw [if_neg h0, show rd Jm 576 (88 : Int32) = some (Jm 576 88) from rd_ok (k := 88) (n := 91) rfl (by decide) (by decide) (by decide), ob_some, ob_some, hM _ (by omega), hW, show wr Jm 576 (88 : Int32) W = some (ab_up1 Jm 576 88 W) from wr_ok (k := 88) (n := 91) rfl (by decide) (by decide) (by decide), ob_some, show rd (ab_up1 Jm 576 88 W) 576 (90 : Int32) = some ((ab_up1 Jm 576 88 W) 576 90) from rd_ok (k := 90) (n := 91) rfl (by decide) (by decide) (by decide), ob_some, show rd (ab_up1 Jm 576 88 W) (496 + k) (1 : Int32) = some ((ab_up1 Jm 576 88 W) (496 + k) 1) from rdr_495 (k := 1) hk (by decide), ob_some, q1, e1, rdp_119 (by omega), ob_some, show rd (ab_up1 Jm 576 88 W) (120 + o) (3 : Int32) = some ((ab_up1 Jm 576 88 W) (120 + o) 3) from rdr_119 (w := o) (k := 3) (by omega) (by decide), ob_some, q0, h120 o 3 ho (by decide), up_ne (by omega), hM _ (by omega), hY, show wr (ab_up1 Jm 576 88 W) 576 (90 : Int32) Y = some (ab_up1 (ab_up1 Jm 576 88 W) 576 90 Y) from wr_ok (k := 90) (n := 91) rfl (by decide) (by decide) (by decide), ob_some, show rd (ab_up1 (ab_up1 Jm 576 88 W) 576 90 Y) (496 + k) (1 : Int32) = some ((ab_up1 (ab_up1 Jm 576 88 W) 576 90 Y) (496 + k) 1) from rdr_495 (k := 1) hk (by decide), ob_some, q1, q1, e1, rdp_119 (by omega), ob_some, show rd (ab_up1 (ab_up1 Jm 576 88 W) 576 90 Y) (120 + o) (0 : Int32) = some ((ab_up1 (ab_up1 Jm 576 88 W) 576 90 Y) (120 + o) 0) from rdr_119 (w := o) (k := 0) (by omega) (by decide), ob_some, q0, q0, h120 o 0 ho (by decide), show (82 : Int32) + Int32.ofNat (od o 0) = Int32.ofNat (82 + od o 0) from i_addl (n := 82), ww _ _ _ (by omega), ob_some]
end DOSTEP2
