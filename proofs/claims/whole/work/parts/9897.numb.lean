/-! texts: a number, read by both -/
section NUMB
variable {B : Nat → Nat} {n : Nat} {J : MJ} {q : Nat}
theorem dig_step {cap v b : Nat} (hc : cap ≤ 1000000) (hv : v ≤ cap) (hb : 48 ≤ b ∧ b ≤ 57) : ((10 : Int32) * Int32.ofNat v + Int32.ofNat b) - (48 : Int32) = Int32.ofNat (10 * v + (b - 48)) := by
  rw [show (10 : Int32) * Int32.ofNat v = Int32.ofNat (10 * v) from i_mull (n := 10), i_add, show Int32.ofNat (10 * v + b) - (48 : Int32) = Int32.ofNat (10 * v + b - 48) from i_subr (n := 48) (show 48 ≤ 10 * v + b by omega), show 10 * v + b - 48 = 10 * v + (b - 48) by omega]
theorem min_r {a b : Nat} (h : b ≤ a) : min a b = b := Nat.min_eq_right h
theorem min_l {a b : Nat} (h : a ≤ b) : min a b = a := Nat.min_eq_left h
theorem x_number {lo m : Nat} (hlo : lo < 100000) (hm : m < 100000) (h : cR B n J q) : ∃ J', f_tap_number53 (Int32.ofNat lo) (Int32.ofNat m - 1) J = some (Int32.ofNat (if nmO B n q lo m = 0 then nmV B n q else lo), J') ∧ fr1 J J' ∧ ((nmO B n q lo m = 0 ∧ cR B n J' (sk B n (nmE B n q)) ∧ J' 1 4 = Int32.ofNat q) ∨ (¬ nmO B n q lo m = 0 ∧ cX J' (nmO B n q lo m) q)) := by
  obtain ⟨h1, h2, h3, h4, h5⟩ := cR_next h
  unfold f_tap_number53
  rw [if_pos h.2.1, h3, ob_some]
  try dsimp only
  by_cases hq : q < n ∧ dgP B q = true
  · have hb : byt B n q = Int32.ofNat (B q) := if_pos hq.1
    rw [hb, x_isDigit (h.1.2.2 q hq.1).1, if_pos (show decide (48 ≤ B q ∧ B q ≤ 57) = true from hq.2), ob_some, if_neg (by decide), up_eq]
    have hJ0 : cE B n (ab_up1 (ab_up1 J 1 2 (Int32.ofNat q)) 1 4 (Int32.ofNat q)) := cE_up h4.1 (by decide) (by decide)
    have l := wh_scn (P := dgP B) (n := n) (p := q) (f := fun (s4 : Int32 × MJ) => (if (s4.2 1 2) < (s4.2 1 3) then (Option.bind (f_tap_byteAt46 (s4.2 1 2) s4.2) fun v8 => (Option.bind (f_tap_isDigit54 v8 s4.2) fun v9 => (if v9 = 0 then some (.inr (s4.1, s4.2)) else (Option.bind (f_tap_byteAt46 (s4.2 1 2) s4.2) fun v10 => some (.inl ((if ((((10 : Int32) * s4.1) + v10) - (48 : Int32)) < (1000000 : Int32) then ((((10 : Int32) * s4.1) + v10) - (48 : Int32)) else (1000000 : Int32)), (ab_up1 s4.2 1 2 ((s4.2 1 2) + (1 : Int32))))))))) else some (.inr (s4.1, s4.2)))) (fun k => (Int32.ofNat (vlN 1000000 B q (k - q)), ab_up1 (ab_up1 (ab_up1 J 1 2 (Int32.ofNat q)) 1 4 (Int32.ofNat q)) 1 2 (Int32.ofNat k))) (fun k => (Int32.ofNat (vlN 1000000 B q (k - q)), ab_up1 (ab_up1 (ab_up1 J 1 2 (Int32.ofNat q)) 1 4 (Int32.ofNat q)) 1 2 (Int32.ofNat k))) (s := ((0 : Int32), ab_up1 (ab_up1 J 1 2 (Int32.ofNat q)) 1 4 (Int32.ofNat q))) (by
        rw [Nat.sub_self, up_self (J := ab_up1 (ab_up1 J 1 2 (Int32.ofNat q)) 1 4 (Int32.ofNat q)) (a := 1) (k := 2) (x := Int32.ofNat q) (by rw [up_ne (by omega), up_eq])]
        rfl) h1 (fun k k1 k2 k3 => by
        have hk := (hJ0.2.2 k k2).1
        have hv := vl_le (cap := 1000000) (B := B) (q := q) (k - q)
        have hd : 48 ≤ B k ∧ B k ≤ 57 := of_decide_eq_true k3
        have hn := hJ0.1
        try dsimp only
        rw [if_pos (show ab_up1 (ab_up1 (ab_up1 J 1 2 (Int32.ofNat q)) 1 4 (Int32.ofNat q)) 1 2 (Int32.ofNat k) 1 2 < ab_up1 (ab_up1 (ab_up1 J 1 2 (Int32.ofNat q)) 1 4 (Int32.ofNat q)) 1 2 (Int32.ofNat k) 1 3 by rw [up_eq, up_ne (by omega), hJ0.2.1]; exact lt_l k2 (by omega)), up_eq, x_byteAt (cE_up hJ0 (by decide) (by decide)) k2, ob_some, x_isDigit hk, if_pos (decide_eq_true hd), ob_some, if_neg (by decide), ob_some, dig_step (cap := 1000000) (by decide) hv hd, up_up, show Int32.ofNat k + 1 = Int32.ofNat (k + 1) from i_addr]
        refine congrArg (fun z => some (Sum.inl (z, ab_up1 (ab_up1 (ab_up1 J 1 2 (Int32.ofNat q)) 1 4 (Int32.ofNat q)) 1 2 (Int32.ofNat (k + 1))))) ?_
        rw [show k + 1 - q = (k - q) + 1 by omega]
        rw [vlN_step, show q + (k - q) = k by omega]
        by_cases hc : 10 * vlN 1000000 B q (k - q) + (B k - 48) < 1000000
        · rw [if_pos (show Int32.ofNat _ < (1000000 : Int32) from lt_l (b := 1000000) hc (by decide)), min_r (by omega)]
        · rw [if_neg (show ¬ Int32.ofNat _ < (1000000 : Int32) from nlt_l (b := 1000000) hc (by omega) (by decide)), min_l (by omega)]
          rfl) (fun k k1 k2 k3 => by
        have hn := hJ0.1
        try dsimp only
        by_cases hkn : k < n
        · have hk := (hJ0.2.2 k hkn).1
          rw [if_pos (show ab_up1 (ab_up1 (ab_up1 J 1 2 (Int32.ofNat q)) 1 4 (Int32.ofNat q)) 1 2 (Int32.ofNat k) 1 2 < ab_up1 (ab_up1 (ab_up1 J 1 2 (Int32.ofNat q)) 1 4 (Int32.ofNat q)) 1 2 (Int32.ofNat k) 1 3 by rw [up_eq, up_ne (by omega), hJ0.2.1]; exact lt_l hkn (by omega)), up_eq, x_byteAt (cE_up hJ0 (by decide) (by decide)) hkn, ob_some, x_isDigit hk, if_neg (show ¬ decide (48 ≤ B k ∧ B k ≤ 57) = true from fun z => k3 ⟨hkn, z⟩), ob_some, if_pos rfl]
        · rw [if_neg (show ¬ ab_up1 (ab_up1 (ab_up1 J 1 2 (Int32.ofNat q)) 1 4 (Int32.ofNat q)) 1 2 (Int32.ofNat k) 1 2 < ab_up1 (ab_up1 (ab_up1 J 1 2 (Int32.ofNat q)) 1 4 (Int32.ofNat q)) 1 2 (Int32.ofNat k) 1 3 by rw [up_eq, up_ne (by omega), hJ0.2.1]; exact nlt_l hkn (by omega) (by omega))])
    rw [l, ob_some]
    obtain ⟨o1, o2, o3, o4⟩ := scn_ok (P := dgP B) h1
    have hv := vl_le (cap := 1000000) (B := B) (q := q) (scn (dgP B) n q - q)
    rw [show scn (dgP B) n q = nmE B n q from rfl] at *
    rw [show vlN 1000000 B q (nmE B n q - q) = nmV B n q from rfl] at *
    generalize hJ1 : ab_up1 (ab_up1 (ab_up1 J 1 2 (Int32.ofNat q)) 1 4 (Int32.ofNat q)) 1 2 (Int32.ofNat (nmE B n q)) = J1
    have f1 : fr1 J J1 := by
      rw [← hJ1]
      exact fr1_up (fr1_up (fr1_up fr1_rf (by omega)) (by omega)) (by omega)
    have c1 : cR B n J1 (sk B n (nmE B n q)) := by
      obtain ⟨-, g2, g3, -⟩ := h4
      refine ⟨cE_fr h.1 f1, ?_, ?_, nmE B n q, o2, ?_, rfl⟩
      · rw [← hJ1, up_ne (by omega), up_ne (by omega)]; exact g2
      · rw [← hJ1, up_ne (by omega), up_ne (by omega)]; exact g3
      · rw [← hJ1, up_eq]
    have s1 : J1 1 4 = Int32.ofNat q := by rw [← hJ1, up_ne (by omega), up_eq]
    obtain ⟨J', j1, j2, j3⟩ := x_fail_s (k := 2) (w := q) (J := J1) (by omega) c1.2.1
    try dsimp only
    rw [s1]
    by_cases hr : lo ≤ nmV B n q ∧ nmV B n q < m
    · have hO : nmO B n q lo m = 0 := by
        unfold nmO
        rw [if_neg (fun z => z hq), if_pos hr]
      rw [if_neg (nlt_l (by omega) (by omega) (by omega)), if_neg (by rw [pred_lt (by omega)]; exact fun z => z (lt_l hr.2 (by omega)))]
      exact ⟨J1, by rw [if_pos hO], f1, Or.inl ⟨hO, c1, s1⟩⟩
    · have hO : nmO B n q lo m = 2 := by
        unfold nmO
        rw [if_neg (fun z => z hq), if_neg hr]
      have hres : ∃ J'_1, (some (Int32.ofNat lo, J') : Option (Int32 × MJ)) = some (Int32.ofNat (if nmO B n q lo m = 0 then nmV B n q else lo), J'_1) ∧ fr1 J J'_1 ∧ ((nmO B n q lo m = 0 ∧ cR B n J'_1 (sk B n (nmE B n q)) ∧ J'_1 1 4 = Int32.ofNat q) ∨ (¬ nmO B n q lo m = 0 ∧ cX J'_1 (nmO B n q lo m) q)) := by
        rw [hO]
        exact ⟨J', by rw [if_neg (by decide)], fr1_tr f1 j3, Or.inr ⟨by decide, j2⟩⟩
      by_cases hl : nmV B n q < lo
      · rw [if_pos (lt_l hl (by omega)), show f_tap_fail50 2 (Int32.ofNat q) J1 = some J' from j1, ob_some]
        exact hres
      · rw [if_neg (nlt_l hl (by omega) (by omega)), if_pos (by rw [pred_lt (by omega)]; exact nlt_l (by omega) (by omega) (by omega)), show f_tap_fail50 2 (Int32.ofNat q) J1 = some J' from j1, ob_some]
        exact hres
  · have hO : nmO B n q lo m = 1 := if_pos hq
    have hd : f_tap_isDigit54 (byt B n q) (ab_up1 J 1 2 (Int32.ofNat q)) = some 0 := by
      unfold byt
      by_cases hn : q < n
      · rw [if_pos hn, x_isDigit (h.1.2.2 q hn).1, if_neg (fun (z : decide (48 ≤ B q ∧ B q ≤ 57) = true) => hq ⟨hn, z⟩)]
      · rw [if_neg hn]
        rfl
    obtain ⟨J', j1, j2, j3⟩ := x_fail_s (k := 1) (w := q) (J := ab_up1 J 1 2 (Int32.ofNat q)) (by omega) h4.2.1
    rw [hd, ob_some, if_pos rfl, up_eq, show f_tap_fail50 1 (Int32.ofNat q) _ = some J' from j1, ob_some, hO]
    exact ⟨J', by rw [if_neg (by decide)], fr1_tr (fr1_up fr1_rf (by omega)) j3, Or.inr ⟨by decide, j2⟩⟩
theorem m_number {lo m : Nat} (hlo : lo < 100000) (hm : m < 100000) (h : mR B n J q) : ∃ J', f_m_number283 (Int32.ofNat lo) (Int32.ofNat m - 1) J = some (Int32.ofNat (if nmO B n q lo m = 0 then nmV B n q else 0), J') ∧ fr47 J J' ∧ ((nmO B n q lo m = 0 ∧ mR B n J' (sk B n (nmE B n q))) ∨ (¬ nmO B n q lo m = 0 ∧ mX B n J' (nmO B n q lo m) q)) := by
  obtain ⟨h1, h2, h3, h4⟩ := mR_blanks h
  have hn := h.1.1
  obtain ⟨o1, o2, o3, o4⟩ := scn_ok (P := dgP B) h1
  unfold f_m_number283
  rw [if_pos h.2.1, h3, ob_some, up_eq, m_byteAt h4.1 (by omega), ob_some, m_isDigit (fun hk => (h.1.2.2 _ hk).1), ob_some]
  by_cases hq : q < n ∧ dgP B q = true
  · rw [if_pos hq, if_neg (by decide), ob_some]
    have l := wh_scn (P := dgP B) (n := n) (p := q) (f := fun (s5 : Int32 × MJ) => (Option.bind (f_m_byteAt271 (s5.2 47 4) s5.2) fun v11 => (Option.bind (f_m_isDigit284 v11 s5.2) fun v12 => (if v12 = 0 then some (.inr (s5.1, s5.2)) else (Option.bind (f_m_byteAt271 (s5.2 47 4) s5.2) fun v13 => (Option.bind (α := Int32) (if (100000 : Int32) < ((((10 : Int32) * s5.1) + v13) - (48 : Int32)) then some (100000 : Int32) else some ((((10 : Int32) * s5.1) + v13) - (48 : Int32))) fun b14 => some (.inl (b14, (ab_up1 s5.2 47 4 ((s5.2 47 4) + (1 : Int32)))))))))) ) (fun k => (Int32.ofNat (vlN 100000 B q (k - q)), ab_up1 J 47 4 (Int32.ofNat k))) (fun k => (Int32.ofNat (vlN 100000 B q (k - q)), ab_up1 J 47 4 (Int32.ofNat k))) (s := ((0 : Int32), ab_up1 J 47 4 (Int32.ofNat q))) (by
        rw [Nat.sub_self]
        rfl) h1 (fun k k1 k2 k3 => by
        have hk := (h.1.2.2 k k2).1
        have hv := vl_le (cap := 100000) (B := B) (q := q) (k - q)
        have hd : 48 ≤ B k ∧ B k ≤ 57 := of_decide_eq_true k3
        have hbk : byt B n k = Int32.ofNat (B k) := if_pos k2
        try dsimp only
        rw [up_eq, m_byteAt (mE_up h.1 (by decide) (by decide)) (by omega), ob_some, m_isDigit (fun _ => hk), if_pos ⟨k2, k3⟩, ob_some, if_neg (by decide), ob_some, hbk, dig_step (cap := 100000) (by decide) hv hd, up_up, show Int32.ofNat k + 1 = Int32.ofNat (k + 1) from i_addr, o_ite, ob_some]
        refine congrArg (fun z => some (Sum.inl (z, ab_up1 J 47 4 (Int32.ofNat (k + 1))))) ?_
        rw [show k + 1 - q = (k - q) + 1 by omega]
        rw [vlN_step, show q + (k - q) = k by omega]
        by_cases hc : 100000 < 10 * vlN 100000 B q (k - q) + (B k - 48)
        · rw [if_pos (show (100000 : Int32) < Int32.ofNat _ from lt_l (a := 100000) hc (by omega)), min_l (by omega)]
          rfl
        · rw [if_neg (show ¬ (100000 : Int32) < Int32.ofNat _ from nlt_l (a := 100000) hc (by decide) (by omega)), min_r (by omega)]) (fun k k1 k2 k3 => by
        try dsimp only
        rw [up_eq, m_byteAt (mE_up h.1 (by decide) (by decide)) (by omega), ob_some, m_isDigit (fun hk => (h.1.2.2 _ hk).1), if_neg k3, ob_some, if_pos rfl])
    rw [l, ob_some]
    have hcap := vl_caps (B := B) (q := q) (nmE B n q - q)
    rw [show scn (dgP B) n q = nmE B n q from rfl] at *
    rw [show vlN 1000000 B q (nmE B n q - q) = nmV B n q from rfl] at *
    have hv := vl_le (cap := 100000) (B := B) (q := q) (nmE B n q - q)
    have c1 : mR B n (ab_up1 J 47 4 (Int32.ofNat (nmE B n q))) (sk B n (nmE B n q)) := by
      obtain ⟨g1, g2, g3, -⟩ := h
      exact ⟨mE_up g1 (by decide) (by decide), by rw [up_ne (by omega)]; exact g2, by rw [up_ne (by omega)]; exact g3, nmE B n q, o2, up_eq, rfl⟩
    try dsimp only
    by_cases hr : lo ≤ nmV B n q ∧ nmV B n q < m
    · have hO : nmO B n q lo m = 0 := by
        unfold nmO
        rw [if_neg (fun z => z hq), if_pos hr]
      have he : vlN 100000 B q (nmE B n q - q) = nmV B n q := by rw [hcap]; omega
      rw [he]
      have hin : f_m_in264 (Int32.ofNat (nmV B n q)) (Int32.ofNat lo) (Int32.ofNat m - 1) (ab_up1 J 47 4 (Int32.ofNat (nmE B n q))) = some 1 := by
        unfold f_m_in264
        rw [if_neg (nlt_l (by omega) (by omega) (by omega)), if_neg (by rw [pred_lt (by omega)]; exact fun z => z (lt_l hr.2 (by omega)))]
        rfl
      rw [hin, ob_some, if_neg (by decide), ob_some, if_pos c1.2.1, ob_some, hO]
      exact ⟨_, by rw [if_pos rfl], fr47_up fr47_rf (by omega), Or.inl ⟨rfl, c1⟩⟩
    · have hO : nmO B n q lo m = 2 := by
        unfold nmO
        rw [if_neg (fun z => z hq), if_neg hr]
      have hin : f_m_in264 (Int32.ofNat (vlN 100000 B q (nmE B n q - q))) (Int32.ofNat lo) (Int32.ofNat m - 1) (ab_up1 J 47 4 (Int32.ofNat (nmE B n q))) = some 0 := by
        unfold f_m_in264
        by_cases hl : vlN 100000 B q (nmE B n q - q) < lo
        · rw [if_pos (lt_l hl (by omega))]
          rfl
        · rw [if_neg (nlt_l hl (by omega) (by omega)), if_pos (by rw [pred_lt (by omega)]; exact nlt_l (by rw [hcap] at hl ⊢; omega) (by omega) (by omega))]
          rfl
      obtain ⟨J', j1, j2, j3⟩ := m_wrong_s (B := B) (n := n) (k := 2) (w := q) (p := nmE B n q) (J := ab_up1 J 47 4 (Int32.ofNat (nmE B n q))) (by omega) c1.2.1 c1.1 o2 up_eq
      rw [hin, ob_some, if_pos rfl, show f_m_wrong278 2 (Int32.ofNat q) _ = some J' from j1, ob_some, ob_some, if_neg (mX_ne j2), ob_some, hO]
      exact ⟨J', by rw [if_neg (by decide)]; rfl, fr47_tr (fr47_up fr47_rf (by omega)) j3, Or.inr ⟨by decide, j2⟩⟩
  · have hO : nmO B n q lo m = 1 := if_pos hq
    obtain ⟨J', j1, j2, j3⟩ := m_wrong_s (B := B) (n := n) (k := 1) (w := q) (p := q) (J := ab_up1 J 47 4 (Int32.ofNat q)) (by omega) h4.2.1 h4.1 h1 up_eq
    rw [if_neg hq, if_pos rfl, show f_m_wrong278 1 (Int32.ofNat q) _ = some J' from j1, ob_some, ob_some]
    have e4 : J' 47 4 = Int32.ofNat q := by
      obtain ⟨-, -, -, -, p, hp, e⟩ := j2
      have hw : f_m_wrong278 (Int32.ofNat 1) (Int32.ofNat q) (ab_up1 J 47 4 (Int32.ofNat q)) = some (ab_up1 (ab_up1 (ab_up1 J 47 4 (Int32.ofNat q)) 47 5 (Int32.ofNat 1)) 47 6 (Int32.ofNat q)) := by
        unfold f_m_wrong278
        rw [if_pos h4.2.1, ob_some]
      have := Option.some.inj (j1.symm.trans hw)
      rw [this, up_ne (by omega), up_ne (by omega), up_eq]
    have mj : mE B n J' := j2.2.2.2.1
    have l : wh (β := Int32 × MJ) (fun (s5 : Int32 × MJ) => (Option.bind (f_m_byteAt271 (s5.2 47 4) s5.2) fun v11 => (Option.bind (f_m_isDigit284 v11 s5.2) fun v12 => (if v12 = 0 then some (.inr (s5.1, s5.2)) else (Option.bind (f_m_byteAt271 (s5.2 47 4) s5.2) fun v13 => (Option.bind (α := Int32) (if (100000 : Int32) < ((((10 : Int32) * s5.1) + v13) - (48 : Int32)) then some (100000 : Int32) else some ((((10 : Int32) * s5.1) + v13) - (48 : Int32))) fun b14 => some (.inl (b14, (ab_up1 s5.2 47 4 ((s5.2 47 4) + (1 : Int32)))))))))) ) ((0 : Int32), J') = some ((0 : Int32), J') := by
      refine wh_inr ?_
      try dsimp only
      rw [e4, m_byteAt mj (by omega), ob_some, m_isDigit (fun hk => (h.1.2.2 _ hk).1), if_neg hq, ob_some, if_pos rfl]
    rw [l, ob_some, hO]
    try dsimp only
    have hin : ∃ v, f_m_in264 0 (Int32.ofNat lo) (Int32.ofNat m - 1) J' = some v := by
      unfold f_m_in264
      split
      · exact ⟨_, rfl⟩
      · split
        · exact ⟨_, rfl⟩
        · exact ⟨_, rfl⟩
    obtain ⟨v, hv⟩ := hin
    rw [hv, ob_some]
    have hw2 : (if v = 0 then Option.bind (f_m_wrong278 2 (Int32.ofNat q) J') fun I10 => some I10 else some J') = some J' := by
      rw [m_wrong_f (mX_ne j2), ob_some]
      split <;> rfl
    rw [hw2, ob_some, if_neg (mX_ne j2), ob_some]
    exact ⟨J', by rw [if_neg (by decide)]; rfl, fr47_tr (fr47_up fr47_rf (by omega)) j3, Or.inr ⟨by decide, j2⟩⟩
end NUMB
