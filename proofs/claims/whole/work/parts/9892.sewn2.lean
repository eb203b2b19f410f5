/-! sewn: the model, and both -/
section SEWM
variable {I : MJ} {no hands day : Nat} {od : Nat → Nat → Nat}
theorem i_late {d day : Nat} (hd : d ≤ 60) (hday : day ≤ 60) : ∃ x, f_m_more320 0 ((Int32.ofNat d - Int32.ofNat day) + (1 : Int32)) I = some x ∧ x = Int32.ofNat (d + 1 - day) := by
  unfold f_m_more320
  rw [o_ite, ob_some]
  refine ⟨_, rfl, ?_⟩
  by_cases h : day ≤ d + 1
  · have e1 : (Int32.ofNat d - Int32.ofNat day + 1) = Int32.ofNat (d + 1 - day) := by
      rw [← i_sub h, Int32.ofNat_add]
      show _ = Int32.ofNat d + 1 - _
      grind
    rw [e1, if_neg (by rw [i_lt0 (by omega)]; exact id)]
  · obtain ⟨e, he⟩ : ∃ e, day = d + (e + 1) + 1 := ⟨day - d - 2, by omega⟩
    have e1 : (Int32.ofNat d - Int32.ofNat day + 1) = -Int32.ofNat (e + 1) := by
      rw [he, Int32.ofNat_add (d + (e + 1)) 1, Int32.ofNat_add d]
      show _ - (_ + 1) + 1 = _
      grind
    rw [e1, if_pos (show -Int32.ofNat (e + 1) < (0 : Int32) from neg_lt (n := 0) (by omega) (by omega) (by omega)), show d + 1 - day = 0 by omega]
    rfl
theorem m_hours {s d : Nat} (hs : s < 256) (hd : d ≤ 60) (hn : no ≤ 8) (hb : ∀ o, o < no → od o 2 ≤ 60) (e8 : I 51 3 = Int32.ofNat no) (ho : ∀ o j, o < no → j < 5 → I (120 + o) j = Int32.ofNat (od o j)) : wh (β := Int32) (fun (s2 : Int32 × Int32) =>
  (if s2.2 < (I 51 3) then
  (Option.bind (f_m_has313 (Int32.ofNat s) s2.2 I) fun v5 =>
  (Option.bind (α := Int32)
  (if v5 = 0 then
  some (0 : Int32)
  else
  (Option.bind (rdp 119 s2.2) fun r7 =>
  (Option.bind (rd I r7 (2 : Int32)) fun v8 =>
  (if Int32.ofNat d < v8 then
  some (0 : Int32)
  else
  (Option.bind (rdp 119 s2.2) fun r9 =>
  (Option.bind (rd I r9 (4 : Int32)) fun v10 =>
  some v10
  )
  )
  )
  )
  )
  )
  fun b6 =>
  some (.inl ((s2.1 + b6), (s2.2 + (1 : Int32))))
  )
  )
  else
  some (.inr s2.1)
  )
  ) ((0 : Int32), (0 : Int32)) = some (Int32.ofNat (hdN od no s d)) := by
  rw [wh_sum0 (fun o => Int32.ofNat (if s.testBit o = true ∧ od o 2 ≤ d then od o 4 else 0)) no ?_ ?_, sm_sN]
  · rfl
  · intro o h s'
    have h60 := hb o h
    have r2 : rd I (120 + o) 2 = some (Int32.ofNat (od o 2)) := by rw [show rd I (120 + o) 2 = some (I (120 + o) 2) from rdr_119 (w := o) (k := 2) (by omega) (by decide), ho o 2 h (by decide)]
    have r4 : rd I (120 + o) 4 = some (Int32.ofNat (od o 4)) := by rw [show rd I (120 + o) 4 = some (I (120 + o) 4) from rdr_119 (w := o) (k := 4) (by omega) (by decide), ho o 4 h (by decide)]
    try dsimp only
    rw [if_pos (by rw [e8, i_lt (by omega) (by omega)]; exact h), m_has, ob_some, bitF_nat (by omega) (by omega)]
    by_cases hb : s.testBit o = true
    · rw [if_pos hb, if_neg (by decide), rdp_119 (by omega), ob_some, r2, ob_some]
      by_cases h2 : d < od o 2
      · rw [if_pos (lt_l h2 (by omega)), ob_some, if_neg (fun z => by omega), i_addr]
        rfl
      · rw [if_neg (nlt_l h2 (by omega) (by omega)), ob_some, r4, ob_some, ob_some, if_pos ⟨hb, by omega⟩, i_addr]
    · rw [if_neg hb, if_pos rfl, ob_some, if_neg (fun z => hb z.1), i_addr]
      rfl
  · intro s'
    exact if_neg (by rw [e8]; exact Int32.lt_irrefl)
theorem m_isSewn {s : Nat} (hs : s < 256) (hn : no ≤ 8) (hb : ∀ o, o < no → 1 ≤ od o 2 ∧ od o 2 ≤ 60 ∧ 1 ≤ od o 4 ∧ od o 4 ≤ 24) (hh : 1 ≤ hands ∧ hands ≤ 24) (hd : day ≤ 60) (e576 : I 576 89 = Int32.ofNat day) (e3 : I 51 3 = Int32.ofNat no) (e5 : I 51 5 = Int32.ofNat hands) (ho : ∀ o j, o < no → j < 5 → I (120 + o) j = Int32.ofNat (od o j)) : f_m_isSewn358 (Int32.ofNat s) I = some (inP od no hands day s) := by
  have hq := inX_inM (no := no) (hands := hands) (day := day) (s := s) (od := od) (fun o ho => ⟨(hb o ho).1, (hb o ho).2.1⟩)
  have h2 : ∃ v, f_m_isSewn358 (Int32.ofNat s) I = some v ∧ ((v = 1 ∧ inM od no hands day s) ∨ (v = 0 ∧ ¬ inM od no hands day s)) := by
    unfold f_m_isSewn358
    refine wh_inv2 (fun i st => st = Int32.ofNat (i + 1) ∧ ∀ d, 1 ≤ d → d ≤ i → hdN od no s d ≤ hands * (d + 1 - day)) (fun v => (v = 1 ∧ inM od no hands day s) ∨ (v = 0 ∧ ¬ inM od no hands day s)) 60 ?_ ?_ ⟨rfl, fun d h1 h2 => by omega⟩
    · intro i hi st hst
      obtain ⟨rfl, hst⟩ := hst
      obtain ⟨x, x1, rfl⟩ := i_late (I := I) (d := i + 1) (day := day) (by omega) hd
      have hhd : hdN od no s (i + 1) ≤ 24 * no := sN_le fun k hk => by
        split
        · exact (hb k hk).2.2.2
        · omega
      have hle : hands * (i + 1 + 1 - day) ≤ 24 * 61 := Nat.mul_le_mul (by omega) (by omega)
      try dsimp only
      rw [if_neg (show ¬ (60 : Int32) < Int32.ofNat (i + 1) from nlt_l (a := 60) (b := (i + 1)) (by omega) (by omega) (by omega)), m_hours hs (by omega) hn (fun o ho => (hb o ho).2.1) e3 ho, ob_some, e576, x1, ob_some, e5, i_mul]
      by_cases e : hands * (i + 1 + 1 - day) < hdN od no s (i + 1)
      · rw [if_pos (lt_l e (by omega))]
        exact Or.inr ⟨_, rfl, Or.inr ⟨rfl, fun z => by
          have := z (i + 1) (by omega) (by omega)
          omega⟩⟩
      · rw [if_neg (nlt_l e (by omega) (by omega))]
        refine Or.inl ⟨_, rfl, i_addr, fun d h1 h2 => ?_⟩
        by_cases h3 : d = i + 1
        · subst h3
          omega
        · exact hst d h1 (by omega)
    · intro st hst
      obtain ⟨rfl, hst⟩ := hst
      try dsimp only
      rw [if_pos (by decide)]
      exact ⟨_, rfl, Or.inl ⟨rfl, fun d h1 h2 => hst d h1 h2⟩⟩
  obtain ⟨v, v1, v2⟩ := h2
  rw [v1]
  unfold inP
  rcases v2 with ⟨rfl, e⟩ | ⟨rfl, e⟩
  · rw [if_pos (hq.mpr e)]
  · rw [if_neg (fun z => e (hq.mp z))]
theorem m_together {s j : Nat} (hs : s < 256) (hn : no ≤ 8) (hj : j < 5) (e8 : I 51 3 = Int32.ofNat no) (ho : ∀ o j, o < no → j < 5 → I (120 + o) j = Int32.ofNat (od o j)) : wh (β := Int32) (fun (s15 : Int32 × Int32) =>
  (if s15.2 < (I 51 3) then
  (Option.bind (f_m_has313 (Int32.ofNat s) s15.2 I) fun v17 =>
  (Option.bind (α := Int32)
  (if v17 = 0 then
  some (0 : Int32)
  else
  (Option.bind (rdp 119 s15.2) fun r19 =>
  (Option.bind (rd I r19 (Int32.ofNat j)) fun v20 =>
  some v20
  )
  )
  )
  fun b18 =>
  some (.inl ((s15.1 + b18), (s15.2 + (1 : Int32))))
  )
  )
  else
  some (.inr s15.1)
  )
  ) ((0 : Int32), (0 : Int32)) = some (Int32.ofNat (tgN od no s j)) := by
  rw [wh_sum0 (fun o => Int32.ofNat (if s.testBit o = true then od o j else 0)) no ?_ ?_, sm_sN]
  · rfl
  · intro o h s'
    try dsimp only
    rw [if_pos (by rw [e8, i_lt (by omega) (by omega)]; exact h), m_has, ob_some, bitF_nat (by omega) (by omega)]
    by_cases hb : s.testBit o = true
    · rw [if_pos hb, if_neg (by decide), rdp_119 (by omega), ob_some, rdr_119 (by omega) hj, ho o j h hj, ob_some, ob_some, if_pos hb, i_addr]
    · rw [if_neg hb, if_pos rfl, ob_some, if_neg hb, i_addr]
      rfl
  · intro s'
    exact if_neg (by rw [e8]; exact Int32.lt_irrefl)
end SEWM
/-- the best of the sets 0 to k -/
noncomputable def btN (g : Nat → Prop) (t : Nat → Nat) : Nat → Nat
  | 0 => 0
  | k + 1 => @ite _ (g (k + 1) ∧ t (btN g t k) < t (k + 1)) (Classical.propDecidable _) (k + 1) (btN g t k)
theorem btN_le {g : Nat → Prop} {t : Nat → Nat} : ∀ k, btN g t k ≤ k
  | 0 => Nat.le_refl _
  | k + 1 => by
    have := btN_le (g := g) (t := t) k
    unfold btN
    split <;> omega
theorem btN_yes {g : Nat → Prop} {t : Nat → Nat} {k : Nat} (h : g (k + 1) ∧ t (btN g t k) < t (k + 1)) : btN g t (k + 1) = k + 1 := if_pos h
theorem btN_no {g : Nat → Prop} {t : Nat → Nat} {k : Nat} (h : ¬ (g (k + 1) ∧ t (btN g t k) < t (k + 1))) : btN g t (k + 1) = btN g t k := if_neg h
theorem btN_stay {g : Nat → Prop} {t : Nat → Nat} {p : Nat} (h : ∀ s, p < s → ¬ g s) : ∀ d, btN g t (p + d) = btN g t p
  | 0 => rfl
  | d + 1 => by
    rw [show p + (d + 1) = p + d + 1 by omega, btN_no (fun z => h _ (by omega) z.1)]
    exact btN_stay h d
set_option maxHeartbeats 1000000 in
theorem op_sewn_ok : op_sewn rel := by
  intro q w I hr
  have hr0 := hr
  obtain ⟨tn, bl, st, wa, od, tb, pk, ln, ht, nl, bh, bs, nk, ni, wt, u, hS, hD, hP, hL, hB, hK, hT, hC⟩ := hr
  obtain ⟨s1, s2, s3, s4, s5, s6, s7, s8, s9, s10, s11, s12, s13, s14, s15, s16, s17⟩ := hS
  obtain ⟨d1, d2⟩ := hD
  obtain ⟨day, hday, hd, hd3, hd4, hd5⟩ := d2
  have t8 : I 3 8 = Int32.ofNat (tn 3) := s3 3 (by decide)
  have t10 : I 3 10 = Int32.ofNat (tn 5) := s3 5 (by decide)
  have u3 : I 51 3 = Int32.ofNat (tn 3) := s2 3 (by decide)
  have u5 : I 51 5 = Int32.ofNat (tn 5) := s2 5 (by decide)
  have e16 : I 16 0 = Int32.ofNat day := (stE_day d1).trans hd
  have hn : tn 3 ≤ 8 := by omega
  obtain ⟨a1, a2, a3⟩ := all_ok (tn 3) (by omega)
  have hb : ∀ o, o < tn 3 → 1 ≤ od o 2 ∧ od o 2 ≤ 60 ∧ 1 ≤ od o 4 ∧ od o 4 ≤ 24 := fun o ho => by have := s15 o ho; omega
  have xall : f_sho_allOrders204 I = some (Int32.ofNat (2 ^ tn 3 - 1)) := by
    unfold f_sho_allOrders204
    rw [t8, a1]
  have mar : ∀ M : MJ, M 51 3 = Int32.ofNat (tn 3) → f_m_areOrders353 q M = Option.bind (f_m_in264 q 0 (Int32.ofNat (2 ^ tn 3 - 1)) M) fun v1 => some (vp_nar .boolean v1) := fun M h => by
    unfold f_m_areOrders353
    rw [h, a1]
  by_cases hq : (q &&& (Int32.ofNat (2 ^ tn 3 - 1) ^^^ (-1 : Int32))) = 0
  · obtain ⟨p, hp, rfl⟩ := bits_all hn hq
    have hpi : ∀ M : MJ, f_m_in264 (Int32.ofNat p) 0 (Int32.ofNat (2 ^ tn 3 - 1)) M = some 1 := fun M => inW_ok (lo := 0) (Nat.zero_le _) (by omega) (by omega)
    rcases rcW w (lo := 0) (hi := 2) (by decide) (by decide) with ⟨kw, -, hw, rfl⟩ | hw
    · generalize hg : (fun s : Nat => s < 256 ∧ (Int32.ofNat s &&& (Int32.ofNat p ^^^ (-1 : Int32))) = 0 ∧ inX od (tn 3) (tn 5) day s) = g
      have hgi : ∀ s, g s ↔ (s < 256 ∧ (Int32.ofNat s &&& (Int32.ofNat p ^^^ (-1 : Int32))) = 0 ∧ inX od (tn 3) (tn 5) day s) := fun s => by rw [← hg]
      have hT : ∀ s, tgN od (tn 3) s 3 ≤ 999 * tn 3 := fun s => sN_le fun k hk => by
        split
        · exact (s15 k hk).2.2.2.2.1
        · omega
      have hB : btN g (fun s => tgN od (tn 3) s 3) (2 ^ tn 3 - 1) = btN g (fun s => tgN od (tn 3) s 3) p := by
        have := btN_stay (g := g) (t := fun s => tgN od (tn 3) s 3) (p := p) (fun s hs hgs => by
          have h1 := (hgi s).mp hgs
          have := sub_le (by omega) (by omega) h1.2.1
          omega) (2 ^ tn 3 - 1 - p)
        rw [show p + (2 ^ tn 3 - 1 - p) = 2 ^ tn 3 - 1 by omega] at this
        exact this
      have hbp : btN g (fun s => tgN od (tn 3) s 3) p < 256 := by
        have := btN_le (g := g) (t := fun s => tgN od (tn 3) s 3) p
        omega
      have hin : ∀ s, inX od (tn 3) (tn 5) day s → inP od (tn 3) (tn 5) day s = 1 := fun s h => if_pos h
      have hout : ∀ s, ¬ inX od (tn 3) (tn 5) day s → inP od (tn 3) (tn 5) day s = 0 := fun s h => if_neg h
      refine qok0 hr0 (v := if kw = 0 then Int32.ofNat (tgN od (tn 3) (btN g (fun s => tgN od (tn 3) s 3) p) 3) else if kw = 1 then Int32.ofNat (btN g (fun s => tgN od (tn 3) s 3) p) else Int32.ofNat (tgN od (tn 3) (btN g (fun s => tgN od (tn 3) s 3) p) 4)) ?_ ?_
      · unfold f_x_sewn214
        have hx : f_tas_bestInTime215 (Int32.ofNat p) I = some (Int32.ofNat (btN g (fun s => tgN od (tn 3) s 3) p)) := by
          unfold f_tas_bestInTime215
          rw [← hB]
          refine (congrArg (fun z => Option.bind z _) (show _ = some (Int32.ofNat (btN g (fun s => tgN od (tn 3) s 3) (2 ^ tn 3 - 1))) from wh_seq (fun i => (Int32.ofNat (btN g (fun s => tgN od (tn 3) s 3) i), Int32.ofNat (i + 1))) (2 ^ tn 3 - 1) ?_ ?_)).trans rfl
          · intro i hi
            have hbl := btN_le (g := g) (t := fun s => tgN od (tn 3) s 3) i
            try dsimp only
            rw [xall, ob_some, if_neg (by rw [i_lt (by omega) (by omega)]; omega)]
            by_cases h1 : (Int32.ofNat (i + 1) &&& (Int32.ofNat p ^^^ (-1 : Int32))) = 0
            · rw [if_pos h1, ob_some, if_neg (by decide), x_isInTime (no := tn 3) (hands := tn 5) (day := day) (od := od) (by omega) hn hb (by omega) hday e16 t8 t10 s17, ob_some]
              by_cases h2 : inX od (tn 3) (tn 5) day (i + 1)
              · rw [hin _ h2, if_neg (by decide), show f_tas_together218 (Int32.ofNat (i + 1)) 3 I = _ from x_together (j := 3) (by omega) hn (by decide) t8 s17, ob_some, show f_tas_together218 (Int32.ofNat (btN g (fun s => tgN od (tn 3) s 3) i)) 3 I = _ from x_together (j := 3) (by omega) hn (by decide) t8 s17, ob_some]
                by_cases h3 : tgN od (tn 3) (btN g (fun s => tgN od (tn 3) s 3) i) 3 < tgN od (tn 3) (i + 1) 3
                · rw [if_pos (lt_l h3 (by have := hT (i + 1); omega)), ob_some, btN_yes ⟨(hgi _).mpr ⟨by omega, h1, h2⟩, h3⟩, i_addr]
                · rw [if_neg (nlt_l h3 (by have := hT (btN g (fun s => tgN od (tn 3) s 3) i); omega) (by have := hT (i + 1); omega)), ob_some, btN_no (fun z => h3 z.2), i_addr]
              · rw [hout _ h2, if_pos rfl, ob_some, btN_no (fun z => h2 ((hgi _).mp z.1).2.2), i_addr]
            · rw [if_neg h1, ob_some, if_pos rfl, ob_some, btN_no (fun z => h1 ((hgi _).mp z.1).2.1), i_addr]
          · dsimp only
            rw [xall, ob_some, if_pos (by rw [i_lt (by omega) (by omega)]; omega)]
        rw [xall, ob_some, nB_ok hq, tb_inr, show f_x_needWithin38 (Int32.ofNat kw) 0 2 I = _ from nWW_ok (lo := 0) (hi := 2) (Nat.zero_le _) hw (by decide), tb_inr, hx, ob_some]
        have hk : kw = 0 ∨ kw = 1 ∨ kw = 2 := by omega
        rcases hk with rfl | rfl | rfl
        · rw [if_neg (by decide), if_pos (show Int32.ofNat 0 = 0 from rfl), ob_some, show f_tas_together218 _ 3 I = _ from x_together (j := 3) hbp hn (by decide) t8 s17, ob_some, if_pos rfl]
        · rw [if_pos (show Int32.ofNat 1 = 1 from rfl), if_neg (by decide), if_pos rfl]
        · rw [if_neg (by decide), if_neg (by decide), ob_some, show f_tas_together218 _ 4 I = _ from x_together (j := 4) hbp hn (by decide) t8 s17, ob_some, if_neg (by decide), if_neg (by decide)]
      · have v3 : (ab_up1 I 47 0 0) 51 3 = Int32.ofNat (tn 3) := u3
        have v5 : (ab_up1 I 47 0 0) 51 5 = Int32.ofNat (tn 5) := u5
        have v89 : (ab_up1 I 47 0 0) 576 89 = Int32.ofNat day := (up_ne (by omega)).trans hd
        have J16 : ∀ o j, o < tn 3 → j < 5 → (ab_up1 I 47 0 0) (120 + o) j = Int32.ofNat (od o j) := fun w j hw hj => (up_ne (by omega)).trans (s16 w j hw hj)
        unfold f_m_sewn357
        rw [mar _ v3, hpi, ob_some, nar_1, ob_some, if_neg (by decide), show f_m_in264 (Int32.ofNat kw) 0 2 _ = _ from inW_ok (lo := 0) (hi := 2) (Nat.zero_le _) hw (by decide), ob_some, if_neg (by decide), ob_some, bad_0 up_eq, ob_some, if_pos rfl]
        try dsimp only
        have hloop : ∃ b, wh (β := Int32 × Int32) (fun (s4 : Int32 × Int32 × Int32) => (if Int32.ofNat p < s4.2.2 then some (.inr (s4.1, s4.2.1)) else (Option.bind (α := Int32 × Int32) (if (s4.2.2 &&& (Int32.ofNat p ^^^ (-1 : Int32))) = 0 then (Option.bind (f_m_isSewn358 s4.2.2 (ab_up1 I 47 0 0)) fun v14 => (if v14 = 0 then some (s4.1, s4.2.1) else (Option.bind (wh (β := Int32) (fun (s15 : Int32 × Int32) => (if s15.2 < ((ab_up1 I 47 0 0) 51 3) then (Option.bind (f_m_has313 s4.2.2 s15.2 (ab_up1 I 47 0 0)) fun v17 => (Option.bind (α := Int32) (if v17 = 0 then some (0 : Int32) else (Option.bind (rdp 119 s15.2) fun r19 => (Option.bind (rd (ab_up1 I 47 0 0) r19 (3 : Int32)) fun v20 => some v20 ) ) ) fun b18 => some (.inl ((s15.1 + b18), (s15.2 + (1 : Int32)))) ) ) else some (.inr s15.1) ) ) ((0 : Int32), (0 : Int32))) fun b16 => (if s4.2.1 < b16 then some (s4.2.2, b16) else some (s4.1, s4.2.1) ) ) ) ) else some (s4.1, s4.2.1) ) fun b13 => some (.inl (b13.1, b13.2, (s4.2.2 + (1 : Int32)))) ) ) ) ((0 : Int32), (-1 : Int32), (0 : Int32)) = some b ∧ b = (Int32.ofNat (btN g (fun s => tgN od (tn 3) s 3) p), Int32.ofNat (tgN od (tn 3) (btN g (fun s => tgN od (tn 3) s 3) p) 3)) := by
          refine ⟨_, wh_seq (fun i => match i with | 0 => ((0 : Int32), (-1 : Int32), (0 : Int32)) | i + 1 => (Int32.ofNat (btN g (fun s => tgN od (tn 3) s 3) i), Int32.ofNat (tgN od (tn 3) (btN g (fun s => tgN od (tn 3) s 3) i) 3), Int32.ofNat (i + 1))) (p + 1) ?_ ?_, rfl⟩
          · intro i hi
            have hbl := btN_le (g := g) (t := fun s => tgN od (tn 3) s 3) (i - 1)
            cases i with
            | zero =>
              have h0 : inX od (tn 3) (tn 5) day 0 := fun o _ h => by rw [Nat.zero_testBit] at h; cases h
              have ht0 : tgN od (tn 3) 0 3 = 0 := by
                have : tgN od (tn 3) 0 3 ≤ 0 * tn 3 := sN_le fun o ho => by
                  rw [Nat.zero_testBit, if_neg (by decide)]
                  exact Nat.le_refl 0
                omega
              try dsimp only
              rw [if_neg (show ¬ Int32.ofNat p < (0 : Int32) from nlt_l (a := p) (b := 0) (by omega) (by omega) (by omega)), if_pos (show ((0 : Int32) &&& (Int32.ofNat p ^^^ (-1 : Int32))) = 0 from sub_bits.mpr (fun i hi hx => by
                have e3 : (0 : Int32).toBitVec.getLsbD i = false := by
                  show (0#32).getLsbD i = false
                  exact BitVec.getLsbD_zero
                rw [e3] at hx
                cases hx)), show f_m_isSewn358 0 _ = _ from m_isSewn (s := 0) (no := tn 3) (hands := tn 5) (day := day) (od := od) (by omega) hn hb (by omega) hday v89 v3 v5 J16, ob_some, hin 0 h0, if_neg (by decide)]
              refine (congrArg (fun z => Option.bind (Option.bind z _) _) (m_together (I := ab_up1 I 47 0 0) (s := 0) (j := 3) (by omega) hn (by decide) v3 J16)).trans ?_
              rw [ht0, ob_some, if_pos (by decide), ob_some, show btN g (fun s => tgN od (tn 3) s 3) 0 = 0 from rfl, ht0]
              rfl
            | succ i =>
              try dsimp only
              rw [if_neg (by rw [i_lt (by omega) (by omega)]; omega)]
              by_cases h1 : (Int32.ofNat (i + 1) &&& (Int32.ofNat p ^^^ (-1 : Int32))) = 0
              · rw [if_pos h1, m_isSewn (s := i + 1) (no := tn 3) (hands := tn 5) (day := day) (od := od) (by omega) hn hb (by omega) hday v89 v3 v5 J16, ob_some]
                by_cases h2 : inX od (tn 3) (tn 5) day (i + 1)
                · rw [hin _ h2, if_neg (by decide)]
                  refine (congrArg (fun z => Option.bind (Option.bind z _) _) (m_together (I := ab_up1 I 47 0 0) (s := i + 1) (j := 3) (by omega) hn (by decide) v3 J16)).trans ?_
                  rw [ob_some]
                  by_cases h3 : tgN od (tn 3) (btN g (fun s => tgN od (tn 3) s 3) i) 3 < tgN od (tn 3) (i + 1) 3
                  · rw [if_pos (lt_l h3 (by have := hT (i + 1); omega)), ob_some, btN_yes ⟨(hgi _).mpr ⟨by omega, h1, h2⟩, h3⟩, i_addr]
                  · rw [if_neg (nlt_l h3 (by have := hT (btN g (fun s => tgN od (tn 3) s 3) i); omega) (by have := hT (i + 1); omega)), ob_some, btN_no (fun z => h3 z.2), i_addr]
                · rw [hout _ h2, if_pos rfl, ob_some, btN_no (fun z => h2 ((hgi _).mp z.1).2.2), i_addr]
              · rw [if_neg h1, ob_some, btN_no (fun z => h1 ((hgi _).mp z.1).2.1), i_addr]
          · dsimp only
            rw [if_pos (by rw [i_lt (by omega) (by omega)]; omega)]
        obtain ⟨b, l1, rfl⟩ := hloop
        refine (congrArg (fun z => Option.bind z _) l1).trans ?_
        rw [ob_some]
        try dsimp only
        refine (congrArg (fun z => Option.bind z _) (m_together (I := ab_up1 I 47 0 0) (s := btN g (fun s => tgN od (tn 3) s 3) p) (j := 4) hbp hn (by decide) v3 J16)).trans ?_
        rw [ob_some]
        have hk : kw = 0 ∨ kw = 1 ∨ kw = 2 := by omega
        rcases hk with rfl | rfl | rfl
        · rw [if_pos (show Int32.ofNat 0 = 0 from rfl), ob_some, if_pos rfl]
        · rw [if_neg (show ¬ Int32.ofNat 1 = 0 by decide), if_pos (show Int32.ofNat 1 = 1 from rfl), ob_some, if_neg (by decide), if_pos rfl]
        · rw [if_neg (show ¬ Int32.ofNat 2 = 0 by decide), if_neg (show ¬ Int32.ofNat 2 = 1 by decide), ob_some, if_neg (by decide), if_neg (by decide)]
    · refine qref (E := 1) (w := 1) (by decide) hr0 ?_ ?_ (Or.inl ⟨rfl, rfl⟩)
      · unfold f_x_sewn214
        rw [xall, ob_some, nB_ok hq, tb_inr, show f_x_needWithin38 w 0 2 I = _ from nWW_no hw]
        rfl
      · unfold f_m_sewn357
        rw [mar (ab_up1 (ab_up1 I 0 (14 + 1) (I 0 (14 + 1) + 1)) 47 0 0) u3, hpi, ob_some, nar_1, ob_some, if_neg (by decide), show f_m_in264 w 0 2 _ = _ from inW_no hw, ob_some, if_pos rfl, ob_some, show f_m_bad268 1 1 1 _ = _ from bad_ref (E := 1) (by decide) (by decide)]
        rfl
  · have hno : ∀ M : MJ, f_m_in264 q 0 (Int32.ofNat (2 ^ tn 3 - 1)) M = some 0 := fun M => by
      rcases rcW q (lo := 0) (hi := 2 ^ tn 3 - 1) (by omega) (by omega) with ⟨k, -, hk, rfl⟩ | h
      · exact absurd (bits_in hn (by omega)) hq
      · exact inW_no h
    refine qref (E := 1) (w := 1) (by decide) hr0 ?_ ?_ (Or.inl ⟨rfl, rfl⟩)
    · unfold f_x_sewn214
      rw [xall, ob_some, nB_no hq]
      rfl
    · unfold f_m_sewn357
      rw [mar (ab_up1 (ab_up1 I 0 (14 + 1) (I 0 (14 + 1) + 1)) 47 0 0) u3, hno, ob_some, nar_0, ob_some, if_pos rfl, ob_some, show f_m_bad268 1 1 1 _ = _ from bad_ref (E := 1) (by decide) (by decide)]
      rfl
