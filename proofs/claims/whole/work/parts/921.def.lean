/-! the methods as functions (written by wip/whole/dec.py out of the listing) -/
noncomputable def f_m_order333 (p1 : Int32) (p2 : Int32) (I : MJ) : Option (Int32 × MJ) :=
  (Option.bind (f_m_isOrder334 p1 (ab_up1 I 47 0 (0 : Int32))) fun v1 =>
  (Option.bind (α := Int32)
  (if v1 = 0 then
  some (1 : Int32)
  else
  some (0 : Int32)
  )
  fun b2 =>
  (Option.bind (f_m_bad268 b2 (1 : Int32) (0 : Int32) (ab_up1 I 47 0 (0 : Int32))) fun w3 =>
  (if w3.1 = 0 then
  (Option.bind (f_m_in264 p2 (0 : Int32) (5 : Int32) w3.2) fun v4 =>
  (Option.bind (α := Int32)
  (if v4 = 0 then
  some (1 : Int32)
  else
  some (0 : Int32)
  )
  fun b5 =>
  (Option.bind (f_m_bad268 b5 (2 : Int32) (1 : Int32) w3.2) fun w6 =>
  (if w6.1 = 0 then
  (Option.bind (α := Int32)
  (if p2 < (5 : Int32) then
  (Option.bind (rdp 119 p1) fun r8 =>
  (Option.bind (rd w6.2 r8 p2) fun v9 =>
  some v9
  )
  )
  else
  (Option.bind (f_m_stateOf312 576 p1 w6.2) fun v10 =>
  some v10
  )
  )
  fun b7 =>
  some (b7, w6.2)
  )
  else
  some ((0 : Int32), w6.2)
  )
  )
  )
  )
  else
  some ((0 : Int32), w3.2)
  )
  )
  )
  )
noncomputable def f_x_wears162 (p1 : Int32) (p2 : Int32) (I : MJ) : Option ((Nat ⊕ Int32) × MJ) :=
  (tb (f_x_needElement69 p1 (I 3 6) I) fun _ I2 =>
  (tb (f_x_needWithin38 p2 (0 : Int32) (11 : Int32) I2) fun _ I4 =>
  (Option.bind (f_sta_hasSuit108 15 p1 I4) fun v5 =>
  (if v5 = 0 then
  some (.inr (-1 : Int32), I4)
  else
  (Option.bind (f_sta_wornAt116 15 p1 p2 I4) fun v6 =>
  (Option.bind (α := Int32)
  (if v6 = (6 : Int32) then
  some (-1 : Int32)
  else
  some v6
  )
  fun b7 =>
  some (.inr b7, I4)
  )
  )
  )
  )
  )
  )
noncomputable def f_l_wears161 (p1 : Int32) (p2 : Int32) (I : MJ) (g : GG) : Option (Int32 × MJ × GG) :=
  (tryb (f_x_wears162 p1 p2 I) (fun v1 I2 =>
  (Option.bind (wrl g 698 (0 : Int32) (v1.toInt64)) fun g3 =>
  some ((0 : Int32), I2, g3)
  )
  ) (fun E2 I2 =>
  (if E2 = 0 then
  some ((1 : Int32), I2, (thr g))
  else
  (if E2 = 1 then
  some ((2 : Int32), I2, (thr g))
  else
  none))
  ))
noncomputable def f_m_isHour336 (p0 : Int32) (I : MJ) : Option (Int32) :=
  (Option.bind (f_m_in264 p0 (0 : Int32) (11 : Int32) I) fun v1 =>
  some (vp_nar .boolean v1)
  )
noncomputable def f_m_wears335 (p1 : Int32) (p2 : Int32) (I : MJ) : Option (Int32 × MJ) :=
  (Option.bind (f_m_isClient328 p1 (ab_up1 I 47 0 (0 : Int32))) fun v1 =>
  (Option.bind (α := Int32)
  (if v1 = 0 then
  some (1 : Int32)
  else
  some (0 : Int32)
  )
  fun b2 =>
  (Option.bind (f_m_bad268 b2 (1 : Int32) (0 : Int32) (ab_up1 I 47 0 (0 : Int32))) fun w3 =>
  (if w3.1 = 0 then
  (Option.bind (f_m_isHour336 p2 w3.2) fun v4 =>
  (Option.bind (α := Int32)
  (if v4 = 0 then
  some (1 : Int32)
  else
  some (0 : Int32)
  )
  fun b5 =>
  (Option.bind (f_m_bad268 b5 (2 : Int32) (1 : Int32) w3.2) fun w6 =>
  (if w6.1 = 0 then
  (Option.bind (f_m_hasSuit305 576 p1 w6.2) fun v7 =>
  (Option.bind (α := Int32)
  (if v7 = 0 then
  some (-1 : Int32)
  else
  (Option.bind (f_m_suitOf310 p1 w6.2) fun v9 =>
  (Option.bind (rd w6.2 576 (v9 + p2)) fun v10 =>
  (if v10 = (6 : Int32) then
  some (-1 : Int32)
  else
  (Option.bind (f_m_suitOf310 p1 w6.2) fun v11 =>
  (Option.bind (rd w6.2 576 (v11 + p2)) fun v12 =>
  some v12
  )
  )
  )
  )
  )
  )
  fun b8 =>
  some (b8, w6.2)
  )
  )
  else
  some ((0 : Int32), w6.2)
  )
  )
  )
  )
  else
  some ((0 : Int32), w3.2)
  )
  )
  )
  )
noncomputable def f_x_sky164 (p1 : Int32) (p2 : Int32) (I : MJ) : Option ((Nat ⊕ Int32) × MJ) :=
  (tb (f_x_needPattern68 p1 I) fun _ I2 =>
  (tb (f_x_needWithin38 p2 (0 : Int32) (11 : Int32) I2) fun _ I4 =>
  (Option.bind (f_pat_isTold25 p1 I4) fun v5 =>
  (Option.bind (α := Int32)
  (if v5 = 0 then
  some (-1 : Int32)
  else
  (Option.bind (f_pat_kindAt110 p1 p2 I4) fun v7 =>
  some v7
  )
  )
  fun b6 =>
  some (.inr b6, I4)
  )
  )
  )
  )
noncomputable def f_l_sky163 (p1 : Int32) (p2 : Int32) (I : MJ) (g : GG) : Option (Int32 × MJ × GG) :=
  (tryb (f_x_sky164 p1 p2 I) (fun v1 I2 =>
  (Option.bind (wrl g 698 (0 : Int32) (v1.toInt64)) fun g3 =>
  some ((0 : Int32), I2, g3)
  )
  ) (fun E2 I2 =>
  (if E2 = 0 then
  some ((1 : Int32), I2, (thr g))
  else
  (if E2 = 1 then
  some ((2 : Int32), I2, (thr g))
  else
  none))
  ))
noncomputable def f_m_sky337 (p1 : Int32) (p2 : Int32) (I : MJ) : Option (Int32 × MJ) :=
  (Option.bind (f_m_isPattern288 p1 (ab_up1 I 47 0 (0 : Int32))) fun v1 =>
  (Option.bind (α := Int32)
  (if v1 = 0 then
  some (1 : Int32)
  else
  some (0 : Int32)
  )
  fun b2 =>
  (Option.bind (f_m_bad268 b2 (1 : Int32) (0 : Int32) (ab_up1 I 47 0 (0 : Int32))) fun w3 =>
  (if w3.1 = 0 then
  (Option.bind (f_m_isHour336 p2 w3.2) fun v4 =>
  (Option.bind (α := Int32)
  (if v4 = 0 then
  some (1 : Int32)
  else
  some (0 : Int32)
  )
  fun b5 =>
  (Option.bind (f_m_bad268 b5 (2 : Int32) (1 : Int32) w3.2) fun w6 =>
  (if w6.1 = 0 then
  (Option.bind (rdb w6.2 135 p1) fun v7 =>
  (Option.bind (α := Int32)
  (if v7 = 0 then
  some (-1 : Int32)
  else
  (Option.bind (rdp 128 p1) fun r9 =>
  (Option.bind (rd w6.2 r9 p2) fun v10 =>
  some v10
  )
  )
  )
  fun b8 =>
  some (b8, w6.2)
  )
  )
  else
  some ((0 : Int32), w6.2)
  )
  )
  )
  )
  else
  some ((0 : Int32), w3.2)
  )
  )
  )
  )
noncomputable def f_x_clothOnBolts167 (p1 : Int32) (I : MJ) : Option (Int32) :=
  (Option.bind (wh (β := Int32) (fun (s1 : Int32 × Int32) =>
  (if s1.2 < (I 3 5) then
  (Option.bind (f_sho_boltKind147 s1.2 I) fun v3 =>
  (Option.bind (α := Int32)
  (if v3 = p1 then
  (Option.bind (f_sta_leftOn143 15 s1.2 I) fun v5 =>
  some v5
  )
  else
  some (0 : Int32)
  )
  fun b4 =>
  some (.inl ((s1.1 + b4), (s1.2 + (1 : Int32))))
  )
  )
  else
  some (.inr s1.1)
  )
  ) ((0 : Int32), (0 : Int32))) fun b2 =>
  some b2
  )
noncomputable def f_x_clothInSuits168 (p1 : Int32) (I : MJ) : Option (Int32) :=
  (Option.bind (wh (β := Int32) (fun (s1 : Int32 × Int32) =>
  (if s1.2 < (I 3 6) then
  (Option.bind (f_sta_hasSuit108 15 s1.2 I) fun v3 =>
  (Option.bind (α := Int32)
  (if v3 = 0 then
  some (0 : Int32)
  else
  (Option.bind (f_sta_suitAt114 15 s1.2 I) fun v5 =>
  (Option.bind (f_x_hoursOf155 16 v5 p1 I) fun v6 =>
  some v6
  )
  )
  )
  fun b4 =>
  some (.inl ((s1.1 + b4), (s1.2 + (1 : Int32))))
  )
  )
  else
  some (.inr s1.1)
  )
  ) ((0 : Int32), (0 : Int32))) fun b2 =>
  some b2
  )
noncomputable def f_x_clothInOrders169 (p1 : Int32) (I : MJ) : Option (Int32) :=
  (Option.bind (wh (β := Int32) (fun (s1 : Int32 × Int32) =>
  (if s1.2 < (I 3 8) then
  (Option.bind (f_sho_orderPart123 s1.2 (1 : Int32) I) fun v3 =>
  (Option.bind (f_tra_stateOf124 s1.2 I) fun v4 =>
  (Option.bind (α := Int32)
  (if v4 = 0 then
  (Option.bind (f_pat_isTold25 v3 I) fun v6 =>
  (if v6 = 0 then
  some s1.1
  else
  (Option.bind (f_x_hoursOf155 20 ((12 : Int32) * v3) p1 I) fun v7 =>
  some (s1.1 + v7)
  )
  )
  )
  else
  some s1.1
  )
  fun b5 =>
  some (.inl (b5, (s1.2 + (1 : Int32))))
  )
  )
  )
  else
  some (.inr s1.1)
  )
  ) ((0 : Int32), (0 : Int32))) fun b2 =>
  some b2
  )
noncomputable def f_x_cloth166 (p1 : Int32) (p2 : Int32) (I : MJ) : Option ((Nat ⊕ Int32) × MJ) :=
  (tb (f_x_needWithin38 p1 (0 : Int32) (5 : Int32) I) fun _ I2 =>
  (tb (f_x_needWithin38 p2 (0 : Int32) (2 : Int32) I2) fun _ I4 =>
  (if p2 = 0 then
  (Option.bind (f_x_clothOnBolts167 p1 I4) fun v5 =>
  some (.inr v5, I4)
  )
  else
  (Option.bind (α := Int32)
  (if p2 = (1 : Int32) then
  (Option.bind (f_x_clothInSuits168 p1 I4) fun v7 =>
  some v7
  )
  else
  (Option.bind (f_x_clothInOrders169 p1 I4) fun v8 =>
  some v8
  )
  )
  fun b6 =>
  some (.inr b6, I4)
  )
  )
  )
  )
noncomputable def f_l_cloth165 (p1 : Int32) (p2 : Int32) (I : MJ) (g : GG) : Option (Int32 × MJ × GG) :=
  (tryb (f_x_cloth166 p1 p2 I) (fun v1 I2 =>
  (Option.bind (wrl g 698 (0 : Int32) (v1.toInt64)) fun g3 =>
  some ((0 : Int32), I2, g3)
  )
  ) (fun E2 I2 =>
  (if E2 = 1 then
  some ((1 : Int32), I2, (thr g))
  else
  none)
  ))
noncomputable def f_m_cloth338 (p1 : Int32) (p2 : Int32) (I : MJ) : Option (Int32 × MJ) :=
  (Option.bind (f_m_in264 p1 (0 : Int32) (5 : Int32) (ab_up1 I 47 0 (0 : Int32))) fun v1 =>
  (Option.bind (α := Int32)
  (if v1 = 0 then
  some (1 : Int32)
  else
  (Option.bind (f_m_in264 p2 (0 : Int32) (2 : Int32) (ab_up1 I 47 0 (0 : Int32))) fun v31 =>
  (if v31 = 0 then
  some (1 : Int32)
  else
  some (0 : Int32)
  )
  )
  )
  fun b2 =>
  (Option.bind (f_m_bad268 b2 (1 : Int32) (1 : Int32) (ab_up1 I 47 0 (0 : Int32))) fun w3 =>
  (if w3.1 = 0 then
  (Option.bind (wh (β := Int32) (fun (s4 : Int32 × Int32) =>
  (if s4.2 < (w3.2 51 0) then
  (if p2 = 0 then
  (Option.bind (rdp 65 s4.2) fun r27 =>
  (Option.bind (rd w3.2 r27 (0 : Int32)) fun v28 =>
  (Option.bind (α := Int32)
  (if v28 = p1 then
  (Option.bind (rd w3.2 576 ((0 : Int32) + s4.2)) fun v30 =>
  some v30
  )
  else
  some (0 : Int32)
  )
  fun b29 =>
  some (.inl ((s4.1 + b29), (s4.2 + (1 : Int32))))
  )
  )
  )
  else
  some (.inr s4.1)
  )
  else
  some (.inr s4.1)
  )
  ) ((0 : Int32), (0 : Int32))) fun b5 =>
  (Option.bind (wh (β := Int32) (fun (s6 : Int32 × Int32) =>
  (if s6.2 < (w3.2 51 1) then
  (if p2 = (1 : Int32) then
  (Option.bind (wh (β := Int32) (fun (s21 : Int32 × Int32) =>
  (if s21.2 < (12 : Int32) then
  (Option.bind (f_m_hasSuit305 576 s6.2 w3.2) fun v23 =>
  (Option.bind (α := Int32)
  (if v23 = 0 then
  some (0 : Int32)
  else
  (Option.bind (f_m_suitOf310 s6.2 w3.2) fun v25 =>
  (Option.bind (rd w3.2 576 (v25 + s21.2)) fun v26 =>
  (if v26 = p1 then
  some (1 : Int32)
  else
  some (0 : Int32)
  )
  )
  )
  )
  fun b24 =>
  some (.inl ((s21.1 + b24), (s21.2 + (1 : Int32))))
  )
  )
  else
  some (.inr s21.1)
  )
  ) (s6.1, (0 : Int32))) fun b22 =>
  some (.inl (b22, (s6.2 + (1 : Int32))))
  )
  else
  some (.inr s6.1)
  )
  else
  some (.inr s6.1)
  )
  ) (b5, (0 : Int32))) fun b7 =>
  (Option.bind (wh (β := Int32) (fun (s8 : Int32 × Int32) =>
  (if s8.2 < (w3.2 51 3) then
  (if p2 = (2 : Int32) then
  (Option.bind (wh (β := Int32) (fun (s10 : Int32 × Int32) =>
  (if s10.2 < (12 : Int32) then
  (Option.bind (f_m_stateOf312 576 s8.2 w3.2) fun v12 =>
  (Option.bind (α := Int32)
  (if v12 = 0 then
  (Option.bind (rdp 119 s8.2) fun r14 =>
  (Option.bind (rd w3.2 r14 (1 : Int32)) fun v15 =>
  (Option.bind (rdb w3.2 135 v15) fun v16 =>
  (if v16 = 0 then
  some (0 : Int32)
  else
  (Option.bind (rdp 119 s8.2) fun r17 =>
  (Option.bind (rd w3.2 r17 (1 : Int32)) fun v18 =>
  (Option.bind (rdp 128 v18) fun r19 =>
  (Option.bind (rd w3.2 r19 s10.2) fun v20 =>
  (if v20 = p1 then
  some (1 : Int32)
  else
  some (0 : Int32)
  )
  )
  )
  )
  )
  )
  )
  )
  )
  else
  some (0 : Int32)
  )
  fun b13 =>
  some (.inl ((s10.1 + b13), (s10.2 + (1 : Int32))))
  )
  )
  else
  some (.inr s10.1)
  )
  ) (s8.1, (0 : Int32))) fun b11 =>
  some (.inl (b11, (s8.2 + (1 : Int32))))
  )
  else
  some (.inr s8.1)
  )
  else
  some (.inr s8.1)
  )
  ) (b7, (0 : Int32))) fun b9 =>
  some (b9, w3.2)
  )
  )
  )
  else
  some ((0 : Int32), w3.2)
  )
  )
  )
  )
noncomputable def f_x_can171 (p1 : Int32) (p2 : Int32) (I : MJ) : Option ((Nat ⊕ Int32) × MJ) :=
  (tb (f_x_needElement69 p1 (I 3 6) I) fun _ I2 =>
  (tb (f_x_needPattern68 p2 I2) fun _ I4 =>
  (Option.bind (f_tra_allowsCut106 p1 p2 I4) fun w5 =>
  some (.inr (vp_nar .boolean w5.1), w5.2)
  )
  )
  )
noncomputable def f_l_can170 (p1 : Int32) (p2 : Int32) (I : MJ) (g : GG) : Option (Int32 × MJ × GG) :=
  (tryb (f_x_can171 p1 p2 I) (fun v1 I2 =>
  (Option.bind (α := Int64)
  (if v1 = 0 then
  some (0 : Int64)
  else
  some (1 : Int64)
  )
  fun b3 =>
  (Option.bind (wrl g 698 (0 : Int32) b3) fun g4 =>
  some ((0 : Int32), I2, g4)
  )
  )
  ) (fun E2 I2 =>
  (if E2 = 0 then
  some ((1 : Int32), I2, (thr g))
  else
  none)
  ))
noncomputable def f_m_can339 (p1 : Int32) (p2 : Int32) (I : MJ) : Option (Int32 × MJ) :=
  (Option.bind (f_m_isClient328 p1 (ab_up1 I 47 0 (0 : Int32))) fun v1 =>
  (Option.bind (α := Int32)
  (if v1 = 0 then
  some (1 : Int32)
  else
  (Option.bind (f_m_isPattern288 p2 (ab_up1 I 47 0 (0 : Int32))) fun v5 =>
  (if v5 = 0 then
  some (1 : Int32)
  else
  some (0 : Int32)
  )
  )
  )
  fun b2 =>
  (Option.bind (f_m_bad268 b2 (1 : Int32) (0 : Int32) (ab_up1 I 47 0 (0 : Int32))) fun w3 =>
  (if w3.1 = 0 then
  (Option.bind (f_m_canCut306 576 p1 p2 w3.2) fun w4 =>
  some ((vp_nar .boolean w4.1), w4.2)
  )
  else
  some ((0 : Int32), w3.2)
  )
  )
  )
  )
noncomputable def f_x_ready173 (p1 : Int32) (I : MJ) : Option ((Nat ⊕ Int32) × MJ) :=
  (tb (f_x_needElement69 p1 (I 3 8) I) fun _ I2 =>
  (Option.bind (f_tra_allowsSale122 p1 I2) fun v3 =>
  some (.inr (vp_nar .boolean v3), I2)
  )
  )
noncomputable def f_l_ready172 (p1 : Int32) (I : MJ) (g : GG) : Option (Int32 × MJ × GG) :=
  (tryb (f_x_ready173 p1 I) (fun v1 I2 =>
  (Option.bind (α := Int64)
  (if v1 = 0 then
  some (0 : Int64)
  else
  some (1 : Int64)
  )
  fun b3 =>
  (Option.bind (wrl g 698 (0 : Int32) b3) fun g4 =>
  some ((0 : Int32), I2, g4)
  )
  )
  ) (fun E2 I2 =>
  (if E2 = 0 then
  some ((1 : Int32), I2, (thr g))
  else
  none)
  ))
noncomputable def f_m_ready340 (p1 : Int32) (I : MJ) : Option (Int32 × MJ) :=
  (Option.bind (f_m_isOrder334 p1 (ab_up1 I 47 0 (0 : Int32))) fun v1 =>
  (Option.bind (α := Int32)
  (if v1 = 0 then
  some (1 : Int32)
  else
  some (0 : Int32)
  )
  fun b2 =>
  (Option.bind (f_m_bad268 b2 (1 : Int32) (0 : Int32) (ab_up1 I 47 0 (0 : Int32))) fun w3 =>
  (if w3.1 = 0 then
  (Option.bind (f_m_isReady311 576 p1 w3.2) fun v4 =>
  some ((vp_nar .boolean v4), w3.2)
  )
  else
  some ((0 : Int32), w3.2)
  )
  )
  )
  )
noncomputable def f_sho_fitOf177 (p1 : Int32) (p2 : Nat) (p3 : Int32) (I : MJ) : Option (Int32) :=
  (Option.bind (f_x_seamsOf133 p2 p3 I) fun v1 =>
  (Option.bind (wh (β := Int32) (fun (s2 : Int32 × Int32) =>
  (if s2.2 < (I 3 7) then
  (Option.bind (f_sho_wantPart152 s2.2 (0 : Int32) I) fun v4 =>
  (Option.bind (α := Int32)
  (if v4 = p1 then
  (Option.bind (f_sho_isMet158 s2.2 p2 p3 I) fun v6 =>
  (if v6 = 0 then
  some s2.1
  else
  (Option.bind (f_sho_wantPart152 s2.2 (4 : Int32) I) fun v7 =>
  some (s2.1 + v7)
  )
  )
  )
  else
  some s2.1
  )
  fun b5 =>
  some (.inl (b5, (s2.2 + (1 : Int32))))
  )
  )
  else
  some (.inr s2.1)
  )
  ) (((-(I 3 9)) * v1), (0 : Int32))) fun b3 =>
  some b3
  )
  )
noncomputable def f_x_fitOfSuit176 (p1 : Nat) (p2 : Int32) (I : MJ) : Option (Int32) :=
  (Option.bind (f_sta_hasSuit108 p1 p2 I) fun v1 =>
  (Option.bind (α := Int32)
  (if v1 = 0 then
  some (0 : Int32)
  else
  (Option.bind (f_sta_suitAt114 p1 p2 I) fun v3 =>
  (Option.bind (f_sho_fitOf177 p2 (p1 + 1) v3 I) fun v4 =>
  some v4
  )
  )
  )
  fun b2 =>
  some b2
  )
  )
noncomputable def f_x_fit175 (p1 : Int32) (I : MJ) : Option ((Nat ⊕ Int32) × MJ) :=
  (tb (f_x_needElement69 p1 (I 3 6) I) fun _ I2 =>
  (Option.bind (f_x_fitOfSuit176 15 p1 I2) fun v3 =>
  some (.inr v3, I2)
  )
  )
noncomputable def f_l_fit174 (p1 : Int32) (I : MJ) (g : GG) : Option (Int32 × MJ × GG) :=
  (tryb (f_x_fit175 p1 I) (fun v1 I2 =>
  (Option.bind (wrl g 698 (0 : Int32) (v1.toInt64)) fun g3 =>
  some ((0 : Int32), I2, g3)
  )
  ) (fun E2 I2 =>
  (if E2 = 0 then
  some ((1 : Int32), I2, (thr g))
  else
  none)
  ))
noncomputable def f_m_fitOf342 (p1 : Nat) (p2 : Int32) (p3 : Int32) (I : MJ) : Option (Int32) :=
  (Option.bind (wh (β := Int32) (fun (s1 : Int32 × Int32) =>
  (if s1.2 < (I 51 2) then
  (Option.bind (rdp 93 s1.2) fun r4 =>
  (Option.bind (rd I r4 (0 : Int32)) fun v5 =>
  (Option.bind (α := Int32)
  (if v5 = p3 then
  (Option.bind (f_m_isMet332 p1 p2 s1.2 I) fun v7 =>
  (if v7 = 0 then
  some (0 : Int32)
  else
  (Option.bind (rdp 93 s1.2) fun r8 =>
  (Option.bind (rd I r8 (4 : Int32)) fun v9 =>
  some v9
  )
  )
  )
  )
  else
  some (0 : Int32)
  )
  fun b6 =>
  some (.inl ((s1.1 + b6), (s1.2 + (1 : Int32))))
  )
  )
  )
  else
  some (.inr s1.1)
  )
  ) ((0 : Int32), (0 : Int32))) fun b2 =>
  (Option.bind (f_m_seamsOf316 p1 p2 I) fun v3 =>
  some (b2 - ((I 51 4) * v3))
  )
  )
noncomputable def f_m_fit341 (p1 : Int32) (I : MJ) : Option (Int32 × MJ) :=
  (Option.bind (f_m_isClient328 p1 (ab_up1 I 47 0 (0 : Int32))) fun v1 =>
  (Option.bind (α := Int32)
  (if v1 = 0 then
  some (1 : Int32)
  else
  some (0 : Int32)
  )
  fun b2 =>
  (Option.bind (f_m_bad268 b2 (1 : Int32) (0 : Int32) (ab_up1 I 47 0 (0 : Int32))) fun w3 =>
  (if w3.1 = 0 then
  (Option.bind (f_m_hasSuit305 576 p1 w3.2) fun v4 =>
  (Option.bind (α := Int32)
  (if v4 = 0 then
  some (0 : Int32)
  else
  (Option.bind (f_m_suitOf310 p1 w3.2) fun v6 =>
  (Option.bind (f_m_fitOf342 576 v6 p1 w3.2) fun v7 =>
  some v7
  )
  )
  )
  fun b5 =>
  some (b5, w3.2)
  )
  )
  else
  some ((0 : Int32), w3.2)
  )
  )
  )
  )
noncomputable def f_x_refuseState181  (I : MJ) : Option ((Nat ⊕ Unit) × MJ) :=
  some (.inl 2, (ab_up1 I 0 16 ((I 0 16) + (1 : Int32))))
noncomputable def f_x_needTold180 (p1 : Int32) (I : MJ) : Option ((Nat ⊕ Unit) × MJ) :=
  (Option.bind (f_pat_isTold25 p1 I) fun v1 =>
  (if v1 = 0 then
  (tb (f_x_refuseState181 I) fun _ I3 =>
  some (.inr (), I3)
  )
  else
  some (.inr (), I)
  )
  )
noncomputable def f_x_tries179 (p1 : Int32) (p2 : Int32) (I : MJ) : Option ((Nat ⊕ Int32) × MJ) :=
  (tb (f_x_needElement69 p1 (I 3 6) I) fun _ I2 =>
  (tb (f_x_needPattern68 p2 I2) fun _ I4 =>
  (tb (f_x_needTold180 p2 I4) fun _ I6 =>
  (Option.bind (f_sho_fitOf177 p1 20 ((12 : Int32) * p2) I6) fun v7 =>
  some (.inr v7, I6)
  )
  )
  )
  )
noncomputable def f_l_tries178 (p1 : Int32) (p2 : Int32) (I : MJ) (g : GG) : Option (Int32 × MJ × GG) :=
  (tryb (f_x_tries179 p1 p2 I) (fun v1 I2 =>
  (Option.bind (wrl g 698 (0 : Int32) (v1.toInt64)) fun g3 =>
  some ((0 : Int32), I2, g3)
  )
  ) (fun E2 I2 =>
  (if E2 = 0 then
  some ((1 : Int32), I2, (thr g))
  else
  (if E2 = 2 then
  some ((2 : Int32), I2, (thr g))
  else
  none))
  ))
noncomputable def f_m_tries343 (p1 : Int32) (p2 : Int32) (I : MJ) : Option (Int32 × MJ) :=
  (Option.bind (f_m_isClient328 p1 (ab_up1 I 47 0 (0 : Int32))) fun v1 =>
  (Option.bind (α := Int32)
  (if v1 = 0 then
  some (1 : Int32)
  else
  (Option.bind (f_m_isPattern288 p2 (ab_up1 I 47 0 (0 : Int32))) fun v9 =>
  (if v9 = 0 then
  some (1 : Int32)
  else
  some (0 : Int32)
  )
  )
  )
  fun b2 =>
  (Option.bind (f_m_bad268 b2 (1 : Int32) (0 : Int32) (ab_up1 I 47 0 (0 : Int32))) fun w3 =>
  (if w3.1 = 0 then
  (Option.bind (rdb w3.2 135 p2) fun v4 =>
  (Option.bind (α := Int32)
  (if v4 = 0 then
  some (1 : Int32)
  else
  some (0 : Int32)
  )
  fun b5 =>
  (Option.bind (f_m_bad268 b5 (2 : Int32) (2 : Int32) w3.2) fun w6 =>
  (if w6.1 = 0 then
  (Option.bind (rdp 128 p2) fun r7 =>
  (Option.bind (f_m_fitOf342 r7 (0 : Int32) p1 w6.2) fun v8 =>
  some (v8, w6.2)
  )
  )
  else
  some ((0 : Int32), w6.2)
  )
  )
  )
  )
  else
  some ((0 : Int32), w3.2)
  )
  )
  )
  )
noncomputable def f_fit_gain185 (p1 : Int32) (p2 : Int32) (p3 : Int32) (p4 : Int32) (I : MJ) : Option (Int32) :=
  (Option.bind (wh (β := Int32) (fun (s1 : Int32 × Int32) =>
  (if s1.2 < (I 3 7) then
  (Option.bind (f_sho_wantPart152 s1.2 (0 : Int32) I) fun v3 =>
  (Option.bind (α := Int32)
  (if v3 = p1 then
  (Option.bind (f_sho_wantPart152 s1.2 (2 : Int32) I) fun v7 =>
  (if v7 = p2 then
  (Option.bind (f_sho_wantPart152 s1.2 (3 : Int32) I) fun v8 =>
  (if v8 = p4 then
  (Option.bind (f_sho_wantPart152 s1.2 (1 : Int32) I) fun v9 =>
  (if v9 < p3 then
  some (0 : Int32)
  else
  some (1 : Int32)
  )
  )
  else
  some (0 : Int32)
  )
  )
  else
  some (0 : Int32)
  )
  )
  else
  some (0 : Int32)
  )
  fun b4 =>
  (Option.bind (α := Int32)
  (if b4 = 0 then
  some (0 : Int32)
  else
  (Option.bind (f_sho_wantPart152 s1.2 (4 : Int32) I) fun v6 =>
  some v6
  )
  )
  fun b5 =>
  some (.inl ((s1.1 + b5), (s1.2 + (1 : Int32))))
  )
  )
  )
  else
  some (.inr s1.1)
  )
  ) ((0 : Int32), (0 : Int32))) fun b2 =>
  some b2
  )
noncomputable def f_fit_cell189 (p0 : Int32) (p1 : Int32) (p2 : Int32) (I : MJ) : Option (Int32) :=
  some (((((12 : Int32) * p0) + p1) * (6 : Int32)) + p2)
noncomputable def f_fit_worthOf188 (p1 : Int32) (p2 : Int32) (p3 : Int32) (p4 : Int32) (I : MJ) : Option (Int32) :=
  (Option.bind (α := Int32)
  (if p4 = p3 then
  (Option.bind (f_fit_cell189 (p1 + (1 : Int32)) p2 p3 I) fun v2 =>
  (Option.bind (f_x_at16 41 v2 I) fun v3 =>
  some v3
  )
  )
  else
  (Option.bind (f_fit_cell189 (p1 + (1 : Int32)) (p1 + (1 : Int32)) p4 I) fun v4 =>
  (Option.bind (f_x_at16 41 v4 I) fun v5 =>
  some (v5 - (I 3 9))
  )
  )
  )
  fun b1 =>
  some b1
  )
noncomputable def f_fit_onwardKind187 (p1 : Int32) (p2 : Int32) (p3 : Int32) (I : MJ) : Option (Int32) :=
  (Option.bind (wh (β := Int32) (fun (s1 : Int32 × Int32) =>
  (if s1.2 < (6 : Int32) then
  (Option.bind (f_fit_worthOf188 p1 p2 p3 s1.2 I) fun v3 =>
  (Option.bind (f_fit_worthOf188 p1 p2 p3 s1.1 I) fun v4 =>
  (Option.bind (α := Int32)
  (if v4 < v3 then
  some s1.2
  else
  some s1.1
  )
  fun b5 =>
  some (.inl (b5, (s1.2 + (1 : Int32))))
  )
  )
  )
  else
  some (.inr s1.1)
  )
  ) ((0 : Int32), (1 : Int32))) fun b2 =>
  some b2
  )
noncomputable def f_fit_onward186 (p1 : Int32) (p2 : Int32) (p3 : Int32) (I : MJ) : Option (Int32) :=
  (Option.bind (α := Int32)
  (if (p1 + (1 : Int32)) < (12 : Int32) then
  (Option.bind (f_fit_onwardKind187 p1 p2 p3 I) fun v2 =>
  (Option.bind (f_fit_worthOf188 p1 p2 p3 v2 I) fun v3 =>
  some v3
  )
  )
  else
  some (0 : Int32)
  )
  fun b1 =>
  some b1
  )
noncomputable def f_fit_follow190 (p1 : Int32) (I : MJ) : Option (MJ) :=
  (Option.bind (f_x_put15 40 (0 : Int32) p1 I) fun I1 =>
  (Option.bind (wh (β := MJ) (fun (s2 : Int32 × Int32 × Int32 × MJ) =>
  (if (s2.2.2.1 + (1 : Int32)) < (12 : Int32) then
  (Option.bind (f_fit_onwardKind187 s2.2.2.1 s2.2.1 s2.1 s2.2.2.2) fun v4 =>
  (Option.bind (α := Int32)
  (if v4 = s2.1 then
  some s2.2.1
  else
  some (s2.2.2.1 + (1 : Int32))
  )
  fun b5 =>
  (Option.bind (f_x_put15 40 (s2.2.2.1 + (1 : Int32)) v4 s2.2.2.2) fun I6 =>
  some (.inl (v4, b5, (s2.2.2.1 + (1 : Int32)), I6))
  )
  )
  )
  else
  some (.inr s2.2.2.2)
  )
  ) (p1, (0 : Int32), (0 : Int32), I1)) fun b3 =>
  some b3
  )
  )
noncomputable def f_fit_findBest184 (p1 : Int32) (I : MJ) : Option (Int32 × MJ) :=
  (Option.bind (wh (β := MJ) (fun (s1 : Int32 × MJ) =>
  (if s1.1 < 0 then
  some (.inr s1.2)
  else
  (Option.bind (wh (β := MJ) (fun (s13 : Int32 × MJ) =>
  (if s1.1 < s13.1 then
  some (.inr s13.2)
  else
  (Option.bind (wh (β := MJ) (fun (s15 : Int32 × MJ) =>
  (if s15.1 < (6 : Int32) then
  (Option.bind (f_fit_gain185 p1 s1.1 s13.1 s15.1 s15.2) fun v17 =>
  (Option.bind (f_fit_onward186 s1.1 s13.1 s15.1 s15.2) fun v18 =>
  (Option.bind (f_fit_cell189 s1.1 s13.1 s15.1 s15.2) fun v19 =>
  (Option.bind (f_x_put15 41 v19 (v17 + v18) s15.2) fun I20 =>
  some (.inl ((s15.1 + (1 : Int32)), I20))
  )
  )
  )
  )
  else
  some (.inr s15.2)
  )
  ) ((0 : Int32), s13.2)) fun b16 =>
  some (.inl ((s13.1 + (1 : Int32)), b16))
  )
  )
  ) ((0 : Int32), s1.2)) fun b14 =>
  some (.inl ((s1.1 + (-1 : Int32)), b14))
  )
  )
  ) ((11 : Int32), I)) fun b2 =>
  (Option.bind (wh (β := Int32) (fun (s3 : Int32 × Int32) =>
  (if s3.2 < (6 : Int32) then
  (Option.bind (f_fit_cell189 (0 : Int32) (0 : Int32) s3.2 b2) fun v8 =>
  (Option.bind (f_x_at16 41 v8 b2) fun v9 =>
  (Option.bind (f_fit_cell189 (0 : Int32) (0 : Int32) s3.1 b2) fun v10 =>
  (Option.bind (f_x_at16 41 v10 b2) fun v11 =>
  (Option.bind (α := Int32)
  (if v11 < v9 then
  some s3.2
  else
  some s3.1
  )
  fun b12 =>
  some (.inl (b12, (s3.2 + (1 : Int32))))
  )
  )
  )
  )
  )
  else
  some (.inr s3.1)
  )
  ) ((0 : Int32), (1 : Int32))) fun b4 =>
  (Option.bind (f_fit_follow190 b4 b2) fun I5 =>
  (Option.bind (f_fit_cell189 (0 : Int32) (0 : Int32) b4 I5) fun v6 =>
  (Option.bind (f_x_at16 41 v6 I5) fun v7 =>
  some (v7, I5)
  )
  )
  )
  )
  )
noncomputable def f_x_best183 (p1 : Int32) (I : MJ) : Option ((Nat ⊕ Int32) × MJ) :=
  (tb (f_x_needElement69 p1 (I 3 6) I) fun _ I2 =>
  (Option.bind (f_fit_findBest184 p1 I2) fun w3 =>
  some (.inr w3.1, w3.2)
  )
  )
noncomputable def f_l_best182 (p1 : Int32) (I : MJ) (g : GG) : Option (Int32 × MJ × GG) :=
  (tryb (f_x_best183 p1 I) (fun v1 I2 =>
  (Option.bind (wrl g 698 (0 : Int32) (v1.toInt64)) fun g3 =>
  some ((0 : Int32), I2, g3)
  )
  ) (fun E2 I2 =>
  (if E2 = 0 then
  some ((1 : Int32), I2, (thr g))
  else
  none)
  ))
noncomputable def f_m_endsIn347 (p1 : Int32) (p2 : Int32) (p3 : Int32) (p4 : Int32) (I : MJ) : Option (Int32) :=
  (Option.bind (wh (β := Int32) (fun (s1 : Int32 × Int32) =>
  (if s1.2 < (I 51 2) then
  (Option.bind (rdp 93 s1.2) fun r3 =>
  (Option.bind (rd I r3 (0 : Int32)) fun v4 =>
  (Option.bind (α := Int32)
  (if v4 = p1 then
  (Option.bind (rdp 93 s1.2) fun r6 =>
  (Option.bind (rd I r6 (3 : Int32)) fun v7 =>
  (if v7 = p2 then
  (Option.bind (rdp 93 s1.2) fun r8 =>
  (Option.bind (rd I r8 (2 : Int32)) fun v9 =>
  (if v9 = p4 then
  (Option.bind (rdp 93 s1.2) fun r10 =>
  (Option.bind (rd I r10 (1 : Int32)) fun v11 =>
  (if v11 < p3 then
  some (0 : Int32)
  else
  (Option.bind (rdp 93 s1.2) fun r12 =>
  (Option.bind (rd I r12 (4 : Int32)) fun v13 =>
  some v13
  )
  )
  )
  )
  )
  else
  some (0 : Int32)
  )
  )
  )
  else
  some (0 : Int32)
  )
  )
  )
  else
  some (0 : Int32)
  )
  fun b5 =>
  some (.inl ((s1.1 + b5), (s1.2 + (1 : Int32))))
  )
  )
  )
  else
  some (.inr s1.1)
  )
  ) ((0 : Int32), (0 : Int32))) fun b2 =>
  some b2
  )
noncomputable def f_m_gainOf346 (p1 : Int32) (p2 : Int32) (p3 : Int32) (p4 : Int32) (p5 : Int32) (I : MJ) : Option (Int32) :=
  (Option.bind (α := Int32)
  (if 0 < p2 then
  (if p5 = p3 then
  some p4
  else
  some p2
  )
  else
  some p2
  )
  fun b1 =>
  (Option.bind (f_m_endsIn347 p1 p5 b1 p2 I) fun v2 =>
  (Option.bind (α := Int32)
  (if 0 < p2 then
  (if p5 = p3 then
  some (0 : Int32)
  else
  some (I 51 4)
  )
  else
  some (0 : Int32)
  )
  fun b3 =>
  (Option.bind (rdp 601 (p2 + (1 : Int32))) fun r4 =>
  (Option.bind (rdp r4 p5) fun r5 =>
  (Option.bind (rd I r5 b1) fun v6 =>
  some ((v2 - b3) + v6)
  )
  )
  )
  )
  )
  )
noncomputable def f_m_laysBest345 (p1 : Int32) (I : MJ) : Option (Int32 × MJ) :=
  (Option.bind (wh (β := MJ) (fun (s1 : Int32 × MJ) =>
  (if s1.1 < (6 : Int32) then
  (Option.bind (wh (β := MJ) (fun (s33 : Int32 × MJ) =>
  (if (12 : Int32) < s33.1 then
  some (.inr s33.2)
  else
  (Option.bind (rdp 686 s1.1) fun r35 =>
  (Option.bind (wr s33.2 r35 s33.1 (0 : Int32)) fun I36 =>
  some (.inl ((s33.1 + (1 : Int32)), I36))
  )
  )
  )
  ) ((0 : Int32), s1.2)) fun b34 =>
  some (.inl ((s1.1 + (1 : Int32)), b34))
  )
  else
  some (.inr s1.2)
  )
  ) ((0 : Int32), I)) fun b2 =>
  (Option.bind (wh (β := MJ) (fun (s3 : Int32 × MJ) =>
  (if s3.1 < 0 then
  some (.inr s3.2)
  else
  (Option.bind (wh (β := MJ) (fun (s15 : Int32 × MJ) =>
  (if s15.1 < (6 : Int32) then
  (Option.bind (wh (β := MJ) (fun (s17 : Int32 × MJ) =>
  (if s3.1 < s17.1 then
  some (.inr s17.2)
  else
  (Option.bind (rdp 601 s3.1) fun r19 =>
  (Option.bind (rdp r19 s15.1) fun r20 =>
  (Option.bind (f_m_gainOf346 p1 s3.1 s15.1 s17.1 (0 : Int32) s17.2) fun v21 =>
  (Option.bind (wr s17.2 r20 s17.1 v21) fun I22 =>
  (Option.bind (wh (β := MJ) (fun (s23 : Int32 × MJ) =>
  (if s23.1 < (6 : Int32) then
  (Option.bind (rdp 601 s3.1) fun r25 =>
  (Option.bind (rdp r25 s15.1) fun r26 =>
  (Option.bind (rdp 601 s3.1) fun r27 =>
  (Option.bind (rdp r27 s15.1) fun r28 =>
  (Option.bind (rd s23.2 r28 s17.1) fun v29 =>
  (Option.bind (f_m_gainOf346 p1 s3.1 s15.1 s17.1 s23.1 s23.2) fun v30 =>
  (Option.bind (f_m_more320 v29 v30 s23.2) fun v31 =>
  (Option.bind (wr s23.2 r26 s17.1 v31) fun I32 =>
  some (.inl ((s23.1 + (1 : Int32)), I32))
  )
  )
  )
  )
  )
  )
  )
  )
  else
  some (.inr s23.2)
  )
  ) ((1 : Int32), I22)) fun b24 =>
  some (.inl ((s17.1 + (1 : Int32)), b24))
  )
  )
  )
  )
  )
  )
  ) ((0 : Int32), s15.2)) fun b18 =>
  some (.inl ((s15.1 + (1 : Int32)), b18))
  )
  else
  some (.inr s15.2)
  )
  ) ((0 : Int32), s3.2)) fun b16 =>
  some (.inl ((s3.1 + (-1 : Int32)), b16))
  )
  )
  ) ((11 : Int32), b2)) fun b4 =>
  (Option.bind (wh (β := MJ) (fun (s5 : Int32 × Int32 × Int32 × MJ) =>
  (if s5.2.2.1 < (12 : Int32) then
  (Option.bind (wh (β := Int32) (fun (s7 : Int32) =>
  (Option.bind (f_m_gainOf346 p1 s5.2.2.1 s5.1 s5.2.1 s7 s5.2.2.2) fun v11 =>
  (Option.bind (rdp 601 s5.2.2.1) fun r12 =>
  (Option.bind (rdp r12 s5.1) fun r13 =>
  (Option.bind (rd s5.2.2.2 r13 s5.2.1) fun v14 =>
  (if v11 = v14 then
  some (.inr s7)
  else
  some (.inl (s7 + (1 : Int32)))
  )
  )
  )
  )
  )
  ) (0 : Int32)) fun b8 =>
  (Option.bind (α := Int32)
  (if 0 < s5.2.2.1 then
  (if b8 = s5.1 then
  some s5.2.1
  else
  some s5.2.2.1
  )
  else
  some s5.2.2.1
  )
  fun b9 =>
  (Option.bind (wr s5.2.2.2 693 s5.2.2.1 b8) fun I10 =>
  some (.inl (b8, b9, (s5.2.2.1 + (1 : Int32)), I10))
  )
  )
  )
  else
  some (.inr s5.2.2.2)
  )
  ) ((0 : Int32), (0 : Int32), (0 : Int32), b4)) fun b6 =>
  some ((b6 603 0), b6)
  )
  )
  )
noncomputable def f_m_best344 (p1 : Int32) (I : MJ) : Option (Int32 × MJ) :=
  (Option.bind (f_m_isClient328 p1 (ab_up1 I 47 0 (0 : Int32))) fun v1 =>
  (Option.bind (α := Int32)
  (if v1 = 0 then
  some (1 : Int32)
  else
  some (0 : Int32)
  )
  fun b2 =>
  (Option.bind (f_m_bad268 b2 (1 : Int32) (0 : Int32) (ab_up1 I 47 0 (0 : Int32))) fun w3 =>
  (if w3.1 = 0 then
  (Option.bind (f_m_laysBest345 p1 w3.2) fun w4 =>
  some (w4.1, w4.2)
  )
  else
  some ((0 : Int32), w3.2)
  )
  )
  )
  )
noncomputable def f_x_bestAt192 (p1 : Int32) (p2 : Int32) (I : MJ) : Option ((Nat ⊕ Int32) × MJ) :=
  (tb (f_x_needElement69 p1 (I 3 6) I) fun _ I2 =>
  (tb (f_x_needWithin38 p2 (0 : Int32) (11 : Int32) I2) fun _ I4 =>
  (Option.bind (f_fit_findBest184 p1 I4) fun w5 =>
  (Option.bind (f_x_at16 40 p2 w5.2) fun v6 =>
  some (.inr v6, w5.2)
  )
  )
  )
  )
noncomputable def f_l_bestAt191 (p1 : Int32) (p2 : Int32) (I : MJ) (g : GG) : Option (Int32 × MJ × GG) :=
  (tryb (f_x_bestAt192 p1 p2 I) (fun v1 I2 =>
  (Option.bind (wrl g 698 (0 : Int32) (v1.toInt64)) fun g3 =>
  some ((0 : Int32), I2, g3)
  )
  ) (fun E2 I2 =>
  (if E2 = 0 then
  some ((1 : Int32), I2, (thr g))
  else
  (if E2 = 1 then
  some ((2 : Int32), I2, (thr g))
  else
  none))
  ))
noncomputable def f_m_bestAt348 (p1 : Int32) (p2 : Int32) (I : MJ) : Option (Int32 × MJ) :=
  (Option.bind (f_m_isClient328 p1 (ab_up1 I 47 0 (0 : Int32))) fun v1 =>
  (Option.bind (α := Int32)
  (if v1 = 0 then
  some (1 : Int32)
  else
  some (0 : Int32)
  )
  fun b2 =>
  (Option.bind (f_m_bad268 b2 (1 : Int32) (0 : Int32) (ab_up1 I 47 0 (0 : Int32))) fun w3 =>
  (if w3.1 = 0 then
  (Option.bind (f_m_isHour336 p2 w3.2) fun v4 =>
  (Option.bind (α := Int32)
  (if v4 = 0 then
  some (1 : Int32)
  else
  some (0 : Int32)
  )
  fun b5 =>
  (Option.bind (f_m_bad268 b5 (2 : Int32) (1 : Int32) w3.2) fun w6 =>
  (if w6.1 = 0 then
  (Option.bind (f_m_laysBest345 p1 w6.2) fun w7 =>
  (Option.bind (rd w7.2 693 p2) fun v8 =>
  some (v8, w7.2)
  )
  )
  else
  some ((0 : Int32), w6.2)
  )
  )
  )
  )
  else
  some ((0 : Int32), w3.2)
  )
  )
  )
  )
noncomputable def f_sho_clash196 (p1 : Int32) (p2 : Int32) (I : MJ) : Option (Int32) :=
  (Option.bind (f_sho_wantPart152 p1 (3 : Int32) I) fun v1 =>
  (Option.bind (f_sho_wantPart152 p2 (3 : Int32) I) fun v2 =>
  (Option.bind (α := Int32)
  (if v1 = v2 then
  some (0 : Int32)
  else
  (Option.bind (f_sho_wantPart152 p1 (1 : Int32) I) fun v4 =>
  (Option.bind (f_sho_wantPart152 p2 (2 : Int32) I) fun v5 =>
  (if v5 < v4 then
  some (0 : Int32)
  else
  (Option.bind (f_sho_wantPart152 p2 (1 : Int32) I) fun v6 =>
  (Option.bind (f_sho_wantPart152 p1 (2 : Int32) I) fun v7 =>
  (if v7 < v6 then
  some (0 : Int32)
  else
  some (1 : Int32)
  )
  )
  )
  )
  )
  )
  )
  fun b3 =>
  some (vp_nar .boolean b3)
  )
  )
  )
noncomputable def f_sho_clashesAmong195 (p1 : Int32) (I : MJ) : Option (Int32) :=
  (Option.bind (wh (β := Int32) (fun (s1 : Int32 × Int32) =>
  (if s1.2 < (I 3 7) then
  (Option.bind (wh (β := Int32) (fun (s3 : Int32 × Int32) =>
  (if s3.2 < (I 3 7) then
  (Option.bind (f_x_holds26 p1 s1.2 I) fun v5 =>
  (Option.bind (α := Int32)
  (if v5 = 0 then
  some (0 : Int32)
  else
  (Option.bind (f_x_holds26 p1 s3.2 I) fun v7 =>
  (if v7 = 0 then
  some (0 : Int32)
  else
  (Option.bind (f_sho_clash196 s1.2 s3.2 I) fun v8 =>
  (if v8 = 0 then
  some (0 : Int32)
  else
  some (1 : Int32)
  )
  )
  )
  )
  )
  fun b6 =>
  some (.inl ((s3.1 + b6), (s3.2 + (1 : Int32))))
  )
  )
  else
  some (.inr s3.1)
  )
  ) (s1.1, (s1.2 + (1 : Int32)))) fun b4 =>
  some (.inl (b4, (s1.2 + (1 : Int32))))
  )
  else
  some (.inr s1.1)
  )
  ) ((0 : Int32), (0 : Int32))) fun b2 =>
  some b2
  )
noncomputable def f_x_clashes194 (p1 : Int32) (I : MJ) : Option ((Nat ⊕ Int32) × MJ) :=
  (tb (f_x_needElement69 p1 (I 3 6) I) fun _ I2 =>
  (Option.bind (f_sho_wantsOf151 p1 I2) fun v3 =>
  (Option.bind (f_sho_clashesAmong195 v3 I2) fun v4 =>
  some (.inr v4, I2)
  )
  )
  )
noncomputable def f_l_clashes193 (p1 : Int32) (I : MJ) (g : GG) : Option (Int32 × MJ × GG) :=
  (tryb (f_x_clashes194 p1 I) (fun v1 I2 =>
  (Option.bind (wrl g 698 (0 : Int32) (v1.toInt64)) fun g3 =>
  some ((0 : Int32), I2, g3)
  )
  ) (fun E2 I2 =>
  (if E2 = 0 then
  some ((1 : Int32), I2, (thr g))
  else
  none)
  ))
noncomputable def f_m_isClash350 (p1 : Int32) (p2 : Int32) (I : MJ) : Option (Int32) :=
  (Option.bind (rdp 93 p1) fun r1 =>
  (Option.bind (rd I r1 (3 : Int32)) fun v2 =>
  (Option.bind (rdp 93 p2) fun r3 =>
  (Option.bind (rd I r3 (3 : Int32)) fun v4 =>
  (Option.bind (α := Int32)
  (if v2 = v4 then
  some (0 : Int32)
  else
  (Option.bind (rdp 93 p1) fun r6 =>
  (Option.bind (rd I r6 (1 : Int32)) fun v7 =>
  (Option.bind (rdp 93 p2) fun r8 =>
  (Option.bind (rd I r8 (2 : Int32)) fun v9 =>
  (if v9 < v7 then
  some (0 : Int32)
  else
  (Option.bind (rdp 93 p2) fun r10 =>
  (Option.bind (rd I r10 (1 : Int32)) fun v11 =>
  (Option.bind (rdp 93 p1) fun r12 =>
  (Option.bind (rd I r12 (2 : Int32)) fun v13 =>
  (if v13 < v11 then
  some (0 : Int32)
  else
  some (1 : Int32)
  )
  )
  )
  )
  )
  )
  )
  )
  )
  )
  )
  fun b5 =>
  some (vp_nar .boolean b5)
  )
  )
  )
  )
  )
noncomputable def f_m_clashes349 (p1 : Int32) (I : MJ) : Option (Int32 × MJ) :=
  (Option.bind (f_m_isClient328 p1 (ab_up1 I 47 0 (0 : Int32))) fun v1 =>
  (Option.bind (α := Int32)
  (if v1 = 0 then
  some (1 : Int32)
  else
  some (0 : Int32)
  )
  fun b2 =>
  (Option.bind (f_m_bad268 b2 (1 : Int32) (0 : Int32) (ab_up1 I 47 0 (0 : Int32))) fun w3 =>
  (if w3.1 = 0 then
  (Option.bind (wh (β := Int32) (fun (s4 : Int32 × Int32) =>
  (if s4.2 < (w3.2 51 2) then
  (Option.bind (wh (β := Int32) (fun (s6 : Int32 × Int32) =>
  (if s6.2 < s4.2 then
  (Option.bind (rdp 93 s4.2) fun r8 =>
  (Option.bind (rd w3.2 r8 (0 : Int32)) fun v9 =>
  (Option.bind (α := Int32)
  (if v9 = p1 then
  (Option.bind (rdp 93 s6.2) fun r11 =>
  (Option.bind (rd w3.2 r11 (0 : Int32)) fun v12 =>
  (if v12 = p1 then
  (Option.bind (f_m_isClash350 s4.2 s6.2 w3.2) fun v13 =>
  (if v13 = 0 then
  some (0 : Int32)
  else
  some (1 : Int32)
  )
  )
  else
  some (0 : Int32)
  )
  )
  )
  else
  some (0 : Int32)
  )
  fun b10 =>
  some (.inl ((s6.1 + b10), (s6.2 + (1 : Int32))))
  )
  )
  )
  else
  some (.inr s6.1)
  )
  ) (s4.1, (0 : Int32))) fun b7 =>
  some (.inl (b7, (s4.2 + (1 : Int32))))
  )
  else
  some (.inr s4.1)
  )
  ) ((0 : Int32), (0 : Int32))) fun b5 =>
  some (b5, w3.2)
  )
  else
  some ((0 : Int32), w3.2)
  )
  )
  )
  )
noncomputable def f_x_needBits199 (p1 : Int32) (p2 : Int32) (I : MJ) : Option ((Nat ⊕ Unit) × MJ) :=
  (if (p1 &&& (p2 ^^^ (-1 : Int32))) = 0 then
  some (.inr (), I)
  else
  (tb (f_x_refuseArgument39 I) fun _ I2 =>
  some (.inr (), I2)
  )
  )
noncomputable def f_sho_covers201 (p1 : Int32) (p2 : Int32) (I : MJ) : Option (Int32) :=
  (Option.bind (f_sho_wantPart152 p1 (1 : Int32) I) fun v1 =>
  (Option.bind (α := Int32)
  (if p2 < v1 then
  some (0 : Int32)
  else
  (Option.bind (f_sho_wantPart152 p1 (2 : Int32) I) fun v3 =>
  (if v3 < p2 then
  some (0 : Int32)
  else
  some (1 : Int32)
  )
  )
  )
  fun b2 =>
  some (vp_nar .boolean b2)
  )
  )
noncomputable def f_sho_kindWanted200 (p1 : Int32) (p2 : Int32) (I : MJ) : Option (Int32) :=
  (wh (fun (s1 : Int32) =>
  (if s1 < (I 3 7) then
  (Option.bind (f_x_holds26 p1 s1 I) fun v2 =>
  (if v2 = 0 then
  some (.inl (s1 + (1 : Int32)))
  else
  (Option.bind (f_sho_covers201 s1 p2 I) fun v3 =>
  (if v3 = 0 then
  some (.inl (s1 + (1 : Int32)))
  else
  (Option.map Sum.inr (
  (Option.bind (f_sho_wantPart152 s1 (3 : Int32) I) fun v4 =>
  some v4
  )
  ))
  )
  )
  )
  )
  else
  some (.inr (-1 : Int32))
  )
  ) (0 : Int32))
noncomputable def f_x_mend198 (p1 : Int32) (p2 : Int32) (I : MJ) : Option ((Nat ⊕ Int32) × MJ) :=
  (tb (f_x_needElement69 p1 (I 3 6) I) fun _ I2 =>
  (Option.bind (f_sho_wantsOf151 p1 I2) fun v3 =>
  (tb (f_x_needBits199 p2 v3 I2) fun _ I5 =>
  (Option.bind (f_sta_hasSuit108 15 p1 I5) fun v6 =>
  (if v6 = 0 then
  some (.inr (-1 : Int32), I5)
  else
  (Option.bind (f_sho_clashesAmong195 p2 I5) fun v7 =>
  (if 0 < v7 then
  some (.inr (-1 : Int32), I5)
  else
  (Option.bind (wh (β := Int32) (fun (s8 : Int32 × Int32) =>
  (if s8.2 < (12 : Int32) then
  (Option.bind (f_sho_kindWanted200 p2 s8.2 I5) fun v10 =>
  (Option.bind (α := Int32)
  (if v10 = (-1 : Int32) then
  some (0 : Int32)
  else
  (Option.bind (f_sta_wornAt116 15 p1 s8.2 I5) fun v12 =>
  (if v10 = v12 then
  some (0 : Int32)
  else
  some (1 : Int32)
  )
  )
  )
  fun b11 =>
  some (.inl ((s8.1 + b11), (s8.2 + (1 : Int32))))
  )
  )
  else
  some (.inr s8.1)
  )
  ) ((0 : Int32), (0 : Int32))) fun b9 =>
  some (.inr b9, I5)
  )
  )
  )
  )
  )
  )
  )
  )
noncomputable def f_l_mend197 (p1 : Int32) (p2 : Int32) (I : MJ) (g : GG) : Option (Int32 × MJ × GG) :=
  (tryb (f_x_mend198 p1 p2 I) (fun v1 I2 =>
  (Option.bind (wrl g 698 (0 : Int32) (v1.toInt64)) fun g3 =>
  some ((0 : Int32), I2, g3)
  )
  ) (fun E2 I2 =>
  (if E2 = 0 then
  some ((1 : Int32), I2, (thr g))
  else
  (if E2 = 1 then
  some ((2 : Int32), I2, (thr g))
  else
  none))
  ))
noncomputable def f_m_mend351 (p1 : Int32) (p2 : Int32) (I : MJ) : Option (Int32 × MJ) :=
  (Option.bind (f_m_isClient328 p1 (ab_up1 I 47 0 (0 : Int32))) fun v1 =>
  (Option.bind (α := Int32)
  (if v1 = 0 then
  some (1 : Int32)
  else
  some (0 : Int32)
  )
  fun b2 =>
  (Option.bind (f_m_bad268 b2 (1 : Int32) (0 : Int32) (ab_up1 I 47 0 (0 : Int32))) fun w3 =>
  (if w3.1 = 0 then
  (Option.bind (f_m_wantsOf329 p1 w3.2) fun v4 =>
  (Option.bind (α := Int32)
  (if (p2 &&& (v4 ^^^ (-1 : Int32))) = 0 then
  some (0 : Int32)
  else
  some (1 : Int32)
  )
  fun b5 =>
  (Option.bind (f_m_bad268 b5 (2 : Int32) (1 : Int32) w3.2) fun w6 =>
  (if w6.1 = 0 then
  (Option.bind (f_m_hasSuit305 576 p1 w6.2) fun v7 =>
  (if v7 = 0 then
  some ((-1 : Int32), w6.2)
  else
  (wh (fun (s8 : Int32 × Int32) =>
  (if s8.2 < (w6.2 51 2) then
  (Option.bind (f_m_has313 p2 s8.2 w6.2) fun v9 =>
  (if v9 = 0 then
  some (.inl (s8.1, (s8.2 + (1 : Int32))))
  else
  (wh (fun (s10 : Int32) =>
  (if s10 < s8.2 then
  (Option.bind (f_m_has313 p2 s10 w6.2) fun v11 =>
  (if v11 = 0 then
  some (.inl (s10 + (1 : Int32)))
  else
  (Option.bind (f_m_isClash350 s8.2 s10 w6.2) fun v12 =>
  (if v12 = 0 then
  some (.inl (s10 + (1 : Int32)))
  else
  some (.inr (.inr ((-1 : Int32), w6.2)))
  )
  )
  )
  )
  else
  (Option.map Sum.inr (
  (Option.bind (rdp 93 s8.2) fun r13 =>
  (Option.bind (rd w6.2 r13 (1 : Int32)) fun v14 =>
  (Option.bind (wh (β := Int32) (fun (s15 : Int32 × Int32) =>
  (Option.bind (rdp 93 s8.2) fun r17 =>
  (Option.bind (rd w6.2 r17 (2 : Int32)) fun v18 =>
  (if v18 < s15.2 then
  some (.inr s15.1)
  else
  (Option.bind (f_m_suitOf310 p1 w6.2) fun v19 =>
  (Option.bind (rd w6.2 576 (v19 + s15.2)) fun v20 =>
  (Option.bind (rdp 93 s8.2) fun r21 =>
  (Option.bind (rd w6.2 r21 (3 : Int32)) fun v22 =>
  (Option.bind (α := Int32)
  (if v20 = v22 then
  some (0 : Int32)
  else
  some ((1 : Int32) <<< (s15.2 &&& 31))
  )
  fun b23 =>
  some (.inl ((s15.1 ||| b23), (s15.2 + (1 : Int32))))
  )
  )
  )
  )
  )
  )
  )
  )
  ) (s8.1, v14)) fun b16 =>
  some (.inl (b16, (s8.2 + (1 : Int32))))
  )
  )
  )
  ))
  )
  ) (0 : Int32))
  )
  )
  else
  (Option.map Sum.inr (
  (Option.bind (wh (β := Int32) (fun (s24 : Int32 × Int32) =>
  (if s24.2 < (12 : Int32) then
  some (.inl ((s24.1 + ((s8.1 >>> (s24.2 &&& 31)) &&& (1 : Int32))), (s24.2 + (1 : Int32))))
  else
  some (.inr s24.1)
  )
  ) ((0 : Int32), (0 : Int32))) fun b25 =>
  some (b25, w6.2)
  )
  ))
  )
  ) ((0 : Int32), (0 : Int32)))
  )
  )
  else
  some ((0 : Int32), w6.2)
  )
  )
  )
  )
  else
  some ((0 : Int32), w3.2)
  )
  )
  )
  )
noncomputable def f_sho_allOrders204  (I : MJ) : Option (Int32) :=
  some (((1 : Int32) <<< ((I 3 8) &&& 31)) - (1 : Int32))
noncomputable def f_tas_patternOf206 (p1 : Int32) (I : MJ) : Option (Int32) :=
  (Option.bind (f_sho_orderPart123 p1 (1 : Int32) I) fun v1 =>
  some v1
  )
noncomputable def f_tas_canBePacked205 (p1 : Int32) (I : MJ) : Option (Int32) :=
  (wh (fun (s1 : Int32 × Int32) =>
  (if s1.2 < (I 3 8) then
  (Option.bind (f_x_holds26 p1 s1.2 I) fun v2 =>
  (if v2 = 0 then
  some (.inl (s1.1, (s1.2 + (1 : Int32))))
  else
  (Option.bind (f_tas_patternOf206 s1.2 I) fun v3 =>
  (Option.bind (f_pat_isTold25 v3 I) fun v4 =>
  (if v4 = 0 then
  some (.inr (0 : Int32))
  else
  (Option.bind (f_tas_patternOf206 s1.2 I) fun v5 =>
  (Option.bind (f_x_runsOf79 20 ((12 : Int32) * v5) I) fun v6 =>
  some (.inl ((s1.1 + v6), (s1.2 + (1 : Int32))))
  )
  )
  )
  )
  )
  )
  )
  else
  (Option.map Sum.inr (
  (Option.bind (α := Int32)
  (if (12 : Int32) < s1.1 then
  some (0 : Int32)
  else
  some (1 : Int32)
  )
  fun b7 =>
  some (vp_nar .boolean b7)
  )
  ))
  )
  ) ((0 : Int32), (0 : Int32)))
noncomputable def f_tas_addRuns209 (p1 : Int32) (p2 : Int32) (I : MJ) : Option (MJ) :=
  (Option.bind (wh (β := MJ) (fun (s1 : Int32 × Int32 × MJ) =>
  (if (12 : Int32) < s1.2.1 then
  some (.inr s1.2.2)
  else
  (Option.bind (α := Int32 × MJ)
  (if s1.2.1 < (12 : Int32) then
  (Option.bind (f_x_at16 20 (p1 + s1.2.1) s1.2.2) fun v4 =>
  (if v4 = p2 then
  some ((s1.1 + (1 : Int32)), s1.2.2)
  else
  (if 0 < s1.1 then
  (if (s1.2.2 43 6) < (12 : Int32) then
  (Option.bind (f_x_put15 44 (s1.2.2 43 6) s1.1 s1.2.2) fun I5 =>
  some ((0 : Int32), (ab_up1 I5 43 6 ((I5 43 6) + (1 : Int32))))
  )
  else
  some (s1.1, s1.2.2)
  )
  else
  some (s1.1, s1.2.2)
  )
  )
  )
  else
  (if 0 < s1.1 then
  (if (s1.2.2 43 6) < (12 : Int32) then
  (Option.bind (f_x_put15 44 (s1.2.2 43 6) s1.1 s1.2.2) fun I6 =>
  some ((0 : Int32), (ab_up1 I6 43 6 ((I6 43 6) + (1 : Int32))))
  )
  else
  some (s1.1, s1.2.2)
  )
  else
  some (s1.1, s1.2.2)
  )
  )
  fun b3 =>
  some (.inl (b3.1, (s1.2.1 + (1 : Int32)), b3.2))
  )
  )
  ) ((0 : Int32), (0 : Int32), I)) fun b2 =>
  some b2
  )
noncomputable def f_tas_gatherRuns208 (p1 : Int32) (p2 : Int32) (I : MJ) : Option (MJ) :=
  (Option.bind (wh (β := MJ) (fun (s1 : Int32 × MJ) =>
  (if s1.1 < (s1.2 3 8) then
  (Option.bind (f_x_holds26 p1 s1.1 s1.2) fun v3 =>
  (Option.bind (α := MJ)
  (if v3 = 0 then
  some s1.2
  else
  (Option.bind (f_tas_patternOf206 s1.1 s1.2) fun v5 =>
  (Option.bind (f_tas_addRuns209 ((12 : Int32) * v5) p2 s1.2) fun I6 =>
  some I6
  )
  )
  )
  fun b4 =>
  some (.inl ((s1.1 + (1 : Int32)), b4))
  )
  )
  else
  some (.inr s1.2)
  )
  ) ((0 : Int32), (ab_up1 I 43 6 (0 : Int32)))) fun b2 =>
  some b2
  )
noncomputable def f_tas_gatherSizes210 (p1 : Int32) (I : MJ) : Option (MJ) :=
  (Option.bind (wh (β := MJ) (fun (s1 : Int32 × MJ) =>
  (if s1.1 < (s1.2 3 5) then
  (Option.bind (f_sho_boltKind147 s1.1 s1.2) fun v3 =>
  (Option.bind (α := MJ)
  (if v3 = p1 then
  (Option.bind (wh (β := Int32 × MJ) (fun (s5 : Int32 × MJ) =>
  (if 0 < s5.1 then
  (Option.bind (f_x_at16 45 (s5.1 - (1 : Int32)) s5.2) fun v9 =>
  (Option.bind (f_sta_leftOn143 15 s1.1 s5.2) fun v10 =>
  (if v9 < v10 then
  (Option.bind (f_x_at16 45 (s5.1 - (1 : Int32)) s5.2) fun v11 =>
  (Option.bind (f_x_put15 45 s5.1 v11 s5.2) fun I12 =>
  some (.inl ((s5.1 + (-1 : Int32)), I12))
  )
  )
  else
  some (.inr (s5.1, s5.2))
  )
  )
  )
  else
  some (.inr (s5.1, s5.2))
  )
  ) ((s1.2 43 7), s1.2)) fun b6 =>
  (Option.bind (f_sta_leftOn143 15 s1.1 b6.2) fun v7 =>
  (Option.bind (f_x_put15 45 b6.1 v7 b6.2) fun I8 =>
  some (ab_up1 I8 43 7 ((I8 43 7) + (1 : Int32)))
  )
  )
  )
  else
  some s1.2
  )
  fun b4 =>
  some (.inl ((s1.1 + (1 : Int32)), b4))
  )
  )
  else
  some (.inr s1.2)
  )
  ) ((0 : Int32), (ab_up1 I 43 7 (0 : Int32)))) fun b2 =>
  some b2
  )
noncomputable def f_tas_addRun212 (p1 : Int32) (p2 : Int32) (I : MJ) : Option (Int32) :=
  (if p1 = (1000000 : Int32) then
  some (1000000 : Int32)
  else
  (if (p1 / (64 : Int32)) < (I 43 7) then
  (Option.bind (f_x_at16 45 (p1 / (64 : Int32)) I) fun v1 =>
  (if v1 < ((p1 - p1 / (64 : Int32) * (64 : Int32)) + p2) then
  (Option.bind (α := Int32)
  (if ((p1 / (64 : Int32)) + (1 : Int32)) < (I 43 7) then
  (Option.bind (f_x_at16 45 ((p1 / (64 : Int32)) + (1 : Int32)) I) fun v4 =>
  (if v4 < p2 then
  some (0 : Int32)
  else
  some (1 : Int32)
  )
  )
  else
  some (0 : Int32)
  )
  fun b2 =>
  (Option.bind (α := Int32)
  (if b2 = 0 then
  some (1000000 : Int32)
  else
  some ((((p1 / (64 : Int32)) + (1 : Int32)) * (64 : Int32)) + p2)
  )
  fun b3 =>
  some b3
  )
  )
  else
  some (p1 + p2)
  )
  )
  else
  (Option.bind (α := Int32)
  (if ((p1 / (64 : Int32)) + (1 : Int32)) < (I 43 7) then
  (Option.bind (f_x_at16 45 ((p1 / (64 : Int32)) + (1 : Int32)) I) fun v7 =>
  (if v7 < p2 then
  some (0 : Int32)
  else
  some (1 : Int32)
  )
  )
  else
  some (0 : Int32)
  )
  fun b5 =>
  (Option.bind (α := Int32)
  (if b5 = 0 then
  some (1000000 : Int32)
  else
  some ((((p1 / (64 : Int32)) + (1 : Int32)) * (64 : Int32)) + p2)
  )
  fun b6 =>
  some b6
  )
  )
  )
  )
noncomputable def f_tas_pack211  (I : MJ) : Option (Int32 × MJ) :=
  (Option.bind (wh (β := MJ) (fun (s1 : Int32 × MJ) =>
  (if (((1 : Int32) <<< ((I 43 6) &&& 31)) - (1 : Int32)) < s1.1 then
  some (.inr s1.2)
  else
  (if s1.1 < (4096 : Int32) then
  (Option.bind (wh (β := Int32) (fun (s5 : Int32 × Int32) =>
  (if s5.2 < (s1.2 43 6) then
  (Option.bind (f_x_holds26 s1.1 s5.2 s1.2) fun v8 =>
  (Option.bind (α := Int32)
  (if v8 = 0 then
  some s5.1
  else
  (Option.bind (f_x_at16 46 (s1.1 &&& (((1 : Int32) <<< (s5.2 &&& 31)) ^^^ (-1 : Int32))) s1.2) fun v10 =>
  (Option.bind (f_x_at16 44 s5.2 s1.2) fun v11 =>
  (Option.bind (f_tas_addRun212 v10 v11 s1.2) fun v12 =>
  some (if v12 < s5.1 then v12 else s5.1)
  )
  )
  )
  )
  fun b9 =>
  some (.inl (b9, (s5.2 + (1 : Int32))))
  )
  )
  else
  some (.inr s5.1)
  )
  ) ((1000000 : Int32), (0 : Int32))) fun b6 =>
  (Option.bind (f_x_put15 46 s1.1 b6 s1.2) fun I7 =>
  some (.inl ((s1.1 + (1 : Int32)), I7))
  )
  )
  else
  some (.inr s1.2)
  )
  )
  ) ((1 : Int32), I)) fun b2 =>
  (Option.bind (f_x_at16 46 (((1 : Int32) <<< ((I 43 6) &&& 31)) - (1 : Int32)) b2) fun v3 =>
  (Option.bind (α := Int32)
  (if v3 = (1000000 : Int32) then
  some (-1 : Int32)
  else
  some ((v3 / (64 : Int32)) + (1 : Int32))
  )
  fun b4 =>
  some (b4, b2)
  )
  )
  )
noncomputable def f_tas_fewestBolts207 (p1 : Int32) (I : MJ) : Option (Int32 × MJ) :=
  (wh (fun (s1 : Int32 × Int32 × MJ) =>
  (if s1.2.1 < (6 : Int32) then
  (Option.bind (f_tas_gatherRuns208 p1 s1.2.1 s1.2.2) fun I2 =>
  (Option.bind (f_tas_gatherSizes210 s1.2.1 I2) fun I3 =>
  (Option.bind (α := Int32 × MJ)
  (if (I3 43 6) = 0 then
  some ((0 : Int32), I3)
  else
  (Option.bind (f_tas_pack211 I3) fun w5 =>
  some (w5.1, w5.2)
  )
  )
  fun b4 =>
  (if b4.1 = (-1 : Int32) then
  some (.inr ((-1 : Int32), b4.2))
  else
  some (.inl ((s1.1 + b4.1), (s1.2.1 + (1 : Int32)), b4.2))
  )
  )
  )
  )
  else
  some (.inr (s1.1, s1.2.2))
  )
  ) ((0 : Int32), (0 : Int32), I))
noncomputable def f_x_pieces203 (p1 : Int32) (I : MJ) : Option ((Nat ⊕ Int32) × MJ) :=
  (Option.bind (f_sho_allOrders204 I) fun v1 =>
  (tb (f_x_needBits199 p1 v1 I) fun _ I3 =>
  (Option.bind (f_tas_canBePacked205 p1 I3) fun v4 =>
  (if v4 = 0 then
  (tb (f_x_refuseState181 I3) fun _ I6 =>
  (Option.bind (f_tas_fewestBolts207 p1 I6) fun w7 =>
  some (.inr w7.1, w7.2)
  )
  )
  else
  (Option.bind (f_tas_fewestBolts207 p1 I3) fun w8 =>
  some (.inr w8.1, w8.2)
  )
  )
  )
  )
  )
noncomputable def f_l_pieces202 (p1 : Int32) (I : MJ) (g : GG) : Option (Int32 × MJ × GG) :=
  (tryb (f_x_pieces203 p1 I) (fun v1 I2 =>
  (Option.bind (wrl g 698 (0 : Int32) (v1.toInt64)) fun g3 =>
  some ((0 : Int32), I2, g3)
  )
  ) (fun E2 I2 =>
  (if E2 = 1 then
  some ((1 : Int32), I2, (thr g))
  else
  (if E2 = 2 then
  some ((2 : Int32), I2, (thr g))
  else
  none))
  ))
noncomputable def f_m_areOrders353 (p1 : Int32) (I : MJ) : Option (Int32) :=
  (Option.bind (f_m_in264 p1 (0 : Int32) (((1 : Int32) <<< ((I 51 3) &&& 31)) - (1 : Int32)) I) fun v1 =>
  some (vp_nar .boolean v1)
  )
noncomputable def f_m_laysRuns354 (p1 : Int32) (I : MJ) : Option (Int32 × MJ) :=
  (wh (fun (s1 : Int32 × MJ) =>
  (if s1.1 < (s1.2 51 3) then
  (Option.bind (rdp 119 s1.1) fun r2 =>
  (Option.bind (rd s1.2 r2 (1 : Int32)) fun v3 =>
  (Option.bind (f_m_has313 p1 s1.1 s1.2) fun v4 =>
  (if v4 = 0 then
  some (.inl ((s1.1 + (1 : Int32)), s1.2))
  else
  (Option.bind (rdb s1.2 135 v3) fun v5 =>
  (if v5 = 0 then
  some (.inr ((0 : Int32), s1.2))
  else
  (Option.bind (rdp 128 v3) fun r6 =>
  (Option.bind (f_m_runsOf291 r6 (0 : Int32) s1.2) fun v7 =>
  (if (12 : Int32) < ((s1.2 47 53) + v7) then
  some (.inr ((0 : Int32), s1.2))
  else
  (Option.bind (wh (β := MJ) (fun (s8 : Int32 × MJ) =>
  (if s8.1 < (12 : Int32) then
  (Option.bind (rdp 128 v3) fun r10 =>
  (Option.bind (rd s8.2 r10 s8.1) fun v11 =>
  (Option.bind (wr s8.2 694 (s8.2 47 53) v11) fun I12 =>
  (Option.bind (rdp 128 v3) fun r13 =>
  (Option.bind (f_m_runAt308 r13 (0 : Int32) s8.1 I12) fun v14 =>
  (Option.bind (wr I12 695 (I12 47 53) v14) fun I15 =>
  (Option.bind (rdp 128 v3) fun r16 =>
  (Option.bind (f_m_runAt308 r16 (0 : Int32) s8.1 (ab_up1 I15 47 53 ((I15 47 53) + (1 : Int32)))) fun v17 =>
  some (.inl ((s8.1 + v17), (ab_up1 I15 47 53 ((I15 47 53) + (1 : Int32)))))
  )
  )
  )
  )
  )
  )
  )
  )
  else
  some (.inr s8.2)
  )
  ) ((0 : Int32), s1.2)) fun b9 =>
  some (.inl ((s1.1 + (1 : Int32)), b9))
  )
  )
  )
  )
  )
  )
  )
  )
  )
  )
  else
  some (.inr ((1 : Int32), s1.2))
  )
  ) ((0 : Int32), (ab_up1 I 47 53 (0 : Int32))))
noncomputable def f_m_ones355 (p0 : Int32) (I : MJ) : Option (Int32) :=
  (Option.bind (wh (β := Int32) (fun (s1 : Int32 × Int32) =>
  (if s1.2 < (10 : Int32) then
  some (.inl ((s1.1 + ((p0 >>> (s1.2 &&& 31)) &&& (1 : Int32))), (s1.2 + (1 : Int32))))
  else
  some (.inr s1.1)
  )
  ) ((0 : Int32), (0 : Int32))) fun b2 =>
  some b2
  )
noncomputable def F_m_packs356 (r : Int32 → Int32 → MJ → Option (Int32 × MJ)) (p1 : Int32) (p2 : Int32) (I : MJ) : Option (Int32 × MJ) :=
  (if p1 = (I 47 53) then
  some ((1 : Int32), I)
  else
  (wh (fun (s1 : Int32 × MJ) =>
  (if s1.1 < (s1.2 51 0) then
  (Option.bind (f_m_has313 p2 s1.1 s1.2) fun v2 =>
  (if v2 = 0 then
  some (.inl ((s1.1 + (1 : Int32)), s1.2))
  else
  (Option.bind (rdp 65 s1.1) fun r3 =>
  (Option.bind (rd s1.2 r3 (0 : Int32)) fun v4 =>
  (Option.bind (rd s1.2 694 p1) fun v5 =>
  (if v4 = v5 then
  (Option.bind (rd s1.2 696 s1.1) fun v6 =>
  (Option.bind (rd s1.2 695 p1) fun v7 =>
  (if v6 < v7 then
  some (.inl ((s1.1 + (1 : Int32)), s1.2))
  else
  (Option.bind (rd s1.2 696 s1.1) fun v8 =>
  (Option.bind (rd s1.2 695 p1) fun v9 =>
  (Option.bind (wr s1.2 696 s1.1 (v8 - v9)) fun I10 =>
  (Option.bind (r (p1 + (1 : Int32)) p2 I10) fun w11 =>
  (Option.bind (rd w11.2 696 s1.1) fun v12 =>
  (Option.bind (rd w11.2 695 p1) fun v13 =>
  (Option.bind (wr w11.2 696 s1.1 (v12 + v13)) fun I14 =>
  (if w11.1 = 0 then
  some (.inl ((s1.1 + (1 : Int32)), I14))
  else
  some (.inr ((1 : Int32), I14))
  )
  )
  )
  )
  )
  )
  )
  )
  )
  )
  )
  else
  some (.inl ((s1.1 + (1 : Int32)), s1.2))
  )
  )
  )
  )
  )
  )
  else
  some (.inr ((0 : Int32), s1.2))
  )
  ) ((0 : Int32), I))
  )
noncomputable def f_m_packs356 : Nat → Int32 → Int32 → MJ → Option (Int32 × MJ)
  | 0 => fun _ _ _ => none
  | k + 1 => F_m_packs356 (f_m_packs356 k)
noncomputable def f_m_pieces352 (p1 : Int32) (I : MJ) : Option (Int32 × MJ) :=
  (Option.bind (f_m_areOrders353 p1 (ab_up1 I 47 0 (0 : Int32))) fun v1 =>
  (Option.bind (α := Int32)
  (if v1 = 0 then
  some (1 : Int32)
  else
  some (0 : Int32)
  )
  fun b2 =>
  (Option.bind (f_m_bad268 b2 (1 : Int32) (1 : Int32) (ab_up1 I 47 0 (0 : Int32))) fun w3 =>
  (if w3.1 = 0 then
  (Option.bind (f_m_laysRuns354 p1 w3.2) fun w4 =>
  (Option.bind (α := Int32)
  (if w4.1 = 0 then
  some (1 : Int32)
  else
  some (0 : Int32)
  )
  fun b5 =>
  (Option.bind (f_m_bad268 b5 (2 : Int32) (2 : Int32) w4.2) fun w6 =>
  (if w6.1 = 0 then
  (Option.bind (wh (β := MJ) (fun (s7 : Int32 × MJ) =>
  (if s7.1 < (s7.2 51 0) then
  (Option.bind (rd s7.2 576 ((0 : Int32) + s7.1)) fun v19 =>
  (Option.bind (wr s7.2 696 s7.1 v19) fun I20 =>
  some (.inl ((s7.1 + (1 : Int32)), I20))
  )
  )
  else
  some (.inr s7.2)
  )
  ) ((0 : Int32), w6.2)) fun b8 =>
  (Option.bind (wh (β := Int32 × MJ) (fun (s9 : Int32 × Int32 × MJ) =>
  (if s9.2.1 < ((1 : Int32) <<< ((s9.2.2 51 0) &&& 31)) then
  (Option.bind (α := Int32 × MJ)
  (if s9.1 = (-1 : Int32) then
  (Option.bind (f_m_packs356 16 (0 : Int32) s9.2.1 s9.2.2) fun w12 =>
  (Option.bind (α := Int32)
  (if w12.1 = 0 then
  some s9.1
  else
  (Option.bind (f_m_ones355 s9.2.1 w12.2) fun v14 =>
  some v14
  )
  )
  fun b13 =>
  some (b13, w12.2)
  )
  )
  else
  (Option.bind (f_m_ones355 s9.2.1 s9.2.2) fun v15 =>
  (if v15 < s9.1 then
  (Option.bind (f_m_packs356 16 (0 : Int32) s9.2.1 s9.2.2) fun w16 =>
  (Option.bind (α := Int32)
  (if w16.1 = 0 then
  some s9.1
  else
  (Option.bind (f_m_ones355 s9.2.1 w16.2) fun v18 =>
  some v18
  )
  )
  fun b17 =>
  some (b17, w16.2)
  )
  )
  else
  some (s9.1, s9.2.2)
  )
  )
  )
  fun b11 =>
  some (.inl (b11.1, (s9.2.1 + (1 : Int32)), b11.2))
  )
  else
  some (.inr (s9.1, s9.2.2))
  )
  ) ((-1 : Int32), (0 : Int32), b8)) fun b10 =>
  some (b10.1, b10.2)
  )
  )
  else
  some ((0 : Int32), w6.2)
  )
  )
  )
  )
  else
  some ((0 : Int32), w3.2)
  )
  )
  )
  )
noncomputable def f_tas_hoursDueBy217 (p1 : Int32) (p2 : Int32) (I : MJ) : Option (Int32) :=
  (Option.bind (wh (β := Int32) (fun (s1 : Int32 × Int32) =>
  (if s1.2 < (I 3 8) then
  (Option.bind (f_x_holds26 p1 s1.2 I) fun v3 =>
  (Option.bind (α := Int32)
  (if v3 = 0 then
  some (0 : Int32)
  else
  (Option.bind (f_sho_orderPart123 s1.2 (2 : Int32) I) fun v7 =>
  (if p2 < v7 then
  some (0 : Int32)
  else
  some (1 : Int32)
  )
  )
  )
  fun b4 =>
  (Option.bind (α := Int32)
  (if b4 = 0 then
  some (0 : Int32)
  else
  (Option.bind (f_sho_orderPart123 s1.2 (4 : Int32) I) fun v6 =>
  some v6
  )
  )
  fun b5 =>
  some (.inl ((s1.1 + b5), (s1.2 + (1 : Int32))))
  )
  )
  )
  else
  some (.inr s1.1)
  )
  ) ((0 : Int32), (0 : Int32))) fun b2 =>
  some b2
  )
noncomputable def f_tas_isInTime216 (p1 : Int32) (I : MJ) : Option (Int32) :=
  (wh (fun (s1 : Int32) =>
  (if s1 < (I 3 8) then
  (Option.bind (f_sho_orderPart123 s1 (2 : Int32) I) fun v2 =>
  (Option.bind (f_x_holds26 p1 s1 I) fun v3 =>
  (if v3 = 0 then
  some (.inl (s1 + (1 : Int32)))
  else
  (Option.bind (f_tas_hoursDueBy217 p1 v2 I) fun v4 =>
  (Option.bind (f_sta_day113 15 I) fun v5 =>
  (if (((v2 - v5) + (1 : Int32)) * (I 3 10)) < v4 then
  some (.inr (0 : Int32))
  else
  some (.inl (s1 + (1 : Int32)))
  )
  )
  )
  )
  )
  )
  else
  some (.inr (1 : Int32))
  )
  ) (0 : Int32))
noncomputable def f_tas_together218 (p1 : Int32) (p2 : Int32) (I : MJ) : Option (Int32) :=
  (Option.bind (wh (β := Int32) (fun (s1 : Int32 × Int32) =>
  (if s1.2 < (I 3 8) then
  (Option.bind (f_x_holds26 p1 s1.2 I) fun v3 =>
  (Option.bind (α := Int32)
  (if v3 = 0 then
  some (0 : Int32)
  else
  (Option.bind (f_sho_orderPart123 s1.2 p2 I) fun v5 =>
  some v5
  )
  )
  fun b4 =>
  some (.inl ((s1.1 + b4), (s1.2 + (1 : Int32))))
  )
  )
  else
  some (.inr s1.1)
  )
  ) ((0 : Int32), (0 : Int32))) fun b2 =>
  some b2
  )
noncomputable def f_tas_bestInTime215 (p1 : Int32) (I : MJ) : Option (Int32) :=
  (Option.bind (wh (β := Int32) (fun (s1 : Int32 × Int32) =>
  (Option.bind (f_sho_allOrders204 I) fun v3 =>
  (if v3 < s1.2 then
  some (.inr s1.1)
  else
  (Option.bind (α := Int32)
  (if (s1.2 &&& (p1 ^^^ (-1 : Int32))) = 0 then
  some (1 : Int32)
  else
  some (0 : Int32)
  )
  fun b4 =>
  (Option.bind (α := Int32)
  (if b4 = 0 then
  some s1.1
  else
  (Option.bind (f_tas_isInTime216 s1.2 I) fun v6 =>
  (if v6 = 0 then
  some s1.1
  else
  (Option.bind (f_tas_together218 s1.2 (3 : Int32) I) fun v7 =>
  (Option.bind (f_tas_together218 s1.1 (3 : Int32) I) fun v8 =>
  (if v8 < v7 then
  some s1.2
  else
  some s1.1
  )
  )
  )
  )
  )
  )
  fun b5 =>
  some (.inl (b5, (s1.2 + (1 : Int32))))
  )
  )
  )
  )
  ) ((0 : Int32), (1 : Int32))) fun b2 =>
  some b2
  )
noncomputable def f_x_sewn214 (p1 : Int32) (p2 : Int32) (I : MJ) : Option ((Nat ⊕ Int32) × MJ) :=
  (Option.bind (f_sho_allOrders204 I) fun v1 =>
  (tb (f_x_needBits199 p1 v1 I) fun _ I3 =>
  (tb (f_x_needWithin38 p2 (0 : Int32) (2 : Int32) I3) fun _ I5 =>
  (Option.bind (f_tas_bestInTime215 p1 I5) fun v6 =>
  (if p2 = (1 : Int32) then
  some (.inr v6, I5)
  else
  (Option.bind (α := Int32)
  (if p2 = 0 then
  some (3 : Int32)
  else
  some (4 : Int32)
  )
  fun b7 =>
  (Option.bind (f_tas_together218 v6 b7 I5) fun v8 =>
  some (.inr v8, I5)
  )
  )
  )
  )
  )
  )
  )
noncomputable def f_l_sewn213 (p1 : Int32) (p2 : Int32) (I : MJ) (g : GG) : Option (Int32 × MJ × GG) :=
  (tryb (f_x_sewn214 p1 p2 I) (fun v1 I2 =>
  (Option.bind (wrl g 698 (0 : Int32) (v1.toInt64)) fun g3 =>
  some ((0 : Int32), I2, g3)
  )
  ) (fun E2 I2 =>
  (if E2 = 1 then
  some ((1 : Int32), I2, (thr g))
  else
  none)
  ))
noncomputable def f_m_isSewn358 (p1 : Int32) (I : MJ) : Option (Int32) :=
  (wh (fun (s1 : Int32) =>
  (if (60 : Int32) < s1 then
  some (.inr (1 : Int32))
  else
  (Option.bind (wh (β := Int32) (fun (s2 : Int32 × Int32) =>
  (if s2.2 < (I 51 3) then
  (Option.bind (f_m_has313 p1 s2.2 I) fun v5 =>
  (Option.bind (α := Int32)
  (if v5 = 0 then
  some (0 : Int32)
  else
  (Option.bind (rdp 119 s2.2) fun r7 =>
  (Option.bind (rd I r7 (2 : Int32)) fun v8 =>
  (if s1 < v8 then
  some (0 : Int32)
  else
  (Option.bind (rdp 119 s2.2) fun r9 =>
  (Option.bind (rd I r9 (4 : Int32)) fun v10 =>
  some v10
  )
  )
  )
  )
  )
  )
  fun b6 =>
  some (.inl ((s2.1 + b6), (s2.2 + (1 : Int32))))
  )
  )
  else
  some (.inr s2.1)
  )
  ) ((0 : Int32), (0 : Int32))) fun b3 =>
  (Option.bind (f_m_more320 (0 : Int32) ((s1 - (I 576 89)) + (1 : Int32)) I) fun v4 =>
  (if ((I 51 5) * v4) < b3 then
  some (.inr (0 : Int32))
  else
  some (.inl (s1 + (1 : Int32)))
  )
  )
  )
  )
  ) (1 : Int32))
noncomputable def f_m_sewn357 (p1 : Int32) (p2 : Int32) (I : MJ) : Option (Int32 × MJ) :=
  (Option.bind (f_m_areOrders353 p1 (ab_up1 I 47 0 (0 : Int32))) fun v1 =>
  (Option.bind (α := Int32)
  (if v1 = 0 then
  some (1 : Int32)
  else
  (Option.bind (f_m_in264 p2 (0 : Int32) (2 : Int32) (ab_up1 I 47 0 (0 : Int32))) fun v21 =>
  (if v21 = 0 then
  some (1 : Int32)
  else
  some (0 : Int32)
  )
  )
  )
  fun b2 =>
  (Option.bind (f_m_bad268 b2 (1 : Int32) (1 : Int32) (ab_up1 I 47 0 (0 : Int32))) fun w3 =>
  (if w3.1 = 0 then
  (Option.bind (wh (β := Int32 × Int32) (fun (s4 : Int32 × Int32 × Int32) =>
  (if p1 < s4.2.2 then
  some (.inr (s4.1, s4.2.1))
  else
  (Option.bind (α := Int32 × Int32)
  (if (s4.2.2 &&& (p1 ^^^ (-1 : Int32))) = 0 then
  (Option.bind (f_m_isSewn358 s4.2.2 w3.2) fun v14 =>
  (if v14 = 0 then
  some (s4.1, s4.2.1)
  else
  (Option.bind (wh (β := Int32) (fun (s15 : Int32 × Int32) =>
  (if s15.2 < (w3.2 51 3) then
  (Option.bind (f_m_has313 s4.2.2 s15.2 w3.2) fun v17 =>
  (Option.bind (α := Int32)
  (if v17 = 0 then
  some (0 : Int32)
  else
  (Option.bind (rdp 119 s15.2) fun r19 =>
  (Option.bind (rd w3.2 r19 (3 : Int32)) fun v20 =>
  some v20
  )
  )
  )
  fun b18 =>
  some (.inl ((s15.1 + b18), (s15.2 + (1 : Int32))))
  )
  )
  else
  some (.inr s15.1)
  )
  ) ((0 : Int32), (0 : Int32))) fun b16 =>
  (if s4.2.1 < b16 then
  some (s4.2.2, b16)
  else
  some (s4.1, s4.2.1)
  )
  )
  )
  )
  else
  some (s4.1, s4.2.1)
  )
  fun b13 =>
  some (.inl (b13.1, b13.2, (s4.2.2 + (1 : Int32))))
  )
  )
  ) ((0 : Int32), (-1 : Int32), (0 : Int32))) fun b5 =>
  (Option.bind (wh (β := Int32) (fun (s6 : Int32 × Int32) =>
  (if s6.2 < (w3.2 51 3) then
  (Option.bind (f_m_has313 b5.1 s6.2 w3.2) fun v9 =>
  (Option.bind (α := Int32)
  (if v9 = 0 then
  some (0 : Int32)
  else
  (Option.bind (rdp 119 s6.2) fun r11 =>
  (Option.bind (rd w3.2 r11 (4 : Int32)) fun v12 =>
  some v12
  )
  )
  )
  fun b10 =>
  some (.inl ((s6.1 + b10), (s6.2 + (1 : Int32))))
  )
  )
  else
  some (.inr s6.1)
  )
  ) ((0 : Int32), (0 : Int32))) fun b7 =>
  (Option.bind (α := Int32)
  (if p2 = 0 then
  some b5.2
  else
  (if p2 = (1 : Int32) then
  some b5.1
  else
  some b7
  )
  )
  fun b8 =>
  some (b8, w3.2)
  )
  )
  )
  else
  some ((0 : Int32), w3.2)
  )
  )
  )
  )
noncomputable def f_sta_unlikeHours221 (p1 : Int32) (p2 : Int32) (I : MJ) : Option (Int32) :=
  (Option.bind (f_sta_hasSuit108 15 p1 I) fun v1 =>
  (if v1 = 0 then
  some (0 : Int32)
  else
  (Option.bind (f_sta_hasSuit108 15 p2 I) fun v2 =>
  (if v2 = 0 then
  some (0 : Int32)
  else
  (Option.bind (wh (β := Int32) (fun (s3 : Int32 × Int32) =>
  (if s3.2 < (12 : Int32) then
  (Option.bind (f_sta_wornAt116 15 p1 s3.2 I) fun v5 =>
  (Option.bind (f_sta_wornAt116 15 p2 s3.2 I) fun v6 =>
  (Option.bind (α := Int32)
  (if v5 = v6 then
  some (0 : Int32)
  else
  (if v5 = (6 : Int32) then
  some (0 : Int32)
  else
  (if v6 = (6 : Int32) then
  some (0 : Int32)
  else
  some (1 : Int32)
  )
  )
  )
  fun b7 =>
  some (.inl ((s3.1 + b7), (s3.2 + (1 : Int32))))
  )
  )
  )
  else
  some (.inr s3.1)
  )
  ) ((0 : Int32), (0 : Int32))) fun b4 =>
  some b4
  )
  )
  )
  )
  )
noncomputable def f_x_words220 (p1 : Int32) (I : MJ) : Option ((Nat ⊕ Int32) × MJ) :=
  (tb (f_x_needWithin38 p1 (0 : Int32) (9 : Int32) I) fun _ I2 =>
  (Option.bind (wh (β := Int32) (fun (s3 : Int32 × Int32) =>
  (if s3.2 < (I2 3 6) then
  (Option.bind (wh (β := Int32) (fun (s5 : Int32 × Int32) =>
  (if s5.2 < (I2 3 6) then
  (Option.bind (f_sho_streetOf150 s3.2 I2) fun v7 =>
  (Option.bind (α := Int32)
  (if v7 = p1 then
  (Option.bind (f_sho_streetOf150 s5.2 I2) fun v9 =>
  (if v9 = p1 then
  (Option.bind (f_sta_unlikeHours221 s3.2 s5.2 I2) fun v10 =>
  some (s5.1 + v10)
  )
  else
  some s5.1
  )
  )
  else
  some s5.1
  )
  fun b8 =>
  some (.inl (b8, (s5.2 + (1 : Int32))))
  )
  )
  else
  some (.inr s5.1)
  )
  ) (s3.1, (s3.2 + (1 : Int32)))) fun b6 =>
  some (.inl (b6, (s3.2 + (1 : Int32))))
  )
  else
  some (.inr s3.1)
  )
  ) ((0 : Int32), (0 : Int32))) fun b4 =>
  some (.inr b4, I2)
  )
  )
noncomputable def f_l_words219 (p1 : Int32) (I : MJ) (g : GG) : Option (Int32 × MJ × GG) :=
  (tryb (f_x_words220 p1 I) (fun v1 I2 =>
  (Option.bind (wrl g 698 (0 : Int32) (v1.toInt64)) fun g3 =>
  some ((0 : Int32), I2, g3)
  )
  ) (fun E2 I2 =>
  (if E2 = 1 then
  some ((1 : Int32), I2, (thr g))
  else
  none)
  ))
noncomputable def f_m_words359 (p1 : Int32) (I : MJ) : Option (Int32 × MJ) :=
  (Option.bind (f_m_in264 p1 (0 : Int32) (9 : Int32) (ab_up1 I 47 0 (0 : Int32))) fun v1 =>
  (Option.bind (α := Int32)
  (if v1 = 0 then
  some (1 : Int32)
  else
  some (0 : Int32)
  )
  fun b2 =>
  (Option.bind (f_m_bad268 b2 (1 : Int32) (1 : Int32) (ab_up1 I 47 0 (0 : Int32))) fun w3 =>
  (if w3.1 = 0 then
  (Option.bind (wh (β := Int32) (fun (s4 : Int32 × Int32) =>
  (if s4.2 < (w3.2 51 1) then
  (Option.bind (wh (β := Int32) (fun (s6 : Int32 × Int32) =>
  (if s6.2 < s4.2 then
  (Option.bind (rd w3.2 53 s4.2) fun v8 =>
  (Option.bind (α := Int32)
  (if v8 = p1 then
  (Option.bind (rd w3.2 53 s6.2) fun v10 =>
  (if v10 = p1 then
  (Option.bind (f_m_hasSuit305 576 s4.2 w3.2) fun v11 =>
  (if v11 = 0 then
  some s6.1
  else
  (Option.bind (f_m_hasSuit305 576 s6.2 w3.2) fun v12 =>
  (if v12 = 0 then
  some s6.1
  else
  (Option.bind (wh (β := Int32) (fun (s13 : Int32 × Int32) =>
  (if s13.2 < (12 : Int32) then
  (Option.bind (f_m_suitOf310 s4.2 w3.2) fun v15 =>
  (Option.bind (rd w3.2 576 (v15 + s13.2)) fun v16 =>
  (Option.bind (f_m_suitOf310 s6.2 w3.2) fun v17 =>
  (Option.bind (rd w3.2 576 (v17 + s13.2)) fun v18 =>
  (Option.bind (α := Int32)
  (if v16 = v18 then
  some (0 : Int32)
  else
  (if v16 = (6 : Int32) then
  some (0 : Int32)
  else
  (if v18 = (6 : Int32) then
  some (0 : Int32)
  else
  some (1 : Int32)
  )
  )
  )
  fun b19 =>
  some (.inl ((s13.1 + b19), (s13.2 + (1 : Int32))))
  )
  )
  )
  )
  )
  else
  some (.inr s13.1)
  )
  ) (s6.1, (0 : Int32))) fun b14 =>
  some b14
  )
  )
  )
  )
  )
  else
  some s6.1
  )
  )
  else
  some s6.1
  )
  fun b9 =>
  some (.inl (b9, (s6.2 + (1 : Int32))))
  )
  )
  else
  some (.inr s6.1)
  )
  ) (s4.1, (0 : Int32))) fun b7 =>
  some (.inl (b7, (s4.2 + (1 : Int32))))
  )
  else
  some (.inr s4.1)
  )
  ) ((0 : Int32), (0 : Int32))) fun b5 =>
  some (b5, w3.2)
  )
  else
  some ((0 : Int32), w3.2)
  )
  )
  )
  )
noncomputable def f_x_wholeOf225 (p0 : Int64) (p2 : Int64) (I : MJ) : Option (Int32) :=
  (Option.bind (α := Int32)
  (if 0 < (lg_cmp p2 (0 : Int64)) then
  (Option.bind (ldv p0 p2) fun v2 =>
  some (v2.toInt32)
  )
  else
  some (0 : Int32)
  )
  fun b1 =>
  some b1
  )
noncomputable def f_x_commonPart226 (p0 : Int64) (p2 : Int64) (I : MJ) : Option (Int64) :=
  (Option.bind (wh (β := Int64) (fun (s1 : Int64 × Int64 × Int32) =>
  (if s1.2.2 < (1000 : Int32) then
  (if (lg_cmp s1.2.1 (0 : Int64)) = 0 then
  some (.inr s1.1)
  else
  (Option.bind (lrm s1.1 s1.2.1) fun v3 =>
  some (.inl (s1.2.1, v3, (s1.2.2 + (1 : Int32))))
  )
  )
  else
  some (.inr s1.1)
  )
  ) (p0, p2, (0 : Int32))) fun b2 =>
  some b2
  )
noncomputable def f_x_meanPrice224 (p0 : Int32) (p1 : Int32) (I : MJ) : Option (Int64) :=
  (Option.bind (wh (β := Int64 × Int64) (fun (s1 : Int64 × Int64 × Int32) =>
  (if s1.2.2 < p0 then
  (Option.bind (f_x_wholeOf225 s1.1 s1.2.1 I) fun v4 =>
  (Option.bind (ldv ((v4.toInt64) * ((v4 + (1 : Int32)).toInt64)) (2 : Int64)) fun v5 =>
  (Option.bind (f_x_commonPart226 ((v5 * s1.2.1) + ((((9 : Int32) - v4).toInt64) * s1.1)) (s1.2.1 * (10 : Int64)) I) fun v6 =>
  (Option.bind (α := Int64)
  (if 0 < (lg_cmp v6 (0 : Int64)) then
  (Option.bind (ldv ((v5 * s1.2.1) + ((((9 : Int32) - v4).toInt64) * s1.1)) v6) fun v10 =>
  some v10
  )
  else
  some ((v5 * s1.2.1) + ((((9 : Int32) - v4).toInt64) * s1.1))
  )
  fun b7 =>
  (Option.bind (α := Int64)
  (if 0 < (lg_cmp v6 (0 : Int64)) then
  (Option.bind (ldv (s1.2.1 * (10 : Int64)) v6) fun v9 =>
  some v9
  )
  else
  some (s1.2.1 * (10 : Int64))
  )
  fun b8 =>
  some (.inl (b7, b8, (s1.2.2 + (1 : Int32))))
  )
  )
  )
  )
  )
  else
  some (.inr (s1.1, s1.2.1))
  )
  ) ((9 : Int64), (2 : Int64), (1 : Int32))) fun b2 =>
  (Option.bind (α := Int64)
  (if p1 = 0 then
  some b2.1
  else
  some b2.2
  )
  fun b3 =>
  some b3
  )
  )
noncomputable def f_x_offers223 (p1 : Int32) (p2 : Int32) (I : MJ) : Option ((Nat ⊕ Int64) × MJ) :=
  (tb (f_x_needWithin38 p1 (1 : Int32) (8 : Int32) I) fun _ I2 =>
  (tb (f_x_needWithin38 p2 (0 : Int32) (1 : Int32) I2) fun _ I4 =>
  (Option.bind (f_x_meanPrice224 p1 p2 I4) fun v5 =>
  some (.inr v5, I4)
  )
  )
  )
noncomputable def f_l_offers222 (p1 : Int32) (p2 : Int32) (I : MJ) (g : GG) : Option (Int32 × MJ × GG) :=
  (tryb (f_x_offers223 p1 p2 I) (fun v1 I2 =>
  (Option.bind (wrl g 698 (0 : Int32) v1) fun g3 =>
  some ((0 : Int32), I2, g3)
  )
  ) (fun E2 I2 =>
  (if E2 = 1 then
  some ((1 : Int32), I2, (thr g))
  else
  none)
  ))
noncomputable def f_m_meanOf361 (p1 : Int32) (I : MJ) : Option (Int64) :=
  (Option.bind (wh (β := Int64) (fun (s1 : Int64 × Int64 × Int32) =>
  (if p1 < s1.2.2 then
  some (.inr s1.1)
  else
  (Option.bind (wh (β := Int64) (fun (s3 : Int64 × Int32) =>
  (if s3.2 < (10 : Int32) then
  (Option.bind (α := Int64)
  (if (lg_cmp ((s3.2.toInt64) * s1.2.1) s1.1) < 0 then
  some ((s3.2.toInt64) * s1.2.1)
  else
  some s1.1
  )
  fun b5 =>
  some (.inl ((s3.1 + b5), (s3.2 + (1 : Int32))))
  )
  else
  some (.inr s3.1)
  )
  ) ((0 : Int64), (0 : Int32))) fun b4 =>
  some (.inl (b4, (s1.2.1 * (10 : Int64)), (s1.2.2 + (1 : Int32))))
  )
  )
  ) ((45 : Int64), (10 : Int64), (2 : Int32))) fun b2 =>
  some b2
  )
noncomputable def f_m_tens362 (p0 : Int32) (I : MJ) : Option (Int64) :=
  (Option.bind (wh (β := Int64) (fun (s1 : Int64 × Int32) =>
  (if s1.2 < p0 then
  some (.inl ((s1.1 * (10 : Int64)), (s1.2 + (1 : Int32))))
  else
  some (.inr s1.1)
  )
  ) ((1 : Int64), (0 : Int32))) fun b2 =>
  some b2
  )
noncomputable def f_m_offers360 (p1 : Int32) (p2 : Int32) (I : MJ) : Option (Int64 × MJ) :=
  (Option.bind (f_m_in264 p1 (1 : Int32) (8 : Int32) (ab_up1 I 47 0 (0 : Int32))) fun v1 =>
  (Option.bind (α := Int32)
  (if v1 = 0 then
  some (1 : Int32)
  else
  (Option.bind (f_m_in264 p2 (0 : Int32) (1 : Int32) (ab_up1 I 47 0 (0 : Int32))) fun v13 =>
  (if v13 = 0 then
  some (1 : Int32)
  else
  some (0 : Int32)
  )
  )
  )
  fun b2 =>
  (Option.bind (f_m_bad268 b2 (1 : Int32) (1 : Int32) (ab_up1 I 47 0 (0 : Int32))) fun w3 =>
  (if w3.1 = 0 then
  (Option.bind (f_m_meanOf361 p1 w3.2) fun v4 =>
  (Option.bind (f_m_tens362 p1 w3.2) fun v5 =>
  (Option.bind (wh (β := Int64) (fun (s6 : Int64 × Int64) =>
  (if (lg_cmp s6.2 (0 : Int64)) = 0 then
  some (.inr s6.1)
  else
  (Option.bind (lrm s6.1 s6.2) fun v12 =>
  some (.inl (s6.2, v12))
  )
  )
  ) (v4, v5)) fun b7 =>
  (Option.bind (α := Int64)
  (if p2 = 0 then
  (Option.bind (ldv v4 b7) fun v9 =>
  some v9
  )
  else
  (Option.bind (f_m_tens362 p1 w3.2) fun v10 =>
  (Option.bind (ldv v10 b7) fun v11 =>
  some v11
  )
  )
  )
  fun b8 =>
  some (b8, w3.2)
  )
  )
  )
  )
  else
  some ((0 : Int64), w3.2)
  )
  )
  )
  )
noncomputable def f_x_line228 (p1 : Int32) (I : MJ) : Option ((Nat ⊕ Int32) × MJ) :=
  (tb (f_x_needWithin38 p1 (1 : Int32) (8 : Int32) I) fun _ I2 =>
  (Option.bind (α := Int32)
  (if p1 = (1 : Int32) then
  some (9 : Int32)
  else
  (Option.bind (f_x_meanPrice224 (p1 - (1 : Int32)) (0 : Int32) I2) fun v4 =>
  (Option.bind (f_x_meanPrice224 (p1 - (1 : Int32)) (1 : Int32) I2) fun v5 =>
  (Option.bind (f_x_wholeOf225 v4 v5 I2) fun v6 =>
  some v6
  )
  )
  )
  )
  fun b3 =>
  some (.inr b3, I2)
  )
  )
noncomputable def f_l_line227 (p1 : Int32) (I : MJ) (g : GG) : Option (Int32 × MJ × GG) :=
  (tryb (f_x_line228 p1 I) (fun v1 I2 =>
  (Option.bind (wrl g 698 (0 : Int32) (v1.toInt64)) fun g3 =>
  some ((0 : Int32), I2, g3)
  )
  ) (fun E2 I2 =>
  (if E2 = 1 then
  some ((1 : Int32), I2, (thr g))
  else
  none)
  ))
noncomputable def f_m_line363 (p1 : Int32) (I : MJ) : Option (Int32 × MJ) :=
  (Option.bind (f_m_in264 p1 (1 : Int32) (8 : Int32) (ab_up1 I 47 0 (0 : Int32))) fun v1 =>
  (Option.bind (α := Int32)
  (if v1 = 0 then
  some (1 : Int32)
  else
  some (0 : Int32)
  )
  fun b2 =>
  (Option.bind (f_m_bad268 b2 (1 : Int32) (1 : Int32) (ab_up1 I 47 0 (0 : Int32))) fun w3 =>
  (if w3.1 = 0 then
  (Option.bind (α := Int32)
  (if p1 = (1 : Int32) then
  some (9 : Int32)
  else
  (Option.bind (f_m_meanOf361 (p1 - (1 : Int32)) w3.2) fun v5 =>
  (Option.bind (f_m_tens362 (p1 - (1 : Int32)) w3.2) fun v6 =>
  (Option.bind (ldv v5 v6) fun v7 =>
  some (v7.toInt32)
  )
  )
  )
  )
  fun b4 =>
  some (b4, w3.2)
  )
  else
  some ((0 : Int32), w3.2)
  )
  )
  )
  )
noncomputable def f_boo_kindLater28 (p1 : Int32) (p2 : Int32) (p3 : Int32) (I : MJ) : Option (Int32) :=
  (Option.bind (f_x_at16 20 (((12 : Int32) * p1) + (((p2 + (12 : Int32)) - p3) - ((p2 + (12 : Int32)) - p3) / (12 : Int32) * (12 : Int32))) I) fun v1 =>
  some v1
  )
noncomputable def f_boo_isSo27 (p2 : Int32) (p3 : Int32) (I : MJ) : Option (Int32) :=
  (wh (fun (s1 : Int32) =>
  (if s1 < (12 : Int32) then
  (Option.bind (f_x_at16 36 s1 I) fun v2 =>
  (if v2 = (-1 : Int32) then
  some (.inl (s1 + (1 : Int32)))
  else
  (Option.bind (f_boo_kindLater28 p2 s1 p3 I) fun v3 =>
  (if v2 = v3 then
  some (.inl (s1 + (1 : Int32)))
  else
  some (.inr (0 : Int32))
  )
  )
  )
  )
  else
  some (.inr (1 : Int32))
  )
  ) (0 : Int32))
noncomputable def f_boo_skiesOf24 (p2 : Int32) (I : MJ) : Option (Int32) :=
  (Option.bind (wh (β := Int32) (fun (s1 : Int32 × Int32) =>
  (if s1.2 < (12 : Int32) then
  (Option.bind (f_pat_isTold25 p2 I) fun v3 =>
  (if v3 = 0 then
  some (.inr s1.1)
  else
  (Option.bind (f_boo_isSo27 p2 s1.2 I) fun v4 =>
  (Option.bind (α := Int32)
  (if v4 = 0 then
  some (0 : Int32)
  else
  some ((1 : Int32) <<< (s1.2 &&& 31))
  )
  fun b5 =>
  some (.inl ((s1.1 ||| b5), (s1.2 + (1 : Int32))))
  )
  )
  )
  )
  else
  some (.inr s1.1)
  )
  ) ((0 : Int32), (0 : Int32))) fun b2 =>
  some b2
  )
noncomputable def f_x_skies230 (p1 : Int32) (I : MJ) : Option ((Nat ⊕ Int32) × MJ) :=
  (tb (f_x_needPattern68 p1 I) fun _ I2 =>
  (Option.bind (f_boo_skiesOf24 p1 I2) fun v3 =>
  some (.inr v3, I2)
  )
  )
noncomputable def f_l_skies229 (p1 : Int32) (I : MJ) (g : GG) : Option (Int32 × MJ × GG) :=
  (tryb (f_x_skies230 p1 I) (fun v1 I2 =>
  (Option.bind (wrl g 698 (0 : Int32) (v1.toInt64)) fun g3 =>
  some ((0 : Int32), I2, g3)
  )
  ) (fun E2 I2 =>
  (if E2 = 0 then
  some ((1 : Int32), I2, (thr g))
  else
  none)
  ))
noncomputable def f_m_skyAt366 (p1 : Int32) (p2 : Int32) (p3 : Int32) (I : MJ) : Option (Int32) :=
  (Option.bind (rdp 128 p1) fun r1 =>
  (Option.bind (rd I r1 (((p3 - p2) + (12 : Int32)) - ((p3 - p2) + (12 : Int32)) / (12 : Int32) * (12 : Int32))) fun v2 =>
  some v2
  )
  )
noncomputable def f_m_skiesOf365 (p1 : Int32) (I : MJ) : Option (Int32) :=
  (Option.bind (wh (β := Int32) (fun (s1 : Int32 × Int32) =>
  (if s1.2 < (12 : Int32) then
  (Option.bind (rdb I 135 p1) fun v3 =>
  (if v3 = 0 then
  some (.inr s1.1)
  else
  (Option.bind (wh (β := Int32) (fun (s4 : Int32 × Int32) =>
  (if s4.2 < (I 47 39) then
  (Option.bind (α := Int32)
  (if s4.1 = 0 then
  some (0 : Int32)
  else
  (Option.bind (rdp 467 s4.2) fun r8 =>
  (Option.bind (rd I r8 (0 : Int32)) fun v9 =>
  (Option.bind (f_m_skyAt366 p1 s1.2 v9 I) fun v10 =>
  (Option.bind (rdp 467 s4.2) fun r11 =>
  (Option.bind (rd I r11 (1 : Int32)) fun v12 =>
  (if v10 = v12 then
  some (1 : Int32)
  else
  some (0 : Int32)
  )
  )
  )
  )
  )
  )
  )
  fun b7 =>
  some (.inl (b7, (s4.2 + (1 : Int32))))
  )
  else
  some (.inr s4.1)
  )
  ) ((1 : Int32), (0 : Int32))) fun b5 =>
  (Option.bind (α := Int32)
  (if b5 = 0 then
  some (0 : Int32)
  else
  some ((1 : Int32) <<< (s1.2 &&& 31))
  )
  fun b6 =>
  some (.inl ((s1.1 ||| b6), (s1.2 + (1 : Int32))))
  )
  )
  )
  )
  else
  some (.inr s1.1)
  )
  ) ((0 : Int32), (0 : Int32))) fun b2 =>
  some b2
  )
noncomputable def f_m_skies364 (p1 : Int32) (I : MJ) : Option (Int32 × MJ) :=
  (Option.bind (f_m_isPattern288 p1 (ab_up1 I 47 0 (0 : Int32))) fun v1 =>
  (Option.bind (α := Int32)
  (if v1 = 0 then
  some (1 : Int32)
  else
  some (0 : Int32)
  )
  fun b2 =>
  (Option.bind (f_m_bad268 b2 (1 : Int32) (0 : Int32) (ab_up1 I 47 0 (0 : Int32))) fun w3 =>
  (if w3.1 = 0 then
  (Option.bind (f_m_skiesOf365 p1 w3.2) fun v4 =>
  some (v4, w3.2)
  )
  else
  some ((0 : Int32), w3.2)
  )
  )
  )
  )
noncomputable def f_x_which23  (I : MJ) : Option (Int32) :=
  (Option.bind (wh (β := Int32) (fun (s1 : Int32 × Int32) =>
  (if s1.2 < (6 : Int32) then
  (Option.bind (f_boo_skiesOf24 s1.2 I) fun v3 =>
  (Option.bind (α := Int32)
  (if v3 = 0 then
  some (0 : Int32)
  else
  some ((1 : Int32) <<< (s1.2 &&& 31))
  )
  fun b4 =>
  some (.inl ((s1.1 ||| b4), (s1.2 + (1 : Int32))))
  )
  )
  else
  some (.inr s1.1)
  )
  ) ((0 : Int32), (0 : Int32))) fun b2 =>
  some b2
  )
noncomputable def f_m_which367  (I : MJ) : Option (Int32 × MJ) :=
  (Option.bind (wh (β := Int32) (fun (s1 : Int32 × Int32) =>
  (if s1.2 < (6 : Int32) then
  (Option.bind (f_m_skiesOf365 s1.2 (ab_up1 I 47 0 (0 : Int32))) fun v3 =>
  (Option.bind (α := Int32)
  (if v3 = 0 then
  some (0 : Int32)
  else
  some ((1 : Int32) <<< (s1.2 &&& 31))
  )
  fun b4 =>
  some (.inl ((s1.1 ||| b4), (s1.2 + (1 : Int32))))
  )
  )
  else
  some (.inr s1.1)
  )
  ) ((0 : Int32), (0 : Int32))) fun b2 =>
  some (b2, (ab_up1 I 47 0 (0 : Int32)))
  )
noncomputable def f_boo_countSky235 (p2 : Int32) (p3 : Int32) (I : MJ) : Option (MJ) :=
  (Option.bind (wh (β := MJ) (fun (s1 : Int32 × MJ) =>
  (if s1.1 < (12 : Int32) then
  (Option.bind (f_boo_kindLater28 p2 s1.1 p3 s1.2) fun v3 =>
  (Option.bind (f_x_at16 38 (((6 : Int32) * s1.1) + v3) s1.2) fun v4 =>
  (Option.bind (f_x_put15 38 (((6 : Int32) * s1.1) + v3) (v4 + (1 : Int32)) s1.2) fun I5 =>
  some (.inl ((s1.1 + (1 : Int32)), I5))
  )
  )
  )
  else
  some (.inr s1.2)
  )
  ) ((0 : Int32), I)) fun b2 =>
  some b2
  )
noncomputable def f_boo_countChances234  (I : MJ) : Option (MJ) :=
  (Option.bind (f_x_fill10 38 (0 : Int32) I) fun I1 =>
  (Option.bind (wh (β := MJ) (fun (s2 : Int32 × MJ) =>
  (if s2.1 < (6 : Int32) then
  (Option.bind (f_boo_skiesOf24 s2.1 s2.2) fun v4 =>
  (Option.bind (wh (β := MJ) (fun (s5 : Int32 × MJ) =>
  (if s5.1 < (12 : Int32) then
  (Option.bind (f_x_holds26 v4 s5.1 s5.2) fun v7 =>
  (Option.bind (α := MJ)
  (if v7 = 0 then
  some s5.2
  else
  (Option.bind (f_boo_countSky235 s2.1 s5.1 s5.2) fun I9 =>
  some I9
  )
  )
  fun b8 =>
  some (.inl ((s5.1 + (1 : Int32)), b8))
  )
  )
  else
  some (.inr s5.2)
  )
  ) ((0 : Int32), s2.2)) fun b6 =>
  some (.inl ((s2.1 + (1 : Int32)), b6))
  )
  )
  else
  some (.inr s2.2)
  )
  ) ((0 : Int32), I1)) fun b3 =>
  some b3
  )
  )
noncomputable def f_boo_leftAtWorst236 (p1 : Int32) (I : MJ) : Option (Int32) :=
  (Option.bind (wh (β := Int32) (fun (s1 : Int32 × Int32) =>
  (if s1.2 < (6 : Int32) then
  (Option.bind (f_x_at16 38 (((6 : Int32) * p1) + s1.2) I) fun v3 =>
  some (.inl ((if s1.1 < v3 then v3 else s1.1), (s1.2 + (1 : Int32))))
  )
  else
  some (.inr s1.1)
  )
  ) ((0 : Int32), (0 : Int32))) fun b2 =>
  some b2
  )
noncomputable def f_boo_hourToLookAt233  (I : MJ) : Option (Int32 × MJ) :=
  (Option.bind (f_boo_countChances234 I) fun I1 =>
  (Option.bind (wh (β := Int32) (fun (s2 : Int32 × Int32) =>
  (if s2.2 < (12 : Int32) then
  (Option.bind (f_x_at16 36 s2.2 I1) fun v4 =>
  (Option.bind (α := Int32)
  (if v4 = (-1 : Int32) then
  some (1 : Int32)
  else
  some (0 : Int32)
  )
  fun b5 =>
  (Option.bind (α := Int32)
  (if b5 = 0 then
  some s2.1
  else
  (if s2.1 = (-1 : Int32) then
  some s2.2
  else
  (Option.bind (f_boo_leftAtWorst236 s2.2 I1) fun v7 =>
  (Option.bind (f_boo_leftAtWorst236 s2.1 I1) fun v8 =>
  (if v7 < v8 then
  some s2.2
  else
  some s2.1
  )
  )
  )
  )
  )
  fun b6 =>
  some (.inl (b6, (s2.2 + (1 : Int32))))
  )
  )
  )
  else
  some (.inr s2.1)
  )
  ) ((-1 : Int32), (0 : Int32))) fun b3 =>
  some (b3, I1)
  )
  )
noncomputable def f_x_look232 (p1 : Int32) (I : MJ) : Option ((Nat ⊕ Int32) × MJ) :=
  (tb (f_x_needWithin38 p1 (0 : Int32) (1 : Int32) I) fun _ I2 =>
  (Option.bind (f_boo_hourToLookAt233 I2) fun w3 =>
  (Option.bind (α := Int32)
  (if p1 = 0 then
  some w3.1
  else
  (if w3.1 = (-1 : Int32) then
  some w3.1
  else
  (Option.bind (f_boo_leftAtWorst236 w3.1 w3.2) fun v5 =>
  some v5
  )
  )
  )
  fun b4 =>
  some (.inr b4, w3.2)
  )
  )
  )
noncomputable def f_l_look231 (p1 : Int32) (I : MJ) (g : GG) : Option (Int32 × MJ × GG) :=
  (tryb (f_x_look232 p1 I) (fun v1 I2 =>
  (Option.bind (wrl g 698 (0 : Int32) (v1.toInt64)) fun g3 =>
  some ((0 : Int32), I2, g3)
  )
  ) (fun E2 I2 =>
  (if E2 = 1 then
  some ((1 : Int32), I2, (thr g))
  else
  none)
  ))
noncomputable def f_m_isInBook369 (p1 : Int32) (I : MJ) : Option (Int32) :=
  (wh (fun (s1 : Int32) =>
  (if s1 < (I 47 39) then
  (Option.bind (rdp 467 s1) fun r2 =>
  (Option.bind (rd I r2 (0 : Int32)) fun v3 =>
  (if v3 = p1 then
  some (.inr (1 : Int32))
  else
  some (.inl (s1 + (1 : Int32)))
  )
  )
  )
  else
  some (.inr (0 : Int32))
  )
  ) (0 : Int32))
noncomputable def f_m_worstAt370 (p1 : Int32) (I : MJ) : Option (Int32 × MJ) :=
  (Option.bind (wh (β := MJ) (fun (s1 : Int32 × MJ) =>
  (if s1.1 < (6 : Int32) then
  (Option.bind (wr s1.2 697 s1.1 (0 : Int32)) fun I17 =>
  some (.inl ((s1.1 + (1 : Int32)), I17))
  )
  else
  some (.inr s1.2)
  )
  ) ((0 : Int32), I)) fun b2 =>
  (Option.bind (wh (β := MJ) (fun (s3 : Int32 × MJ) =>
  (if s3.1 < (6 : Int32) then
  (Option.bind (wh (β := MJ) (fun (s9 : Int32 × MJ) =>
  (if s9.1 < (12 : Int32) then
  (Option.bind (f_m_skiesOf365 s3.1 s9.2) fun v11 =>
  (Option.bind (f_m_has313 v11 s9.1 s9.2) fun v12 =>
  (Option.bind (α := MJ)
  (if v12 = 0 then
  some s9.2
  else
  (Option.bind (f_m_skyAt366 s3.1 s9.1 p1 s9.2) fun v14 =>
  (Option.bind (rd s9.2 697 v14) fun v15 =>
  (Option.bind (wr s9.2 697 v14 (v15 + (1 : Int32))) fun I16 =>
  some I16
  )
  )
  )
  )
  fun b13 =>
  some (.inl ((s9.1 + (1 : Int32)), b13))
  )
  )
  )
  else
  some (.inr s9.2)
  )
  ) ((0 : Int32), s3.2)) fun b10 =>
  some (.inl ((s3.1 + (1 : Int32)), b10))
  )
  else
  some (.inr s3.2)
  )
  ) ((0 : Int32), b2)) fun b4 =>
  (Option.bind (wh (β := Int32) (fun (s5 : Int32 × Int32) =>
  (if s5.2 < (6 : Int32) then
  (Option.bind (rd b4 697 s5.2) fun v7 =>
  (Option.bind (f_m_more320 s5.1 v7 b4) fun v8 =>
  some (.inl (v8, (s5.2 + (1 : Int32))))
  )
  )
  else
  some (.inr s5.1)
  )
  ) ((0 : Int32), (0 : Int32))) fun b6 =>
  some (b6, b4)
  )
  )
  )
noncomputable def f_m_look368 (p1 : Int32) (I : MJ) : Option (Int32 × MJ) :=
  (Option.bind (f_m_in264 p1 (0 : Int32) (1 : Int32) (ab_up1 I 47 0 (0 : Int32))) fun v1 =>
  (Option.bind (α := Int32)
  (if v1 = 0 then
  some (1 : Int32)
  else
  some (0 : Int32)
  )
  fun b2 =>
  (Option.bind (f_m_bad268 b2 (1 : Int32) (1 : Int32) (ab_up1 I 47 0 (0 : Int32))) fun w3 =>
  (if w3.1 = 0 then
  (Option.bind (wh (β := Int32 × Int32 × MJ) (fun (s4 : Int32 × Int32 × Int32 × MJ) =>
  (if s4.2.2.1 < (12 : Int32) then
  (Option.bind (f_m_isInBook369 s4.2.2.1 s4.2.2.2) fun v7 =>
  (Option.bind (α := Int32 × Int32 × MJ)
  (if v7 = 0 then
  (Option.bind (f_m_worstAt370 s4.2.2.1 s4.2.2.2) fun w9 =>
  (if s4.1 = (-1 : Int32) then
  some (s4.2.2.1, w9.1, w9.2)
  else
  (if w9.1 < s4.2.1 then
  some (s4.2.2.1, w9.1, w9.2)
  else
  some (s4.1, s4.2.1, w9.2)
  )
  )
  )
  else
  some (s4.1, s4.2.1, s4.2.2.2)
  )
  fun b8 =>
  some (.inl (b8.1, b8.2.1, (s4.2.2.1 + (1 : Int32)), b8.2.2))
  )
  )
  else
  some (.inr (s4.1, s4.2.1, s4.2.2.2))
  )
  ) ((-1 : Int32), (-1 : Int32), (0 : Int32), w3.2)) fun b5 =>
  (Option.bind (α := Int32)
  (if p1 = 0 then
  some b5.1
  else
  some b5.2.1
  )
  fun b6 =>
  some (b6, b5.2.2)
  )
  )
  else
  some ((0 : Int32), w3.2)
  )
  )
  )
  )
noncomputable def f_fit_compare239  (I : MJ) : Option (MJ) :=
  (Option.bind (wh (β := MJ) (fun (s1 : Int32 × MJ) =>
  (if s1.1 < (s1.2 3 6) then
  (Option.bind (wh (β := MJ) (fun (s3 : Int32 × MJ) =>
  (if s3.1 < (6 : Int32) then
  (Option.bind (f_pat_isTold25 s3.1 s3.2) fun v5 =>
  (Option.bind (α := MJ)
  (if v5 = 0 then
  some s3.2
  else
  (Option.bind (f_sho_fitOf177 s1.1 20 ((12 : Int32) * s3.1) s3.2) fun v7 =>
  (Option.bind (f_x_put15 42 (((6 : Int32) * s1.1) + s3.1) v7 s3.2) fun I8 =>
  some I8
  )
  )
  )
  fun b6 =>
  some (.inl ((s3.1 + (1 : Int32)), b6))
  )
  )
  else
  some (.inr s3.2)
  )
  ) ((0 : Int32), s1.2)) fun b4 =>
  some (.inl ((s1.1 + (1 : Int32)), b4))
  )
  else
  some (.inr s1.2)
  )
  ) ((0 : Int32), I)) fun b2 =>
  some b2
  )
noncomputable def f_fit_share243 (p1 : Int32) (p2 : Int32) (I : MJ) : Option (Int32) :=
  (Option.bind (wh (β := Int32) (fun (s1 : Int32 × Int32) =>
  (if s1.2 < (I 3 6) then
  (Option.bind (f_x_at16 42 (((6 : Int32) * s1.2) + p1) I) fun v3 =>
  (Option.bind (f_x_at16 42 (((6 : Int32) * s1.2) + p2) I) fun v4 =>
  (Option.bind (α := Int32)
  (if v4 < v3 then
  some (2 : Int32)
  else
  (if v3 = v4 then
  some (1 : Int32)
  else
  some (0 : Int32)
  )
  )
  fun b5 =>
  some (.inl ((s1.1 + b5), (s1.2 + (1 : Int32))))
  )
  )
  )
  else
  some (.inr s1.1)
  )
  ) ((0 : Int32), (0 : Int32))) fun b2 =>
  some b2
  )
noncomputable def f_fit_isBestAgainst242 (p1 : Int32) (p2 : Int32) (I : MJ) : Option (Int32) :=
  (wh (fun (s1 : Int32) =>
  (if s1 < (6 : Int32) then
  (Option.bind (f_pat_isTold25 s1 I) fun v2 =>
  (if v2 = 0 then
  some (.inl (s1 + (1 : Int32)))
  else
  (Option.bind (f_fit_share243 s1 p2 I) fun v3 =>
  (Option.bind (f_fit_share243 p1 p2 I) fun v4 =>
  (if v4 < v3 then
  some (.inr (0 : Int32))
  else
  some (.inl (s1 + (1 : Int32)))
  )
  )
  )
  )
  )
  else
  some (.inr (1 : Int32))
  )
  ) (0 : Int32))
noncomputable def f_fit_rest241 (p1 : Int32) (p2 : Int32) (I : MJ) : Option (Int32) :=
  (Option.bind (f_pat_isTold25 p1 I) fun v1 =>
  (Option.bind (α := Int32)
  (if v1 = 0 then
  some (0 : Int32)
  else
  (Option.bind (f_pat_isTold25 p2 I) fun v3 =>
  (if v3 = 0 then
  some (0 : Int32)
  else
  (Option.bind (f_fit_isBestAgainst242 p1 p2 I) fun v4 =>
  (if v4 = 0 then
  some (0 : Int32)
  else
  (Option.bind (f_fit_isBestAgainst242 p2 p1 I) fun v5 =>
  (if v5 = 0 then
  some (0 : Int32)
  else
  some (1 : Int32)
  )
  )
  )
  )
  )
  )
  )
  fun b2 =>
  some (vp_nar .boolean b2)
  )
  )
noncomputable def f_fit_rests240  (I : MJ) : Option (Int32) :=
  (Option.bind (wh (β := Int32) (fun (s1 : Int32 × Int32) =>
  (if s1.2 < (6 : Int32) then
  (Option.bind (wh (β := Int32) (fun (s3 : Int32 × Int32) =>
  (if s3.2 < (6 : Int32) then
  (Option.bind (f_fit_rest241 s1.2 s3.2 I) fun v5 =>
  (Option.bind (α := Int32)
  (if v5 = 0 then
  some (0 : Int32)
  else
  some (1 : Int32)
  )
  fun b6 =>
  some (.inl ((s3.1 + b6), (s3.2 + (1 : Int32))))
  )
  )
  else
  some (.inr s3.1)
  )
  ) (s1.1, (0 : Int32))) fun b4 =>
  some (.inl (b4, (s1.2 + (1 : Int32))))
  )
  else
  some (.inr s1.1)
  )
  ) ((0 : Int32), (0 : Int32))) fun b2 =>
  some b2
  )
noncomputable def f_fit_firstRest244  (I : MJ) : Option (Int32) :=
  (wh (fun (s1 : Int32) =>
  (if s1 < (6 : Int32) then
  (wh (fun (s2 : Int32) =>
  (if s2 < (6 : Int32) then
  (Option.bind (f_fit_rest241 s1 s2 I) fun v3 =>
  (if v3 = 0 then
  some (.inl (s2 + (1 : Int32)))
  else
  some (.inr (.inr (((10 : Int32) * s1) + s2)))
  )
  )
  else
  some (.inr (.inl (s1 + (1 : Int32))))
  )
  ) (0 : Int32))
  else
  some (.inr (-1 : Int32))
  )
  ) (0 : Int32))
noncomputable def f_x_tailors238 (p1 : Int32) (I : MJ) : Option ((Nat ⊕ Int32) × MJ) :=
  (tb (f_x_needWithin38 p1 (0 : Int32) (2 : Int32) I) fun _ I2 =>
  (Option.bind (f_fit_compare239 I2) fun I3 =>
  (if p1 = 0 then
  (Option.bind (f_fit_rests240 I3) fun v4 =>
  some (.inr v4, I3)
  )
  else
  (Option.bind (f_fit_firstRest244 I3) fun v5 =>
  (if p1 = (1 : Int32) then
  some (.inr v5, I3)
  else
  (Option.bind (α := Int32)
  (if v5 = (-1 : Int32) then
  some (0 : Int32)
  else
  (Option.bind (f_fit_share243 (v5 / (10 : Int32)) (v5 - v5 / (10 : Int32) * (10 : Int32)) I3) fun v7 =>
  some v7
  )
  )
  fun b6 =>
  some (.inr b6, I3)
  )
  )
  )
  )
  )
  )
noncomputable def f_l_tailors237 (p1 : Int32) (I : MJ) (g : GG) : Option (Int32 × MJ × GG) :=
  (tryb (f_x_tailors238 p1 I) (fun v1 I2 =>
  (Option.bind (wrl g 698 (0 : Int32) (v1.toInt64)) fun g3 =>
  some ((0 : Int32), I2, g3)
  )
  ) (fun E2 I2 =>
  (if E2 = 1 then
  some ((1 : Int32), I2, (thr g))
  else
  none)
  ))
noncomputable def f_m_getsOf373 (p1 : Int32) (p2 : Int32) (I : MJ) : Option (Int32) :=
  (Option.bind (wh (β := Int32) (fun (s1 : Int32 × Int32) =>
  (if s1.2 < (I 51 1) then
  (Option.bind (rdp 128 p1) fun r3 =>
  (Option.bind (f_m_fitOf342 r3 (0 : Int32) s1.2 I) fun v4 =>
  (Option.bind (rdp 128 p2) fun r5 =>
  (Option.bind (f_m_fitOf342 r5 (0 : Int32) s1.2 I) fun v6 =>
  (Option.bind (α := Int32)
  (if v6 < v4 then
  some (2 : Int32)
  else
  (if v4 = v6 then
  some (1 : Int32)
  else
  some (0 : Int32)
  )
  )
  fun b7 =>
  some (.inl ((s1.1 + b7), (s1.2 + (1 : Int32))))
  )
  )
  )
  )
  )
  else
  some (.inr s1.1)
  )
  ) ((0 : Int32), (0 : Int32))) fun b2 =>
  some b2
  )
noncomputable def f_m_isBest372 (p1 : Int32) (p2 : Int32) (I : MJ) : Option (Int32) :=
  (wh (fun (s1 : Int32) =>
  (if s1 < (6 : Int32) then
  (Option.bind (rdb I 135 s1) fun v2 =>
  (if v2 = 0 then
  some (.inl (s1 + (1 : Int32)))
  else
  (Option.bind (f_m_getsOf373 s1 p2 I) fun v3 =>
  (Option.bind (f_m_getsOf373 p1 p2 I) fun v4 =>
  (if v4 < v3 then
  some (.inr (0 : Int32))
  else
  some (.inl (s1 + (1 : Int32)))
  )
  )
  )
  )
  )
  else
  some (.inr (1 : Int32))
  )
  ) (0 : Int32))
noncomputable def f_m_tailors371 (p1 : Int32) (I : MJ) : Option (Int32 × MJ) :=
  (Option.bind (f_m_in264 p1 (0 : Int32) (2 : Int32) (ab_up1 I 47 0 (0 : Int32))) fun v1 =>
  (Option.bind (α := Int32)
  (if v1 = 0 then
  some (1 : Int32)
  else
  some (0 : Int32)
  )
  fun b2 =>
  (Option.bind (f_m_bad268 b2 (1 : Int32) (1 : Int32) (ab_up1 I 47 0 (0 : Int32))) fun w3 =>
  (if w3.1 = 0 then
  (Option.bind (wh (β := Int32 × Int32) (fun (s4 : Int32 × Int32 × Int32) =>
  (if s4.2.2 < (6 : Int32) then
  (Option.bind (wh (β := Int32 × Int32) (fun (s8 : Int32 × Int32 × Int32) =>
  (if s8.2.2 < (6 : Int32) then
  (Option.bind (rdb w3.2 135 s4.2.2) fun v10 =>
  (Option.bind (α := Int32 × Int32)
  (if v10 = 0 then
  some (s8.1, s8.2.1)
  else
  (Option.bind (rdb w3.2 135 s8.2.2) fun v12 =>
  (if v12 = 0 then
  some (s8.1, s8.2.1)
  else
  (Option.bind (f_m_isBest372 s4.2.2 s8.2.2 w3.2) fun v13 =>
  (if v13 = 0 then
  some (s8.1, s8.2.1)
  else
  (Option.bind (f_m_isBest372 s8.2.2 s4.2.2 w3.2) fun v14 =>
  (if v14 = 0 then
  some (s8.1, s8.2.1)
  else
  (Option.bind (α := Int32)
  (if s8.1 = 0 then
  some (((10 : Int32) * s4.2.2) + s8.2.2)
  else
  some s8.2.1
  )
  fun b15 =>
  some ((s8.1 + (1 : Int32)), b15)
  )
  )
  )
  )
  )
  )
  )
  )
  fun b11 =>
  some (.inl (b11.1, b11.2, (s8.2.2 + (1 : Int32))))
  )
  )
  else
  some (.inr (s8.1, s8.2.1))
  )
  ) (s4.1, s4.2.1, (0 : Int32))) fun b9 =>
  some (.inl (b9.1, b9.2, (s4.2.2 + (1 : Int32))))
  )
  else
  some (.inr (s4.1, s4.2.1))
  )
  ) ((0 : Int32), (-1 : Int32), (0 : Int32))) fun b5 =>
  (Option.bind (α := Int32)
  (if p1 = 0 then
  some b5.1
  else
  (if p1 = (1 : Int32) then
  some b5.2
  else
  (if b5.2 = (-1 : Int32) then
  some (0 : Int32)
  else
  (Option.bind (f_m_getsOf373 (b5.2 / (10 : Int32)) (b5.2 - b5.2 / (10 : Int32) * (10 : Int32)) w3.2) fun v7 =>
  some v7
  )
  )
  )
  )
  fun b6 =>
  some (b6, w3.2)
  )
  )
  else
  some ((0 : Int32), w3.2)
  )
  )
  )
  )
noncomputable def f_x_gets246 (p1 : Int32) (p2 : Int32) (I : MJ) : Option ((Nat ⊕ Int32) × MJ) :=
  (tb (f_x_needPattern68 p1 I) fun _ I2 =>
  (tb (f_x_needPattern68 p2 I2) fun _ I4 =>
  (tb (f_x_needTold180 p1 I4) fun _ I6 =>
  (tb (f_x_needTold180 p2 I6) fun _ I8 =>
  (Option.bind (f_fit_compare239 I8) fun I9 =>
  (Option.bind (f_fit_share243 p1 p2 I9) fun v10 =>
  some (.inr v10, I9)
  )
  )
  )
  )
  )
  )
noncomputable def f_l_gets245 (p1 : Int32) (p2 : Int32) (I : MJ) (g : GG) : Option (Int32 × MJ × GG) :=
  (tryb (f_x_gets246 p1 p2 I) (fun v1 I2 =>
  (Option.bind (wrl g 698 (0 : Int32) (v1.toInt64)) fun g3 =>
  some ((0 : Int32), I2, g3)
  )
  ) (fun E2 I2 =>
  (if E2 = 0 then
  some ((1 : Int32), I2, (thr g))
  else
  (if E2 = 2 then
  some ((2 : Int32), I2, (thr g))
  else
  none))
  ))
noncomputable def f_m_gets374 (p1 : Int32) (p2 : Int32) (I : MJ) : Option (Int32 × MJ) :=
  (Option.bind (f_m_isPattern288 p1 (ab_up1 I 47 0 (0 : Int32))) fun v1 =>
  (Option.bind (α := Int32)
  (if v1 = 0 then
  some (1 : Int32)
  else
  (Option.bind (f_m_isPattern288 p2 (ab_up1 I 47 0 (0 : Int32))) fun v9 =>
  (if v9 = 0 then
  some (1 : Int32)
  else
  some (0 : Int32)
  )
  )
  )
  fun b2 =>
  (Option.bind (f_m_bad268 b2 (1 : Int32) (0 : Int32) (ab_up1 I 47 0 (0 : Int32))) fun w3 =>
  (if w3.1 = 0 then
  (Option.bind (rdb w3.2 135 p1) fun v4 =>
  (Option.bind (α := Int32)
  (if v4 = 0 then
  some (1 : Int32)
  else
  (Option.bind (rdb w3.2 135 p2) fun v8 =>
  (if v8 = 0 then
  some (1 : Int32)
  else
  some (0 : Int32)
  )
  )
  )
  fun b5 =>
  (Option.bind (f_m_bad268 b5 (2 : Int32) (2 : Int32) w3.2) fun w6 =>
  (if w6.1 = 0 then
  (Option.bind (f_m_getsOf373 p1 p2 w6.2) fun v7 =>
  some (v7, w6.2)
  )
  else
  some ((0 : Int32), w6.2)
  )
  )
  )
  )
  else
  some ((0 : Int32), w3.2)
  )
  )
  )
  )
noncomputable def f_tra_passDays249 (p2 : Int32) (I : MJ) : Option (MJ) :=
  (Option.bind (wh (β := MJ) (fun (s1 : Int32 × MJ) =>
  (if s1.1 < p2 then
  (Option.bind (f_sta_day113 17 s1.2) fun v3 =>
  (if v3 < (60 : Int32) then
  (Option.bind (f_tra_passDay129 17 s1.2) fun w4 =>
  some (.inl ((s1.1 + (1 : Int32)), w4.2))
  )
  else
  some (.inr s1.2)
  )
  )
  else
  some (.inr s1.2)
  )
  ) ((0 : Int32), I)) fun b2 =>
  some b2
  )
noncomputable def f_x_ahead248 (p1 : Int32) (p2 : Int32) (p3 : Int32) (I : MJ) : Option ((Nat ⊕ Int32) × MJ) :=
  (tb (f_x_needElement69 p1 (I 3 6) I) fun _ I2 =>
  (tb (f_x_needWithin38 p2 (0 : Int32) (60 : Int32) I2) fun _ I4 =>
  (tb (f_x_needWithin38 p3 (0 : Int32) (1 : Int32) I4) fun _ I6 =>
  (Option.bind (f_sta_hasSuit108 15 p1 I6) fun v7 =>
  (if v7 = 0 then
  some (.inr (0 : Int32), I6)
  else
  (Option.bind (f_sta_copyFrom107 17 15 I6) fun I8 =>
  (Option.bind (f_tra_passDays249 p2 I8) fun I9 =>
  (Option.bind (α := Int32)
  (if p3 = 0 then
  (Option.bind (f_sta_bareHours154 17 p1 I9) fun v11 =>
  some v11
  )
  else
  (Option.bind (f_x_fitOfSuit176 17 p1 I9) fun v12 =>
  some v12
  )
  )
  fun b10 =>
  some (.inr b10, I9)
  )
  )
  )
  )
  )
  )
  )
  )
noncomputable def f_l_ahead247 (p1 : Int32) (p2 : Int32) (p3 : Int32) (I : MJ) (g : GG) : Option (Int32 × MJ × GG) :=
  (tryb (f_x_ahead248 p1 p2 p3 I) (fun v1 I2 =>
  (Option.bind (wrl g 698 (0 : Int32) (v1.toInt64)) fun g3 =>
  some ((0 : Int32), I2, g3)
  )
  ) (fun E2 I2 =>
  (if E2 = 0 then
  some ((1 : Int32), I2, (thr g))
  else
  (if E2 = 1 then
  some ((2 : Int32), I2, (thr g))
  else
  none))
  ))
noncomputable def f_m_ahead375 (p1 : Int32) (p2 : Int32) (p3 : Int32) (I : MJ) : Option (Int32 × MJ) :=
  (Option.bind (f_m_isClient328 p1 (ab_up1 I 47 0 (0 : Int32))) fun v1 =>
  (Option.bind (α := Int32)
  (if v1 = 0 then
  some (1 : Int32)
  else
  some (0 : Int32)
  )
  fun b2 =>
  (Option.bind (f_m_bad268 b2 (1 : Int32) (0 : Int32) (ab_up1 I 47 0 (0 : Int32))) fun w3 =>
  (if w3.1 = 0 then
  (Option.bind (f_m_in264 p2 (0 : Int32) (60 : Int32) w3.2) fun v4 =>
  (Option.bind (α := Int32)
  (if v4 = 0 then
  some (1 : Int32)
  else
  (Option.bind (f_m_in264 p3 (0 : Int32) (1 : Int32) w3.2) fun v16 =>
  (if v16 = 0 then
  some (1 : Int32)
  else
  some (0 : Int32)
  )
  )
  )
  fun b5 =>
  (Option.bind (f_m_bad268 b5 (2 : Int32) (1 : Int32) w3.2) fun w6 =>
  (if w6.1 = 0 then
  (Option.bind (f_m_copies302 576 577 w6.2) fun I7 =>
  (Option.bind (wh (β := MJ) (fun (s8 : Int32 × MJ) =>
  (if s8.1 < p2 then
  (Option.bind (f_m_dayEnds314 577 s8.2) fun w15 =>
  some (.inl ((s8.1 + (1 : Int32)), w15.2))
  )
  else
  some (.inr s8.2)
  )
  ) ((0 : Int32), I7)) fun b9 =>
  (Option.bind (f_m_hasSuit305 577 p1 b9) fun v10 =>
  (if v10 = 0 then
  some ((0 : Int32), b9)
  else
  (Option.bind (α := Int32)
  (if p3 = 0 then
  (Option.bind (f_m_bareOf330 577 p1 b9) fun v12 =>
  some v12
  )
  else
  (Option.bind (f_m_suitOf310 p1 b9) fun v13 =>
  (Option.bind (f_m_fitOf342 577 v13 p1 b9) fun v14 =>
  some v14
  )
  )
  )
  fun b11 =>
  some (b11, b9)
  )
  )
  )
  )
  )
  else
  some ((0 : Int32), w6.2)
  )
  )
  )
  )
  else
  some ((0 : Int32), w3.2)
  )
  )
  )
  )
noncomputable def f_x_needYears252 (p1 : Int32) (p2 : Int32) (p3 : Int32) (I : MJ) : Option ((Nat ⊕ Unit) × MJ) :=
  (tb (f_x_needWithin38 p1 (0 : Int32) (16 : Int32) I) fun _ I2 =>
  (tb (f_x_needWithin38 p2 (1 : Int32) (60 : Int32) I2) fun _ I4 =>
  (tb (f_x_needWithin38 p3 (0 : Int32) (2 : Int32) I4) fun _ I6 =>
  some (.inr (), I6)
  )
  )
  )
noncomputable def f_x_allBareHours253  (I : MJ) : Option (Int32) :=
  (Option.bind (wh (β := Int32) (fun (s1 : Int32 × Int32) =>
  (if s1.2 < (I 3 6) then
  (Option.bind (f_sta_bareHours154 17 s1.2 I) fun v3 =>
  some (.inl ((s1.1 + v3), (s1.2 + (1 : Int32))))
  )
  else
  some (.inr s1.1)
  )
  ) ((0 : Int32), (0 : Int32))) fun b2 =>
  some b2
  )
noncomputable def f_tra_draw255 (p1 : Int32) (I : MJ) : Option (Int32 × MJ) :=
  (Option.bind (α := Int32)
  (if 0 < p1 then
  (Option.bind (rmd ((((((I 28 5) * (1103515245 : Int32)) + (12345 : Int32)).toUInt32 >>> ((16 : Int32).toUInt32 &&& Int32.toUInt32 31)).toInt32) &&& (32767 : Int32)) p1) fun v2 =>
  some v2
  )
  else
  some (0 : Int32)
  )
  fun b1 =>
  some (b1, (ab_up1 I 28 5 (((I 28 5) * (1103515245 : Int32)) + (12345 : Int32))))
  )
noncomputable def f_sta_shortenBolt256 (p1 : Int32) (I : MJ) : Option (MJ) :=
  (Option.bind (f_sta_leftOn143 17 p1 I) fun v1 =>
  (Option.bind (f_x_put15 18 ((9 : Int32) + p1) (if (0 : Int32) < (v1 - (1 : Int32)) then (v1 - (1 : Int32)) else (0 : Int32)) I) fun I2 =>
  some I2
  )
  )
noncomputable def f_tra_shorten254 (p2 : Int32) (p3 : Int32) (p4 : Int32) (I : MJ) : Option (MJ) :=
  (Option.bind (wh (β := MJ) (fun (s1 : Int32 × MJ) =>
  (if s1.1 < p4 then
  (if 0 < (s1.2 3 5) then
  (Option.bind (f_tra_draw255 (16 : Int32) s1.2) fun w3 =>
  (Option.bind (α := MJ)
  (if w3.1 < p3 then
  (Option.bind (f_tra_draw255 (w3.2 3 5) w3.2) fun w5 =>
  (Option.bind (f_sta_shortenBolt256 w5.1 w5.2) fun I6 =>
  some I6
  )
  )
  else
  some w3.2
  )
  fun b4 =>
  some (.inl ((s1.1 + (1 : Int32)), b4))
  )
  )
  else
  some (.inr s1.2)
  )
  else
  some (.inr s1.2)
  )
  ) ((0 : Int32), (ab_up1 I 28 5 p2))) fun b2 =>
  some b2
  )
noncomputable def f_sta_emptyBolts257 (p1 : Int32) (I : MJ) : Option (Int32) :=
  (Option.bind (wh (β := Int32) (fun (s1 : Int32 × Int32) =>
  (if s1.2 < p1 then
  (Option.bind (f_sta_leftOn143 17 s1.2 I) fun v3 =>
  (Option.bind (α := Int32)
  (if v3 = 0 then
  some (1 : Int32)
  else
  some (0 : Int32)
  )
  fun b4 =>
  some (.inl ((s1.1 + b4), (s1.2 + (1 : Int32))))
  )
  )
  else
  some (.inr s1.1)
  )
  ) ((0 : Int32), (0 : Int32))) fun b2 =>
  some b2
  )
noncomputable def f_x_years251 (p1 : Int32) (p2 : Int32) (p3 : Int32) (p4 : Int32) (I : MJ) : Option ((Nat ⊕ Int32) × MJ) :=
  (tb (f_x_needYears252 p2 p3 p4 I) fun _ I2 =>
  (Option.bind (f_sta_copyFrom107 17 15 I2) fun I3 =>
  (if p4 = (1 : Int32) then
  (Option.bind (f_tra_passDays249 p3 I3) fun I4 =>
  (Option.bind (f_x_allBareHours253 I4) fun v5 =>
  some (.inr v5, I4)
  )
  )
  else
  (Option.bind (f_tra_shorten254 p1 p2 p3 I3) fun I6 =>
  (Option.bind (α := Int32)
  (if p4 = 0 then
  (Option.bind (f_sta_hoursLeft142 17 I6) fun v8 =>
  some v8
  )
  else
  (Option.bind (f_sta_emptyBolts257 (I6 3 5) I6) fun v9 =>
  some v9
  )
  )
  fun b7 =>
  some (.inr b7, I6)
  )
  )
  )
  )
  )
noncomputable def f_l_years250 (p1 : Int32) (p2 : Int32) (p3 : Int32) (p4 : Int32) (I : MJ) (g : GG) : Option (Int32 × MJ × GG) :=
  (tryb (f_x_years251 p1 p2 p3 p4 I) (fun v1 I2 =>
  (Option.bind (wrl g 698 (0 : Int32) (v1.toInt64)) fun g3 =>
  some ((0 : Int32), I2, g3)
  )
  ) (fun E2 I2 =>
  (if E2 = 1 then
  some ((1 : Int32), I2, (thr g))
  else
  none)
  ))
noncomputable def f_m_draw378 (p1 : Int32) (I : MJ) : Option (Int32 × MJ) :=
  (Option.bind (rmd (((((I 47 55) * (1103515245 : Int32)) + (12345 : Int32)) >>> ((16 : Int32) &&& 31)) &&& (32767 : Int32)) p1) fun v1 =>
  some (v1, (ab_up1 I 47 55 (((I 47 55) * (1103515245 : Int32)) + (12345 : Int32))))
  )
noncomputable def f_m_shortens377 (p1 : Int32) (p2 : Int32) (p3 : Int32) (I : MJ) : Option (MJ) :=
  (Option.bind (f_m_copies302 576 577 I) fun I1 =>
  (Option.bind (wh (β := MJ) (fun (s2 : Int32 × MJ) =>
  (if s2.1 < p3 then
  (Option.bind (f_m_draw378 (16 : Int32) s2.2) fun w4 =>
  (Option.bind (α := MJ)
  (if w4.1 < p2 then
  (if 0 < (w4.2 51 0) then
  (Option.bind (f_m_draw378 (w4.2 51 0) w4.2) fun w7 =>
  (Option.bind (rd w7.2 577 ((0 : Int32) + w7.1)) fun v8 =>
  (Option.bind (f_m_more320 (0 : Int32) (v8 - (1 : Int32)) w7.2) fun v9 =>
  (Option.bind (wr w7.2 577 ((0 : Int32) + w7.1) v9) fun I10 =>
  some I10
  )
  )
  )
  )
  else
  some w4.2
  )
  else
  some w4.2
  )
  fun b5 =>
  (Option.bind (f_m_dayEnds314 577 b5) fun w6 =>
  some (.inl ((s2.1 + (1 : Int32)), w6.2))
  )
  )
  )
  else
  some (.inr s2.2)
  )
  ) ((0 : Int32), (ab_up1 I1 47 55 p1))) fun b3 =>
  some b3
  )
  )
noncomputable def f_m_years376 (p1 : Int32) (p2 : Int32) (p3 : Int32) (p4 : Int32) (I : MJ) : Option (Int32 × MJ) :=
  (Option.bind (f_m_in264 p2 (0 : Int32) (16 : Int32) (ab_up1 I 47 0 (0 : Int32))) fun v1 =>
  (Option.bind (α := Int32)
  (if v1 = 0 then
  some (1 : Int32)
  else
  (Option.bind (f_m_in264 p3 (1 : Int32) (60 : Int32) (ab_up1 I 47 0 (0 : Int32))) fun v15 =>
  (if v15 = 0 then
  some (1 : Int32)
  else
  (Option.bind (f_m_in264 p4 (0 : Int32) (2 : Int32) (ab_up1 I 47 0 (0 : Int32))) fun v16 =>
  (if v16 = 0 then
  some (1 : Int32)
  else
  some (0 : Int32)
  )
  )
  )
  )
  )
  fun b2 =>
  (Option.bind (f_m_bad268 b2 (1 : Int32) (1 : Int32) (ab_up1 I 47 0 (0 : Int32))) fun w3 =>
  (if w3.1 = 0 then
  (Option.bind (f_m_shortens377 p1 p2 p3 w3.2) fun I4 =>
  (if p4 = 0 then
  (Option.bind (f_m_onBolts325 577 I4) fun v5 =>
  some (v5, I4)
  )
  else
  (Option.bind (wh (β := Int32) (fun (s6 : Int32 × Int32) =>
  (if s6.2 < (I4 51 1) then
  (if p4 = (1 : Int32) then
  (Option.bind (f_m_hasSuit305 577 s6.2 I4) fun v12 =>
  (Option.bind (α := Int32)
  (if v12 = 0 then
  some (0 : Int32)
  else
  (Option.bind (f_m_bareOf330 577 s6.2 I4) fun v14 =>
  some v14
  )
  )
  fun b13 =>
  some (.inl ((s6.1 + b13), (s6.2 + (1 : Int32))))
  )
  )
  else
  some (.inr s6.1)
  )
  else
  some (.inr s6.1)
  )
  ) ((0 : Int32), (0 : Int32))) fun b7 =>
  (Option.bind (wh (β := Int32) (fun (s8 : Int32 × Int32) =>
  (if s8.2 < (I4 51 0) then
  (if p4 = (2 : Int32) then
  (Option.bind (rd I4 577 ((0 : Int32) + s8.2)) fun v10 =>
  (Option.bind (α := Int32)
  (if v10 = 0 then
  some (1 : Int32)
  else
  some (0 : Int32)
  )
  fun b11 =>
  some (.inl ((s8.1 + b11), (s8.2 + (1 : Int32))))
  )
  )
  else
  some (.inr s8.1)
  )
  else
  some (.inr s8.1)
  )
  ) (b7, (0 : Int32))) fun b9 =>
  some (b9, I4)
  )
  )
  )
  )
  else
  some ((0 : Int32), w3.2)
  )
  )
  )
  )
noncomputable def f_x_span259 (p1 : Int32) (p2 : Int32) (p3 : Int32) (p4 : Int32) (p5 : Int32) (p6 : Int32) (I : MJ) : Option ((Nat ⊕ Int32) × MJ) :=
  (tb (f_x_needWithin38 p2 (1 : Int32) (20 : Int32) I) fun _ I2 =>
  (tb (f_x_needYears252 p3 p4 p5 I2) fun _ I4 =>
  (tb (f_x_needWithin38 p6 (0 : Int32) ((I4 3 8) - (1 : Int32)) I4) fun _ I6 =>
  (Option.bind (wh (β := Int32 × Int32 × Int32 × MJ) (fun (s7 : Int32 × Int32 × Int32 × Int32 × MJ) =>
  (if s7.2.2.2.1 < p2 then
  (Option.bind (f_sta_copyFrom107 17 15 s7.2.2.2.2) fun I10 =>
  (Option.bind (f_tra_shorten254 (p1 + s7.2.2.2.1) p3 p4 I10) fun I11 =>
  (Option.bind (f_sta_hoursLeft142 17 I11) fun v12 =>
  (Option.bind (f_sta_hoursLeft142 17 I11) fun v13 =>
  (Option.bind (f_sho_orderPart123 p6 (1 : Int32) I11) fun v14 =>
  (Option.bind (f_sta_takePattern109 v14 I11) fun w15 =>
  (Option.bind (α := Int32)
  (if w15.1 = 0 then
  some (0 : Int32)
  else
  some (1 : Int32)
  )
  fun b16 =>
  some (.inl ((if v12 < s7.1 then v12 else s7.1), (if s7.2.1 < v13 then v13 else s7.2.1), (s7.2.2.1 + b16), (s7.2.2.2.1 + (1 : Int32)), w15.2))
  )
  )
  )
  )
  )
  )
  )
  else
  some (.inr (s7.1, s7.2.1, s7.2.2.1, s7.2.2.2.2))
  )
  ) ((1000000 : Int32), (0 : Int32), (0 : Int32), (0 : Int32), I6)) fun b8 =>
  (if p5 = (2 : Int32) then
  some (.inr b8.2.2.1, b8.2.2.2)
  else
  (Option.bind (α := Int32)
  (if p5 = 0 then
  some b8.1
  else
  some b8.2.1
  )
  fun b9 =>
  some (.inr b9, b8.2.2.2)
  )
  )
  )
  )
  )
  )
noncomputable def f_l_span258 (p1 : Int32) (p2 : Int32) (p3 : Int32) (p4 : Int32) (p5 : Int32) (p6 : Int32) (I : MJ) (g : GG) : Option (Int32 × MJ × GG) :=
  (tryb (f_x_span259 p1 p2 p3 p4 p5 p6 I) (fun v1 I2 =>
  (Option.bind (wrl g 698 (0 : Int32) (v1.toInt64)) fun g3 =>
  some ((0 : Int32), I2, g3)
  )
  ) (fun E2 I2 =>
  (if E2 = 1 then
  some ((1 : Int32), I2, (thr g))
  else
  none)
  ))
noncomputable def f_m_span379 (p1 : Int32) (p2 : Int32) (p3 : Int32) (p4 : Int32) (p5 : Int32) (p6 : Int32) (I : MJ) : Option (Int32 × MJ) :=
  (Option.bind (f_m_in264 p2 (1 : Int32) (20 : Int32) (ab_up1 I 47 0 (0 : Int32))) fun v1 =>
  (Option.bind (α := Int32)
  (if v1 = 0 then
  some (1 : Int32)
  else
  (Option.bind (f_m_in264 p3 (0 : Int32) (16 : Int32) (ab_up1 I 47 0 (0 : Int32))) fun v16 =>
  (if v16 = 0 then
  some (1 : Int32)
  else
  (Option.bind (f_m_in264 p4 (1 : Int32) (60 : Int32) (ab_up1 I 47 0 (0 : Int32))) fun v17 =>
  (if v17 = 0 then
  some (1 : Int32)
  else
  (Option.bind (f_m_in264 p5 (0 : Int32) (2 : Int32) (ab_up1 I 47 0 (0 : Int32))) fun v18 =>
  (if v18 = 0 then
  some (1 : Int32)
  else
  (Option.bind (f_m_isOrder334 p6 (ab_up1 I 47 0 (0 : Int32))) fun v19 =>
  (if v19 = 0 then
  some (1 : Int32)
  else
  some (0 : Int32)
  )
  )
  )
  )
  )
  )
  )
  )
  )
  fun b2 =>
  (Option.bind (f_m_bad268 b2 (1 : Int32) (1 : Int32) (ab_up1 I 47 0 (0 : Int32))) fun w3 =>
  (if w3.1 = 0 then
  (Option.bind (wh (β := Int32 × Int32 × Int32 × MJ) (fun (s4 : Int32 × Int32 × Int32 × Int32 × MJ) =>
  (if s4.2.2.2.1 < p2 then
  (Option.bind (f_m_shortens377 (p1 + s4.2.2.2.1) p3 p4 s4.2.2.2.2) fun I7 =>
  (Option.bind (f_m_onBolts325 577 I7) fun v8 =>
  (Option.bind (α := Int32)
  (if s4.1 = (-1 : Int32) then
  some v8
  else
  (Option.bind (f_m_less319 s4.1 v8 I7) fun v15 =>
  some v15
  )
  )
  fun b9 =>
  (Option.bind (f_m_more320 s4.2.1 v8 I7) fun v10 =>
  (Option.bind (rdp 119 p6) fun r11 =>
  (Option.bind (rd I7 r11 (1 : Int32)) fun v12 =>
  (Option.bind (f_m_cuts307 577 v12 I7) fun w13 =>
  (Option.bind (α := Int32)
  (if w13.1 = 0 then
  some (0 : Int32)
  else
  some (1 : Int32)
  )
  fun b14 =>
  some (.inl (b9, v10, (s4.2.2.1 + b14), (s4.2.2.2.1 + (1 : Int32)), w13.2))
  )
  )
  )
  )
  )
  )
  )
  )
  else
  some (.inr (s4.1, s4.2.1, s4.2.2.1, s4.2.2.2.2))
  )
  ) ((-1 : Int32), (0 : Int32), (0 : Int32), (0 : Int32), w3.2)) fun b5 =>
  (Option.bind (α := Int32)
  (if p5 = 0 then
  some b5.1
  else
  (if p5 = (1 : Int32) then
  some b5.2.1
  else
  some b5.2.2.1
  )
  )
  fun b6 =>
  some (b6, b5.2.2.2)
  )
  )
  else
  some ((0 : Int32), w3.2)
  )
  )
  )
  )
noncomputable def f_pas_keepImage30  (I : MJ) : Option (Int32 × MJ) :=
  (if (I 31 4) < (3 : Int32) then
  (Option.bind (f_x_copy22 16 (0 : Int32) 33 ((I 31 4) * (1547 : Int32)) (91 : Int32) I) fun I1 =>
  (Option.bind (f_x_copy22 32 (0 : Int32) 33 (((I 31 4) * (1547 : Int32)) + (91 : Int32)) ((I1 31 3) * (91 : Int32)) I1) fun I2 =>
  (Option.bind (f_x_put15 34 (I2 31 4) (I2 31 3) I2) fun I3 =>
  some ((1 : Int32), (ab_up1 I3 31 4 ((I3 31 4) + (1 : Int32))))
  )
  )
  )
  else
  some ((0 : Int32), I)
  )
noncomputable def f_x_image29  (I : MJ) : Option (Int32 × MJ) :=
  (Option.bind (f_pas_keepImage30 I) fun w1 =>
  (Option.bind (α := Int32)
  (if w1.1 = 0 then
  some (-1 : Int32)
  else
  some (w1.2 31 4)
  )
  fun b2 =>
  some (b2, w1.2)
  )
  )
noncomputable def f_m_puts382 (p1 : Nat) (p2 : Int32) (p3 : Int32) (I : MJ) : Option (Int32 × MJ) :=
  (Option.bind (α := MJ)
  (if p3 = 0 then
  (Option.bind (wr I p1 (I 47 43) p2) fun I3 =>
  some I3
  )
  else
  some I
  )
  fun b1 =>
  (Option.bind (rd (ab_up1 b1 47 43 ((b1 47 43) + (1 : Int32))) p1 (((b1 47 43) + (1 : Int32)) - (1 : Int32))) fun v2 =>
  some (v2, (ab_up1 b1 47 43 ((b1 47 43) + (1 : Int32))))
  )
  )
noncomputable def f_m_putsAll381 (p1 : Nat) (p2 : Int32) (I : MJ) : Option (MJ) :=
  (Option.bind (f_m_puts382 p1 (I 47 40) p2 (ab_up1 I 47 43 (0 : Int32))) fun w1 =>
  (Option.bind (wh (β := MJ) (fun (s2 : Int32 × MJ) =>
  (if s2.1 < (91 : Int32) then
  (Option.bind (rd s2.2 576 s2.1) fun v13 =>
  (Option.bind (f_m_puts382 p1 v13 p2 s2.2) fun w14 =>
  (Option.bind (wr w14.2 576 s2.1 w14.1) fun I15 =>
  some (.inl ((s2.1 + (1 : Int32)), I15))
  )
  )
  )
  else
  some (.inr s2.2)
  )
  ) ((0 : Int32), (ab_up1 w1.2 47 40 w1.1))) fun b3 =>
  (Option.bind (wh (β := MJ) (fun (s4 : Int32 × MJ) =>
  (if s4.1 < (16 : Int32) then
  (Option.bind (wh (β := MJ) (fun (s6 : Int32 × MJ) =>
  (if s6.1 < (91 : Int32) then
  (Option.bind (rdp 578 s4.1) fun r8 =>
  (Option.bind (rdp 578 s4.1) fun r9 =>
  (Option.bind (rd s6.2 r9 s6.1) fun v10 =>
  (Option.bind (f_m_puts382 p1 v10 p2 s6.2) fun w11 =>
  (Option.bind (wr w11.2 r8 s6.1 w11.1) fun I12 =>
  some (.inl ((s6.1 + (1 : Int32)), I12))
  )
  )
  )
  )
  )
  else
  some (.inr s6.2)
  )
  ) ((0 : Int32), s4.2)) fun b7 =>
  some (.inl ((s4.1 + (1 : Int32)), b7))
  )
  else
  some (.inr s4.2)
  )
  ) ((0 : Int32), b3)) fun b5 =>
  some b5
  )
  )
  )
noncomputable def f_m_image380  (I : MJ) : Option (Int32 × MJ) :=
  (if (I 47 42) = (3 : Int32) then
  some ((-1 : Int32), (ab_up1 I 47 0 (0 : Int32)))
  else
  (Option.bind (rdp 595 (I 47 42)) fun r1 =>
  (Option.bind (f_m_putsAll381 r1 (0 : Int32) (ab_up1 I 47 0 (0 : Int32))) fun I2 =>
  some (((I2 47 42) + (1 : Int32)), (ab_up1 I2 47 42 ((I2 47 42) + (1 : Int32))))
  )
  )
  )
noncomputable def f_pas_takeImage32  (I : MJ) : Option (MJ) :=
  (Option.bind (f_x_at16 34 ((I 31 4) - (1 : Int32)) (ab_up1 I 31 4 ((I 31 4) - (1 : Int32)))) fun v1 =>
  (Option.bind (f_x_copy22 33 (((I 31 4) - (1 : Int32)) * (1547 : Int32)) 16 (0 : Int32) (91 : Int32) (ab_up1 (ab_up1 I 31 4 ((I 31 4) - (1 : Int32))) 31 3 v1)) fun I2 =>
  (Option.bind (f_x_copy22 33 ((((I 31 4) - (1 : Int32)) * (1547 : Int32)) + (91 : Int32)) 32 (0 : Int32) ((I2 31 3) * (91 : Int32)) I2) fun I3 =>
  some I3
  )
  )
  )
noncomputable def f_x_restore31  (I : MJ) : Option (Int32 × MJ) :=
  (if (I 31 4) = 0 then
  some ((-1 : Int32), I)
  else
  (Option.bind (f_pas_takeImage32 I) fun I1 =>
  some ((I1 31 4), (ab_up1 I1 0 13 (0 : Int32)))
  )
  )
noncomputable def f_m_restore383  (I : MJ) : Option (Int32 × MJ) :=
  (if (I 47 42) = 0 then
  some ((-1 : Int32), (ab_up1 I 47 0 (0 : Int32)))
  else
  (Option.bind (rdp 595 ((I 47 42) - (1 : Int32))) fun r1 =>
  (Option.bind (f_m_putsAll381 r1 (1 : Int32) (ab_up1 (ab_up1 I 47 0 (0 : Int32)) 47 42 ((I 47 42) - (1 : Int32)))) fun I2 =>
  some ((I2 47 42), (ab_up1 I2 47 41 (0 : Int32)))
  )
  )
  )
noncomputable def f_x_status33 (p1 : Int32) (I : MJ) : Option (Int32) :=
  (if p1 = (0 : Int32) then
  some (I 0 14)
  else
  (if p1 = (1 : Int32) then
  some (I 0 15)
  else
  (if p1 = (2 : Int32) then
  some (I 0 16)
  else
  some (-1 : Int32)
  )))
noncomputable def f_m_status384 (p1 : Int32) (I : MJ) : Option (Int32 × MJ) :=
  (Option.bind (f_m_in264 p1 (0 : Int32) (2 : Int32) (ab_up1 I 47 0 (0 : Int32))) fun v1 =>
  (Option.bind (α := Int32)
  (if v1 = 0 then
  some (-1 : Int32)
  else
  (Option.bind (rd (ab_up1 I 47 0 (0 : Int32)) 49 p1) fun v3 =>
  some v3
  )
  )
  fun b2 =>
  some (b2, (ab_up1 I 47 0 (0 : Int32)))
  )
  )
noncomputable def f_x_count34 (p1 : Int32) (I : MJ) : Option (Int32) :=
  (if p1 = (0 : Int32) then
  some (I 31 4)
  else
  (if p1 = (1 : Int32) then
  some (I 1 1)
  else
  (if p1 = (2 : Int32) then
  some (I 31 3)
  else
  some (-1 : Int32)
  )))
noncomputable def f_m_count385 (p1 : Int32) (I : MJ) : Option (Int32 × MJ) :=
  (Option.bind (α := Int32)
  (if p1 = 0 then
  some (I 47 42)
  else
  (if p1 = (1 : Int32) then
  some (I 47 1)
  else
  (if p1 = (2 : Int32) then
  some (I 47 40)
  else
  some (-1 : Int32)
  )
  )
  )
  fun b1 =>
  some (b1, (ab_up1 I 47 0 (0 : Int32)))
  )
noncomputable def f_l_law386 (X : XX)  (I : MJ) (g : GG) : Option (Int32 × MJ × GG) :=
  (wh (fun (s1 : Int32 × MJ × GG) =>
  (if ((Int32.ofNat X.1) - (7 : Int32)) < s1.1 then
  some (.inr ((1 : Int32), s1.2.1, s1.2.2))
  else
  (Option.bind (rds X s1.1) fun v2 =>
  (if (v2 &&& (63 : Int32)) = (0 : Int32) then
  (Option.bind (rds X (s1.1 + (1 : Int32))) fun v3 =>
  (Option.bind (rds X (s1.1 + (2 : Int32))) fun v4 =>
  (Option.bind (rds X (s1.1 + (3 : Int32))) fun v5 =>
  (Option.bind (rds X (s1.1 + (4 : Int32))) fun v6 =>
  (Option.bind (rds X (s1.1 + (5 : Int32))) fun v7 =>
  (Option.bind (f_x_feed17 v3 v4 v5 v6 v7 s1.2.1) fun w8 =>
  (Option.bind (rds X (s1.1 + (1 : Int32))) fun v9 =>
  (Option.bind (rds X (s1.1 + (2 : Int32))) fun v10 =>
  (Option.bind (rds X (s1.1 + (3 : Int32))) fun v11 =>
  (Option.bind (rds X (s1.1 + (4 : Int32))) fun v12 =>
  (Option.bind (rds X (s1.1 + (5 : Int32))) fun v13 =>
  (Option.bind (f_m_feed266 v9 v10 v11 v12 v13 w8.2) fun w14 =>
  (if w8.1 = w14.1 then
  some (.inl ((s1.1 + (7 : Int32)), w14.2, s1.2.2))
  else
  some (.inr ((0 : Int32), w14.2, s1.2.2))
  )
  )
  )
  )
  )
  )
  )
  )
  )
  )
  )
  )
  )
  else
  (if (v2 &&& (63 : Int32)) = (1 : Int32) then
  (Option.bind (rds X (s1.1 + (1 : Int32))) fun v15 =>
  (Option.bind (f_l_shop35 v15 s1.2.1 s1.2.2) fun w16 =>
  (Option.bind (rds X (s1.1 + (1 : Int32))) fun v17 =>
  (Option.bind (f_m_shop267 v17 w16.2.1) fun w18 =>
  (Option.bind (f_m_thrown265 w18.2) fun v19 =>
  (if v19 = w16.1 then
  (if w16.1 = 0 then
  (Option.bind (rdl w16.2.2 698 (0 : Int32)) fun v20 =>
  (if (lg_cmp v20 (w18.1.toInt64)) = 0 then
  some (.inl ((s1.1 + (7 : Int32)), w18.2, w16.2.2))
  else
  some (.inr ((0 : Int32), w18.2, w16.2.2))
  )
  )
  else
  some (.inl ((s1.1 + (7 : Int32)), w18.2, w16.2.2))
  )
  else
  some (.inr ((0 : Int32), w18.2, w16.2.2))
  )
  )
  )
  )
  )
  )
  else
  (if (v2 &&& (63 : Int32)) = (2 : Int32) then
  (Option.bind (rds X (s1.1 + (1 : Int32))) fun v21 =>
  (Option.bind (rds X (s1.1 + (2 : Int32))) fun v22 =>
  (Option.bind (f_l_pattern66 v21 v22 s1.2.1 s1.2.2) fun w23 =>
  (Option.bind (rds X (s1.1 + (1 : Int32))) fun v24 =>
  (Option.bind (rds X (s1.1 + (2 : Int32))) fun v25 =>
  (Option.bind (f_m_pattern287 v24 v25 w23.2.1) fun w26 =>
  (Option.bind (f_m_thrown265 w26.2) fun v27 =>
  (if v27 = w23.1 then
  (if w23.1 = 0 then
  (Option.bind (rdl w23.2.2 698 (0 : Int32)) fun v28 =>
  (if (lg_cmp v28 (w26.1.toInt64)) = 0 then
  some (.inl ((s1.1 + (7 : Int32)), w26.2, w23.2.2))
  else
  some (.inr ((0 : Int32), w26.2, w23.2.2))
  )
  )
  else
  some (.inl ((s1.1 + (7 : Int32)), w26.2, w23.2.2))
  )
  else
  some (.inr ((0 : Int32), w26.2, w23.2.2))
  )
  )
  )
  )
  )
  )
  )
  )
  else
  (if (v2 &&& (63 : Int32)) = (3 : Int32) then
  (Option.bind (rds X (s1.1 + (1 : Int32))) fun v29 =>
  (Option.bind (f_l_law80 X v29 s1.2.1 s1.2.2) fun w30 =>
  (Option.bind (rds X (s1.1 + (1 : Int32))) fun v31 =>
  (Option.bind (f_m_law292 v31 w30.2.1) fun w32 =>
  (Option.bind (f_m_thrown265 w32.2) fun v33 =>
  (if v33 = w30.1 then
  (if w30.1 = 0 then
  (Option.bind (rdl w30.2.2 698 (0 : Int32)) fun v34 =>
  (if (lg_cmp v34 (w32.1.toInt64)) = 0 then
  some (.inl ((s1.1 + (7 : Int32)), w32.2, w30.2.2))
  else
  some (.inr ((0 : Int32), w32.2, w30.2.2))
  )
  )
  else
  some (.inl ((s1.1 + (7 : Int32)), w32.2, w30.2.2))
  )
  else
  some (.inr ((0 : Int32), w32.2, w30.2.2))
  )
  )
  )
  )
  )
  )
  else
  (if (v2 &&& (63 : Int32)) = (4 : Int32) then
  (Option.bind (rds X (s1.1 + (1 : Int32))) fun v35 =>
  (Option.bind (f_l_work91 v35 s1.2.1 s1.2.2) fun w36 =>
  (Option.bind (rds X (s1.1 + (1 : Int32))) fun v37 =>
  (Option.bind (f_m_work299 v37 w36.2.1) fun w38 =>
  (Option.bind (f_m_thrown265 w38.2) fun v39 =>
  (if v39 = w36.1 then
  (if w36.1 = 0 then
  (Option.bind (rdl w36.2.2 698 (0 : Int32)) fun v40 =>
  (if (lg_cmp v40 (w38.1.toInt64)) = 0 then
  some (.inl ((s1.1 + (7 : Int32)), w38.2, w36.2.2))
  else
  some (.inr ((0 : Int32), w38.2, w36.2.2))
  )
  )
  else
  some (.inl ((s1.1 + (7 : Int32)), w38.2, w36.2.2))
  )
  else
  some (.inr ((0 : Int32), w38.2, w36.2.2))
  )
  )
  )
  )
  )
  )
  else
  (if (v2 &&& (63 : Int32)) = (5 : Int32) then
  (Option.bind (rds X (s1.1 + (1 : Int32))) fun v41 =>
  (Option.bind (f_l_book136 v41 s1.2.1 s1.2.2) fun w42 =>
  (Option.bind (rds X (s1.1 + (1 : Int32))) fun v43 =>
  (Option.bind (f_m_book322 v43 w42.2.1) fun w44 =>
  (Option.bind (f_m_thrown265 w44.2) fun v45 =>
  (if v45 = w42.1 then
  (if w42.1 = 0 then
  (Option.bind (rdl w42.2.2 698 (0 : Int32)) fun v46 =>
  (if (lg_cmp v46 (w44.1.toInt64)) = 0 then
  some (.inl ((s1.1 + (7 : Int32)), w44.2, w42.2.2))
  else
  some (.inr ((0 : Int32), w44.2, w42.2.2))
  )
  )
  else
  some (.inl ((s1.1 + (7 : Int32)), w44.2, w42.2.2))
  )
  else
  some (.inr ((0 : Int32), w44.2, w42.2.2))
  )
  )
  )
  )
  )
  )
  else
  (if (v2 &&& (63 : Int32)) = (6 : Int32) then
  (Option.bind (f_x_fault19 s1.2.1) fun v47 =>
  (Option.bind (f_m_fault323 s1.2.1) fun w48 =>
  (if v47 = w48.1 then
  some (.inl ((s1.1 + (7 : Int32)), w48.2, s1.2.2))
  else
  some (.inr ((0 : Int32), w48.2, s1.2.2))
  )
  )
  )
  else
  (if (v2 &&& (63 : Int32)) = (7 : Int32) then
  (Option.bind (f_x_undo20 s1.2.1) fun w49 =>
  (Option.bind (f_m_undo321 w49.2) fun w50 =>
  (if w49.1 = w50.1 then
  some (.inl ((s1.1 + (7 : Int32)), w50.2, s1.2.2))
  else
  some (.inr ((0 : Int32), w50.2, s1.2.2))
  )
  )
  )
  else
  (if (v2 &&& (63 : Int32)) = (8 : Int32) then
  (Option.bind (rds X (s1.1 + (1 : Int32))) fun v51 =>
  (Option.bind (f_l_told140 v51 s1.2.1 s1.2.2) fun w52 =>
  (Option.bind (rds X (s1.1 + (1 : Int32))) fun v53 =>
  (Option.bind (f_m_told324 v53 w52.2.1) fun w54 =>
  (Option.bind (f_m_thrown265 w54.2) fun v55 =>
  (if v55 = w52.1 then
  (if w52.1 = 0 then
  (Option.bind (rdl w52.2.2 698 (0 : Int32)) fun v56 =>
  (if (lg_cmp v56 (w54.1.toInt64)) = 0 then
  some (.inl ((s1.1 + (7 : Int32)), w54.2, w52.2.2))
  else
  some (.inr ((0 : Int32), w54.2, w52.2.2))
  )
  )
  else
  some (.inl ((s1.1 + (7 : Int32)), w54.2, w52.2.2))
  )
  else
  some (.inr ((0 : Int32), w54.2, w52.2.2))
  )
  )
  )
  )
  )
  )
  else
  (if (v2 &&& (63 : Int32)) = (9 : Int32) then
  (Option.bind (rds X (s1.1 + (1 : Int32))) fun v57 =>
  (Option.bind (rds X (s1.1 + (2 : Int32))) fun v58 =>
  (Option.bind (f_l_bolt145 v57 v58 s1.2.1 s1.2.2) fun w59 =>
  (Option.bind (rds X (s1.1 + (1 : Int32))) fun v60 =>
  (Option.bind (rds X (s1.1 + (2 : Int32))) fun v61 =>
  (Option.bind (f_m_bolt326 v60 v61 w59.2.1) fun w62 =>
  (Option.bind (f_m_thrown265 w62.2) fun v63 =>
  (if v63 = w59.1 then
  (if w59.1 = 0 then
  (Option.bind (rdl w59.2.2 698 (0 : Int32)) fun v64 =>
  (if (lg_cmp v64 (w62.1.toInt64)) = 0 then
  some (.inl ((s1.1 + (7 : Int32)), w62.2, w59.2.2))
  else
  some (.inr ((0 : Int32), w62.2, w59.2.2))
  )
  )
  else
  some (.inl ((s1.1 + (7 : Int32)), w62.2, w59.2.2))
  )
  else
  some (.inr ((0 : Int32), w62.2, w59.2.2))
  )
  )
  )
  )
  )
  )
  )
  )
  else
  (if (v2 &&& (63 : Int32)) = (10 : Int32) then
  (Option.bind (rds X (s1.1 + (1 : Int32))) fun v65 =>
  (Option.bind (rds X (s1.1 + (2 : Int32))) fun v66 =>
  (Option.bind (f_l_client148 v65 v66 s1.2.1 s1.2.2) fun w67 =>
  (Option.bind (rds X (s1.1 + (1 : Int32))) fun v68 =>
  (Option.bind (rds X (s1.1 + (2 : Int32))) fun v69 =>
  (Option.bind (f_m_client327 v68 v69 w67.2.1) fun w70 =>
  (Option.bind (f_m_thrown265 w70.2) fun v71 =>
  (if v71 = w67.1 then
  (if w67.1 = 0 then
  (Option.bind (rdl w67.2.2 698 (0 : Int32)) fun v72 =>
  (if (lg_cmp v72 (w70.1.toInt64)) = 0 then
  some (.inl ((s1.1 + (7 : Int32)), w70.2, w67.2.2))
  else
  some (.inr ((0 : Int32), w70.2, w67.2.2))
  )
  )
  else
  some (.inl ((s1.1 + (7 : Int32)), w70.2, w67.2.2))
  )
  else
  some (.inr ((0 : Int32), w70.2, w67.2.2))
  )
  )
  )
  )
  )
  )
  )
  )
  else
  (if (v2 &&& (63 : Int32)) = (11 : Int32) then
  (Option.bind (rds X (s1.1 + (1 : Int32))) fun v73 =>
  (Option.bind (rds X (s1.1 + (2 : Int32))) fun v74 =>
  (Option.bind (f_l_want156 v73 v74 s1.2.1 s1.2.2) fun w75 =>
  (Option.bind (rds X (s1.1 + (1 : Int32))) fun v76 =>
  (Option.bind (rds X (s1.1 + (2 : Int32))) fun v77 =>
  (Option.bind (f_m_want331 v76 v77 w75.2.1) fun w78 =>
  (Option.bind (f_m_thrown265 w78.2) fun v79 =>
  (if v79 = w75.1 then
  (if w75.1 = 0 then
  (Option.bind (rdl w75.2.2 698 (0 : Int32)) fun v80 =>
  (if (lg_cmp v80 (w78.1.toInt64)) = 0 then
  some (.inl ((s1.1 + (7 : Int32)), w78.2, w75.2.2))
  else
  some (.inr ((0 : Int32), w78.2, w75.2.2))
  )
  )
  else
  some (.inl ((s1.1 + (7 : Int32)), w78.2, w75.2.2))
  )
  else
  some (.inr ((0 : Int32), w78.2, w75.2.2))
  )
  )
  )
  )
  )
  )
  )
  )
  else
  (if (v2 &&& (63 : Int32)) = (12 : Int32) then
  (Option.bind (rds X (s1.1 + (1 : Int32))) fun v81 =>
  (Option.bind (rds X (s1.1 + (2 : Int32))) fun v82 =>
  (Option.bind (f_l_order159 v81 v82 s1.2.1 s1.2.2) fun w83 =>
  (Option.bind (rds X (s1.1 + (1 : Int32))) fun v84 =>
  (Option.bind (rds X (s1.1 + (2 : Int32))) fun v85 =>
  (Option.bind (f_m_order333 v84 v85 w83.2.1) fun w86 =>
  (Option.bind (f_m_thrown265 w86.2) fun v87 =>
  (if v87 = w83.1 then
  (if w83.1 = 0 then
  (Option.bind (rdl w83.2.2 698 (0 : Int32)) fun v88 =>
  (if (lg_cmp v88 (w86.1.toInt64)) = 0 then
  some (.inl ((s1.1 + (7 : Int32)), w86.2, w83.2.2))
  else
  some (.inr ((0 : Int32), w86.2, w83.2.2))
  )
  )
  else
  some (.inl ((s1.1 + (7 : Int32)), w86.2, w83.2.2))
  )
  else
  some (.inr ((0 : Int32), w86.2, w83.2.2))
  )
  )
  )
  )
  )
  )
  )
  )
  else
  (if (v2 &&& (63 : Int32)) = (13 : Int32) then
  (Option.bind (rds X (s1.1 + (1 : Int32))) fun v89 =>
  (Option.bind (rds X (s1.1 + (2 : Int32))) fun v90 =>
  (Option.bind (f_l_wears161 v89 v90 s1.2.1 s1.2.2) fun w91 =>
  (Option.bind (rds X (s1.1 + (1 : Int32))) fun v92 =>
  (Option.bind (rds X (s1.1 + (2 : Int32))) fun v93 =>
  (Option.bind (f_m_wears335 v92 v93 w91.2.1) fun w94 =>
  (Option.bind (f_m_thrown265 w94.2) fun v95 =>
  (if v95 = w91.1 then
  (if w91.1 = 0 then
  (Option.bind (rdl w91.2.2 698 (0 : Int32)) fun v96 =>
  (if (lg_cmp v96 (w94.1.toInt64)) = 0 then
  some (.inl ((s1.1 + (7 : Int32)), w94.2, w91.2.2))
  else
  some (.inr ((0 : Int32), w94.2, w91.2.2))
  )
  )
  else
  some (.inl ((s1.1 + (7 : Int32)), w94.2, w91.2.2))
  )
  else
  some (.inr ((0 : Int32), w94.2, w91.2.2))
  )
  )
  )
  )
  )
  )
  )
  )
  else
  (if (v2 &&& (63 : Int32)) = (14 : Int32) then
  (Option.bind (rds X (s1.1 + (1 : Int32))) fun v97 =>
  (Option.bind (rds X (s1.1 + (2 : Int32))) fun v98 =>
  (Option.bind (f_l_sky163 v97 v98 s1.2.1 s1.2.2) fun w99 =>
  (Option.bind (rds X (s1.1 + (1 : Int32))) fun v100 =>
  (Option.bind (rds X (s1.1 + (2 : Int32))) fun v101 =>
  (Option.bind (f_m_sky337 v100 v101 w99.2.1) fun w102 =>
  (Option.bind (f_m_thrown265 w102.2) fun v103 =>
  (if v103 = w99.1 then
  (if w99.1 = 0 then
  (Option.bind (rdl w99.2.2 698 (0 : Int32)) fun v104 =>
  (if (lg_cmp v104 (w102.1.toInt64)) = 0 then
  some (.inl ((s1.1 + (7 : Int32)), w102.2, w99.2.2))
  else
  some (.inr ((0 : Int32), w102.2, w99.2.2))
  )
  )
  else
  some (.inl ((s1.1 + (7 : Int32)), w102.2, w99.2.2))
  )
  else
  some (.inr ((0 : Int32), w102.2, w99.2.2))
  )
  )
  )
  )
  )
  )
  )
  )
  else
  (if (v2 &&& (63 : Int32)) = (15 : Int32) then
  (Option.bind (rds X (s1.1 + (1 : Int32))) fun v105 =>
  (Option.bind (rds X (s1.1 + (2 : Int32))) fun v106 =>
  (Option.bind (f_l_cloth165 v105 v106 s1.2.1 s1.2.2) fun w107 =>
  (Option.bind (rds X (s1.1 + (1 : Int32))) fun v108 =>
  (Option.bind (rds X (s1.1 + (2 : Int32))) fun v109 =>
  (Option.bind (f_m_cloth338 v108 v109 w107.2.1) fun w110 =>
  (Option.bind (f_m_thrown265 w110.2) fun v111 =>
  (if v111 = w107.1 then
  (if w107.1 = 0 then
  (Option.bind (rdl w107.2.2 698 (0 : Int32)) fun v112 =>
  (if (lg_cmp v112 (w110.1.toInt64)) = 0 then
  some (.inl ((s1.1 + (7 : Int32)), w110.2, w107.2.2))
  else
  some (.inr ((0 : Int32), w110.2, w107.2.2))
  )
  )
  else
  some (.inl ((s1.1 + (7 : Int32)), w110.2, w107.2.2))
  )
  else
  some (.inr ((0 : Int32), w110.2, w107.2.2))
  )
  )
  )
  )
  )
  )
  )
  )
  else
  (if (v2 &&& (63 : Int32)) = (16 : Int32) then
  (Option.bind (rds X (s1.1 + (1 : Int32))) fun v113 =>
  (Option.bind (rds X (s1.1 + (2 : Int32))) fun v114 =>
  (Option.bind (f_l_can170 v113 v114 s1.2.1 s1.2.2) fun w115 =>
  (Option.bind (rds X (s1.1 + (1 : Int32))) fun v116 =>
  (Option.bind (rds X (s1.1 + (2 : Int32))) fun v117 =>
  (Option.bind (f_m_can339 v116 v117 w115.2.1) fun w118 =>
  (Option.bind (f_m_thrown265 w118.2) fun v119 =>
  (if v119 = w115.1 then
  (if w115.1 = 0 then
  (Option.bind (rdl w115.2.2 698 (0 : Int32)) fun v120 =>
  (Option.bind (α := Int64)
  (if w118.1 = 0 then
  some (0 : Int64)
  else
  some (1 : Int64)
  )
  fun b121 =>
  (if (lg_cmp v120 b121) = 0 then
  some (.inl ((s1.1 + (7 : Int32)), w118.2, w115.2.2))
  else
  some (.inr ((0 : Int32), w118.2, w115.2.2))
  )
  )
  )
  else
  some (.inl ((s1.1 + (7 : Int32)), w118.2, w115.2.2))
  )
  else
  some (.inr ((0 : Int32), w118.2, w115.2.2))
  )
  )
  )
  )
  )
  )
  )
  )
  else
  (if (v2 &&& (63 : Int32)) = (17 : Int32) then
  (Option.bind (rds X (s1.1 + (1 : Int32))) fun v122 =>
  (Option.bind (f_l_ready172 v122 s1.2.1 s1.2.2) fun w123 =>
  (Option.bind (rds X (s1.1 + (1 : Int32))) fun v124 =>
  (Option.bind (f_m_ready340 v124 w123.2.1) fun w125 =>
  (Option.bind (f_m_thrown265 w125.2) fun v126 =>
  (if v126 = w123.1 then
  (if w123.1 = 0 then
  (Option.bind (rdl w123.2.2 698 (0 : Int32)) fun v127 =>
  (Option.bind (α := Int64)
  (if w125.1 = 0 then
  some (0 : Int64)
  else
  some (1 : Int64)
  )
  fun b128 =>
  (if (lg_cmp v127 b128) = 0 then
  some (.inl ((s1.1 + (7 : Int32)), w125.2, w123.2.2))
  else
  some (.inr ((0 : Int32), w125.2, w123.2.2))
  )
  )
  )
  else
  some (.inl ((s1.1 + (7 : Int32)), w125.2, w123.2.2))
  )
  else
  some (.inr ((0 : Int32), w125.2, w123.2.2))
  )
  )
  )
  )
  )
  )
  else
  (if (v2 &&& (63 : Int32)) = (18 : Int32) then
  (Option.bind (rds X (s1.1 + (1 : Int32))) fun v129 =>
  (Option.bind (f_l_fit174 v129 s1.2.1 s1.2.2) fun w130 =>
  (Option.bind (rds X (s1.1 + (1 : Int32))) fun v131 =>
  (Option.bind (f_m_fit341 v131 w130.2.1) fun w132 =>
  (Option.bind (f_m_thrown265 w132.2) fun v133 =>
  (if v133 = w130.1 then
  (if w130.1 = 0 then
  (Option.bind (rdl w130.2.2 698 (0 : Int32)) fun v134 =>
  (if (lg_cmp v134 (w132.1.toInt64)) = 0 then
  some (.inl ((s1.1 + (7 : Int32)), w132.2, w130.2.2))
  else
  some (.inr ((0 : Int32), w132.2, w130.2.2))
  )
  )
  else
  some (.inl ((s1.1 + (7 : Int32)), w132.2, w130.2.2))
  )
  else
  some (.inr ((0 : Int32), w132.2, w130.2.2))
  )
  )
  )
  )
  )
  )
  else
  (if (v2 &&& (63 : Int32)) = (19 : Int32) then
  (Option.bind (rds X (s1.1 + (1 : Int32))) fun v135 =>
  (Option.bind (rds X (s1.1 + (2 : Int32))) fun v136 =>
  (Option.bind (f_l_tries178 v135 v136 s1.2.1 s1.2.2) fun w137 =>
  (Option.bind (rds X (s1.1 + (1 : Int32))) fun v138 =>
  (Option.bind (rds X (s1.1 + (2 : Int32))) fun v139 =>
  (Option.bind (f_m_tries343 v138 v139 w137.2.1) fun w140 =>
  (Option.bind (f_m_thrown265 w140.2) fun v141 =>
  (if v141 = w137.1 then
  (if w137.1 = 0 then
  (Option.bind (rdl w137.2.2 698 (0 : Int32)) fun v142 =>
  (if (lg_cmp v142 (w140.1.toInt64)) = 0 then
  some (.inl ((s1.1 + (7 : Int32)), w140.2, w137.2.2))
  else
  some (.inr ((0 : Int32), w140.2, w137.2.2))
  )
  )
  else
  some (.inl ((s1.1 + (7 : Int32)), w140.2, w137.2.2))
  )
  else
  some (.inr ((0 : Int32), w140.2, w137.2.2))
  )
  )
  )
  )
  )
  )
  )
  )
  else
  (if (v2 &&& (63 : Int32)) = (20 : Int32) then
  (Option.bind (rds X (s1.1 + (1 : Int32))) fun v143 =>
  (Option.bind (f_l_best182 v143 s1.2.1 s1.2.2) fun w144 =>
  (Option.bind (rds X (s1.1 + (1 : Int32))) fun v145 =>
  (Option.bind (f_m_best344 v145 w144.2.1) fun w146 =>
  (Option.bind (f_m_thrown265 w146.2) fun v147 =>
  (if v147 = w144.1 then
  (if w144.1 = 0 then
  (Option.bind (rdl w144.2.2 698 (0 : Int32)) fun v148 =>
  (if (lg_cmp v148 (w146.1.toInt64)) = 0 then
  some (.inl ((s1.1 + (7 : Int32)), w146.2, w144.2.2))
  else
  some (.inr ((0 : Int32), w146.2, w144.2.2))
  )
  )
  else
  some (.inl ((s1.1 + (7 : Int32)), w146.2, w144.2.2))
  )
  else
  some (.inr ((0 : Int32), w146.2, w144.2.2))
  )
  )
  )
  )
  )
  )
  else
  (if (v2 &&& (63 : Int32)) = (21 : Int32) then
  (Option.bind (rds X (s1.1 + (1 : Int32))) fun v149 =>
  (Option.bind (rds X (s1.1 + (2 : Int32))) fun v150 =>
  (Option.bind (f_l_bestAt191 v149 v150 s1.2.1 s1.2.2) fun w151 =>
  (Option.bind (rds X (s1.1 + (1 : Int32))) fun v152 =>
  (Option.bind (rds X (s1.1 + (2 : Int32))) fun v153 =>
  (Option.bind (f_m_bestAt348 v152 v153 w151.2.1) fun w154 =>
  (Option.bind (f_m_thrown265 w154.2) fun v155 =>
  (if v155 = w151.1 then
  (if w151.1 = 0 then
  (Option.bind (rdl w151.2.2 698 (0 : Int32)) fun v156 =>
  (if (lg_cmp v156 (w154.1.toInt64)) = 0 then
  some (.inl ((s1.1 + (7 : Int32)), w154.2, w151.2.2))
  else
  some (.inr ((0 : Int32), w154.2, w151.2.2))
  )
  )
  else
  some (.inl ((s1.1 + (7 : Int32)), w154.2, w151.2.2))
  )
  else
  some (.inr ((0 : Int32), w154.2, w151.2.2))
  )
  )
  )
  )
  )
  )
  )
  )
  else
  (if (v2 &&& (63 : Int32)) = (22 : Int32) then
  (Option.bind (rds X (s1.1 + (1 : Int32))) fun v157 =>
  (Option.bind (f_l_clashes193 v157 s1.2.1 s1.2.2) fun w158 =>
  (Option.bind (rds X (s1.1 + (1 : Int32))) fun v159 =>
  (Option.bind (f_m_clashes349 v159 w158.2.1) fun w160 =>
  (Option.bind (f_m_thrown265 w160.2) fun v161 =>
  (if v161 = w158.1 then
  (if w158.1 = 0 then
  (Option.bind (rdl w158.2.2 698 (0 : Int32)) fun v162 =>
  (if (lg_cmp v162 (w160.1.toInt64)) = 0 then
  some (.inl ((s1.1 + (7 : Int32)), w160.2, w158.2.2))
  else
  some (.inr ((0 : Int32), w160.2, w158.2.2))
  )
  )
  else
  some (.inl ((s1.1 + (7 : Int32)), w160.2, w158.2.2))
  )
  else
  some (.inr ((0 : Int32), w160.2, w158.2.2))
  )
  )
  )
  )
  )
  )
  else
  (if (v2 &&& (63 : Int32)) = (23 : Int32) then
  (Option.bind (rds X (s1.1 + (1 : Int32))) fun v163 =>
  (Option.bind (rds X (s1.1 + (2 : Int32))) fun v164 =>
  (Option.bind (f_l_mend197 v163 v164 s1.2.1 s1.2.2) fun w165 =>
  (Option.bind (rds X (s1.1 + (1 : Int32))) fun v166 =>
  (Option.bind (rds X (s1.1 + (2 : Int32))) fun v167 =>
  (Option.bind (f_m_mend351 v166 v167 w165.2.1) fun w168 =>
  (Option.bind (f_m_thrown265 w168.2) fun v169 =>
  (if v169 = w165.1 then
  (if w165.1 = 0 then
  (Option.bind (rdl w165.2.2 698 (0 : Int32)) fun v170 =>
  (if (lg_cmp v170 (w168.1.toInt64)) = 0 then
  some (.inl ((s1.1 + (7 : Int32)), w168.2, w165.2.2))
  else
  some (.inr ((0 : Int32), w168.2, w165.2.2))
  )
  )
  else
  some (.inl ((s1.1 + (7 : Int32)), w168.2, w165.2.2))
  )
  else
  some (.inr ((0 : Int32), w168.2, w165.2.2))
  )
  )
  )
  )
  )
  )
  )
  )
  else
  (if (v2 &&& (63 : Int32)) = (24 : Int32) then
  (Option.bind (rds X (s1.1 + (1 : Int32))) fun v171 =>
  (Option.bind (f_l_pieces202 v171 s1.2.1 s1.2.2) fun w172 =>
  (Option.bind (rds X (s1.1 + (1 : Int32))) fun v173 =>
  (Option.bind (f_m_pieces352 v173 w172.2.1) fun w174 =>
  (Option.bind (f_m_thrown265 w174.2) fun v175 =>
  (if v175 = w172.1 then
  (if w172.1 = 0 then
  (Option.bind (rdl w172.2.2 698 (0 : Int32)) fun v176 =>
  (if (lg_cmp v176 (w174.1.toInt64)) = 0 then
  some (.inl ((s1.1 + (7 : Int32)), w174.2, w172.2.2))
  else
  some (.inr ((0 : Int32), w174.2, w172.2.2))
  )
  )
  else
  some (.inl ((s1.1 + (7 : Int32)), w174.2, w172.2.2))
  )
  else
  some (.inr ((0 : Int32), w174.2, w172.2.2))
  )
  )
  )
  )
  )
  )
  else
  (if (v2 &&& (63 : Int32)) = (25 : Int32) then
  (Option.bind (rds X (s1.1 + (1 : Int32))) fun v177 =>
  (Option.bind (rds X (s1.1 + (2 : Int32))) fun v178 =>
  (Option.bind (f_l_sewn213 v177 v178 s1.2.1 s1.2.2) fun w179 =>
  (Option.bind (rds X (s1.1 + (1 : Int32))) fun v180 =>
  (Option.bind (rds X (s1.1 + (2 : Int32))) fun v181 =>
  (Option.bind (f_m_sewn357 v180 v181 w179.2.1) fun w182 =>
  (Option.bind (f_m_thrown265 w182.2) fun v183 =>
  (if v183 = w179.1 then
  (if w179.1 = 0 then
  (Option.bind (rdl w179.2.2 698 (0 : Int32)) fun v184 =>
  (if (lg_cmp v184 (w182.1.toInt64)) = 0 then
  some (.inl ((s1.1 + (7 : Int32)), w182.2, w179.2.2))
  else
  some (.inr ((0 : Int32), w182.2, w179.2.2))
  )
  )
  else
  some (.inl ((s1.1 + (7 : Int32)), w182.2, w179.2.2))
  )
  else
  some (.inr ((0 : Int32), w182.2, w179.2.2))
  )
  )
  )
  )
  )
  )
  )
  )
  else
  (if (v2 &&& (63 : Int32)) = (26 : Int32) then
  (Option.bind (rds X (s1.1 + (1 : Int32))) fun v185 =>
  (Option.bind (f_l_words219 v185 s1.2.1 s1.2.2) fun w186 =>
  (Option.bind (rds X (s1.1 + (1 : Int32))) fun v187 =>
  (Option.bind (f_m_words359 v187 w186.2.1) fun w188 =>
  (Option.bind (f_m_thrown265 w188.2) fun v189 =>
  (if v189 = w186.1 then
  (if w186.1 = 0 then
  (Option.bind (rdl w186.2.2 698 (0 : Int32)) fun v190 =>
  (if (lg_cmp v190 (w188.1.toInt64)) = 0 then
  some (.inl ((s1.1 + (7 : Int32)), w188.2, w186.2.2))
  else
  some (.inr ((0 : Int32), w188.2, w186.2.2))
  )
  )
  else
  some (.inl ((s1.1 + (7 : Int32)), w188.2, w186.2.2))
  )
  else
  some (.inr ((0 : Int32), w188.2, w186.2.2))
  )
  )
  )
  )
  )
  )
  else
  (if (v2 &&& (63 : Int32)) = (27 : Int32) then
  (Option.bind (rds X (s1.1 + (1 : Int32))) fun v191 =>
  (Option.bind (rds X (s1.1 + (2 : Int32))) fun v192 =>
  (Option.bind (f_l_offers222 v191 v192 s1.2.1 s1.2.2) fun w193 =>
  (Option.bind (rds X (s1.1 + (1 : Int32))) fun v194 =>
  (Option.bind (rds X (s1.1 + (2 : Int32))) fun v195 =>
  (Option.bind (f_m_offers360 v194 v195 w193.2.1) fun w196 =>
  (Option.bind (f_m_thrown265 w196.2) fun v197 =>
  (if v197 = w193.1 then
  (if w193.1 = 0 then
  (Option.bind (rdl w193.2.2 698 (0 : Int32)) fun v198 =>
  (if (lg_cmp v198 w196.1) = 0 then
  some (.inl ((s1.1 + (7 : Int32)), w196.2, w193.2.2))
  else
  some (.inr ((0 : Int32), w196.2, w193.2.2))
  )
  )
  else
  some (.inl ((s1.1 + (7 : Int32)), w196.2, w193.2.2))
  )
  else
  some (.inr ((0 : Int32), w196.2, w193.2.2))
  )
  )
  )
  )
  )
  )
  )
  )
  else
  (if (v2 &&& (63 : Int32)) = (28 : Int32) then
  (Option.bind (rds X (s1.1 + (1 : Int32))) fun v199 =>
  (Option.bind (f_l_line227 v199 s1.2.1 s1.2.2) fun w200 =>
  (Option.bind (rds X (s1.1 + (1 : Int32))) fun v201 =>
  (Option.bind (f_m_line363 v201 w200.2.1) fun w202 =>
  (Option.bind (f_m_thrown265 w202.2) fun v203 =>
  (if v203 = w200.1 then
  (if w200.1 = 0 then
  (Option.bind (rdl w200.2.2 698 (0 : Int32)) fun v204 =>
  (if (lg_cmp v204 (w202.1.toInt64)) = 0 then
  some (.inl ((s1.1 + (7 : Int32)), w202.2, w200.2.2))
  else
  some (.inr ((0 : Int32), w202.2, w200.2.2))
  )
  )
  else
  some (.inl ((s1.1 + (7 : Int32)), w202.2, w200.2.2))
  )
  else
  some (.inr ((0 : Int32), w202.2, w200.2.2))
  )
  )
  )
  )
  )
  )
  else
  (if (v2 &&& (63 : Int32)) = (29 : Int32) then
  (Option.bind (rds X (s1.1 + (1 : Int32))) fun v205 =>
  (Option.bind (f_l_skies229 v205 s1.2.1 s1.2.2) fun w206 =>
  (Option.bind (rds X (s1.1 + (1 : Int32))) fun v207 =>
  (Option.bind (f_m_skies364 v207 w206.2.1) fun w208 =>
  (Option.bind (f_m_thrown265 w208.2) fun v209 =>
  (if v209 = w206.1 then
  (if w206.1 = 0 then
  (Option.bind (rdl w206.2.2 698 (0 : Int32)) fun v210 =>
  (if (lg_cmp v210 (w208.1.toInt64)) = 0 then
  some (.inl ((s1.1 + (7 : Int32)), w208.2, w206.2.2))
  else
  some (.inr ((0 : Int32), w208.2, w206.2.2))
  )
  )
  else
  some (.inl ((s1.1 + (7 : Int32)), w208.2, w206.2.2))
  )
  else
  some (.inr ((0 : Int32), w208.2, w206.2.2))
  )
  )
  )
  )
  )
  )
  else
  (if (v2 &&& (63 : Int32)) = (30 : Int32) then
  (Option.bind (f_x_which23 s1.2.1) fun v211 =>
  (Option.bind (f_m_which367 s1.2.1) fun w212 =>
  (if v211 = w212.1 then
  some (.inl ((s1.1 + (7 : Int32)), w212.2, s1.2.2))
  else
  some (.inr ((0 : Int32), w212.2, s1.2.2))
  )
  )
  )
  else
  (if (v2 &&& (63 : Int32)) = (31 : Int32) then
  (Option.bind (rds X (s1.1 + (1 : Int32))) fun v213 =>
  (Option.bind (f_l_look231 v213 s1.2.1 s1.2.2) fun w214 =>
  (Option.bind (rds X (s1.1 + (1 : Int32))) fun v215 =>
  (Option.bind (f_m_look368 v215 w214.2.1) fun w216 =>
  (Option.bind (f_m_thrown265 w216.2) fun v217 =>
  (if v217 = w214.1 then
  (if w214.1 = 0 then
  (Option.bind (rdl w214.2.2 698 (0 : Int32)) fun v218 =>
  (if (lg_cmp v218 (w216.1.toInt64)) = 0 then
  some (.inl ((s1.1 + (7 : Int32)), w216.2, w214.2.2))
  else
  some (.inr ((0 : Int32), w216.2, w214.2.2))
  )
  )
  else
  some (.inl ((s1.1 + (7 : Int32)), w216.2, w214.2.2))
  )
  else
  some (.inr ((0 : Int32), w216.2, w214.2.2))
  )
  )
  )
  )
  )
  )
  else
  (if (v2 &&& (63 : Int32)) = (32 : Int32) then
  (Option.bind (rds X (s1.1 + (1 : Int32))) fun v219 =>
  (Option.bind (f_l_tailors237 v219 s1.2.1 s1.2.2) fun w220 =>
  (Option.bind (rds X (s1.1 + (1 : Int32))) fun v221 =>
  (Option.bind (f_m_tailors371 v221 w220.2.1) fun w222 =>
  (Option.bind (f_m_thrown265 w222.2) fun v223 =>
  (if v223 = w220.1 then
  (if w220.1 = 0 then
  (Option.bind (rdl w220.2.2 698 (0 : Int32)) fun v224 =>
  (if (lg_cmp v224 (w222.1.toInt64)) = 0 then
  some (.inl ((s1.1 + (7 : Int32)), w222.2, w220.2.2))
  else
  some (.inr ((0 : Int32), w222.2, w220.2.2))
  )
  )
  else
  some (.inl ((s1.1 + (7 : Int32)), w222.2, w220.2.2))
  )
  else
  some (.inr ((0 : Int32), w222.2, w220.2.2))
  )
  )
  )
  )
  )
  )
  else
  (if (v2 &&& (63 : Int32)) = (33 : Int32) then
  (Option.bind (rds X (s1.1 + (1 : Int32))) fun v225 =>
  (Option.bind (rds X (s1.1 + (2 : Int32))) fun v226 =>
  (Option.bind (f_l_gets245 v225 v226 s1.2.1 s1.2.2) fun w227 =>
  (Option.bind (rds X (s1.1 + (1 : Int32))) fun v228 =>
  (Option.bind (rds X (s1.1 + (2 : Int32))) fun v229 =>
  (Option.bind (f_m_gets374 v228 v229 w227.2.1) fun w230 =>
  (Option.bind (f_m_thrown265 w230.2) fun v231 =>
  (if v231 = w227.1 then
  (if w227.1 = 0 then
  (Option.bind (rdl w227.2.2 698 (0 : Int32)) fun v232 =>
  (if (lg_cmp v232 (w230.1.toInt64)) = 0 then
  some (.inl ((s1.1 + (7 : Int32)), w230.2, w227.2.2))
  else
  some (.inr ((0 : Int32), w230.2, w227.2.2))
  )
  )
  else
  some (.inl ((s1.1 + (7 : Int32)), w230.2, w227.2.2))
  )
  else
  some (.inr ((0 : Int32), w230.2, w227.2.2))
  )
  )
  )
  )
  )
  )
  )
  )
  else
  (if (v2 &&& (63 : Int32)) = (34 : Int32) then
  (Option.bind (rds X (s1.1 + (1 : Int32))) fun v233 =>
  (Option.bind (rds X (s1.1 + (2 : Int32))) fun v234 =>
  (Option.bind (rds X (s1.1 + (3 : Int32))) fun v235 =>
  (Option.bind (f_l_ahead247 v233 v234 v235 s1.2.1 s1.2.2) fun w236 =>
  (Option.bind (rds X (s1.1 + (1 : Int32))) fun v237 =>
  (Option.bind (rds X (s1.1 + (2 : Int32))) fun v238 =>
  (Option.bind (rds X (s1.1 + (3 : Int32))) fun v239 =>
  (Option.bind (f_m_ahead375 v237 v238 v239 w236.2.1) fun w240 =>
  (Option.bind (f_m_thrown265 w240.2) fun v241 =>
  (if v241 = w236.1 then
  (if w236.1 = 0 then
  (Option.bind (rdl w236.2.2 698 (0 : Int32)) fun v242 =>
  (if (lg_cmp v242 (w240.1.toInt64)) = 0 then
  some (.inl ((s1.1 + (7 : Int32)), w240.2, w236.2.2))
  else
  some (.inr ((0 : Int32), w240.2, w236.2.2))
  )
  )
  else
  some (.inl ((s1.1 + (7 : Int32)), w240.2, w236.2.2))
  )
  else
  some (.inr ((0 : Int32), w240.2, w236.2.2))
  )
  )
  )
  )
  )
  )
  )
  )
  )
  )
  else
  (if (v2 &&& (63 : Int32)) = (35 : Int32) then
  (Option.bind (rds X (s1.1 + (1 : Int32))) fun v243 =>
  (Option.bind (rds X (s1.1 + (2 : Int32))) fun v244 =>
  (Option.bind (rds X (s1.1 + (3 : Int32))) fun v245 =>
  (Option.bind (rds X (s1.1 + (4 : Int32))) fun v246 =>
  (Option.bind (f_l_years250 v243 v244 v245 v246 s1.2.1 s1.2.2) fun w247 =>
  (Option.bind (rds X (s1.1 + (1 : Int32))) fun v248 =>
  (Option.bind (rds X (s1.1 + (2 : Int32))) fun v249 =>
  (Option.bind (rds X (s1.1 + (3 : Int32))) fun v250 =>
  (Option.bind (rds X (s1.1 + (4 : Int32))) fun v251 =>
  (Option.bind (f_m_years376 v248 v249 v250 v251 w247.2.1) fun w252 =>
  (Option.bind (f_m_thrown265 w252.2) fun v253 =>
  (if v253 = w247.1 then
  (if w247.1 = 0 then
  (Option.bind (rdl w247.2.2 698 (0 : Int32)) fun v254 =>
  (if (lg_cmp v254 (w252.1.toInt64)) = 0 then
  some (.inl ((s1.1 + (7 : Int32)), w252.2, w247.2.2))
  else
  some (.inr ((0 : Int32), w252.2, w247.2.2))
  )
  )
  else
  some (.inl ((s1.1 + (7 : Int32)), w252.2, w247.2.2))
  )
  else
  some (.inr ((0 : Int32), w252.2, w247.2.2))
  )
  )
  )
  )
  )
  )
  )
  )
  )
  )
  )
  )
  else
  (if (v2 &&& (63 : Int32)) = (36 : Int32) then
  (Option.bind (rds X (s1.1 + (1 : Int32))) fun v255 =>
  (Option.bind (rds X (s1.1 + (2 : Int32))) fun v256 =>
  (Option.bind (rds X (s1.1 + (3 : Int32))) fun v257 =>
  (Option.bind (rds X (s1.1 + (4 : Int32))) fun v258 =>
  (Option.bind (rds X (s1.1 + (5 : Int32))) fun v259 =>
  (Option.bind (rds X (s1.1 + (6 : Int32))) fun v260 =>
  (Option.bind (f_l_span258 v255 v256 v257 v258 v259 v260 s1.2.1 s1.2.2) fun w261 =>
  (Option.bind (rds X (s1.1 + (1 : Int32))) fun v262 =>
  (Option.bind (rds X (s1.1 + (2 : Int32))) fun v263 =>
  (Option.bind (rds X (s1.1 + (3 : Int32))) fun v264 =>
  (Option.bind (rds X (s1.1 + (4 : Int32))) fun v265 =>
  (Option.bind (rds X (s1.1 + (5 : Int32))) fun v266 =>
  (Option.bind (rds X (s1.1 + (6 : Int32))) fun v267 =>
  (Option.bind (f_m_span379 v262 v263 v264 v265 v266 v267 w261.2.1) fun w268 =>
  (Option.bind (f_m_thrown265 w268.2) fun v269 =>
  (if v269 = w261.1 then
  (if w261.1 = 0 then
  (Option.bind (rdl w261.2.2 698 (0 : Int32)) fun v270 =>
  (if (lg_cmp v270 (w268.1.toInt64)) = 0 then
  some (.inl ((s1.1 + (7 : Int32)), w268.2, w261.2.2))
  else
  some (.inr ((0 : Int32), w268.2, w261.2.2))
  )
  )
  else
  some (.inl ((s1.1 + (7 : Int32)), w268.2, w261.2.2))
  )
  else
  some (.inr ((0 : Int32), w268.2, w261.2.2))
  )
  )
  )
  )
  )
  )
  )
  )
  )
  )
  )
  )
  )
  )
  )
  )
  else
  (if (v2 &&& (63 : Int32)) = (37 : Int32) then
  (Option.bind (f_x_image29 s1.2.1) fun w271 =>
  (Option.bind (f_m_image380 w271.2) fun w272 =>
  (if w271.1 = w272.1 then
  some (.inl ((s1.1 + (7 : Int32)), w272.2, s1.2.2))
  else
  some (.inr ((0 : Int32), w272.2, s1.2.2))
  )
  )
  )
  else
  (if (v2 &&& (63 : Int32)) = (38 : Int32) then
  (Option.bind (f_x_restore31 s1.2.1) fun w273 =>
  (Option.bind (f_m_restore383 w273.2) fun w274 =>
  (if w273.1 = w274.1 then
  some (.inl ((s1.1 + (7 : Int32)), w274.2, s1.2.2))
  else
  some (.inr ((0 : Int32), w274.2, s1.2.2))
  )
  )
  )
  else
  (if (v2 &&& (63 : Int32)) = (39 : Int32) then
  (Option.bind (rds X (s1.1 + (1 : Int32))) fun v275 =>
  (Option.bind (f_x_status33 v275 s1.2.1) fun v276 =>
  (Option.bind (rds X (s1.1 + (1 : Int32))) fun v277 =>
  (Option.bind (f_m_status384 v277 s1.2.1) fun w278 =>
  (if v276 = w278.1 then
  some (.inl ((s1.1 + (7 : Int32)), w278.2, s1.2.2))
  else
  some (.inr ((0 : Int32), w278.2, s1.2.2))
  )
  )
  )
  )
  )
  else
  (if (v2 &&& (63 : Int32)) = (40 : Int32) then
  (Option.bind (rds X (s1.1 + (1 : Int32))) fun v279 =>
  (Option.bind (f_x_count34 v279 s1.2.1) fun v280 =>
  (Option.bind (rds X (s1.1 + (1 : Int32))) fun v281 =>
  (Option.bind (f_m_count385 v281 s1.2.1) fun w282 =>
  (if v280 = w282.1 then
  some (.inl ((s1.1 + (7 : Int32)), w282.2, s1.2.2))
  else
  some (.inr ((0 : Int32), w282.2, s1.2.2))
  )
  )
  )
  )
  )
  else
  some (.inl ((s1.1 + (7 : Int32)), s1.2.1, s1.2.2))
  )))))))))))))))))))))))))))))))))))))))))
  )
  )
  ) ((0 : Int32), I, g))
