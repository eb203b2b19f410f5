/-! the methods as functions (written by wip/whole/dec.py out of the listing) -/
noncomputable def f_tap_append18 (p1 : Int32) (I : MJ) : Option (MJ) :=
  (Option.bind (wh (β := MJ) (fun (s1 : Int32 × MJ) =>
  (if s1.1 < 0 then
  some (.inr s1.2)
  else
  (Option.bind (α := MJ)
  (if (s1.2 1 1) < 0 then
  some s1.2
  else
  (if (s1.2 1 1) < (600 : Int32) then
  (Option.bind (wrb s1.2 2 (s1.2 1 1) ((p1 >>> (s1.1 &&& 31)).toInt8.toInt32)) fun I4 =>
  some (ab_up1 I4 1 1 ((I4 1 1) + (1 : Int32)))
  )
  else
  some s1.2
  )
  )
  fun b3 =>
  some (.inl ((s1.1 + (-8 : Int32)), b3))
  )
  )
  ) ((24 : Int32), I)) fun b2 =>
  some b2
  )
noncomputable def f_x_feed17 (p1 : Int32) (p2 : Int32) (p3 : Int32) (p4 : Int32) (p5 : Int32) (I : MJ) : Option (Int32 × MJ) :=
  (if (580 : Int32) < (I 1 1) then
  some ((-1 : Int32), I)
  else
  (Option.bind (f_tap_append18 p1 I) fun I1 =>
  (Option.bind (f_tap_append18 p2 I1) fun I2 =>
  (Option.bind (f_tap_append18 p3 I2) fun I3 =>
  (Option.bind (f_tap_append18 p4 I3) fun I4 =>
  (Option.bind (f_tap_append18 p5 I4) fun I5 =>
  some ((I5 1 1), I5)
  )
  )
  )
  )
  )
  )
noncomputable def f_m_feed266 (p1 : Int32) (p2 : Int32) (p3 : Int32) (p4 : Int32) (p5 : Int32) (I : MJ) : Option (Int32 × MJ) :=
  (if (600 : Int32) < ((I 47 1) + (20 : Int32)) then
  some ((-1 : Int32), (ab_up1 I 47 0 (0 : Int32)))
  else
  (Option.bind (wh (β := MJ) (fun (s1 : Int32 × MJ) =>
  (if s1.1 < (20 : Int32) then
  (Option.bind (α := Int32)
  (if s1.1 < (4 : Int32) then
  some p1
  else
  (if s1.1 < (8 : Int32) then
  some p2
  else
  (if s1.1 < (12 : Int32) then
  some p3
  else
  (if s1.1 < (16 : Int32) then
  some p4
  else
  some p5
  )
  )
  )
  )
  fun b3 =>
  (Option.bind (wr s1.2 48 (s1.2 47 1) ((b3 >>> (((24 : Int32) - ((8 : Int32) * (s1.1 - s1.1 / (4 : Int32) * (4 : Int32)))) &&& 31)) &&& (255 : Int32))) fun I4 =>
  some (.inl ((s1.1 + (1 : Int32)), (ab_up1 I4 47 1 ((I4 47 1) + (1 : Int32)))))
  )
  )
  else
  some (.inr s1.2)
  )
  ) ((0 : Int32), (ab_up1 I 47 0 (0 : Int32)))) fun b2 =>
  some ((b2 47 1), b2)
  )
  )
noncomputable def f_x_refuseArgument39  (I : MJ) : Option ((Nat ⊕ Unit) × MJ) :=
  some (.inl 1, (ab_up1 I 0 15 ((I 0 15) + (1 : Int32))))
noncomputable def f_x_needWithin38 (p1 : Int32) (p2 : Int32) (p3 : Int32) (I : MJ) : Option ((Nat ⊕ Unit) × MJ) :=
  (if p1 < p2 then
  (tb (f_x_refuseArgument39 I) fun _ I2 =>
  some (.inr (), I2)
  )
  else
  (if p3 < p1 then
  (tb (f_x_refuseArgument39 I) fun _ I4 =>
  some (.inr (), I4)
  )
  else
  some (.inr (), I)
  )
  )
noncomputable def f_x_needText37 (p1 : Int32) (p2 : Int32) (I : MJ) : Option ((Nat ⊕ Unit) × MJ) :=
  (tb (f_x_needWithin38 p1 (0 : Int32) (if (I 1 1) < p2 then (I 1 1) else p2) I) fun _ I2 =>
  some (.inr (), I2)
  )
noncomputable def f_tap_open40 (p1 : Int32) (I : MJ) : Option (MJ) :=
  some (ab_up1 (ab_up1 (ab_up1 (ab_up1 (ab_up1 I 1 2 (0 : Int32)) 1 4 (0 : Int32)) 1 3 p1) 1 5 (0 : Int32)) 1 6 (-1 : Int32))
noncomputable def f_tap_next43  (I : MJ) : Option (Int32 × MJ) :=
  (Option.bind (wh (β := MJ) (fun (s1 : MJ) =>
  (if (s1 1 2) < 0 then
  some (.inr s1)
  else
  (if (s1 1 2) < (s1 1 3) then
  (if (s1 1 2) < (600 : Int32) then
  (Option.bind (rdb s1 2 (s1 1 2)) fun v5 =>
  (if v5 = (32 : Int32) then
  some (.inl (ab_up1 s1 1 2 ((s1 1 2) + (1 : Int32))))
  else
  some (.inr s1)
  )
  )
  else
  some (.inr s1)
  )
  else
  some (.inr s1)
  )
  )
  ) I) fun b2 =>
  (Option.bind (α := Int32)
  (if (b2 1 2) < 0 then
  some (-1 : Int32)
  else
  (if (b2 1 2) < (b2 1 3) then
  (if (b2 1 2) < (600 : Int32) then
  (Option.bind (rdb b2 2 (b2 1 2)) fun v4 =>
  some (v4 &&& (255 : Int32))
  )
  else
  some (-1 : Int32)
  )
  else
  some (-1 : Int32)
  )
  )
  fun b3 =>
  some (b3, b2)
  )
  )
noncomputable def f_tap_hasMore42  (I : MJ) : Option (Int32 × MJ) :=
  (Option.bind (α := Int32 × MJ)
  (if (I 1 5) = 0 then
  (Option.bind (f_tap_next43 I) fun w2 =>
  (if w2.1 = (-1 : Int32) then
  some ((0 : Int32), w2.2)
  else
  some ((1 : Int32), w2.2)
  )
  )
  else
  some ((0 : Int32), I)
  )
  fun b1 =>
  some ((vp_nar .boolean b1.1), b1.2)
  )
noncomputable def f_tap_byteAt46 (p1 : Int32) (I : MJ) : Option (Int32) :=
  (Option.bind (α := Int32)
  (if p1 < 0 then
  some (0 : Int32)
  else
  (if p1 < (600 : Int32) then
  (Option.bind (rdb I 2 p1) fun v2 =>
  some (v2 &&& (255 : Int32))
  )
  else
  some (0 : Int32)
  )
  )
  fun b1 =>
  some b1
  )
noncomputable def f_tap_isLetter47 (p0 : Int32) (I : MJ) : Option (Int32) :=
  (Option.bind (α := Int32)
  (if p0 < (97 : Int32) then
  some (0 : Int32)
  else
  (if (122 : Int32) < p0 then
  some (0 : Int32)
  else
  some (1 : Int32)
  )
  )
  fun b1 =>
  some (vp_nar .boolean b1)
  )
noncomputable def f_tap_isSpelt49 (p1 : Nat) (p2 : Int32) (p3 : Int32) (I : MJ) : Option (Int32) :=
  (if (p3 - p2) = ((I 1 2) - (I 1 4)) then
  (if p2 < 0 then
  some (0 : Int32)
  else
  (Option.bind (sln p1) fun v1 =>
  (if v1 < p3 then
  some (0 : Int32)
  else
  (if (I 1 4) < 0 then
  some (0 : Int32)
  else
  (if (600 : Int32) < (I 1 2) then
  some (0 : Int32)
  else
  (wh (fun (s2 : Int32) =>
  (if s2 < (p3 - p2) then
  (Option.bind (sat p1 (p2 + s2)) fun v3 =>
  (Option.bind (rdb I 2 ((I 1 4) + s2)) fun v4 =>
  (if v3 = v4 then
  some (.inl (s2 + (1 : Int32)))
  else
  some (.inr (0 : Int32))
  )
  )
  )
  else
  some (.inr (1 : Int32))
  )
  ) (0 : Int32))
  )
  )
  )
  )
  )
  else
  some (0 : Int32)
  )
noncomputable def f_tap_placeIn48 (p1 : Nat) (I : MJ) : Option (Int32) :=
  (wh (fun (s1 : Int32 × Int32 × Int32) =>
  (Option.bind (sln p1) fun v2 =>
  (if v2 < s1.2.2 then
  some (.inr (-1 : Int32))
  else
  (Option.bind (sln p1) fun v3 =>
  (if s1.2.2 = v3 then
  (Option.bind (f_tap_isSpelt49 p1 s1.2.1 s1.2.2 I) fun v4 =>
  (if v4 = 0 then
  some (.inl ((s1.1 + (1 : Int32)), (s1.2.2 + (1 : Int32)), (s1.2.2 + (1 : Int32))))
  else
  some (.inr s1.1)
  )
  )
  else
  (Option.bind (sat p1 s1.2.2) fun v5 =>
  (if v5 = (32 : Int32) then
  (Option.bind (f_tap_isSpelt49 p1 s1.2.1 s1.2.2 I) fun v6 =>
  (if v6 = 0 then
  some (.inl ((s1.1 + (1 : Int32)), (s1.2.2 + (1 : Int32)), (s1.2.2 + (1 : Int32))))
  else
  some (.inr s1.1)
  )
  )
  else
  some (.inl (s1.1, s1.2.1, (s1.2.2 + (1 : Int32))))
  )
  )
  )
  )
  )
  )
  ) ((0 : Int32), (0 : Int32), (0 : Int32)))
noncomputable def f_tap_fail50 (p1 : Int32) (p2 : Int32) (I : MJ) : Option (MJ) :=
  (Option.bind (α := MJ)
  (if (I 1 5) = 0 then
  some (ab_up1 (ab_up1 I 1 5 p1) 1 6 p2)
  else
  some I
  )
  fun b1 =>
  some b1
  )
noncomputable def f_tap_word45 (p1 : Nat) (I : MJ) : Option (Int32 × MJ) :=
  (if (I 1 5) = 0 then
  (Option.bind (f_tap_next43 I) fun w1 =>
  (Option.bind (wh (β := MJ) (fun (s2 : MJ) =>
  (if (s2 1 2) < (s2 1 3) then
  (Option.bind (f_tap_byteAt46 (s2 1 2) s2) fun v7 =>
  (Option.bind (f_tap_isLetter47 v7 s2) fun v8 =>
  (if v8 = 0 then
  some (.inr s2)
  else
  some (.inl (ab_up1 s2 1 2 ((s2 1 2) + (1 : Int32))))
  )
  )
  )
  else
  some (.inr s2)
  )
  ) (ab_up1 w1.2 1 4 (w1.2 1 2))) fun b3 =>
  (Option.bind (f_tap_placeIn48 p1 b3) fun v4 =>
  (Option.bind (α := MJ)
  (if v4 = (-1 : Int32) then
  (Option.bind (f_tap_fail50 (1 : Int32) (b3 1 4) b3) fun I6 =>
  some I6
  )
  else
  some b3
  )
  fun b5 =>
  some (v4, b5)
  )
  )
  )
  )
  else
  some ((-1 : Int32), I)
  )
noncomputable def f_sho_needRoom52 (p1 : Int32) (p2 : Int32) (I : MJ) : Option (MJ) :=
  (Option.bind (α := MJ)
  (if p1 < p2 then
  some I
  else
  (Option.bind (f_tap_fail50 (3 : Int32) (I 1 4) I) fun I2 =>
  some I2
  )
  )
  fun b1 =>
  some b1
  )
noncomputable def f_x_put15 (p0 : Nat) (p1 : Int32) (p2 : Int32) (I : MJ) : Option (MJ) :=
  (Option.bind (α := MJ)
  (if p1 < 0 then
  some I
  else
  (Option.bind (lna p0) fun v2 =>
  (if p1 < v2 then
  (Option.bind (wr I p0 p1 p2) fun I3 =>
  some I3
  )
  else
  some I
  )
  )
  )
  fun b1 =>
  some b1
  )
noncomputable def f_tap_isDigit54 (p0 : Int32) (I : MJ) : Option (Int32) :=
  (Option.bind (α := Int32)
  (if p0 < (48 : Int32) then
  some (0 : Int32)
  else
  (if (57 : Int32) < p0 then
  some (0 : Int32)
  else
  some (1 : Int32)
  )
  )
  fun b1 =>
  some (vp_nar .boolean b1)
  )
noncomputable def f_tap_number53 (p1 : Int32) (p2 : Int32) (I : MJ) : Option (Int32 × MJ) :=
  (if (I 1 5) = 0 then
  (Option.bind (f_tap_next43 I) fun w1 =>
  (Option.bind (f_tap_isDigit54 w1.1 w1.2) fun v2 =>
  (if v2 = 0 then
  (Option.bind (f_tap_fail50 (1 : Int32) (w1.2 1 2) w1.2) fun I3 =>
  some (p1, I3)
  )
  else
  (Option.bind (wh (β := Int32 × MJ) (fun (s4 : Int32 × MJ) =>
  (if (s4.2 1 2) < (s4.2 1 3) then
  (Option.bind (f_tap_byteAt46 (s4.2 1 2) s4.2) fun v8 =>
  (Option.bind (f_tap_isDigit54 v8 s4.2) fun v9 =>
  (if v9 = 0 then
  some (.inr (s4.1, s4.2))
  else
  (Option.bind (f_tap_byteAt46 (s4.2 1 2) s4.2) fun v10 =>
  some (.inl ((if ((((10 : Int32) * s4.1) + v10) - (48 : Int32)) < (1000000 : Int32) then ((((10 : Int32) * s4.1) + v10) - (48 : Int32)) else (1000000 : Int32)), (ab_up1 s4.2 1 2 ((s4.2 1 2) + (1 : Int32)))))
  )
  )
  )
  )
  else
  some (.inr (s4.1, s4.2))
  )
  ) ((0 : Int32), (ab_up1 w1.2 1 4 (w1.2 1 2)))) fun b5 =>
  (if b5.1 < p1 then
  (Option.bind (f_tap_fail50 (2 : Int32) (b5.2 1 4) b5.2) fun I6 =>
  some (p1, I6)
  )
  else
  (if p2 < b5.1 then
  (Option.bind (f_tap_fail50 (2 : Int32) (b5.2 1 4) b5.2) fun I7 =>
  some (p1, I7)
  )
  else
  some (b5.1, b5.2)
  )
  )
  )
  )
  )
  )
  else
  some (p1, I)
  )
noncomputable def f_sho_readBolt51  (I : MJ) : Option (MJ) :=
  (Option.bind (f_sho_needRoom52 (I 9 5) (10 : Int32) I) fun I1 =>
  (Option.bind (f_tap_word45 2000001 I1) fun w2 =>
  (Option.bind (f_x_put15 10 (I1 9 5) w2.1 w2.2) fun I3 =>
  (Option.bind (f_tap_number53 (1 : Int32) (60 : Int32) I3) fun w4 =>
  (Option.bind (f_x_put15 11 (I3 9 5) w4.1 w4.2) fun I5 =>
  some (ab_up1 I5 9 5 ((I5 9 5) + (1 : Int32)))
  )
  )
  )
  )
  )
noncomputable def f_sho_readClient55  (I : MJ) : Option (MJ) :=
  (Option.bind (f_sho_needRoom52 (I 9 6) (6 : Int32) I) fun I1 =>
  (Option.bind (f_tap_number53 (0 : Int32) (9 : Int32) I1) fun w2 =>
  (Option.bind (f_x_put15 12 (I1 9 6) w2.1 w2.2) fun I3 =>
  some (ab_up1 I3 9 6 ((I3 9 6) + (1 : Int32)))
  )
  )
  )
noncomputable def f_sho_readWant56  (I : MJ) : Option (MJ) :=
  (Option.bind (f_sho_needRoom52 (I 9 7) (16 : Int32) I) fun I1 =>
  (Option.bind (f_tap_number53 (0 : Int32) ((I1 9 6) - (1 : Int32)) I1) fun w2 =>
  (Option.bind (f_x_put15 13 (((5 : Int32) * (I1 9 7)) + (0 : Int32)) w2.1 w2.2) fun I3 =>
  (Option.bind (f_tap_number53 (0 : Int32) (11 : Int32) I3) fun w4 =>
  (Option.bind (f_x_put15 13 (((5 : Int32) * (I1 9 7)) + (1 : Int32)) w4.1 w4.2) fun I5 =>
  (Option.bind (f_tap_number53 w4.1 (11 : Int32) I5) fun w6 =>
  (Option.bind (f_x_put15 13 (((5 : Int32) * (I1 9 7)) + (2 : Int32)) w6.1 w6.2) fun I7 =>
  (Option.bind (f_tap_word45 2000001 I7) fun w8 =>
  (Option.bind (f_x_put15 13 (((5 : Int32) * (I1 9 7)) + (3 : Int32)) w8.1 w8.2) fun I9 =>
  (Option.bind (f_tap_number53 (1 : Int32) (9 : Int32) I9) fun w10 =>
  (Option.bind (f_x_put15 13 (((5 : Int32) * (I1 9 7)) + (4 : Int32)) w10.1 w10.2) fun I11 =>
  some (ab_up1 I11 9 7 ((I11 9 7) + (1 : Int32)))
  )
  )
  )
  )
  )
  )
  )
  )
  )
  )
  )
noncomputable def f_sho_readOrder57  (I : MJ) : Option (MJ) :=
  (Option.bind (f_sho_needRoom52 (I 9 8) (8 : Int32) I) fun I1 =>
  (Option.bind (f_tap_number53 (0 : Int32) ((I1 9 6) - (1 : Int32)) I1) fun w2 =>
  (Option.bind (f_x_put15 14 (((5 : Int32) * (I1 9 8)) + (0 : Int32)) w2.1 w2.2) fun I3 =>
  (Option.bind (f_tap_number53 (0 : Int32) (5 : Int32) I3) fun w4 =>
  (Option.bind (f_x_put15 14 (((5 : Int32) * (I1 9 8)) + (1 : Int32)) w4.1 w4.2) fun I5 =>
  (Option.bind (f_tap_number53 (1 : Int32) (60 : Int32) I5) fun w6 =>
  (Option.bind (f_x_put15 14 (((5 : Int32) * (I1 9 8)) + (2 : Int32)) w6.1 w6.2) fun I7 =>
  (Option.bind (f_tap_number53 (0 : Int32) (999 : Int32) I7) fun w8 =>
  (Option.bind (f_x_put15 14 (((5 : Int32) * (I1 9 8)) + (3 : Int32)) w8.1 w8.2) fun I9 =>
  (Option.bind (f_tap_number53 (1 : Int32) (24 : Int32) I9) fun w10 =>
  (Option.bind (f_x_put15 14 (((5 : Int32) * (I1 9 8)) + (4 : Int32)) w10.1 w10.2) fun I11 =>
  some (ab_up1 I11 9 8 ((I11 9 8) + (1 : Int32)))
  )
  )
  )
  )
  )
  )
  )
  )
  )
  )
  )
noncomputable def f_sho_readClause44 (p2 : Int32) (I : MJ) : Option (MJ) :=
  (Option.bind (f_tap_word45 2000000 I) fun w1 =>
  (Option.bind (α := MJ)
  (if p2 < (60 : Int32) then
  some w1.2
  else
  (Option.bind (f_tap_fail50 (3 : Int32) (w1.2 1 4) w1.2) fun I10 =>
  some I10
  )
  )
  fun b2 =>
  (Option.bind (α := MJ)
  (if w1.1 = (0 : Int32) then
  (Option.bind (f_sho_readBolt51 b2) fun I4 =>
  some I4
  )
  else
  (if w1.1 = (1 : Int32) then
  (Option.bind (f_sho_readClient55 b2) fun I5 =>
  some I5
  )
  else
  (if w1.1 = (2 : Int32) then
  (Option.bind (f_sho_readWant56 b2) fun I6 =>
  some I6
  )
  else
  (if w1.1 = (3 : Int32) then
  (Option.bind (f_sho_readOrder57 b2) fun I7 =>
  some I7
  )
  else
  (if w1.1 = (4 : Int32) then
  (Option.bind (f_tap_number53 (0 : Int32) (9 : Int32) b2) fun w8 =>
  some (ab_up1 w8.2 9 9 w8.1)
  )
  else
  (if w1.1 = (5 : Int32) then
  (Option.bind (f_tap_number53 (1 : Int32) (24 : Int32) b2) fun w9 =>
  some (ab_up1 w9.2 9 10 w9.1)
  )
  else
  some b2
  ))))))
  fun b3 =>
  some b3
  )
  )
  )
noncomputable def f_tap_sign58 (p1 : Int32) (I : MJ) : Option (MJ) :=
  (if (I 1 5) = 0 then
  (Option.bind (f_tap_next43 I) fun w1 =>
  (Option.bind (α := Int32)
  (if w1.1 = p1 then
  some (1 : Int32)
  else
  some (0 : Int32)
  )
  fun b2 =>
  (Option.bind (α := MJ)
  (if b2 = 0 then
  (Option.bind (f_tap_fail50 (1 : Int32) (w1.2 1 2) (ab_up1 w1.2 1 4 (w1.2 1 2))) fun I4 =>
  some I4
  )
  else
  some (ab_up1 (ab_up1 w1.2 1 4 (w1.2 1 2)) 1 2 ((w1.2 1 2) + (1 : Int32)))
  )
  fun b3 =>
  some b3
  )
  )
  )
  else
  some I
  )
noncomputable def f_sho_readFrom41  (I : MJ) : Option (MJ) :=
  (Option.bind (wh (β := MJ) (fun (s1 : Int32 × MJ) =>
  (if (60 : Int32) < s1.1 then
  some (.inr s1.2)
  else
  (Option.bind (f_tap_hasMore42 s1.2) fun w3 =>
  (if w3.1 = 0 then
  some (.inr w3.2)
  else
  (Option.bind (f_sho_readClause44 s1.1 w3.2) fun I4 =>
  (Option.bind (f_tap_sign58 (59 : Int32) I4) fun I5 =>
  some (.inl ((s1.1 + (1 : Int32)), I5))
  )
  )
  )
  )
  )
  ) ((0 : Int32), (ab_up1 (ab_up1 (ab_up1 (ab_up1 (ab_up1 (ab_up1 I 9 5 (0 : Int32)) 9 6 (0 : Int32)) 9 7 (0 : Int32)) 9 8 (0 : Int32)) 9 9 (1 : Int32)) 9 10 (8 : Int32)))) fun b2 =>
  some b2
  )
noncomputable def f_tap_isSound59  (I : MJ) : Option (Int32) :=
  (Option.bind (α := Int32)
  (if (I 1 5) = 0 then
  some (1 : Int32)
  else
  some (0 : Int32)
  )
  fun b1 =>
  some (vp_nar .boolean b1)
  )
noncomputable def f_x_copy22 (p0 : Nat) (p1 : Int32) (p2 : Nat) (p3 : Int32) (p4 : Int32) (I : MJ) : Option (MJ) :=
  (if p1 < 0 then
  some I
  else
  (if p3 < 0 then
  some I
  else
  (if p4 < 0 then
  some I
  else
  (Option.bind (lna p0) fun v1 =>
  (Option.bind (α := MJ)
  (if (v1 - p4) < p1 then
  some I
  else
  (Option.bind (lna p2) fun v3 =>
  (if (v3 - p4) < p3 then
  some I
  else
  (Option.bind (acp I p0 p1 p2 p3 p4) fun I4 =>
  some I4
  )
  )
  )
  )
  fun b2 =>
  some b2
  )
  )
  )
  )
  )
noncomputable def f_sho_copyFrom60  (I : MJ) : Option (MJ) :=
  (Option.bind (f_x_copy22 10 (0 : Int32) 4 (0 : Int32) (10 : Int32) I) fun I1 =>
  (Option.bind (f_x_copy22 11 (0 : Int32) 5 (0 : Int32) (10 : Int32) I1) fun I2 =>
  (Option.bind (f_x_copy22 12 (0 : Int32) 6 (0 : Int32) (6 : Int32) I2) fun I3 =>
  (Option.bind (f_x_copy22 13 (0 : Int32) 7 (0 : Int32) (80 : Int32) I3) fun I4 =>
  (Option.bind (f_x_copy22 14 (0 : Int32) 8 (0 : Int32) (40 : Int32) I4) fun I5 =>
  some (ab_up1 (ab_up1 (ab_up1 (ab_up1 (ab_up1 (ab_up1 I5 3 5 (I5 9 5)) 3 6 (I5 9 6)) 3 7 (I5 9 7)) 3 8 (I5 9 8)) 3 9 (I5 9 9)) 3 10 (I5 9 10))
  )
  )
  )
  )
  )
noncomputable def f_x_fill10 (p0 : Nat) (p1 : Int32) (I : MJ) : Option (MJ) :=
  (Option.bind (wh (β := MJ) (fun (s1 : Int32 × MJ) =>
  (Option.bind (lna p0) fun v3 =>
  (if s1.1 < v3 then
  (Option.bind (wr s1.2 p0 s1.1 p1) fun I4 =>
  some (.inl ((s1.1 + (1 : Int32)), I4))
  )
  else
  some (.inr s1.2)
  )
  )
  ) ((0 : Int32), I)) fun b2 =>
  some b2
  )
noncomputable def f_sta_strip14 (p1 : Int32) (I : MJ) : Option (MJ) :=
  (Option.bind (f_x_put15 16 ((3 : Int32) + p1) (-1 : Int32) I) fun I1 =>
  some I1
  )
noncomputable def f_x_at16 (p0 : Nat) (p1 : Int32) (I : MJ) : Option (Int32) :=
  (Option.bind (α := Int32)
  (if p1 < 0 then
  some (0 : Int32)
  else
  (Option.bind (lna p0) fun v2 =>
  (if p1 < v2 then
  (Option.bind (rd I p0 p1) fun v3 =>
  some v3
  )
  else
  some (0 : Int32)
  )
  )
  )
  fun b1 =>
  some b1
  )
noncomputable def f_sta_begin13  (I : MJ) : Option (MJ) :=
  (Option.bind (f_x_fill10 16 (0 : Int32) I) fun I1 =>
  (Option.bind (wh (β := MJ) (fun (s2 : Int32 × MJ) =>
  (if s2.1 < (6 : Int32) then
  (Option.bind (f_sta_strip14 s2.1 s2.2) fun I8 =>
  some (.inl ((s2.1 + (1 : Int32)), I8))
  )
  else
  some (.inr s2.2)
  )
  ) ((0 : Int32), I1)) fun b3 =>
  (Option.bind (wh (β := MJ) (fun (s4 : Int32 × MJ) =>
  (if s4.1 < (s4.2 3 5) then
  (Option.bind (f_x_at16 5 s4.1 s4.2) fun v6 =>
  (Option.bind (f_x_put15 16 ((9 : Int32) + s4.1) v6 s4.2) fun I7 =>
  some (.inl ((s4.1 + (1 : Int32)), I7))
  )
  )
  else
  some (.inr s4.2)
  )
  ) ((0 : Int32), b3)) fun b5 =>
  some b5
  )
  )
  )
noncomputable def f_pat_forget61  (I : MJ) : Option (MJ) :=
  some (ab_up1 I 19 3 (0 : Int32))
noncomputable def f_mot_forget62  (I : MJ) : Option (MJ) :=
  some (ab_up1 I 23 4 (0 : Int32))
noncomputable def f_boo_forget63  (I : MJ) : Option (MJ) :=
  (Option.bind (f_x_fill10 36 (-1 : Int32) (ab_up1 I 35 3 (0 : Int32))) fun I1 =>
  some I1
  )
noncomputable def f_pas_forget64  (I : MJ) : Option (MJ) :=
  some (ab_up1 (ab_up1 I 31 3 (0 : Int32)) 31 4 (0 : Int32))
noncomputable def f_tap_close65 (p1 : Int32) (I : MJ) : Option (Int32 × MJ) :=
  (Option.bind (α := Int32)
  (if (I 1 5) = 0 then
  some p1
  else
  some ((I 1 5) - (10 : Int32))
  )
  fun b1 =>
  some (b1, (ab_up1 I 1 1 (0 : Int32)))
  )
noncomputable def f_x_shop36 (p1 : Int32) (I : MJ) : Option ((Nat ⊕ Int32) × MJ) :=
  (tb (f_x_needText37 p1 (600 : Int32) I) fun _ I2 =>
  (Option.bind (f_tap_open40 p1 I2) fun I3 =>
  (Option.bind (f_sho_readFrom41 I3) fun I4 =>
  (Option.bind (f_tap_isSound59 I4) fun v5 =>
  (Option.bind (α := MJ)
  (if v5 = 0 then
  some I4
  else
  (Option.bind (f_sho_copyFrom60 I4) fun I8 =>
  (Option.bind (f_sta_begin13 I8) fun I9 =>
  (Option.bind (f_pat_forget61 I9) fun I10 =>
  (Option.bind (f_mot_forget62 I10) fun I11 =>
  (Option.bind (f_boo_forget63 I11) fun I12 =>
  (Option.bind (f_pas_forget64 I12) fun I13 =>
  some (ab_up1 I13 0 13 (0 : Int32))
  )
  )
  )
  )
  )
  )
  )
  fun b6 =>
  (Option.bind (f_tap_close65 (b6 3 6) b6) fun w7 =>
  some (.inr w7.1, w7.2)
  )
  )
  )
  )
  )
  )
noncomputable def f_l_shop35 (p1 : Int32) (I : MJ) (g : GG) : Option (Int32 × MJ × GG) :=
  (tryb (f_x_shop36 p1 I) (fun v1 I2 =>
  (Option.bind (wrl g 698 (0 : Int32) (v1.toInt64)) fun g3 =>
  some ((0 : Int32), I2, g3)
  )
  ) (fun E2 I2 =>
  (if E2 = 1 then
  some ((1 : Int32), I2, (thr g))
  else
  none)
  ))
noncomputable def f_m_in264 (p0 : Int32) (p1 : Int32) (p2 : Int32) (I : MJ) : Option (Int32) :=
  (Option.bind (α := Int32)
  (if p0 < p1 then
  some (0 : Int32)
  else
  (if p2 < p0 then
  some (0 : Int32)
  else
  some (1 : Int32)
  )
  )
  fun b1 =>
  some (vp_nar .boolean b1)
  )
noncomputable def f_m_bad268 (p1 : Int32) (p2 : Int32) (p3 : Int32) (I : MJ) : Option (Int32 × MJ) :=
  (Option.bind (α := MJ)
  (if p1 = 0 then
  some I
  else
  (if (I 47 0) = 0 then
  (Option.bind (rd (ab_up1 I 47 0 p2) 49 p3) fun v3 =>
  (Option.bind (wr (ab_up1 I 47 0 p2) 49 p3 (v3 + (1 : Int32))) fun I4 =>
  some I4
  )
  )
  else
  some I
  )
  )
  fun b1 =>
  (Option.bind (α := Int32)
  (if (b1 47 0) = 0 then
  some (0 : Int32)
  else
  some (1 : Int32)
  )
  fun b2 =>
  some ((vp_nar .boolean b2), b1)
  )
  )
noncomputable def f_m_byteAt271 (p1 : Int32) (I : MJ) : Option (Int32) :=
  (Option.bind (α := Int32)
  (if p1 < (I 47 2) then
  (Option.bind (rd I 48 p1) fun v2 =>
  some v2
  )
  else
  some (-1 : Int32)
  )
  fun b1 =>
  some b1
  )
noncomputable def f_m_blanks270  (I : MJ) : Option (MJ) :=
  (Option.bind (wh (β := MJ) (fun (s1 : MJ) =>
  (Option.bind (f_m_byteAt271 (s1 47 4) s1) fun v3 =>
  (if v3 = (32 : Int32) then
  some (.inl (ab_up1 s1 47 4 ((s1 47 4) + (1 : Int32))))
  else
  some (.inr s1)
  )
  )
  ) I) fun b2 =>
  some b2
  )
noncomputable def f_m_starts269 (p1 : Int32) (I : MJ) : Option (MJ) :=
  (Option.bind (f_m_blanks270 (ab_up1 (ab_up1 (ab_up1 (ab_up1 (ab_up1 (ab_up1 (ab_up1 I 47 1 (0 : Int32)) 47 2 p1) 47 4 (0 : Int32)) 47 5 (0 : Int32)) 47 6 (-1 : Int32)) 47 7 (0 : Int32)) 47 8 (0 : Int32))) fun I1 =>
  some I1
  )
noncomputable def f_m_tellsNothing261  (I : MJ) : Option (MJ) :=
  (Option.bind (wh (β := MJ) (fun (s1 : Int32 × MJ) =>
  (if s1.1 < (4 : Int32) then
  (Option.bind (wr s1.2 50 s1.1 (0 : Int32)) fun I3 =>
  some (.inl ((s1.1 + (1 : Int32)), I3))
  )
  else
  some (.inr s1.2)
  )
  ) ((0 : Int32), I)) fun b2 =>
  some (ab_up1 (ab_up1 b2 50 4 (1 : Int32)) 50 5 (8 : Int32))
  )
noncomputable def f_m_isSmall276 (p0 : Int32) (I : MJ) : Option (Int32) :=
  (Option.bind (α := Int32)
  (if p0 < (97 : Int32) then
  some (0 : Int32)
  else
  (if (122 : Int32) < p0 then
  some (0 : Int32)
  else
  some (1 : Int32)
  )
  )
  fun b1 =>
  some (vp_nar .boolean b1)
  )
noncomputable def f_m_wordHere275  (I : MJ) : Option (Int32 × MJ) :=
  (Option.bind (f_m_blanks270 I) fun I1 =>
  (Option.bind (wh (β := Int32 × Int32) (fun (s2 : Int32 × Int32) =>
  (Option.bind (f_m_byteAt271 ((I1 47 4) + s2.2) I1) fun v5 =>
  (Option.bind (f_m_isSmall276 v5 I1) fun v6 =>
  (if v6 = 0 then
  some (.inr (s2.1, s2.2))
  else
  (Option.bind (α := Int32)
  (if s2.2 < (6 : Int32) then
  (Option.bind (f_m_byteAt271 ((I1 47 4) + s2.2) I1) fun v8 =>
  some (((((27 : Int32) * s2.1) + v8) - (97 : Int32)) + (1 : Int32))
  )
  else
  some s2.1
  )
  fun b7 =>
  some (.inl (b7, (s2.2 + (1 : Int32))))
  )
  )
  )
  )
  ) ((0 : Int32), (0 : Int32))) fun b3 =>
  (Option.bind (α := Int32)
  (if (6 : Int32) < b3.2 then
  some (-1 : Int32)
  else
  some b3.1
  )
  fun b4 =>
  some (b4, I1)
  )
  )
  )
noncomputable def f_m_six277 (p0 : Int32) (p1 : Int32) (p2 : Int32) (p3 : Int32) (p4 : Int32) (p5 : Int32) (I : MJ) : Option (Int32) :=
  (Option.bind (α := Int32)
  (if p3 = 0 then
  some (((27 : Int32) * (((27 : Int32) * p0) + p1)) + p2)
  else
  some (((27 : Int32) * (((27 : Int32) * (((27 : Int32) * p0) + p1)) + p2)) + p3)
  )
  fun b1 =>
  (Option.bind (α := Int32)
  (if p4 = 0 then
  some b1
  else
  some (((27 : Int32) * b1) + p4)
  )
  fun b2 =>
  (Option.bind (α := Int32)
  (if p5 = 0 then
  some b2
  else
  some (((27 : Int32) * b2) + p5)
  )
  fun b3 =>
  some b3
  )
  )
  )
noncomputable def f_m_isWord274 (p1 : Int32) (p2 : Int32) (p3 : Int32) (p4 : Int32) (p5 : Int32) (p6 : Int32) (I : MJ) : Option (Int32 × MJ) :=
  (Option.bind (α := Int32 × MJ)
  (if (I 47 5) = 0 then
  (Option.bind (f_m_wordHere275 I) fun w2 =>
  (Option.bind (f_m_six277 p1 p2 p3 p4 p5 p6 w2.2) fun v3 =>
  (if w2.1 = v3 then
  some ((1 : Int32), w2.2)
  else
  some ((0 : Int32), w2.2)
  )
  )
  )
  else
  some ((0 : Int32), I)
  )
  fun b1 =>
  some ((vp_nar .boolean b1.1), b1.2)
  )
noncomputable def f_m_kindHere273  (I : MJ) : Option (Int32 × MJ) :=
  (Option.bind (f_m_isWord274 (2 : Int32) (15 : Int32) (12 : Int32) (20 : Int32) (0 : Int32) (0 : Int32) I) fun w1 =>
  (if w1.1 = 0 then
  (Option.bind (f_m_isWord274 (3 : Int32) (12 : Int32) (9 : Int32) (5 : Int32) (14 : Int32) (20 : Int32) w1.2) fun w2 =>
  (if w2.1 = 0 then
  (Option.bind (f_m_isWord274 (23 : Int32) (1 : Int32) (14 : Int32) (20 : Int32) (19 : Int32) (0 : Int32) w2.2) fun w3 =>
  (if w3.1 = 0 then
  (Option.bind (f_m_isWord274 (15 : Int32) (18 : Int32) (4 : Int32) (5 : Int32) (18 : Int32) (0 : Int32) w3.2) fun w4 =>
  (if w4.1 = 0 then
  (Option.bind (f_m_isWord274 (19 : Int32) (5 : Int32) (1 : Int32) (13 : Int32) (0 : Int32) (0 : Int32) w4.2) fun w5 =>
  (if w5.1 = 0 then
  (Option.bind (f_m_isWord274 (8 : Int32) (1 : Int32) (14 : Int32) (4 : Int32) (19 : Int32) (0 : Int32) w5.2) fun w6 =>
  (Option.bind (α := Int32)
  (if w6.1 = 0 then
  some (-1 : Int32)
  else
  some (5 : Int32)
  )
  fun b7 =>
  some (b7, w6.2)
  )
  )
  else
  some ((4 : Int32), w5.2)
  )
  )
  else
  some ((3 : Int32), w4.2)
  )
  )
  else
  some ((2 : Int32), w3.2)
  )
  )
  else
  some ((1 : Int32), w2.2)
  )
  )
  else
  some ((0 : Int32), w1.2)
  )
  )
noncomputable def f_m_wrong278 (p1 : Int32) (p2 : Int32) (I : MJ) : Option (MJ) :=
  (Option.bind (α := MJ)
  (if (I 47 5) = 0 then
  some (ab_up1 (ab_up1 I 47 5 p1) 47 6 p2)
  else
  some I
  )
  fun b1 =>
  some b1
  )
noncomputable def f_m_isFull279 (p1 : Int32) (I : MJ) : Option (Int32) :=
  (Option.bind (α := Int32)
  (if p1 = 0 then
  (if (I 50 0) = (10 : Int32) then
  some (1 : Int32)
  else
  (if p1 = (1 : Int32) then
  (if (I 50 1) = (6 : Int32) then
  some (1 : Int32)
  else
  (if p1 = (2 : Int32) then
  (if (I 50 2) = (16 : Int32) then
  some (1 : Int32)
  else
  (if p1 = (3 : Int32) then
  (if (I 50 3) = (8 : Int32) then
  some (1 : Int32)
  else
  some (0 : Int32)
  )
  else
  some (0 : Int32)
  )
  )
  else
  (if p1 = (3 : Int32) then
  (if (I 50 3) = (8 : Int32) then
  some (1 : Int32)
  else
  some (0 : Int32)
  )
  else
  some (0 : Int32)
  )
  )
  )
  else
  (if p1 = (2 : Int32) then
  (if (I 50 2) = (16 : Int32) then
  some (1 : Int32)
  else
  (if p1 = (3 : Int32) then
  (if (I 50 3) = (8 : Int32) then
  some (1 : Int32)
  else
  some (0 : Int32)
  )
  else
  some (0 : Int32)
  )
  )
  else
  (if p1 = (3 : Int32) then
  (if (I 50 3) = (8 : Int32) then
  some (1 : Int32)
  else
  some (0 : Int32)
  )
  else
  some (0 : Int32)
  )
  )
  )
  )
  else
  (if p1 = (1 : Int32) then
  (if (I 50 1) = (6 : Int32) then
  some (1 : Int32)
  else
  (if p1 = (2 : Int32) then
  (if (I 50 2) = (16 : Int32) then
  some (1 : Int32)
  else
  (if p1 = (3 : Int32) then
  (if (I 50 3) = (8 : Int32) then
  some (1 : Int32)
  else
  some (0 : Int32)
  )
  else
  some (0 : Int32)
  )
  )
  else
  (if p1 = (3 : Int32) then
  (if (I 50 3) = (8 : Int32) then
  some (1 : Int32)
  else
  some (0 : Int32)
  )
  else
  some (0 : Int32)
  )
  )
  )
  else
  (if p1 = (2 : Int32) then
  (if (I 50 2) = (16 : Int32) then
  some (1 : Int32)
  else
  (if p1 = (3 : Int32) then
  (if (I 50 3) = (8 : Int32) then
  some (1 : Int32)
  else
  some (0 : Int32)
  )
  else
  some (0 : Int32)
  )
  )
  else
  (if p1 = (3 : Int32) then
  (if (I 50 3) = (8 : Int32) then
  some (1 : Int32)
  else
  some (0 : Int32)
  )
  else
  some (0 : Int32)
  )
  )
  )
  )
  fun b1 =>
  some (vp_nar .boolean b1)
  )
noncomputable def f_m_skipWord280  (I : MJ) : Option (MJ) :=
  (Option.bind (wh (β := MJ) (fun (s1 : MJ) =>
  (Option.bind (f_m_byteAt271 (s1 47 4) s1) fun v3 =>
  (Option.bind (f_m_isSmall276 v3 s1) fun v4 =>
  (if v4 = 0 then
  some (.inr s1)
  else
  some (.inl (ab_up1 s1 47 4 ((s1 47 4) + (1 : Int32))))
  )
  )
  )
  ) I) fun b2 =>
  some b2
  )
noncomputable def f_m_takes282 (p1 : Int32) (p2 : Int32) (p3 : Int32) (p4 : Int32) (p5 : Int32) (p6 : Int32) (I : MJ) : Option (Int32 × MJ) :=
  (Option.bind (f_m_isWord274 p1 p2 p3 p4 p5 p6 I) fun w1 =>
  (Option.bind (α := MJ)
  (if w1.1 = 0 then
  some w1.2
  else
  (Option.bind (f_m_skipWord280 w1.2) fun I3 =>
  some I3
  )
  )
  fun b2 =>
  some ((vp_nar .boolean w1.1), b2)
  )
  )
noncomputable def f_m_skyHere281  (I : MJ) : Option (Int32 × MJ) :=
  (Option.bind (f_m_takes282 (19 : Int32) (21 : Int32) (14 : Int32) (0 : Int32) (0 : Int32) (0 : Int32) I) fun w1 =>
  (if w1.1 = 0 then
  (Option.bind (f_m_takes282 (18 : Int32) (1 : Int32) (9 : Int32) (14 : Int32) (0 : Int32) (0 : Int32) w1.2) fun w2 =>
  (if w2.1 = 0 then
  (Option.bind (f_m_takes282 (7 : Int32) (18 : Int32) (5 : Int32) (25 : Int32) (0 : Int32) (0 : Int32) w2.2) fun w3 =>
  (if w3.1 = 0 then
  (Option.bind (f_m_takes282 (23 : Int32) (9 : Int32) (14 : Int32) (4 : Int32) (0 : Int32) (0 : Int32) w3.2) fun w4 =>
  (if w4.1 = 0 then
  (Option.bind (f_m_takes282 (6 : Int32) (18 : Int32) (15 : Int32) (19 : Int32) (20 : Int32) (0 : Int32) w4.2) fun w5 =>
  (if w5.1 = 0 then
  (Option.bind (f_m_takes282 (6 : Int32) (15 : Int32) (7 : Int32) (0 : Int32) (0 : Int32) (0 : Int32) w5.2) fun w6 =>
  (if w6.1 = 0 then
  (Option.bind (f_m_blanks270 w6.2) fun I7 =>
  (Option.bind (f_m_wrong278 (1 : Int32) (I7 47 4) I7) fun I8 =>
  some ((0 : Int32), I8)
  )
  )
  else
  some ((5 : Int32), w6.2)
  )
  )
  else
  some ((4 : Int32), w5.2)
  )
  )
  else
  some ((3 : Int32), w4.2)
  )
  )
  else
  some ((2 : Int32), w3.2)
  )
  )
  else
  some ((1 : Int32), w2.2)
  )
  )
  else
  some ((0 : Int32), w1.2)
  )
  )
noncomputable def f_m_isDigit284 (p0 : Int32) (I : MJ) : Option (Int32) :=
  (Option.bind (α := Int32)
  (if p0 < (48 : Int32) then
  some (0 : Int32)
  else
  (if (57 : Int32) < p0 then
  some (0 : Int32)
  else
  some (1 : Int32)
  )
  )
  fun b1 =>
  some (vp_nar .boolean b1)
  )
noncomputable def f_m_number283 (p1 : Int32) (p2 : Int32) (I : MJ) : Option (Int32 × MJ) :=
  (if (I 47 5) = 0 then
  (Option.bind (f_m_blanks270 I) fun I1 =>
  (Option.bind (f_m_byteAt271 (I1 47 4) I1) fun v2 =>
  (Option.bind (f_m_isDigit284 v2 I1) fun v3 =>
  (Option.bind (α := MJ)
  (if v3 = 0 then
  (Option.bind (f_m_wrong278 (1 : Int32) (I1 47 4) I1) fun I15 =>
  some I15
  )
  else
  some I1
  )
  fun b4 =>
  (Option.bind (wh (β := Int32 × MJ) (fun (s5 : Int32 × MJ) =>
  (Option.bind (f_m_byteAt271 (s5.2 47 4) s5.2) fun v11 =>
  (Option.bind (f_m_isDigit284 v11 s5.2) fun v12 =>
  (if v12 = 0 then
  some (.inr (s5.1, s5.2))
  else
  (Option.bind (f_m_byteAt271 (s5.2 47 4) s5.2) fun v13 =>
  (Option.bind (α := Int32)
  (if (100000 : Int32) < ((((10 : Int32) * s5.1) + v13) - (48 : Int32)) then
  some (100000 : Int32)
  else
  some ((((10 : Int32) * s5.1) + v13) - (48 : Int32))
  )
  fun b14 =>
  some (.inl (b14, (ab_up1 s5.2 47 4 ((s5.2 47 4) + (1 : Int32)))))
  )
  )
  )
  )
  )
  ) ((0 : Int32), b4)) fun b6 =>
  (Option.bind (f_m_in264 b6.1 p1 p2 b6.2) fun v7 =>
  (Option.bind (α := MJ)
  (if v7 = 0 then
  (Option.bind (f_m_wrong278 (2 : Int32) (I1 47 4) b6.2) fun I10 =>
  some I10
  )
  else
  some b6.2
  )
  fun b8 =>
  (Option.bind (α := Int32)
  (if (b8 47 5) = 0 then
  some b6.1
  else
  some (0 : Int32)
  )
  fun b9 =>
  some (b9, b8)
  )
  )
  )
  )
  )
  )
  )
  )
  else
  some ((0 : Int32), I)
  )
noncomputable def f_m_sign285 (p1 : Int32) (I : MJ) : Option (MJ) :=
  (if (I 47 5) = 0 then
  (Option.bind (f_m_blanks270 I) fun I1 =>
  (Option.bind (f_m_byteAt271 (I1 47 4) I1) fun v2 =>
  (Option.bind (α := MJ)
  (if v2 = p1 then
  some (ab_up1 I1 47 4 ((I1 47 4) + (1 : Int32)))
  else
  (Option.bind (f_m_wrong278 (1 : Int32) (I1 47 4) I1) fun I4 =>
  some I4
  )
  )
  fun b3 =>
  some b3
  )
  )
  )
  else
  some I
  )
noncomputable def f_m_clause272  (I : MJ) : Option (MJ) :=
  (Option.bind (f_m_kindHere273 I) fun w1 =>
  (Option.bind (α := MJ)
  (if w1.1 = (-1 : Int32) then
  (Option.bind (f_m_wrong278 (1 : Int32) (w1.2 47 4) w1.2) fun I43 =>
  some I43
  )
  else
  (if (w1.2 47 7) = (60 : Int32) then
  (Option.bind (f_m_wrong278 (3 : Int32) (w1.2 47 4) w1.2) fun I44 =>
  some I44
  )
  else
  (Option.bind (f_m_isFull279 w1.1 w1.2) fun v45 =>
  (if v45 = 0 then
  some w1.2
  else
  (Option.bind (f_m_wrong278 (3 : Int32) (w1.2 47 4) w1.2) fun I46 =>
  some I46
  )
  )
  )
  )
  )
  fun b2 =>
  (if (b2 47 5) = 0 then
  (Option.bind (f_m_skipWord280 b2) fun I3 =>
  (Option.bind (α := MJ)
  (if w1.1 = (0 : Int32) then
  (Option.bind (rdp 54 (I3 50 0)) fun r10 =>
  (Option.bind (f_m_skyHere281 (ab_up1 I3 47 7 ((I3 47 7) + (1 : Int32)))) fun w11 =>
  (Option.bind (wr w11.2 r10 (0 : Int32) w11.1) fun I12 =>
  (Option.bind (rdp 54 (I12 50 0)) fun r13 =>
  (Option.bind (f_m_number283 (1 : Int32) (60 : Int32) I12) fun w14 =>
  (Option.bind (wr w14.2 r13 (1 : Int32) w14.1) fun I15 =>
  some I15
  )
  )
  )
  )
  )
  )
  else
  (if w1.1 = (1 : Int32) then
  (Option.bind (f_m_number283 (0 : Int32) (9 : Int32) (ab_up1 I3 47 7 ((I3 47 7) + (1 : Int32)))) fun w16 =>
  (Option.bind (wr w16.2 52 (I3 50 1) w16.1) fun I17 =>
  some I17
  )
  )
  else
  (if w1.1 = (2 : Int32) then
  (Option.bind (rdp 76 (I3 50 2)) fun r18 =>
  (Option.bind (f_m_number283 (0 : Int32) ((I3 50 1) - (1 : Int32)) (ab_up1 I3 47 7 ((I3 47 7) + (1 : Int32)))) fun w19 =>
  (Option.bind (wr w19.2 r18 (0 : Int32) w19.1) fun I20 =>
  (Option.bind (f_m_number283 (0 : Int32) (11 : Int32) I20) fun w21 =>
  (Option.bind (wr w21.2 r18 (1 : Int32) w21.1) fun I22 =>
  (Option.bind (rd I22 r18 (1 : Int32)) fun v23 =>
  (Option.bind (f_m_number283 v23 (11 : Int32) I22) fun w24 =>
  (Option.bind (wr w24.2 r18 (2 : Int32) w24.1) fun I25 =>
  (Option.bind (f_m_skyHere281 I25) fun w26 =>
  (Option.bind (wr w26.2 r18 (3 : Int32) w26.1) fun I27 =>
  (Option.bind (f_m_number283 (1 : Int32) (9 : Int32) I27) fun w28 =>
  (Option.bind (wr w28.2 r18 (4 : Int32) w28.1) fun I29 =>
  some I29
  )
  )
  )
  )
  )
  )
  )
  )
  )
  )
  )
  )
  else
  (if w1.1 = (3 : Int32) then
  (Option.bind (rdp 110 (I3 50 3)) fun r30 =>
  (Option.bind (f_m_number283 (0 : Int32) ((I3 50 1) - (1 : Int32)) (ab_up1 I3 47 7 ((I3 47 7) + (1 : Int32)))) fun w31 =>
  (Option.bind (wr w31.2 r30 (0 : Int32) w31.1) fun I32 =>
  (Option.bind (f_m_number283 (0 : Int32) (5 : Int32) I32) fun w33 =>
  (Option.bind (wr w33.2 r30 (1 : Int32) w33.1) fun I34 =>
  (Option.bind (f_m_number283 (1 : Int32) (60 : Int32) I34) fun w35 =>
  (Option.bind (wr w35.2 r30 (2 : Int32) w35.1) fun I36 =>
  (Option.bind (f_m_number283 (0 : Int32) (999 : Int32) I36) fun w37 =>
  (Option.bind (wr w37.2 r30 (3 : Int32) w37.1) fun I38 =>
  (Option.bind (f_m_number283 (1 : Int32) (24 : Int32) I38) fun w39 =>
  (Option.bind (wr w39.2 r30 (4 : Int32) w39.1) fun I40 =>
  some I40
  )
  )
  )
  )
  )
  )
  )
  )
  )
  )
  )
  else
  (if w1.1 = (4 : Int32) then
  (Option.bind (f_m_number283 (0 : Int32) (9 : Int32) (ab_up1 I3 47 7 ((I3 47 7) + (1 : Int32)))) fun w41 =>
  (if (w41.2 47 5) = 0 then
  some (ab_up1 w41.2 50 4 w41.1)
  else
  some w41.2
  )
  )
  else
  (Option.bind (f_m_number283 (1 : Int32) (24 : Int32) (ab_up1 I3 47 7 ((I3 47 7) + (1 : Int32)))) fun w42 =>
  (if (w42.2 47 5) = 0 then
  some (ab_up1 w42.2 50 5 w42.1)
  else
  some w42.2
  )
  )
  )))))
  fun b4 =>
  (Option.bind (α := MJ)
  (if w1.1 < (4 : Int32) then
  (Option.bind (rd b4 50 w1.1) fun v7 =>
  (Option.bind (α := Int32)
  (if (b4 47 5) = 0 then
  some (1 : Int32)
  else
  some (0 : Int32)
  )
  fun b8 =>
  (Option.bind (wr b4 50 w1.1 (v7 + b8)) fun I9 =>
  some I9
  )
  )
  )
  else
  some b4
  )
  fun b5 =>
  (Option.bind (f_m_sign285 (59 : Int32) b5) fun I6 =>
  some I6
  )
  )
  )
  )
  else
  some b2
  )
  )
  )
noncomputable def f_m_ends286  (I : MJ) : Option (Int32 × MJ) :=
  some (((I 47 5) - (10 : Int32)), (ab_up1 I 47 3 (I 47 6)))
noncomputable def f_m_lays263 (p0 : Nat) (p1 : Nat) (p2 : Int32) (I : MJ) : Option (MJ) :=
  (Option.bind (wh (β := MJ) (fun (s1 : Int32 × MJ) =>
  (if s1.1 < p2 then
  (Option.bind (wh (β := MJ) (fun (s3 : Int32 × MJ) =>
  (Option.bind (rdp p1 s1.1) fun r5 =>
  (Option.bind (lna r5) fun v6 =>
  (if s3.1 < v6 then
  (Option.bind (rdp p1 s1.1) fun r7 =>
  (Option.bind (rdp p0 s1.1) fun r8 =>
  (Option.bind (rd s3.2 r8 s3.1) fun v9 =>
  (Option.bind (wr s3.2 r7 s3.1 v9) fun I10 =>
  some (.inl ((s3.1 + (1 : Int32)), I10))
  )
  )
  )
  )
  else
  some (.inr s3.2)
  )
  )
  )
  ) ((0 : Int32), s1.2)) fun b4 =>
  some (.inl ((s1.1 + (1 : Int32)), b4))
  )
  else
  some (.inr s1.2)
  )
  ) ((0 : Int32), I)) fun b2 =>
  some b2
  )
noncomputable def f_m_stands262  (I : MJ) : Option (MJ) :=
  (Option.bind (wh (β := MJ) (fun (s1 : Int32 × MJ) =>
  (if s1.1 < (6 : Int32) then
  (Option.bind (rd s1.2 50 s1.1) fun v23 =>
  (Option.bind (wr s1.2 51 s1.1 v23) fun I24 =>
  some (.inl ((s1.1 + (1 : Int32)), I24))
  )
  )
  else
  some (.inr s1.2)
  )
  ) ((0 : Int32), I)) fun b2 =>
  (Option.bind (wh (β := MJ) (fun (s3 : Int32 × MJ) =>
  (if s3.1 < (s3.2 51 1) then
  (Option.bind (rd s3.2 52 s3.1) fun v21 =>
  (Option.bind (wr s3.2 53 s3.1 v21) fun I22 =>
  some (.inl ((s3.1 + (1 : Int32)), I22))
  )
  )
  else
  some (.inr s3.2)
  )
  ) ((0 : Int32), b2)) fun b4 =>
  (Option.bind (f_m_lays263 54 65 (b4 51 0) b4) fun I5 =>
  (Option.bind (f_m_lays263 76 93 (I5 51 2) I5) fun I6 =>
  (Option.bind (f_m_lays263 110 119 (I6 51 3) I6) fun I7 =>
  (Option.bind (wh (β := MJ) (fun (s8 : Int32 × MJ) =>
  (if s8.1 < (91 : Int32) then
  (Option.bind (f_m_in264 s8.1 (82 : Int32) (87 : Int32) s8.2) fun v18 =>
  (Option.bind (α := Int32)
  (if v18 = 0 then
  some (0 : Int32)
  else
  some (-1 : Int32)
  )
  fun b19 =>
  (Option.bind (wr s8.2 576 s8.1 b19) fun I20 =>
  some (.inl ((s8.1 + (1 : Int32)), I20))
  )
  )
  )
  else
  some (.inr s8.2)
  )
  ) ((0 : Int32), I7)) fun b9 =>
  (Option.bind (wh (β := MJ) (fun (s10 : Int32 × MJ) =>
  (if s10.1 < (s10.2 51 0) then
  (Option.bind (rdp 65 s10.1) fun r15 =>
  (Option.bind (rd s10.2 r15 (1 : Int32)) fun v16 =>
  (Option.bind (wr s10.2 576 ((0 : Int32) + s10.1) v16) fun I17 =>
  some (.inl ((s10.1 + (1 : Int32)), I17))
  )
  )
  )
  else
  some (.inr s10.2)
  )
  ) ((0 : Int32), b9)) fun b11 =>
  (Option.bind (wh (β := MJ) (fun (s12 : Int32 × MJ) =>
  (if s12.1 < (6 : Int32) then
  (Option.bind (wrb s12.2 135 s12.1 (0 : Int32)) fun I14 =>
  some (.inl ((s12.1 + (1 : Int32)), I14))
  )
  else
  some (.inr s12.2)
  )
  ) ((0 : Int32), b11)) fun b13 =>
  some (ab_up1 (ab_up1 (ab_up1 (ab_up1 (ab_up1 b13 47 25 (0 : Int32)) 47 39 (0 : Int32)) 47 40 (0 : Int32)) 47 41 (0 : Int32)) 47 42 (0 : Int32))
  )
  )
  )
  )
  )
  )
  )
  )
noncomputable def f_m_shop267 (p1 : Int32) (I : MJ) : Option (Int32 × MJ) :=
  (Option.bind (f_m_in264 p1 (0 : Int32) (I 47 1) (ab_up1 I 47 0 (0 : Int32))) fun v1 =>
  (Option.bind (α := Int32)
  (if v1 = 0 then
  some (1 : Int32)
  else
  some (0 : Int32)
  )
  fun b2 =>
  (Option.bind (f_m_bad268 b2 (1 : Int32) (1 : Int32) (ab_up1 I 47 0 (0 : Int32))) fun w3 =>
  (if w3.1 = 0 then
  (Option.bind (f_m_starts269 p1 w3.2) fun I4 =>
  (Option.bind (f_m_tellsNothing261 I4) fun I5 =>
  (Option.bind (wh (β := MJ) (fun (s6 : MJ) =>
  (if (s6 47 5) = 0 then
  (if (s6 47 4) < (s6 47 2) then
  (Option.bind (f_m_clause272 s6) fun I10 =>
  (Option.bind (f_m_blanks270 I10) fun I11 =>
  some (.inl I11)
  )
  )
  else
  some (.inr s6)
  )
  else
  some (.inr s6)
  )
  ) I5) fun b7 =>
  (if (b7 47 5) = 0 then
  (Option.bind (f_m_stands262 (ab_up1 b7 47 3 (-1 : Int32))) fun I8 =>
  some ((I8 51 1), I8)
  )
  else
  (Option.bind (f_m_ends286 b7) fun w9 =>
  some (w9.1, w9.2)
  )
  )
  )
  )
  )
  else
  some ((0 : Int32), w3.2)
  )
  )
  )
  )
noncomputable def f_m_thrown265  (I : MJ) : Option (Int32) :=
  some (I 47 0)
noncomputable def f_x_refuseElement70  (I : MJ) : Option ((Nat ⊕ Unit) × MJ) :=
  some (.inl 0, (ab_up1 I 0 14 ((I 0 14) + (1 : Int32))))
noncomputable def f_x_needElement69 (p1 : Int32) (p2 : Int32) (I : MJ) : Option ((Nat ⊕ Unit) × MJ) :=
  (if p1 < 0 then
  (tb (f_x_refuseElement70 I) fun _ I2 =>
  some (.inr (), I2)
  )
  else
  (if p1 < p2 then
  some (.inr (), I)
  else
  (tb (f_x_refuseElement70 I) fun _ I4 =>
  some (.inr (), I4)
  )
  )
  )
noncomputable def f_x_needPattern68 (p1 : Int32) (I : MJ) : Option ((Nat ⊕ Unit) × MJ) :=
  (tb (f_x_needElement69 p1 (6 : Int32) I) fun _ I2 =>
  some (.inr (), I2)
  )
noncomputable def f_tap_isNext73 (p1 : Int32) (I : MJ) : Option (Int32 × MJ) :=
  (Option.bind (α := Int32 × MJ)
  (if (I 1 5) = 0 then
  (Option.bind (f_tap_next43 I) fun w2 =>
  (if w2.1 = p1 then
  some ((1 : Int32), w2.2)
  else
  some ((0 : Int32), w2.2)
  )
  )
  else
  some ((0 : Int32), I)
  )
  fun b1 =>
  some ((vp_nar .boolean b1.1), b1.2)
  )
noncomputable def f_tap_isNumberNext74  (I : MJ) : Option (Int32 × MJ) :=
  (Option.bind (α := Int32 × MJ)
  (if (I 1 5) = 0 then
  (Option.bind (f_tap_next43 I) fun w2 =>
  (Option.bind (f_tap_isDigit54 w2.1 w2.2) fun v3 =>
  (if v3 = 0 then
  some ((0 : Int32), w2.2)
  else
  some ((1 : Int32), w2.2)
  )
  )
  )
  else
  some ((0 : Int32), I)
  )
  fun b1 =>
  some ((vp_nar .boolean b1.1), b1.2)
  )
noncomputable def f_pat_addHour76 (p1 : Int32) (p2 : Int32) (I : MJ) : Option (MJ) :=
  (Option.bind (f_x_at16 22 p1 I) fun v1 =>
  (Option.bind (α := MJ)
  (if v1 < (12 : Int32) then
  (Option.bind (f_x_put15 21 ((p1 * (12 : Int32)) + v1) p2 I) fun I3 =>
  (Option.bind (f_x_put15 22 p1 (v1 + (1 : Int32)) I3) fun I4 =>
  some I4
  )
  )
  else
  some I
  )
  fun b2 =>
  some b2
  )
  )
noncomputable def f_pat_readHours75 (p2 : Int32) (I : MJ) : Option (MJ) :=
  (Option.bind (f_tap_number53 (1 : Int32) (12 : Int32) I) fun w1 =>
  (Option.bind (f_x_at16 22 p2 w1.2) fun v2 =>
  (Option.bind (α := MJ)
  (if (12 : Int32) < (v2 + w1.1) then
  (Option.bind (f_tap_fail50 (4 : Int32) (w1.2 1 4) w1.2) fun I9 =>
  some I9
  )
  else
  some w1.2
  )
  fun b3 =>
  (Option.bind (f_tap_word45 2000002 b3) fun w4 =>
  (Option.bind (wh (β := MJ) (fun (s5 : Int32 × MJ) =>
  (if s5.1 < w1.1 then
  (Option.bind (f_tap_isSound59 s5.2) fun v7 =>
  (if v7 = 0 then
  some (.inr s5.2)
  else
  (Option.bind (f_pat_addHour76 p2 w4.1 s5.2) fun I8 =>
  some (.inl ((s5.1 + (1 : Int32)), I8))
  )
  )
  )
  else
  some (.inr s5.2)
  )
  ) ((0 : Int32), w4.2)) fun b6 =>
  some b6
  )
  )
  )
  )
  )
noncomputable def F_pat_readAgain77 (r : Int32 → MJ → Option (MJ)) (p2 : Int32) (I : MJ) : Option (MJ) :=
  (Option.bind (f_tap_word45 2000003 I) fun w1 =>
  (Option.bind (α := MJ)
  (if p2 < (6 : Int32) then
  some w1.2
  else
  (Option.bind (f_tap_fail50 (3 : Int32) (w1.2 1 4) w1.2) fun I19 =>
  some I19
  )
  )
  fun b2 =>
  (Option.bind (f_tap_number53 (0 : Int32) (12 : Int32) b2) fun w3 =>
  (Option.bind (f_tap_sign58 (91 : Int32) w3.2) fun I4 =>
  (Option.bind (f_tap_isSound59 I4) fun v5 =>
  (if v5 = 0 then
  some I4
  else
  (Option.bind (r (p2 + (1 : Int32)) I4) fun I6 =>
  (Option.bind (f_tap_sign58 (93 : Int32) I6) fun I7 =>
  (Option.bind (f_x_at16 22 (p2 + (1 : Int32)) I7) fun v8 =>
  (Option.bind (f_x_at16 22 p2 I7) fun v9 =>
  (Option.bind (α := MJ)
  (if (12 : Int32) < (v9 + (w3.1 * v8)) then
  (Option.bind (f_tap_fail50 (4 : Int32) (w1.2 1 4) I7) fun I18 =>
  some I18
  )
  else
  some I7
  )
  fun b10 =>
  (Option.bind (wh (β := MJ) (fun (s11 : Int32 × MJ) =>
  (if s11.1 < (w3.1 * v8) then
  (Option.bind (f_tap_isSound59 s11.2) fun v13 =>
  (if v13 = 0 then
  some (.inr s11.2)
  else
  (Option.bind (α := Int32)
  (if 0 < v8 then
  (Option.bind (rmd s11.1 v8) fun v17 =>
  some v17
  )
  else
  some (0 : Int32)
  )
  fun b14 =>
  (Option.bind (f_x_at16 21 (((p2 + (1 : Int32)) * (12 : Int32)) + b14) s11.2) fun v15 =>
  (Option.bind (f_pat_addHour76 p2 v15 s11.2) fun I16 =>
  some (.inl ((s11.1 + (1 : Int32)), I16))
  )
  )
  )
  )
  )
  else
  some (.inr s11.2)
  )
  ) ((0 : Int32), b10)) fun b12 =>
  some b12
  )
  )
  )
  )
  )
  )
  )
  )
  )
  )
  )
  )
noncomputable def F_pat_readParts72 (r : Int32 → MJ → Option (MJ)) (p2 : Int32) (I : MJ) : Option (MJ) :=
  (Option.bind (f_x_put15 22 p2 (0 : Int32) I) fun I1 =>
  (Option.bind (wh (β := MJ) (fun (s2 : Int32 × MJ) =>
  (if (100 : Int32) < s2.1 then
  some (.inr s2.2)
  else
  (Option.bind (f_tap_hasMore42 s2.2) fun w4 =>
  (if w4.1 = 0 then
  some (.inr w4.2)
  else
  (if 0 < p2 then
  (Option.bind (f_tap_isNext73 (93 : Int32) w4.2) fun w5 =>
  (if w5.1 = 0 then
  (Option.bind (f_tap_isNumberNext74 w5.2) fun w6 =>
  (Option.bind (α := MJ)
  (if w6.1 = 0 then
  (Option.bind (F_pat_readAgain77 r p2 w6.2) fun I9 =>
  some I9
  )
  else
  (Option.bind (f_pat_readHours75 p2 w6.2) fun I10 =>
  some I10
  )
  )
  fun b7 =>
  (Option.bind (f_tap_sign58 (59 : Int32) b7) fun I8 =>
  some (.inl ((s2.1 + (1 : Int32)), I8))
  )
  )
  )
  else
  some (.inr w5.2)
  )
  )
  else
  (Option.bind (f_tap_isNumberNext74 w4.2) fun w11 =>
  (Option.bind (α := MJ)
  (if w11.1 = 0 then
  (Option.bind (F_pat_readAgain77 r p2 w11.2) fun I14 =>
  some I14
  )
  else
  (Option.bind (f_pat_readHours75 p2 w11.2) fun I15 =>
  some I15
  )
  )
  fun b12 =>
  (Option.bind (f_tap_sign58 (59 : Int32) b12) fun I13 =>
  some (.inl ((s2.1 + (1 : Int32)), I13))
  )
  )
  )
  )
  )
  )
  )
  ) ((0 : Int32), I1)) fun b3 =>
  some b3
  )
  )
noncomputable def f_pat_readParts72 : Nat → Int32 → MJ → Option (MJ)
  | 0 => fun _ _ => none
  | k + 1 => F_pat_readParts72 (f_pat_readParts72 k)
noncomputable def f_pat_readFrom71  (I : MJ) : Option (MJ) :=
  (Option.bind (f_pat_readParts72 16 (0 : Int32) I) fun I1 =>
  (Option.bind (f_x_at16 22 (0 : Int32) I1) fun v2 =>
  (Option.bind (α := MJ)
  (if v2 < (12 : Int32) then
  (Option.bind (f_tap_fail50 (4 : Int32) (I1 1 3) I1) fun I4 =>
  some I4
  )
  else
  some I1
  )
  fun b3 =>
  some b3
  )
  )
  )
noncomputable def f_pat_keep78 (p1 : Int32) (I : MJ) : Option (MJ) :=
  (Option.bind (f_x_copy22 21 (0 : Int32) 20 ((12 : Int32) * p1) (12 : Int32) (ab_up1 I 19 3 ((I 19 3) ||| ((1 : Int32) <<< (p1 &&& 31))))) fun I1 =>
  some I1
  )
noncomputable def f_x_runsOf79 (p0 : Nat) (p1 : Int32) (I : MJ) : Option (Int32) :=
  (Option.bind (wh (β := Int32) (fun (s1 : Int32 × Int32) =>
  (if s1.2 < (12 : Int32) then
  (Option.bind (f_x_at16 p0 (p1 + s1.2) I) fun v3 =>
  (Option.bind (α := Int32)
  (if s1.2 = 0 then
  some (1 : Int32)
  else
  (Option.bind (f_x_at16 p0 ((p1 + s1.2) - (1 : Int32)) I) fun v6 =>
  (if v3 = v6 then
  some (0 : Int32)
  else
  some (1 : Int32)
  )
  )
  )
  fun b4 =>
  (Option.bind (α := Int32)
  (if b4 = 0 then
  some (0 : Int32)
  else
  (if v3 = (6 : Int32) then
  some (0 : Int32)
  else
  some (1 : Int32)
  )
  )
  fun b5 =>
  some (.inl ((s1.1 + b5), (s1.2 + (1 : Int32))))
  )
  )
  )
  else
  some (.inr s1.1)
  )
  ) ((0 : Int32), (0 : Int32))) fun b2 =>
  some b2
  )
noncomputable def f_x_pattern67 (p1 : Int32) (p2 : Int32) (I : MJ) : Option ((Nat ⊕ Int32) × MJ) :=
  (tb (f_x_needPattern68 p1 I) fun _ I2 =>
  (tb (f_x_needText37 p2 (100 : Int32) I2) fun _ I4 =>
  (Option.bind (f_tap_open40 p2 I4) fun I5 =>
  (Option.bind (f_pat_readFrom71 I5) fun I6 =>
  (Option.bind (f_tap_isSound59 I6) fun v7 =>
  (Option.bind (α := MJ)
  (if v7 = 0 then
  some I6
  else
  (Option.bind (f_pat_keep78 p1 I6) fun I11 =>
  some I11
  )
  )
  fun b8 =>
  (Option.bind (f_x_runsOf79 20 ((12 : Int32) * p1) b8) fun v9 =>
  (Option.bind (f_tap_close65 v9 b8) fun w10 =>
  some (.inr w10.1, w10.2)
  )
  )
  )
  )
  )
  )
  )
  )
noncomputable def f_l_pattern66 (p1 : Int32) (p2 : Int32) (I : MJ) (g : GG) : Option (Int32 × MJ × GG) :=
  (tryb (f_x_pattern67 p1 p2 I) (fun v1 I2 =>
  (Option.bind (wrl g 698 (0 : Int32) (v1.toInt64)) fun g3 =>
  some ((0 : Int32), I2, g3)
  )
  ) (fun E2 I2 =>
  (if E2 = 0 then
  some ((1 : Int32), I2, (thr g))
  else
  (if E2 = 1 then
  some ((2 : Int32), I2, (thr g))
  else
  none))
  ))
noncomputable def f_m_isPattern288 (p1 : Int32) (I : MJ) : Option (Int32) :=
  (Option.bind (f_m_in264 p1 (0 : Int32) (5 : Int32) I) fun v1 =>
  some (vp_nar .boolean v1)
  )
noncomputable def f_m_opens290  (I : MJ) : Option (Int32 × MJ) :=
  (Option.bind (α := MJ)
  (if (I 47 5) = 0 then
  (if (I 47 8) = (6 : Int32) then
  (Option.bind (f_m_wrong278 (3 : Int32) (I 47 4) I) fun I3 =>
  some I3
  )
  else
  (if (I 47 5) = 0 then
  some (ab_up1 I 47 8 ((I 47 8) + (1 : Int32)))
  else
  some I
  )
  )
  else
  (if (I 47 5) = 0 then
  some (ab_up1 I 47 8 ((I 47 8) + (1 : Int32)))
  else
  some I
  )
  )
  fun b1 =>
  (Option.bind (α := Int32)
  (if (b1 47 5) = 0 then
  some (1 : Int32)
  else
  some (0 : Int32)
  )
  fun b2 =>
  some ((vp_nar .boolean b2), b1)
  )
  )
noncomputable def F_m_part289 (r : Int32 → MJ → Option (MJ)) (p1 : Int32) (I : MJ) : Option (MJ) :=
  (Option.bind (f_m_blanks270 I) fun I1 =>
  (Option.bind (f_m_isWord274 (1 : Int32) (7 : Int32) (1 : Int32) (9 : Int32) (14 : Int32) (0 : Int32) I1) fun w2 =>
  (if w2.1 = 0 then
  (Option.bind (f_m_number283 (1 : Int32) (12 : Int32) w2.2) fun w3 =>
  (Option.bind (α := MJ)
  (if (w3.2 47 5) = 0 then
  (Option.bind (rd w3.2 144 p1) fun v15 =>
  (if (12 : Int32) < (v15 + w3.1) then
  (Option.bind (f_m_wrong278 (4 : Int32) (w2.2 47 4) w3.2) fun I16 =>
  some I16
  )
  else
  some w3.2
  )
  )
  else
  some w3.2
  )
  fun b4 =>
  (Option.bind (α := Int32 × MJ)
  (if (b4 47 5) = 0 then
  (Option.bind (f_m_skyHere281 b4) fun w14 =>
  some (w14.1, w14.2)
  )
  else
  some ((0 : Int32), b4)
  )
  fun b5 =>
  (Option.bind (wh (β := MJ) (fun (s6 : Int32 × MJ) =>
  (if s6.1 < w3.1 then
  (if (s6.2 47 5) = 0 then
  (Option.bind (rdp 136 p1) fun r9 =>
  (Option.bind (rd s6.2 144 p1) fun v10 =>
  (Option.bind (wr s6.2 r9 v10 b5.1) fun I11 =>
  (Option.bind (rd I11 144 p1) fun v12 =>
  (Option.bind (wr I11 144 p1 (v12 + (1 : Int32))) fun I13 =>
  some (.inl ((s6.1 + (1 : Int32)), I13))
  )
  )
  )
  )
  )
  else
  some (.inr s6.2)
  )
  else
  some (.inr s6.2)
  )
  ) ((0 : Int32), b5.2)) fun b7 =>
  (Option.bind (f_m_sign285 (59 : Int32) b7) fun I8 =>
  some I8
  )
  )
  )
  )
  )
  else
  (Option.bind (f_m_opens290 w2.2) fun w17 =>
  (if w17.1 = 0 then
  some w17.2
  else
  (Option.bind (f_m_skipWord280 w17.2) fun I18 =>
  (Option.bind (f_m_number283 (0 : Int32) (12 : Int32) I18) fun w19 =>
  (Option.bind (f_m_sign285 (91 : Int32) w19.2) fun I20 =>
  (Option.bind (wr I20 144 (p1 + (1 : Int32)) (0 : Int32)) fun I21 =>
  (Option.bind (f_m_blanks270 I21) fun I22 =>
  (Option.bind (wh (β := MJ) (fun (s23 : MJ) =>
  (if (s23 47 5) = 0 then
  (Option.bind (f_m_byteAt271 (s23 47 4) s23) fun v43 =>
  (if v43 = (93 : Int32) then
  some (.inr s23)
  else
  (Option.bind (r (p1 + (1 : Int32)) s23) fun I44 =>
  (Option.bind (f_m_blanks270 I44) fun I45 =>
  some (.inl I45)
  )
  )
  )
  )
  else
  some (.inr s23)
  )
  ) I22) fun b24 =>
  (Option.bind (f_m_sign285 (93 : Int32) b24) fun I25 =>
  (Option.bind (α := MJ)
  (if (I25 47 5) = 0 then
  (Option.bind (rd I25 144 p1) fun v40 =>
  (Option.bind (rd I25 144 (p1 + (1 : Int32))) fun v41 =>
  (if (12 : Int32) < (v40 + (w19.1 * v41)) then
  (Option.bind (f_m_wrong278 (4 : Int32) (w2.2 47 4) I25) fun I42 =>
  some I42
  )
  else
  some I25
  )
  )
  )
  else
  some I25
  )
  fun b26 =>
  (Option.bind (wh (β := MJ) (fun (s27 : Int32 × MJ) =>
  (if s27.1 < w19.1 then
  (if (s27.2 47 5) = 0 then
  (Option.bind (wh (β := MJ) (fun (s30 : Int32 × MJ) =>
  (Option.bind (rd s30.2 144 (p1 + (1 : Int32))) fun v32 =>
  (if s30.1 < v32 then
  (Option.bind (rdp 136 p1) fun r33 =>
  (Option.bind (rd s30.2 144 p1) fun v34 =>
  (Option.bind (rdp 136 (p1 + (1 : Int32))) fun r35 =>
  (Option.bind (rd s30.2 r35 s30.1) fun v36 =>
  (Option.bind (wr s30.2 r33 v34 v36) fun I37 =>
  (Option.bind (rd I37 144 p1) fun v38 =>
  (Option.bind (wr I37 144 p1 (v38 + (1 : Int32))) fun I39 =>
  some (.inl ((s30.1 + (1 : Int32)), I39))
  )
  )
  )
  )
  )
  )
  )
  else
  some (.inr s30.2)
  )
  )
  ) ((0 : Int32), s27.2)) fun b31 =>
  some (.inl ((s27.1 + (1 : Int32)), b31))
  )
  else
  some (.inr s27.2)
  )
  else
  some (.inr s27.2)
  )
  ) ((0 : Int32), b26)) fun b28 =>
  (Option.bind (f_m_sign285 (59 : Int32) (ab_up1 b28 47 8 ((b28 47 8) - (1 : Int32)))) fun I29 =>
  some I29
  )
  )
  )
  )
  )
  )
  )
  )
  )
  )
  )
  )
  )
  )
  )
noncomputable def f_m_part289 : Nat → Int32 → MJ → Option (MJ)
  | 0 => fun _ _ => none
  | k + 1 => F_m_part289 (f_m_part289 k)
noncomputable def f_m_runsOf291 (p0 : Nat) (p1 : Int32) (I : MJ) : Option (Int32) :=
  (Option.bind (wh (β := Int32) (fun (s1 : Int32 × Int32) =>
  (if s1.2 < (12 : Int32) then
  (Option.bind (rd I p0 (p1 + s1.2)) fun v3 =>
  (Option.bind (α := Int32)
  (if v3 = (6 : Int32) then
  some (0 : Int32)
  else
  (if s1.2 = 0 then
  some (1 : Int32)
  else
  (Option.bind (rd I p0 (p1 + s1.2)) fun v5 =>
  (Option.bind (rd I p0 ((p1 + s1.2) - (1 : Int32))) fun v6 =>
  (if v5 = v6 then
  some (0 : Int32)
  else
  some (1 : Int32)
  )
  )
  )
  )
  )
  fun b4 =>
  some (.inl ((s1.1 + b4), (s1.2 + (1 : Int32))))
  )
  )
  else
  some (.inr s1.1)
  )
  ) ((0 : Int32), (0 : Int32))) fun b2 =>
  some b2
  )
noncomputable def f_m_pattern287 (p1 : Int32) (p2 : Int32) (I : MJ) : Option (Int32 × MJ) :=
  (Option.bind (f_m_isPattern288 p1 (ab_up1 I 47 0 (0 : Int32))) fun v1 =>
  (Option.bind (α := Int32)
  (if v1 = 0 then
  some (1 : Int32)
  else
  some (0 : Int32)
  )
  fun b2 =>
  (Option.bind (f_m_bad268 b2 (1 : Int32) (0 : Int32) (ab_up1 I 47 0 (0 : Int32))) fun w3 =>
  (if w3.1 = 0 then
  (Option.bind (f_m_in264 p2 (0 : Int32) (w3.2 47 1) w3.2) fun v4 =>
  (Option.bind (α := Int32)
  (if v4 = 0 then
  some (1 : Int32)
  else
  (if (100 : Int32) < p2 then
  some (1 : Int32)
  else
  some (0 : Int32)
  )
  )
  fun b5 =>
  (Option.bind (f_m_bad268 b5 (2 : Int32) (1 : Int32) w3.2) fun w6 =>
  (if w6.1 = 0 then
  (Option.bind (f_m_starts269 p2 w6.2) fun I7 =>
  (Option.bind (wh (β := MJ) (fun (s8 : MJ) =>
  (if (s8 47 5) = 0 then
  (if (s8 47 4) < (s8 47 2) then
  (Option.bind (f_m_part289 16 (0 : Int32) s8) fun I21 =>
  (Option.bind (f_m_blanks270 I21) fun I22 =>
  some (.inl I22)
  )
  )
  else
  some (.inr s8)
  )
  else
  some (.inr s8)
  )
  ) (ab_up1 I7 144 0 (0 : Int32))) fun b9 =>
  (Option.bind (α := MJ)
  (if (b9 47 5) = 0 then
  (if (b9 144 0) < (12 : Int32) then
  (Option.bind (f_m_wrong278 (4 : Int32) (b9 47 2) b9) fun I20 =>
  some I20
  )
  else
  some b9
  )
  else
  some b9
  )
  fun b10 =>
  (if (b10 47 5) = 0 then
  (Option.bind (wrb (ab_up1 b10 47 3 (-1 : Int32)) 135 p1 (1 : Int32)) fun I11 =>
  (Option.bind (wh (β := MJ) (fun (s12 : Int32 × MJ) =>
  (if s12.1 < (12 : Int32) then
  (Option.bind (rdp 128 p1) fun r16 =>
  (Option.bind (rd s12.2 137 s12.1) fun v17 =>
  (Option.bind (wr s12.2 r16 s12.1 v17) fun I18 =>
  some (.inl ((s12.1 + (1 : Int32)), I18))
  )
  )
  )
  else
  some (.inr s12.2)
  )
  ) ((0 : Int32), I11)) fun b13 =>
  (Option.bind (rdp 128 p1) fun r14 =>
  (Option.bind (f_m_runsOf291 r14 (0 : Int32) b13) fun v15 =>
  some (v15, b13)
  )
  )
  )
  )
  else
  (Option.bind (f_m_ends286 b10) fun w19 =>
  some (w19.1, w19.2)
  )
  )
  )
  )
  )
  else
  some ((0 : Int32), w6.2)
  )
  )
  )
  )
  else
  some ((0 : Int32), w3.2)
  )
  )
  )
  )
noncomputable def f_mot_write86 (p1 : Int32) (I : MJ) : Option (MJ) :=
  (Option.bind (f_x_put15 25 (I 23 5) p1 I) fun I1 =>
  some (ab_up1 I1 23 5 ((I1 23 5) + (1 : Int32)))
  )
noncomputable def f_mot_needRoom87 (p2 : Int32) (I : MJ) : Option (MJ) :=
  (Option.bind (α := MJ)
  (if p2 < (6 : Int32) then
  some I
  else
  (Option.bind (f_tap_fail50 (3 : Int32) (I 1 4) I) fun I2 =>
  some I2
  )
  )
  fun b1 =>
  some b1
  )
noncomputable def F_mot_readInside88 (r : Int32 → MJ → Option (MJ)) (p2 : Int32) (I : MJ) : Option (MJ) :=
  (Option.bind (f_tap_isSound59 I) fun v1 =>
  (Option.bind (α := MJ)
  (if v1 = 0 then
  some I
  else
  (if p2 < (6 : Int32) then
  (Option.bind (r (p2 + (1 : Int32)) I) fun I3 =>
  some I3
  )
  else
  some I
  )
  )
  fun b2 =>
  some b2
  )
  )
noncomputable def F_mot_readNamed89 (r : Int32 → MJ → Option (MJ)) (p2 : Int32) (p3 : Int32) (I : MJ) : Option (MJ) :=
  (Option.bind (α := MJ)
  (if p3 = (-7 : Int32) then
  (Option.bind (f_mot_needRoom87 p2 I) fun I3 =>
  (Option.bind (f_tap_sign58 (91 : Int32) I3) fun I4 =>
  (Option.bind (F_mot_readInside88 r p2 I4) fun I5 =>
  (Option.bind (f_tap_sign58 (44 : Int32) I5) fun I6 =>
  (Option.bind (F_mot_readInside88 r p2 I6) fun I7 =>
  (Option.bind (f_tap_sign58 (93 : Int32) I7) fun I8 =>
  some I8
  )
  )
  )
  )
  )
  )
  else
  (if p3 = (-8 : Int32) then
  (Option.bind (f_mot_needRoom87 p2 I) fun I9 =>
  (Option.bind (f_tap_sign58 (91 : Int32) I9) fun I10 =>
  (Option.bind (F_mot_readInside88 r p2 I10) fun I11 =>
  (Option.bind (f_tap_sign58 (44 : Int32) I11) fun I12 =>
  (Option.bind (F_mot_readInside88 r p2 I12) fun I13 =>
  (Option.bind (f_tap_sign58 (93 : Int32) I13) fun I14 =>
  some I14
  )
  )
  )
  )
  )
  )
  else
  some I
  )
  )
  fun b1 =>
  (Option.bind (f_mot_write86 p3 b1) fun I2 =>
  some I2
  )
  )
noncomputable def F_mot_readUnit85 (r : Int32 → MJ → Option (MJ)) (p2 : Int32) (I : MJ) : Option (MJ) :=
  (Option.bind (f_tap_isNumberNext74 I) fun w1 =>
  (Option.bind (α := MJ)
  (if w1.1 = 0 then
  (Option.bind (f_tap_isNext73 (40 : Int32) w1.2) fun w3 =>
  (if w3.1 = 0 then
  (Option.bind (f_tap_word45 2000004 w3.2) fun w4 =>
  (Option.bind (F_mot_readNamed89 r p2 ((-1 : Int32) - w4.1) w4.2) fun I5 =>
  some I5
  )
  )
  else
  (Option.bind (f_tap_sign58 (40 : Int32) w3.2) fun I6 =>
  (Option.bind (f_mot_needRoom87 p2 I6) fun I7 =>
  (Option.bind (F_mot_readInside88 r p2 I7) fun I8 =>
  (Option.bind (f_tap_sign58 (41 : Int32) I8) fun I9 =>
  some I9
  )
  )
  )
  )
  )
  )
  else
  (Option.bind (f_tap_number53 (0 : Int32) (999 : Int32) w1.2) fun w10 =>
  (Option.bind (f_mot_write86 w10.1 w10.2) fun I11 =>
  some I11
  )
  )
  )
  fun b2 =>
  some b2
  )
  )
noncomputable def F_mot_readProduct84 (r : Int32 → MJ → Option (MJ)) (p2 : Int32) (I : MJ) : Option (MJ) :=
  (Option.bind (F_mot_readUnit85 r p2 I) fun I1 =>
  (Option.bind (wh (β := MJ) (fun (s2 : Int32 × MJ) =>
  (if s2.1 < (150 : Int32) then
  (Option.bind (f_tap_isNext73 (42 : Int32) s2.2) fun w4 =>
  (if w4.1 = 0 then
  (Option.bind (f_tap_isNext73 (47 : Int32) w4.2) fun w5 =>
  (if w5.1 = 0 then
  (Option.bind (f_tap_isNext73 (37 : Int32) w5.2) fun w6 =>
  (if w6.1 = 0 then
  some (.inr w6.2)
  else
  (Option.bind (f_tap_isNext73 (42 : Int32) w6.2) fun w7 =>
  (Option.bind (α := Int32 × MJ)
  (if w7.1 = 0 then
  (Option.bind (f_tap_isNext73 (47 : Int32) w7.2) fun w13 =>
  (if w13.1 = 0 then
  some ((37 : Int32), w13.2)
  else
  some ((47 : Int32), w13.2)
  )
  )
  else
  some ((42 : Int32), w7.2)
  )
  fun b8 =>
  (Option.bind (f_tap_sign58 b8.1 b8.2) fun I9 =>
  (Option.bind (F_mot_readUnit85 r p2 I9) fun I10 =>
  (Option.bind (α := Int32)
  (if b8.1 = (42 : Int32) then
  some (-11 : Int32)
  else
  (if b8.1 = (47 : Int32) then
  some (-12 : Int32)
  else
  some (-13 : Int32)
  )
  )
  fun b11 =>
  (Option.bind (f_mot_write86 b11 I10) fun I12 =>
  some (.inl ((s2.1 + (1 : Int32)), I12))
  )
  )
  )
  )
  )
  )
  )
  )
  else
  (Option.bind (f_tap_isNext73 (42 : Int32) w5.2) fun w14 =>
  (Option.bind (α := Int32 × MJ)
  (if w14.1 = 0 then
  (Option.bind (f_tap_isNext73 (47 : Int32) w14.2) fun w20 =>
  (if w20.1 = 0 then
  some ((37 : Int32), w20.2)
  else
  some ((47 : Int32), w20.2)
  )
  )
  else
  some ((42 : Int32), w14.2)
  )
  fun b15 =>
  (Option.bind (f_tap_sign58 b15.1 b15.2) fun I16 =>
  (Option.bind (F_mot_readUnit85 r p2 I16) fun I17 =>
  (Option.bind (α := Int32)
  (if b15.1 = (42 : Int32) then
  some (-11 : Int32)
  else
  (if b15.1 = (47 : Int32) then
  some (-12 : Int32)
  else
  some (-13 : Int32)
  )
  )
  fun b18 =>
  (Option.bind (f_mot_write86 b18 I17) fun I19 =>
  some (.inl ((s2.1 + (1 : Int32)), I19))
  )
  )
  )
  )
  )
  )
  )
  )
  else
  (Option.bind (f_tap_isNext73 (42 : Int32) w4.2) fun w21 =>
  (Option.bind (α := Int32 × MJ)
  (if w21.1 = 0 then
  (Option.bind (f_tap_isNext73 (47 : Int32) w21.2) fun w27 =>
  (if w27.1 = 0 then
  some ((37 : Int32), w27.2)
  else
  some ((47 : Int32), w27.2)
  )
  )
  else
  some ((42 : Int32), w21.2)
  )
  fun b22 =>
  (Option.bind (f_tap_sign58 b22.1 b22.2) fun I23 =>
  (Option.bind (F_mot_readUnit85 r p2 I23) fun I24 =>
  (Option.bind (α := Int32)
  (if b22.1 = (42 : Int32) then
  some (-11 : Int32)
  else
  (if b22.1 = (47 : Int32) then
  some (-12 : Int32)
  else
  some (-13 : Int32)
  )
  )
  fun b25 =>
  (Option.bind (f_mot_write86 b25 I24) fun I26 =>
  some (.inl ((s2.1 + (1 : Int32)), I26))
  )
  )
  )
  )
  )
  )
  )
  )
  else
  some (.inr s2.2)
  )
  ) ((0 : Int32), I1)) fun b3 =>
  some b3
  )
  )
noncomputable def F_mot_readSum83 (r : Int32 → MJ → Option (MJ)) (p2 : Int32) (I : MJ) : Option (MJ) :=
  (Option.bind (F_mot_readProduct84 r p2 I) fun I1 =>
  (Option.bind (wh (β := MJ) (fun (s2 : Int32 × MJ) =>
  (if s2.1 < (150 : Int32) then
  (Option.bind (f_tap_isNext73 (43 : Int32) s2.2) fun w4 =>
  (if w4.1 = 0 then
  (Option.bind (f_tap_isNext73 (45 : Int32) w4.2) fun w5 =>
  (if w5.1 = 0 then
  some (.inr w5.2)
  else
  (Option.bind (f_tap_isNext73 (43 : Int32) w5.2) fun w6 =>
  (Option.bind (α := Int32)
  (if w6.1 = 0 then
  some (45 : Int32)
  else
  some (43 : Int32)
  )
  fun b7 =>
  (Option.bind (f_tap_sign58 b7 w6.2) fun I8 =>
  (Option.bind (F_mot_readProduct84 r p2 I8) fun I9 =>
  (Option.bind (α := Int32)
  (if w6.1 = 0 then
  some (-10 : Int32)
  else
  some (-9 : Int32)
  )
  fun b10 =>
  (Option.bind (f_mot_write86 b10 I9) fun I11 =>
  some (.inl ((s2.1 + (1 : Int32)), I11))
  )
  )
  )
  )
  )
  )
  )
  )
  else
  (Option.bind (f_tap_isNext73 (43 : Int32) w4.2) fun w12 =>
  (Option.bind (α := Int32)
  (if w12.1 = 0 then
  some (45 : Int32)
  else
  some (43 : Int32)
  )
  fun b13 =>
  (Option.bind (f_tap_sign58 b13 w12.2) fun I14 =>
  (Option.bind (F_mot_readProduct84 r p2 I14) fun I15 =>
  (Option.bind (α := Int32)
  (if w12.1 = 0 then
  some (-10 : Int32)
  else
  some (-9 : Int32)
  )
  fun b16 =>
  (Option.bind (f_mot_write86 b16 I15) fun I17 =>
  some (.inl ((s2.1 + (1 : Int32)), I17))
  )
  )
  )
  )
  )
  )
  )
  )
  else
  some (.inr s2.2)
  )
  ) ((0 : Int32), I1)) fun b3 =>
  some b3
  )
  )
noncomputable def f_mot_readSum83 : Nat → Int32 → MJ → Option (MJ)
  | 0 => fun _ _ => none
  | k + 1 => F_mot_readSum83 (f_mot_readSum83 k)
noncomputable def f_mot_readFrom82  (I : MJ) : Option (MJ) :=
  (Option.bind (f_mot_readSum83 16 (0 : Int32) (ab_up1 I 23 5 (0 : Int32))) fun I1 =>
  (Option.bind (f_tap_hasMore42 I1) fun w2 =>
  (Option.bind (α := MJ)
  (if w2.1 = 0 then
  some w2.2
  else
  (Option.bind (f_tap_fail50 (1 : Int32) (w2.2 1 2) w2.2) fun I4 =>
  some I4
  )
  )
  fun b3 =>
  some b3
  )
  )
  )
noncomputable def f_mot_keep90  (I : MJ) : Option (MJ) :=
  (Option.bind (f_x_copy22 25 (0 : Int32) 24 (0 : Int32) (150 : Int32) (ab_up1 I 23 4 (I 23 5))) fun I1 =>
  some I1
  )
noncomputable def f_x_law81 (p1 : Int32) (I : MJ) : Option ((Nat ⊕ Int32) × MJ) :=
  (tb (f_x_needText37 p1 (150 : Int32) I) fun _ I2 =>
  (Option.bind (f_tap_open40 p1 I2) fun I3 =>
  (Option.bind (f_mot_readFrom82 I3) fun I4 =>
  (Option.bind (f_tap_isSound59 I4) fun v5 =>
  (Option.bind (α := MJ)
  (if v5 = 0 then
  some I4
  else
  (Option.bind (f_mot_keep90 I4) fun I8 =>
  some I8
  )
  )
  fun b6 =>
  (Option.bind (f_tap_close65 (1 : Int32) b6) fun w7 =>
  some (.inr w7.1, w7.2)
  )
  )
  )
  )
  )
  )
noncomputable def f_l_law80 (X : XX) (p1 : Int32) (I : MJ) (g : GG) : Option (Int32 × MJ × GG) :=
  (tryb (f_x_law81 p1 I) (fun v1 I2 =>
  (Option.bind (wrl g 698 (0 : Int32) (v1.toInt64)) fun g3 =>
  some ((0 : Int32), I2, g3)
  )
  ) (fun E2 I2 =>
  (if E2 = 1 then
  some ((1 : Int32), I2, (thr g))
  else
  none)
  ))
noncomputable def f_m_takesSign298 (p1 : Int32) (I : MJ) : Option (Int32 × MJ) :=
  (if (I 47 5) = 0 then
  (Option.bind (f_m_blanks270 I) fun I1 =>
  (Option.bind (f_m_byteAt271 (I1 47 4) I1) fun v2 =>
  (Option.bind (α := Int32)
  (if v2 = p1 then
  some (1 : Int32)
  else
  some (0 : Int32)
  )
  fun b3 =>
  (Option.bind (α := MJ)
  (if b3 = 0 then
  some I1
  else
  some (ab_up1 I1 47 4 ((I1 47 4) + (1 : Int32)))
  )
  fun b4 =>
  some ((vp_nar .boolean b3), b4)
  )
  )
  )
  )
  else
  some ((0 : Int32), I)
  )
noncomputable def f_m_notes296 (p1 : Int32) (p2 : Int32) (I : MJ) : Option (MJ) :=
  (if (I 47 5) = 0 then
  (Option.bind (rdp 306 (I 47 26)) fun r1 =>
  (Option.bind (wr I r1 (0 : Int32) p1) fun I2 =>
  (Option.bind (rdp 306 (I2 47 26)) fun r3 =>
  (Option.bind (wr I2 r3 (1 : Int32) p2) fun I4 =>
  some (ab_up1 I4 47 26 ((I4 47 26) + (1 : Int32)))
  )
  )
  )
  )
  else
  some I
  )
noncomputable def f_m_knownHere297  (I : MJ) : Option (Int32 × MJ) :=
  (Option.bind (f_m_takes282 (8 : Int32) (15 : Int32) (21 : Int32) (18 : Int32) (0 : Int32) (0 : Int32) I) fun w1 =>
  (if w1.1 = 0 then
  (Option.bind (f_m_takes282 (11 : Int32) (9 : Int32) (14 : Int32) (4 : Int32) (0 : Int32) (0 : Int32) w1.2) fun w2 =>
  (if w2.1 = 0 then
  (Option.bind (f_m_takes282 (1 : Int32) (7 : Int32) (5 : Int32) (0 : Int32) (0 : Int32) (0 : Int32) w2.2) fun w3 =>
  (if w3.1 = 0 then
  (Option.bind (f_m_takes282 (4 : Int32) (1 : Int32) (25 : Int32) (0 : Int32) (0 : Int32) (0 : Int32) w3.2) fun w4 =>
  (if w4.1 = 0 then
  (Option.bind (f_m_takes282 (3 : Int32) (12 : Int32) (9 : Int32) (5 : Int32) (14 : Int32) (20 : Int32) w4.2) fun w5 =>
  (if w5.1 = 0 then
  (Option.bind (f_m_takes282 (19 : Int32) (5 : Int32) (1 : Int32) (13 : Int32) (19 : Int32) (0 : Int32) w5.2) fun w6 =>
  (Option.bind (α := Int32)
  (if w6.1 = 0 then
  some (-1 : Int32)
  else
  some (5 : Int32)
  )
  fun b7 =>
  some (b7, w6.2)
  )
  )
  else
  some ((4 : Int32), w5.2)
  )
  )
  else
  some ((3 : Int32), w4.2)
  )
  )
  else
  some ((2 : Int32), w3.2)
  )
  )
  else
  some ((1 : Int32), w2.2)
  )
  )
  else
  some ((0 : Int32), w1.2)
  )
  )
noncomputable def F_m_one295 (r : MJ → Option (MJ))  (I : MJ) : Option (MJ) :=
  (if (I 47 5) = 0 then
  (Option.bind (f_m_blanks270 I) fun I1 =>
  (Option.bind (f_m_isWord274 (12 : Int32) (5 : Int32) (1 : Int32) (19 : Int32) (20 : Int32) (0 : Int32) I1) fun w2 =>
  (Option.bind (α := Int32 × MJ)
  (if w2.1 = 0 then
  (Option.bind (f_m_isWord274 (13 : Int32) (15 : Int32) (19 : Int32) (20 : Int32) (0 : Int32) (0 : Int32) w2.2) fun w21 =>
  (if w21.1 = 0 then
  some ((-1 : Int32), w21.2)
  else
  some ((8 : Int32), w21.2)
  )
  )
  else
  some ((7 : Int32), w2.2)
  )
  fun b3 =>
  (if b3.1 = (-1 : Int32) then
  (Option.bind (f_m_byteAt271 (b3.2 47 4) b3.2) fun v4 =>
  (if v4 = (40 : Int32) then
  (Option.bind (f_m_opens290 b3.2) fun w5 =>
  (if w5.1 = 0 then
  some w5.2
  else
  (Option.bind (r (ab_up1 w5.2 47 4 ((w5.2 47 4) + (1 : Int32)))) fun I6 =>
  (Option.bind (f_m_sign285 (41 : Int32) I6) fun I7 =>
  some (ab_up1 I7 47 8 ((I7 47 8) - (1 : Int32)))
  )
  )
  )
  )
  else
  (Option.bind (f_m_knownHere297 b3.2) fun w8 =>
  (Option.bind (α := MJ)
  (if w8.1 = (-1 : Int32) then
  (Option.bind (f_m_number283 (0 : Int32) (999 : Int32) w8.2) fun w10 =>
  (Option.bind (f_m_notes296 (0 : Int32) w10.1 w10.2) fun I11 =>
  some I11
  )
  )
  else
  (Option.bind (f_m_notes296 (1 : Int32) w8.1 w8.2) fun I12 =>
  some I12
  )
  )
  fun b9 =>
  some b9
  )
  )
  )
  )
  else
  (Option.bind (f_m_opens290 b3.2) fun w13 =>
  (if w13.1 = 0 then
  some w13.2
  else
  (Option.bind (f_m_skipWord280 w13.2) fun I14 =>
  (Option.bind (f_m_sign285 (91 : Int32) I14) fun I15 =>
  (Option.bind (r I15) fun I16 =>
  (Option.bind (f_m_sign285 (44 : Int32) I16) fun I17 =>
  (Option.bind (r I17) fun I18 =>
  (Option.bind (f_m_sign285 (93 : Int32) I18) fun I19 =>
  (Option.bind (f_m_notes296 b3.1 (0 : Int32) I19) fun I20 =>
  some (ab_up1 I20 47 8 ((I20 47 8) - (1 : Int32)))
  )
  )
  )
  )
  )
  )
  )
  )
  )
  )
  )
  )
  )
  else
  some I
  )
noncomputable def F_m_product294 (r : MJ → Option (MJ))  (I : MJ) : Option (MJ) :=
  (Option.bind (F_m_one295 r I) fun I1 =>
  (wh (fun (s2 : MJ) =>
  (if (s2 47 5) = 0 then
  (Option.bind (f_m_takesSign298 (42 : Int32) s2) fun w3 =>
  (Option.bind (α := Int32 × MJ)
  (if w3.1 = 0 then
  (Option.bind (f_m_takesSign298 (47 : Int32) w3.2) fun w7 =>
  (if w7.1 = 0 then
  (Option.bind (f_m_takesSign298 (37 : Int32) w7.2) fun w8 =>
  (if w8.1 = 0 then
  some ((-1 : Int32), w8.2)
  else
  some ((6 : Int32), w8.2)
  )
  )
  else
  some ((5 : Int32), w7.2)
  )
  )
  else
  some ((4 : Int32), w3.2)
  )
  fun b4 =>
  (if b4.1 = (-1 : Int32) then
  some (.inr b4.2)
  else
  (Option.bind (F_m_one295 r b4.2) fun I5 =>
  (Option.bind (f_m_notes296 b4.1 (0 : Int32) I5) fun I6 =>
  some (.inl I6)
  )
  )
  )
  )
  )
  else
  some (.inr s2)
  )
  ) I1)
  )
noncomputable def F_m_sum293 (r : MJ → Option (MJ))  (I : MJ) : Option (MJ) :=
  (Option.bind (F_m_product294 r I) fun I1 =>
  (wh (fun (s2 : MJ) =>
  (if (s2 47 5) = 0 then
  (Option.bind (f_m_takesSign298 (43 : Int32) s2) fun w3 =>
  (Option.bind (α := Int32 × MJ)
  (if w3.1 = 0 then
  (Option.bind (f_m_takesSign298 (45 : Int32) w3.2) fun w7 =>
  (if w7.1 = 0 then
  some ((-1 : Int32), w7.2)
  else
  some ((3 : Int32), w7.2)
  )
  )
  else
  some ((2 : Int32), w3.2)
  )
  fun b4 =>
  (if b4.1 = (-1 : Int32) then
  some (.inr b4.2)
  else
  (Option.bind (F_m_product294 r b4.2) fun I5 =>
  (Option.bind (f_m_notes296 b4.1 (0 : Int32) I5) fun I6 =>
  some (.inl I6)
  )
  )
  )
  )
  )
  else
  some (.inr s2)
  )
  ) I1)
  )
noncomputable def f_m_sum293 : Nat → MJ → Option (MJ)
  | 0 => fun _ => none
  | k + 1 => F_m_sum293 (f_m_sum293 k)
noncomputable def f_m_law292 (p1 : Int32) (I : MJ) : Option (Int32 × MJ) :=
  (Option.bind (f_m_in264 p1 (0 : Int32) (I 47 1) (ab_up1 I 47 0 (0 : Int32))) fun v1 =>
  (Option.bind (α := Int32)
  (if v1 = 0 then
  some (1 : Int32)
  else
  (if (150 : Int32) < p1 then
  some (1 : Int32)
  else
  some (0 : Int32)
  )
  )
  fun b2 =>
  (Option.bind (f_m_bad268 b2 (1 : Int32) (1 : Int32) (ab_up1 I 47 0 (0 : Int32))) fun w3 =>
  (if w3.1 = 0 then
  (Option.bind (f_m_starts269 p1 w3.2) fun I4 =>
  (Option.bind (f_m_sum293 16 (ab_up1 I4 47 26 (0 : Int32))) fun I5 =>
  (Option.bind (f_m_blanks270 I5) fun I6 =>
  (Option.bind (α := MJ)
  (if (I6 47 5) = 0 then
  (if (I6 47 4) < (I6 47 2) then
  (Option.bind (f_m_wrong278 (1 : Int32) (I6 47 4) I6) fun I10 =>
  some I10
  )
  else
  some I6
  )
  else
  some I6
  )
  fun b7 =>
  (if (b7 47 5) = 0 then
  (Option.bind (f_m_lays263 306 145 (b7 47 26) (ab_up1 (ab_up1 b7 47 3 (-1 : Int32)) 47 25 (b7 47 26))) fun I8 =>
  some ((1 : Int32), I8)
  )
  else
  (Option.bind (f_m_ends286 b7) fun w9 =>
  some (w9.1, w9.2)
  )
  )
  )
  )
  )
  )
  else
  some ((0 : Int32), w3.2)
  )
  )
  )
  )
noncomputable def f_pas_isFull93  (I : MJ) : Option (Int32) :=
  (Option.bind (α := Int32)
  (if (I 31 3) < (16 : Int32) then
  some (0 : Int32)
  else
  some (1 : Int32)
  )
  fun b1 =>
  some (vp_nar .boolean b1)
  )
noncomputable def f_pla_write97 (p1 : Int32) (p2 : Int32) (p3 : Int32) (I : MJ) : Option (MJ) :=
  (Option.bind (f_x_put15 30 (((4 : Int32) * p1) + p2) p3 I) fun I1 =>
  some I1
  )
noncomputable def F_pla_readAgain98 (r : Int32 → MJ → Option (MJ)) (p3 : Int32) (p4 : Int32) (I : MJ) : Option (MJ) :=
  (Option.bind (α := MJ)
  (if p3 < (6 : Int32) then
  some I
  else
  (Option.bind (f_tap_fail50 (3 : Int32) (I 1 4) I) fun I10 =>
  some I10
  )
  )
  fun b1 =>
  (Option.bind (f_tap_number53 (0 : Int32) (20 : Int32) b1) fun w2 =>
  (Option.bind (f_pla_write97 p4 (1 : Int32) w2.1 w2.2) fun I3 =>
  (Option.bind (f_tap_sign58 (91 : Int32) I3) fun I4 =>
  (Option.bind (f_tap_isSound59 I4) fun v5 =>
  (Option.bind (α := MJ)
  (if v5 = 0 then
  some I4
  else
  (Option.bind (r (p3 + (1 : Int32)) I4) fun I9 =>
  some I9
  )
  )
  fun b6 =>
  (Option.bind (f_tap_sign58 (93 : Int32) b6) fun I7 =>
  (Option.bind (f_pla_write97 p4 (2 : Int32) (I7 29 1) I7) fun I8 =>
  some I8
  )
  )
  )
  )
  )
  )
  )
  )
noncomputable def F_pla_readStep96 (r : Int32 → MJ → Option (MJ)) (p3 : Int32) (I : MJ) : Option (MJ) :=
  (Option.bind (f_tap_word45 2000005 I) fun w1 =>
  (Option.bind (f_pla_write97 (w1.2 29 1) (0 : Int32) w1.1 (ab_up1 w1.2 29 1 ((w1.2 29 1) + (1 : Int32)))) fun I2 =>
  (Option.bind (α := MJ)
  (if w1.1 = (6 : Int32) then
  (Option.bind (F_pla_readAgain98 r p3 (w1.2 29 1) I2) fun I11 =>
  some I11
  )
  else
  (if w1.1 = (4 : Int32) then
  (Option.bind (f_tap_number53 (0 : Int32) ((I2 3 8) - (1 : Int32)) I2) fun w12 =>
  (Option.bind (f_pla_write97 (w1.2 29 1) (1 : Int32) w12.1 w12.2) fun I13 =>
  some I13
  )
  )
  else
  (if w1.1 = (5 : Int32) then
  some I2
  else
  (Option.bind (f_tap_number53 (0 : Int32) ((I2 3 6) - (1 : Int32)) I2) fun w14 =>
  (Option.bind (f_pla_write97 (w1.2 29 1) (1 : Int32) w14.1 w14.2) fun I15 =>
  some I15
  )
  )
  )
  )
  )
  fun b3 =>
  (Option.bind (α := MJ)
  (if w1.1 = 0 then
  (Option.bind (f_tap_number53 (0 : Int32) (5 : Int32) b3) fun w5 =>
  (Option.bind (f_pla_write97 (w1.2 29 1) (2 : Int32) w5.1 w5.2) fun I6 =>
  some I6
  )
  )
  else
  (if w1.1 = (1 : Int32) then
  (Option.bind (f_tap_number53 (0 : Int32) (11 : Int32) b3) fun w7 =>
  (Option.bind (f_pla_write97 (w1.2 29 1) (2 : Int32) w7.1 w7.2) fun I8 =>
  (Option.bind (f_tap_word45 2000006 I8) fun w9 =>
  (Option.bind (f_pla_write97 (w1.2 29 1) (3 : Int32) w9.1 w9.2) fun I10 =>
  some I10
  )
  )
  )
  )
  else
  some b3
  )
  )
  fun b4 =>
  some b4
  )
  )
  )
  )
noncomputable def F_pla_readSteps95 (r : Int32 → MJ → Option (MJ)) (p3 : Int32) (I : MJ) : Option (MJ) :=
  (Option.bind (wh (β := MJ) (fun (s1 : Int32 × MJ) =>
  (if (200 : Int32) < s1.1 then
  some (.inr s1.2)
  else
  (Option.bind (f_tap_hasMore42 s1.2) fun w3 =>
  (if w3.1 = 0 then
  some (.inr w3.2)
  else
  (if 0 < p3 then
  (Option.bind (f_tap_isNext73 (93 : Int32) w3.2) fun w4 =>
  (if w4.1 = 0 then
  (Option.bind (F_pla_readStep96 r p3 w4.2) fun I5 =>
  (Option.bind (f_tap_sign58 (59 : Int32) I5) fun I6 =>
  some (.inl ((s1.1 + (1 : Int32)), I6))
  )
  )
  else
  some (.inr w4.2)
  )
  )
  else
  (Option.bind (F_pla_readStep96 r p3 w3.2) fun I7 =>
  (Option.bind (f_tap_sign58 (59 : Int32) I7) fun I8 =>
  some (.inl ((s1.1 + (1 : Int32)), I8))
  )
  )
  )
  )
  )
  )
  ) ((0 : Int32), I)) fun b2 =>
  some b2
  )
noncomputable def f_pla_readSteps95 : Nat → Int32 → MJ → Option (MJ)
  | 0 => fun _ _ => none
  | k + 1 => F_pla_readSteps95 (f_pla_readSteps95 k)
noncomputable def f_pla_readFrom94  (I : MJ) : Option (MJ) :=
  (Option.bind (f_pla_readSteps95 16 (0 : Int32) (ab_up1 I 29 1 (0 : Int32))) fun I1 =>
  some I1
  )
noncomputable def f_pas_keepWork99  (I : MJ) : Option (MJ) :=
  (Option.bind (f_x_copy22 16 (0 : Int32) 32 ((I 31 3) * (91 : Int32)) (91 : Int32) I) fun I1 =>
  some (ab_up1 I1 31 3 ((I1 31 3) + (1 : Int32)))
  )
noncomputable def f_pla_begin100  (I : MJ) : Option (MJ) :=
  some (ab_up1 (ab_up1 (ab_up1 I 29 2 (0 : Int32)) 29 3 (0 : Int32)) 29 4 (0 : Int32))
noncomputable def f_pla_part102 (p1 : Int32) (p2 : Int32) (I : MJ) : Option (Int32) :=
  (Option.bind (f_x_at16 30 (((4 : Int32) * p1) + p2) I) fun v1 =>
  some v1
  )
noncomputable def f_sta_copyFrom107 (p0 : Nat) (p1 : Nat) (I : MJ) : Option (MJ) :=
  (Option.bind (f_x_copy22 (p1 + 1) (0 : Int32) (p0 + 1) (0 : Int32) (91 : Int32) I) fun I1 =>
  some I1
  )
noncomputable def f_sta_hasSuit108 (p0 : Nat) (p1 : Int32) (I : MJ) : Option (Int32) :=
  (Option.bind (f_x_at16 (p0 + 1) ((3 : Int32) + p1) I) fun v1 =>
  (Option.bind (α := Int32)
  (if v1 = (-1 : Int32) then
  some (0 : Int32)
  else
  some (1 : Int32)
  )
  fun b2 =>
  some (vp_nar .boolean b2)
  )
  )
noncomputable def f_x_holds26 (p0 : Int32) (p1 : Int32) (I : MJ) : Option (Int32) :=
  (Option.bind (α := Int32)
  (if ((p0 >>> (p1 &&& 31)) &&& (1 : Int32)) = 0 then
  some (0 : Int32)
  else
  some (1 : Int32)
  )
  fun b1 =>
  some (vp_nar .boolean b1)
  )
noncomputable def f_pat_isTold25 (p1 : Int32) (I : MJ) : Option (Int32) :=
  (Option.bind (α := Int32)
  (if p1 < 0 then
  some (0 : Int32)
  else
  (if p1 < (6 : Int32) then
  (Option.bind (f_x_holds26 (I 19 3) p1 I) fun v2 =>
  (if v2 = 0 then
  some (0 : Int32)
  else
  some (1 : Int32)
  )
  )
  else
  some (0 : Int32)
  )
  )
  fun b1 =>
  some (vp_nar .boolean b1)
  )
noncomputable def f_pat_kindAt110 (p1 : Int32) (p2 : Int32) (I : MJ) : Option (Int32) :=
  (Option.bind (f_x_at16 20 (((12 : Int32) * p1) + p2) I) fun v1 =>
  some v1
  )
noncomputable def f_sta_take111 (p0 : Nat) (p2 : Int32) (p3 : Int32) (I : MJ) : Option (Int32 × MJ) :=
  (Option.bind (wh (β := Int32) (fun (s1 : Int32 × Int32) =>
  (if s1.2 < (I 3 5) then
  (Option.bind (f_x_at16 (p0 + 1) ((9 : Int32) + s1.2) I) fun v5 =>
  (Option.bind (f_x_at16 4 s1.2 I) fun v6 =>
  (Option.bind (α := Int32)
  (if v6 = p2 then
  (if v5 < p3 then
  some (0 : Int32)
  else
  some (1 : Int32)
  )
  else
  some (0 : Int32)
  )
  fun b7 =>
  (Option.bind (α := Int32)
  (if b7 = 0 then
  some s1.1
  else
  (if s1.1 = (-1 : Int32) then
  some s1.2
  else
  (Option.bind (f_x_at16 (p0 + 1) ((9 : Int32) + s1.1) I) fun v9 =>
  (if v5 < v9 then
  some s1.2
  else
  some s1.1
  )
  )
  )
  )
  fun b8 =>
  some (.inl (b8, (s1.2 + (1 : Int32))))
  )
  )
  )
  )
  else
  some (.inr s1.1)
  )
  ) ((-1 : Int32), (0 : Int32))) fun b2 =>
  (if b2 = (-1 : Int32) then
  some ((0 : Int32), I)
  else
  (Option.bind (f_x_at16 (p0 + 1) ((9 : Int32) + b2) I) fun v3 =>
  (Option.bind (f_x_put15 (p0 + 1) ((9 : Int32) + b2) (v3 - p3) I) fun I4 =>
  some ((1 : Int32), I4)
  )
  )
  )
  )
noncomputable def f_sta_takePattern109 (p3 : Int32) (I : MJ) : Option (Int32 × MJ) :=
  (Option.bind (f_pat_isTold25 p3 I) fun v1 =>
  (if v1 = 0 then
  some ((0 : Int32), I)
  else
  (wh (fun (s2 : Int32 × Int32 × MJ) =>
  (if (12 : Int32) < s2.2.1 then
  some (.inr ((1 : Int32), s2.2.2))
  else
  (Option.bind (f_pat_kindAt110 p3 (s2.2.1 - (1 : Int32)) s2.2.2) fun v3 =>
  (if s2.2.1 < (12 : Int32) then
  (Option.bind (f_pat_kindAt110 p3 s2.2.1 s2.2.2) fun v4 =>
  (if v4 = v3 then
  some (.inl ((s2.1 + (1 : Int32)), (s2.2.1 + (1 : Int32)), s2.2.2))
  else
  (Option.bind (f_sta_take111 17 v3 s2.1 s2.2.2) fun w5 =>
  (if w5.1 = 0 then
  some (.inr ((0 : Int32), w5.2))
  else
  some (.inl ((1 : Int32), (s2.2.1 + (1 : Int32)), w5.2))
  )
  )
  )
  )
  else
  (Option.bind (f_sta_take111 17 v3 s2.1 s2.2.2) fun w6 =>
  (if w6.1 = 0 then
  some (.inr ((0 : Int32), w6.2))
  else
  some (.inl ((1 : Int32), (s2.2.1 + (1 : Int32)), w6.2))
  )
  )
  )
  )
  )
  ) ((1 : Int32), (1 : Int32), I))
  )
  )
noncomputable def f_tra_allowsCut106 (p1 : Int32) (p2 : Int32) (I : MJ) : Option (Int32 × MJ) :=
  (Option.bind (f_sta_copyFrom107 17 15 I) fun I1 =>
  (Option.bind (f_sta_hasSuit108 15 p1 I1) fun v2 =>
  (Option.bind (α := Int32 × MJ)
  (if v2 = 0 then
  (Option.bind (f_sta_takePattern109 p2 I1) fun w4 =>
  (if w4.1 = 0 then
  some ((0 : Int32), w4.2)
  else
  some ((1 : Int32), w4.2)
  )
  )
  else
  some ((0 : Int32), I1)
  )
  fun b3 =>
  some ((vp_nar .boolean b3.1), b3.2)
  )
  )
  )
noncomputable def f_sta_day113 (p0 : Nat) (I : MJ) : Option (Int32) :=
  (Option.bind (f_x_at16 (p0 + 1) (0 : Int32) I) fun v1 =>
  some v1
  )
noncomputable def f_sta_suitAt114 (p0 : Nat) (p1 : Int32) (I : MJ) : Option (Int32) :=
  some ((19 : Int32) + ((12 : Int32) * p1))
noncomputable def f_sta_dress112 (p1 : Int32) (p2 : Nat) (p3 : Int32) (I : MJ) : Option (MJ) :=
  (Option.bind (f_sta_day113 17 I) fun v1 =>
  (Option.bind (f_x_put15 18 ((3 : Int32) + p1) v1 I) fun I2 =>
  (Option.bind (f_sta_suitAt114 17 p1 I2) fun v3 =>
  (Option.bind (f_x_copy22 p2 p3 18 v3 (12 : Int32) I2) fun I4 =>
  some I4
  )
  )
  )
  )
noncomputable def f_tra_cutSuit105 (p1 : Int32) (p2 : Int32) (I : MJ) : Option (Int32 × MJ) :=
  (Option.bind (f_tra_allowsCut106 p1 p2 I) fun w1 =>
  (if w1.1 = 0 then
  some ((0 : Int32), w1.2)
  else
  (Option.bind (f_sta_dress112 p1 20 ((12 : Int32) * p2) w1.2) fun I2 =>
  (Option.bind (f_sta_copyFrom107 15 17 I2) fun I3 =>
  some ((1 : Int32), I3)
  )
  )
  )
  )
noncomputable def f_sta_wornAt116 (p0 : Nat) (p1 : Int32) (p2 : Int32) (I : MJ) : Option (Int32) :=
  (Option.bind (f_sta_suitAt114 p0 p1 I) fun v1 =>
  (Option.bind (f_x_at16 (p0 + 1) (v1 + p2) I) fun v2 =>
  some v2
  )
  )
noncomputable def f_sta_alter117 (p0 : Nat) (p1 : Int32) (p2 : Int32) (p3 : Int32) (I : MJ) : Option (MJ) :=
  (Option.bind (f_sta_suitAt114 p0 p1 I) fun v1 =>
  (Option.bind (f_x_put15 (p0 + 1) (v1 + p2) p3 I) fun I2 =>
  some I2
  )
  )
noncomputable def f_tra_alterHour115 (p1 : Int32) (p2 : Int32) (p3 : Int32) (I : MJ) : Option (Int32 × MJ) :=
  (Option.bind (f_sta_hasSuit108 15 p1 I) fun v1 =>
  (if v1 = 0 then
  some ((0 : Int32), I)
  else
  (Option.bind (f_sta_wornAt116 15 p1 p2 I) fun v2 =>
  (if v2 = p3 then
  some ((0 : Int32), I)
  else
  (Option.bind (f_sta_take111 15 p3 (1 : Int32) I) fun w3 =>
  (if w3.1 = 0 then
  some ((0 : Int32), w3.2)
  else
  (Option.bind (f_sta_alter117 15 p1 p2 p3 w3.2) fun I4 =>
  some ((1 : Int32), I4)
  )
  )
  )
  )
  )
  )
  )
noncomputable def f_sta_turn119 (p1 : Int32) (I : MJ) : Option (MJ) :=
  (Option.bind (wh (β := MJ) (fun (s1 : Int32 × MJ) =>
  (if s1.1 < (6 : Int32) then
  (Option.bind (f_sta_wornAt116 15 p1 s1.1 s1.2) fun v3 =>
  (Option.bind (f_sta_wornAt116 15 p1 ((11 : Int32) - s1.1) s1.2) fun v4 =>
  (Option.bind (f_sta_alter117 15 p1 s1.1 v4 s1.2) fun I5 =>
  (Option.bind (f_sta_alter117 15 p1 ((11 : Int32) - s1.1) v3 I5) fun I6 =>
  some (.inl ((s1.1 + (1 : Int32)), I6))
  )
  )
  )
  )
  else
  some (.inr s1.2)
  )
  ) ((0 : Int32), I)) fun b2 =>
  some b2
  )
noncomputable def f_tra_turnSuit118 (p1 : Int32) (I : MJ) : Option (Int32 × MJ) :=
  (Option.bind (f_sta_hasSuit108 15 p1 I) fun v1 =>
  (if v1 = 0 then
  some ((0 : Int32), I)
  else
  (Option.bind (f_sta_turn119 p1 I) fun I2 =>
  some ((1 : Int32), I2)
  )
  )
  )
noncomputable def f_tra_stripSuit120 (p1 : Int32) (I : MJ) : Option (Int32 × MJ) :=
  (Option.bind (f_sta_hasSuit108 15 p1 I) fun v1 =>
  (if v1 = 0 then
  some ((0 : Int32), I)
  else
  (Option.bind (f_sta_strip14 p1 I) fun I2 =>
  some ((1 : Int32), I2)
  )
  )
  )
noncomputable def f_sho_orderPart123 (p1 : Int32) (p2 : Int32) (I : MJ) : Option (Int32) :=
  (Option.bind (f_x_at16 8 (((5 : Int32) * p1) + p2) I) fun v1 =>
  some v1
  )
noncomputable def f_sta_isSold125 (p1 : Int32) (I : MJ) : Option (Int32) :=
  (Option.bind (f_x_at16 16 (2 : Int32) I) fun v1 =>
  (Option.bind (f_x_holds26 v1 p1 I) fun v2 =>
  some (vp_nar .boolean v2)
  )
  )
noncomputable def f_tra_stateOf124 (p1 : Int32) (I : MJ) : Option (Int32) :=
  (Option.bind (f_sta_isSold125 p1 I) fun v1 =>
  (if v1 = 0 then
  (Option.bind (f_sta_day113 15 I) fun v2 =>
  (Option.bind (f_sho_orderPart123 p1 (2 : Int32) I) fun v3 =>
  (Option.bind (α := Int32)
  (if v3 < v2 then
  some (2 : Int32)
  else
  some (0 : Int32)
  )
  fun b4 =>
  some b4
  )
  )
  )
  else
  some (1 : Int32)
  )
  )
noncomputable def f_x_alike126 (p0 : Nat) (p1 : Int32) (p2 : Nat) (p3 : Int32) (I : MJ) : Option (Int32) :=
  (wh (fun (s1 : Int32) =>
  (if s1 < (12 : Int32) then
  (Option.bind (f_x_at16 p0 (p1 + s1) I) fun v2 =>
  (Option.bind (f_x_at16 p2 (p3 + s1) I) fun v3 =>
  (if v2 = v3 then
  some (.inl (s1 + (1 : Int32)))
  else
  some (.inr (0 : Int32))
  )
  )
  )
  else
  some (.inr (1 : Int32))
  )
  ) (0 : Int32))
noncomputable def f_tra_allowsSale122 (p1 : Int32) (I : MJ) : Option (Int32) :=
  (Option.bind (f_sho_orderPart123 p1 (0 : Int32) I) fun v1 =>
  (Option.bind (f_sho_orderPart123 p1 (1 : Int32) I) fun v2 =>
  (Option.bind (f_tra_stateOf124 p1 I) fun v3 =>
  (Option.bind (α := Int32)
  (if v3 = 0 then
  (Option.bind (f_sta_hasSuit108 15 v1 I) fun v5 =>
  (if v5 = 0 then
  some (0 : Int32)
  else
  (Option.bind (f_pat_isTold25 v2 I) fun v6 =>
  (if v6 = 0 then
  some (0 : Int32)
  else
  (Option.bind (f_sta_suitAt114 15 v1 I) fun v7 =>
  (Option.bind (f_x_alike126 16 v7 20 ((12 : Int32) * v2) I) fun v8 =>
  (if v8 = 0 then
  some (0 : Int32)
  else
  some (1 : Int32)
  )
  )
  )
  )
  )
  )
  )
  else
  some (0 : Int32)
  )
  fun b4 =>
  some (vp_nar .boolean b4)
  )
  )
  )
  )
noncomputable def f_sta_pence128  (I : MJ) : Option (Int32) :=
  (Option.bind (f_x_at16 16 (1 : Int32) I) fun v1 =>
  some v1
  )
noncomputable def f_sta_sell127 (p1 : Int32) (p2 : Int32) (I : MJ) : Option (MJ) :=
  (Option.bind (f_x_at16 16 (2 : Int32) I) fun v1 =>
  (Option.bind (f_x_put15 16 (2 : Int32) (v1 ||| ((1 : Int32) <<< (p1 &&& 31))) I) fun I2 =>
  (Option.bind (f_sta_pence128 I2) fun v3 =>
  (Option.bind (f_x_put15 16 (1 : Int32) (v3 + p2) I2) fun I4 =>
  some I4
  )
  )
  )
  )
noncomputable def f_tra_sellOrder121 (p1 : Int32) (I : MJ) : Option (Int32 × MJ) :=
  (Option.bind (f_tra_allowsSale122 p1 I) fun v1 =>
  (if v1 = 0 then
  some ((0 : Int32), I)
  else
  (Option.bind (f_sho_orderPart123 p1 (3 : Int32) I) fun v2 =>
  (Option.bind (f_sta_sell127 p1 v2 I) fun I3 =>
  (Option.bind (f_sho_orderPart123 p1 (0 : Int32) I3) fun v4 =>
  (Option.bind (f_sta_strip14 v4 I3) fun I5 =>
  some ((1 : Int32), I5)
  )
  )
  )
  )
  )
  )
noncomputable def f_sta_nextDay130 (p0 : Nat) (I : MJ) : Option (MJ) :=
  (Option.bind (f_sta_day113 p0 I) fun v1 =>
  (Option.bind (f_x_put15 (p0 + 1) (0 : Int32) (v1 + (1 : Int32)) I) fun I2 =>
  some I2
  )
  )
noncomputable def f_sta_ageOf132 (p0 : Nat) (p1 : Int32) (I : MJ) : Option (Int32) :=
  (Option.bind (f_sta_day113 p0 I) fun v1 =>
  (Option.bind (f_x_at16 (p0 + 1) ((3 : Int32) + p1) I) fun v2 =>
  some (v1 - v2)
  )
  )
noncomputable def f_x_seamsOf133 (p0 : Nat) (p1 : Int32) (I : MJ) : Option (Int32) :=
  (Option.bind (wh (β := Int32) (fun (s1 : Int32 × Int32) =>
  (if s1.2 < (12 : Int32) then
  (Option.bind (f_x_at16 p0 (p1 + s1.2) I) fun v3 =>
  (Option.bind (f_x_at16 p0 ((p1 + s1.2) - (1 : Int32)) I) fun v4 =>
  (Option.bind (α := Int32)
  (if v3 = v4 then
  some (0 : Int32)
  else
  some (1 : Int32)
  )
  fun b5 =>
  some (.inl ((s1.1 + b5), (s1.2 + (1 : Int32))))
  )
  )
  )
  else
  some (.inr s1.1)
  )
  ) ((0 : Int32), (1 : Int32))) fun b2 =>
  some b2
  )
noncomputable def f_mot_reckon135 (p0 : Int32) (p1 : Int32) (p2 : Int32) (I : MJ) : Option (Int32) :=
  (if p0 = (-12 : Int32) then
  (Option.bind (α := Int32)
  (if p2 = 0 then
  some (0 : Int32)
  else
  (Option.bind (dv p1 p2) fun v2 =>
  some v2
  )
  )
  fun b1 =>
  some b1
  )
  else
  (if p0 = (-11 : Int32) then
  some (p1 * p2)
  else
  (if p0 = (-10 : Int32) then
  some (p1 - p2)
  else
  (if p0 = (-9 : Int32) then
  some (p1 + p2)
  else
  (if p0 = (-8 : Int32) then
  some (if p1 < p2 then p2 else p1)
  else
  (if p0 = (-7 : Int32) then
  some (if p2 < p1 then p2 else p1)
  else
  (Option.bind (α := Int32)
  (if p2 = 0 then
  some (0 : Int32)
  else
  (Option.bind (rmd p1 p2) fun v4 =>
  some v4
  )
  )
  fun b3 =>
  some b3
  )
  ))))))
noncomputable def f_mot_value134  (I : MJ) : Option (Int32 × MJ) :=
  (Option.bind (wh (β := Int32 × MJ) (fun (s1 : Int32 × Int32 × MJ) =>
  (if s1.2.1 < (s1.2.2 23 4) then
  (Option.bind (f_x_at16 24 s1.2.1 s1.2.2) fun v5 =>
  (Option.bind (α := Int32 × MJ)
  (if v5 < (-6 : Int32) then
  (Option.bind (f_x_at16 26 ((s1.1 + (-1 : Int32)) - (1 : Int32)) s1.2.2) fun v7 =>
  (Option.bind (f_x_at16 26 (s1.1 + (-1 : Int32)) s1.2.2) fun v8 =>
  (Option.bind (f_mot_reckon135 v5 v7 v8 s1.2.2) fun v9 =>
  (Option.bind (f_x_put15 26 ((s1.1 + (-1 : Int32)) - (1 : Int32)) v9 s1.2.2) fun I10 =>
  some ((s1.1 + (-1 : Int32)), I10)
  )
  )
  )
  )
  else
  (Option.bind (α := Int32)
  (if v5 < 0 then
  (Option.bind (f_x_at16 27 ((-1 : Int32) - v5) s1.2.2) fun v13 =>
  some v13
  )
  else
  some v5
  )
  fun b11 =>
  (Option.bind (f_x_put15 26 s1.1 b11 s1.2.2) fun I12 =>
  some ((s1.1 + (1 : Int32)), I12)
  )
  )
  )
  fun b6 =>
  some (.inl (b6.1, (s1.2.1 + (1 : Int32)), b6.2))
  )
  )
  else
  some (.inr (s1.1, s1.2.2))
  )
  ) ((0 : Int32), (0 : Int32), I)) fun b2 =>
  (Option.bind (α := Int32)
  (if 0 < b2.1 then
  (Option.bind (f_x_at16 26 (b2.1 - (1 : Int32)) b2.2) fun v4 =>
  some v4
  )
  else
  some (0 : Int32)
  )
  fun b3 =>
  some (b3, b2.2)
  )
  )
noncomputable def f_mot_eat131 (p1 : Nat) (p2 : Int32) (I : MJ) : Option (MJ) :=
  (Option.bind (f_sta_ageOf132 p1 p2 I) fun v1 =>
  (Option.bind (f_x_put15 27 (2 : Int32) v1 I) fun I2 =>
  (Option.bind (f_sta_day113 p1 I2) fun v3 =>
  (Option.bind (f_x_put15 27 (3 : Int32) v3 I2) fun I4 =>
  (Option.bind (f_x_put15 27 (4 : Int32) p2 I4) fun I5 =>
  (Option.bind (f_sta_suitAt114 p1 p2 I5) fun v6 =>
  (Option.bind (f_x_seamsOf133 (p1 + 1) v6 I5) fun v7 =>
  (Option.bind (f_x_put15 27 (5 : Int32) v7 I5) fun I8 =>
  (Option.bind (wh (β := MJ) (fun (s9 : Int32 × MJ) =>
  (if s9.1 < (12 : Int32) then
  (Option.bind (f_x_put15 27 (0 : Int32) s9.1 s9.2) fun I11 =>
  (Option.bind (f_sta_wornAt116 p1 p2 s9.1 I11) fun v12 =>
  (Option.bind (f_x_put15 27 (1 : Int32) v12 I11) fun I13 =>
  (Option.bind (f_mot_value134 I13) fun w14 =>
  (Option.bind (α := MJ)
  (if 0 < w14.1 then
  (Option.bind (f_sta_alter117 p1 p2 s9.1 (6 : Int32) w14.2) fun I16 =>
  some I16
  )
  else
  some w14.2
  )
  fun b15 =>
  some (.inl ((s9.1 + (1 : Int32)), b15))
  )
  )
  )
  )
  )
  else
  some (.inr s9.2)
  )
  ) ((0 : Int32), I8)) fun b10 =>
  some b10
  )
  )
  )
  )
  )
  )
  )
  )
  )
noncomputable def f_tra_passDay129 (p1 : Nat) (I : MJ) : Option (Int32 × MJ) :=
  (Option.bind (f_sta_day113 p1 I) fun v1 =>
  (if v1 < (60 : Int32) then
  (Option.bind (f_sta_nextDay130 p1 I) fun I2 =>
  (Option.bind (wh (β := MJ) (fun (s3 : Int32 × MJ) =>
  (if s3.1 < (s3.2 3 6) then
  (Option.bind (f_sta_hasSuit108 p1 s3.1 s3.2) fun v5 =>
  (Option.bind (α := MJ)
  (if v5 = 0 then
  some s3.2
  else
  (Option.bind (f_mot_eat131 p1 s3.1 s3.2) fun I7 =>
  some I7
  )
  )
  fun b6 =>
  some (.inl ((s3.1 + (1 : Int32)), b6))
  )
  )
  else
  some (.inr s3.2)
  )
  ) ((0 : Int32), I2)) fun b4 =>
  some ((1 : Int32), b4)
  )
  )
  else
  some ((0 : Int32), I)
  )
  )
noncomputable def f_tra_step104 (p1 : Int32) (p2 : Int32) (p3 : Int32) (p4 : Int32) (I : MJ) : Option (Int32 × MJ) :=
  (if p1 = (0 : Int32) then
  (Option.bind (f_tra_cutSuit105 p2 p3 I) fun w1 =>
  some ((vp_nar .boolean w1.1), w1.2)
  )
  else
  (if p1 = (1 : Int32) then
  (Option.bind (f_tra_alterHour115 p2 p3 p4 I) fun w2 =>
  some ((vp_nar .boolean w2.1), w2.2)
  )
  else
  (if p1 = (2 : Int32) then
  (Option.bind (f_tra_turnSuit118 p2 I) fun w3 =>
  some ((vp_nar .boolean w3.1), w3.2)
  )
  else
  (if p1 = (3 : Int32) then
  (Option.bind (f_tra_stripSuit120 p2 I) fun w4 =>
  some ((vp_nar .boolean w4.1), w4.2)
  )
  else
  (if p1 = (4 : Int32) then
  (Option.bind (f_tra_sellOrder121 p2 I) fun w5 =>
  some ((vp_nar .boolean w5.1), w5.2)
  )
  else
  (Option.bind (f_tra_passDay129 15 I) fun w6 =>
  some ((vp_nar .boolean w6.1), w6.2)
  )
  )))))
noncomputable def F_pla_doAgain103 (r : Int32 → Int32 → Int32 → MJ → Option (MJ)) (p2 : Int32) (p3 : Int32) (I : MJ) : Option (MJ) :=
  (Option.bind (wh (β := MJ) (fun (s1 : Int32 × MJ) =>
  (Option.bind (f_pla_part102 p2 (1 : Int32) s1.2) fun v3 =>
  (if s1.1 < v3 then
  (if (s1.2 29 2) < (200 : Int32) then
  (if p3 < (6 : Int32) then
  (Option.bind (f_pla_part102 p2 (2 : Int32) s1.2) fun v4 =>
  (Option.bind (r (p2 + (1 : Int32)) v4 (p3 + (1 : Int32)) s1.2) fun I5 =>
  some (.inl ((s1.1 + (1 : Int32)), I5))
  )
  )
  else
  some (.inr s1.2)
  )
  else
  some (.inr s1.2)
  )
  else
  some (.inr s1.2)
  )
  )
  ) ((0 : Int32), I)) fun b2 =>
  some b2
  )
noncomputable def F_pla_doSteps101 (r : Int32 → Int32 → Int32 → MJ → Option (MJ)) (p2 : Int32) (p3 : Int32) (p4 : Int32) (I : MJ) : Option (MJ) :=
  (Option.bind (wh (β := MJ) (fun (s1 : Int32 × MJ) =>
  (if s1.1 < p3 then
  (if (s1.2 29 2) < (200 : Int32) then
  (Option.bind (f_pla_part102 s1.1 (0 : Int32) (ab_up1 s1.2 29 2 ((s1.2 29 2) + (1 : Int32)))) fun v3 =>
  (Option.bind (α := Int32 × MJ)
  (if v3 = (6 : Int32) then
  (Option.bind (F_pla_doAgain103 r s1.1 p4 (ab_up1 s1.2 29 2 ((s1.2 29 2) + (1 : Int32)))) fun I5 =>
  (Option.bind (f_pla_part102 s1.1 (2 : Int32) I5) fun v6 =>
  some ((if s1.1 < (v6 - (1 : Int32)) then (v6 - (1 : Int32)) else s1.1), I5)
  )
  )
  else
  (Option.bind (f_pla_part102 s1.1 (0 : Int32) (ab_up1 s1.2 29 2 ((s1.2 29 2) + (1 : Int32)))) fun v7 =>
  (Option.bind (f_pla_part102 s1.1 (1 : Int32) (ab_up1 s1.2 29 2 ((s1.2 29 2) + (1 : Int32)))) fun v8 =>
  (Option.bind (f_pla_part102 s1.1 (2 : Int32) (ab_up1 s1.2 29 2 ((s1.2 29 2) + (1 : Int32)))) fun v9 =>
  (Option.bind (f_pla_part102 s1.1 (3 : Int32) (ab_up1 s1.2 29 2 ((s1.2 29 2) + (1 : Int32)))) fun v10 =>
  (Option.bind (f_tra_step104 v7 v8 v9 v10 (ab_up1 s1.2 29 2 ((s1.2 29 2) + (1 : Int32)))) fun w11 =>
  (if w11.1 = 0 then
  some (s1.1, (ab_up1 w11.2 29 4 ((w11.2 29 4) + (1 : Int32))))
  else
  some (s1.1, (ab_up1 w11.2 29 3 ((w11.2 29 3) + (1 : Int32))))
  )
  )
  )
  )
  )
  )
  )
  fun b4 =>
  some (.inl ((b4.1 + (1 : Int32)), b4.2))
  )
  )
  else
  some (.inr s1.2)
  )
  else
  some (.inr s1.2)
  )
  ) (p2, I)) fun b2 =>
  some b2
  )
noncomputable def f_pla_doSteps101 : Nat → Int32 → Int32 → Int32 → MJ → Option (MJ)
  | 0 => fun _ _ _ _ => none
  | k + 1 => F_pla_doSteps101 (f_pla_doSteps101 k)
noncomputable def f_x_work92 (p1 : Int32) (I : MJ) : Option ((Nat ⊕ Int32) × MJ) :=
  (tb (f_x_needText37 p1 (200 : Int32) I) fun _ I2 =>
  (Option.bind (f_tap_open40 p1 I2) fun I3 =>
  (Option.bind (f_pas_isFull93 I3) fun v4 =>
  (if v4 = 0 then
  (Option.bind (f_pla_readFrom94 I3) fun I5 =>
  (Option.bind (f_tap_isSound59 I5) fun v6 =>
  (Option.bind (α := MJ)
  (if v6 = 0 then
  some I5
  else
  (Option.bind (f_pas_keepWork99 I5) fun I9 =>
  (Option.bind (f_pla_begin100 I9) fun I10 =>
  (Option.bind (f_pla_doSteps101 16 (0 : Int32) (I10 29 1) (0 : Int32) I10) fun I11 =>
  some (ab_up1 I11 0 13 (I11 29 4))
  )
  )
  )
  )
  fun b7 =>
  (Option.bind (f_tap_close65 (b7 29 3) b7) fun w8 =>
  some (.inr w8.1, w8.2)
  )
  )
  )
  )
  else
  (Option.bind (f_tap_close65 (-20 : Int32) I3) fun w12 =>
  some (.inr w12.1, w12.2)
  )
  )
  )
  )
  )
noncomputable def f_l_work91 (p1 : Int32) (I : MJ) (g : GG) : Option (Int32 × MJ × GG) :=
  (tryb (f_x_work92 p1 I) (fun v1 I2 =>
  (Option.bind (wrl g 698 (0 : Int32) (v1.toInt64)) fun g3 =>
  some ((0 : Int32), I2, g3)
  )
  ) (fun E2 I2 =>
  (if E2 = 1 then
  some ((1 : Int32), I2, (thr g))
  else
  none)
  ))
noncomputable def f_m_stepHere301  (I : MJ) : Option (Int32 × MJ) :=
  (Option.bind (f_m_isWord274 (3 : Int32) (21 : Int32) (20 : Int32) (0 : Int32) (0 : Int32) (0 : Int32) I) fun w1 =>
  (if w1.1 = 0 then
  (Option.bind (f_m_isWord274 (1 : Int32) (12 : Int32) (20 : Int32) (5 : Int32) (18 : Int32) (0 : Int32) w1.2) fun w2 =>
  (if w2.1 = 0 then
  (Option.bind (f_m_isWord274 (20 : Int32) (21 : Int32) (18 : Int32) (14 : Int32) (0 : Int32) (0 : Int32) w2.2) fun w3 =>
  (if w3.1 = 0 then
  (Option.bind (f_m_isWord274 (19 : Int32) (20 : Int32) (18 : Int32) (9 : Int32) (16 : Int32) (0 : Int32) w3.2) fun w4 =>
  (if w4.1 = 0 then
  (Option.bind (f_m_isWord274 (19 : Int32) (5 : Int32) (12 : Int32) (12 : Int32) (0 : Int32) (0 : Int32) w4.2) fun w5 =>
  (if w5.1 = 0 then
  (Option.bind (f_m_isWord274 (4 : Int32) (1 : Int32) (25 : Int32) (0 : Int32) (0 : Int32) (0 : Int32) w5.2) fun w6 =>
  (if w6.1 = 0 then
  (Option.bind (f_m_isWord274 (1 : Int32) (7 : Int32) (1 : Int32) (9 : Int32) (14 : Int32) (0 : Int32) w6.2) fun w7 =>
  (Option.bind (α := Int32)
  (if w7.1 = 0 then
  some (-1 : Int32)
  else
  some (6 : Int32)
  )
  fun b8 =>
  some (b8, w7.2)
  )
  )
  else
  some ((5 : Int32), w6.2)
  )
  )
  else
  some ((4 : Int32), w5.2)
  )
  )
  else
  some ((3 : Int32), w4.2)
  )
  )
  else
  some ((2 : Int32), w3.2)
  )
  )
  else
  some ((1 : Int32), w2.2)
  )
  )
  else
  some ((0 : Int32), w1.2)
  )
  )
noncomputable def F_m_readsStep300 (r : MJ → Option (MJ))  (I : MJ) : Option (MJ) :=
  (Option.bind (f_m_stepHere301 I) fun w1 =>
  (Option.bind (α := MJ)
  (if w1.1 = (-1 : Int32) then
  (Option.bind (f_m_wrong278 (1 : Int32) (w1.2 47 4) w1.2) fun I66 =>
  some I66
  )
  else
  some w1.2
  )
  fun b2 =>
  (if w1.1 = (6 : Int32) then
  (Option.bind (f_m_opens290 b2) fun w3 =>
  (if w3.1 = 0 then
  some w3.2
  else
  (if (w3.2 47 5) = 0 then
  (Option.bind (f_m_skipWord280 w3.2) fun I4 =>
  (Option.bind (rdp 495 (I4 47 34)) fun r5 =>
  (Option.bind (wr (ab_up1 I4 47 34 ((I4 47 34) + (1 : Int32))) r5 (0 : Int32) w1.1) fun I6 =>
  (Option.bind (α := MJ)
  (if w1.1 < (4 : Int32) then
  (Option.bind (f_m_number283 (0 : Int32) ((I6 51 1) - (1 : Int32)) I6) fun w33 =>
  (Option.bind (wr w33.2 r5 (1 : Int32) w33.1) fun I34 =>
  some I34
  )
  )
  else
  some I6
  )
  fun b7 =>
  (Option.bind (α := MJ)
  (if w1.1 = 0 then
  (Option.bind (f_m_number283 (0 : Int32) (5 : Int32) b7) fun w31 =>
  (Option.bind (wr w31.2 r5 (2 : Int32) w31.1) fun I32 =>
  some I32
  )
  )
  else
  some b7
  )
  fun b8 =>
  (Option.bind (α := MJ)
  (if w1.1 = (1 : Int32) then
  (Option.bind (f_m_number283 (0 : Int32) (11 : Int32) b8) fun w26 =>
  (Option.bind (wr w26.2 r5 (2 : Int32) w26.1) fun I27 =>
  (Option.bind (α := Int32 × MJ)
  (if (I27 47 5) = 0 then
  (Option.bind (f_m_skyHere281 I27) fun w30 =>
  some (w30.1, w30.2)
  )
  else
  some ((0 : Int32), I27)
  )
  fun b28 =>
  (Option.bind (wr b28.2 r5 (3 : Int32) b28.1) fun I29 =>
  some I29
  )
  )
  )
  )
  else
  some b8
  )
  fun b9 =>
  (Option.bind (α := MJ)
  (if w1.1 = (4 : Int32) then
  (Option.bind (f_m_number283 (0 : Int32) ((b9 51 3) - (1 : Int32)) b9) fun w24 =>
  (Option.bind (wr w24.2 r5 (1 : Int32) w24.1) fun I25 =>
  some I25
  )
  )
  else
  some b9
  )
  fun b10 =>
  (Option.bind (α := MJ)
  (if w1.1 = (6 : Int32) then
  (Option.bind (f_m_number283 (0 : Int32) (20 : Int32) b10) fun w14 =>
  (Option.bind (wr w14.2 r5 (1 : Int32) w14.1) fun I15 =>
  (Option.bind (f_m_sign285 (91 : Int32) I15) fun I16 =>
  (Option.bind (f_m_blanks270 I16) fun I17 =>
  (Option.bind (wh (β := MJ) (fun (s18 : MJ) =>
  (if (s18 47 5) = 0 then
  (Option.bind (f_m_byteAt271 (s18 47 4) s18) fun v21 =>
  (if v21 = (93 : Int32) then
  some (.inr s18)
  else
  (Option.bind (r s18) fun I22 =>
  (Option.bind (f_m_blanks270 I22) fun I23 =>
  some (.inl I23)
  )
  )
  )
  )
  else
  some (.inr s18)
  )
  ) I17) fun b19 =>
  (Option.bind (f_m_sign285 (93 : Int32) b19) fun I20 =>
  some (ab_up1 I20 47 8 ((I20 47 8) - (1 : Int32)))
  )
  )
  )
  )
  )
  )
  else
  some b10
  )
  fun b11 =>
  (Option.bind (wr b11 r5 (4 : Int32) (b11 47 34)) fun I12 =>
  (Option.bind (f_m_sign285 (59 : Int32) I12) fun I13 =>
  some I13
  )
  )
  )
  )
  )
  )
  )
  )
  )
  )
  else
  some w3.2
  )
  )
  )
  else
  (if (b2 47 5) = 0 then
  (Option.bind (f_m_skipWord280 b2) fun I35 =>
  (Option.bind (rdp 495 (I35 47 34)) fun r36 =>
  (Option.bind (wr (ab_up1 I35 47 34 ((I35 47 34) + (1 : Int32))) r36 (0 : Int32) w1.1) fun I37 =>
  (Option.bind (α := MJ)
  (if w1.1 < (4 : Int32) then
  (Option.bind (f_m_number283 (0 : Int32) ((I37 51 1) - (1 : Int32)) I37) fun w64 =>
  (Option.bind (wr w64.2 r36 (1 : Int32) w64.1) fun I65 =>
  some I65
  )
  )
  else
  some I37
  )
  fun b38 =>
  (Option.bind (α := MJ)
  (if w1.1 = 0 then
  (Option.bind (f_m_number283 (0 : Int32) (5 : Int32) b38) fun w62 =>
  (Option.bind (wr w62.2 r36 (2 : Int32) w62.1) fun I63 =>
  some I63
  )
  )
  else
  some b38
  )
  fun b39 =>
  (Option.bind (α := MJ)
  (if w1.1 = (1 : Int32) then
  (Option.bind (f_m_number283 (0 : Int32) (11 : Int32) b39) fun w57 =>
  (Option.bind (wr w57.2 r36 (2 : Int32) w57.1) fun I58 =>
  (Option.bind (α := Int32 × MJ)
  (if (I58 47 5) = 0 then
  (Option.bind (f_m_skyHere281 I58) fun w61 =>
  some (w61.1, w61.2)
  )
  else
  some ((0 : Int32), I58)
  )
  fun b59 =>
  (Option.bind (wr b59.2 r36 (3 : Int32) b59.1) fun I60 =>
  some I60
  )
  )
  )
  )
  else
  some b39
  )
  fun b40 =>
  (Option.bind (α := MJ)
  (if w1.1 = (4 : Int32) then
  (Option.bind (f_m_number283 (0 : Int32) ((b40 51 3) - (1 : Int32)) b40) fun w55 =>
  (Option.bind (wr w55.2 r36 (1 : Int32) w55.1) fun I56 =>
  some I56
  )
  )
  else
  some b40
  )
  fun b41 =>
  (Option.bind (α := MJ)
  (if w1.1 = (6 : Int32) then
  (Option.bind (f_m_number283 (0 : Int32) (20 : Int32) b41) fun w45 =>
  (Option.bind (wr w45.2 r36 (1 : Int32) w45.1) fun I46 =>
  (Option.bind (f_m_sign285 (91 : Int32) I46) fun I47 =>
  (Option.bind (f_m_blanks270 I47) fun I48 =>
  (Option.bind (wh (β := MJ) (fun (s49 : MJ) =>
  (if (s49 47 5) = 0 then
  (Option.bind (f_m_byteAt271 (s49 47 4) s49) fun v52 =>
  (if v52 = (93 : Int32) then
  some (.inr s49)
  else
  (Option.bind (r s49) fun I53 =>
  (Option.bind (f_m_blanks270 I53) fun I54 =>
  some (.inl I54)
  )
  )
  )
  )
  else
  some (.inr s49)
  )
  ) I48) fun b50 =>
  (Option.bind (f_m_sign285 (93 : Int32) b50) fun I51 =>
  some (ab_up1 I51 47 8 ((I51 47 8) - (1 : Int32)))
  )
  )
  )
  )
  )
  )
  else
  some b41
  )
  fun b42 =>
  (Option.bind (wr b42 r36 (4 : Int32) (b42 47 34)) fun I43 =>
  (Option.bind (f_m_sign285 (59 : Int32) I43) fun I44 =>
  some I44
  )
  )
  )
  )
  )
  )
  )
  )
  )
  )
  else
  some b2
  )
  )
  )
  )
noncomputable def f_m_readsStep300 : Nat → MJ → Option (MJ)
  | 0 => fun _ => none
  | k + 1 => F_m_readsStep300 (f_m_readsStep300 k)
noncomputable def f_m_copies302 (p0 : Nat) (p1 : Nat) (I : MJ) : Option (MJ) :=
  (Option.bind (wh (β := MJ) (fun (s1 : Int32 × MJ) =>
  (if s1.1 < (91 : Int32) then
  (Option.bind (rd s1.2 p0 s1.1) fun v3 =>
  (Option.bind (wr s1.2 p1 s1.1 v3) fun I4 =>
  some (.inl ((s1.1 + (1 : Int32)), I4))
  )
  )
  else
  some (.inr s1.2)
  )
  ) ((0 : Int32), I)) fun b2 =>
  some b2
  )
noncomputable def f_m_hasSuit305 (p0 : Nat) (p1 : Int32) (I : MJ) : Option (Int32) :=
  (Option.bind (rd I p0 ((82 : Int32) + p1)) fun v1 =>
  (Option.bind (α := Int32)
  (if v1 = (-1 : Int32) then
  some (0 : Int32)
  else
  some (1 : Int32)
  )
  fun b2 =>
  some (vp_nar .boolean b2)
  )
  )
noncomputable def f_m_runAt308 (p0 : Nat) (p1 : Int32) (p2 : Int32) (I : MJ) : Option (Int32) :=
  (Option.bind (wh (β := Int32) (fun (s1 : Int32) =>
  (if (p2 + s1) < (12 : Int32) then
  (Option.bind (rd I p0 ((p1 + p2) + s1)) fun v3 =>
  (Option.bind (rd I p0 (p1 + p2)) fun v4 =>
  (if v3 = v4 then
  some (.inl (s1 + (1 : Int32)))
  else
  some (.inr s1)
  )
  )
  )
  else
  some (.inr s1)
  )
  ) (1 : Int32)) fun b2 =>
  some b2
  )
noncomputable def f_m_boltFor309 (p1 : Nat) (p2 : Int32) (p3 : Int32) (I : MJ) : Option (Int32) :=
  (Option.bind (wh (β := Int32) (fun (s1 : Int32 × Int32) =>
  (if s1.2 < (I 51 0) then
  (Option.bind (rdp 65 s1.2) fun r3 =>
  (Option.bind (rd I r3 (0 : Int32)) fun v4 =>
  (Option.bind (α := Int32)
  (if v4 = p2 then
  (Option.bind (rd I p1 ((0 : Int32) + s1.2)) fun v6 =>
  (if v6 < p3 then
  some s1.1
  else
  (if s1.1 = (-1 : Int32) then
  some s1.2
  else
  (Option.bind (rd I p1 ((0 : Int32) + s1.2)) fun v7 =>
  (Option.bind (rd I p1 ((0 : Int32) + s1.1)) fun v8 =>
  (if v7 < v8 then
  some s1.2
  else
  some s1.1
  )
  )
  )
  )
  )
  )
  else
  some s1.1
  )
  fun b5 =>
  some (.inl (b5, (s1.2 + (1 : Int32))))
  )
  )
  )
  else
  some (.inr s1.1)
  )
  ) ((-1 : Int32), (0 : Int32))) fun b2 =>
  some b2
  )
noncomputable def f_m_cuts307 (p1 : Nat) (p2 : Int32) (I : MJ) : Option (Int32 × MJ) :=
  (Option.bind (rdb I 135 p2) fun v1 =>
  (if v1 = 0 then
  some ((0 : Int32), I)
  else
  (Option.bind (f_m_copies302 p1 599 I) fun I2 =>
  (wh (fun (s3 : Int32 × MJ) =>
  (if s3.1 < (12 : Int32) then
  (Option.bind (rdp 128 p2) fun r4 =>
  (Option.bind (f_m_runAt308 r4 (0 : Int32) s3.1 s3.2) fun v5 =>
  (Option.bind (rdp 128 p2) fun r6 =>
  (Option.bind (rd s3.2 r6 s3.1) fun v7 =>
  (Option.bind (f_m_boltFor309 599 v7 v5 s3.2) fun v8 =>
  (if v8 = (-1 : Int32) then
  some (.inr ((0 : Int32), s3.2))
  else
  (Option.bind (rd s3.2 599 ((0 : Int32) + v8)) fun v9 =>
  (Option.bind (wr s3.2 599 ((0 : Int32) + v8) (v9 - v5)) fun I10 =>
  (Option.bind (rdp 128 p2) fun r11 =>
  (Option.bind (f_m_runAt308 r11 (0 : Int32) s3.1 I10) fun v12 =>
  some (.inl ((s3.1 + v12), I10))
  )
  )
  )
  )
  )
  )
  )
  )
  )
  )
  else
  some (.inr ((1 : Int32), s3.2))
  )
  ) ((0 : Int32), I2))
  )
  )
  )
noncomputable def f_m_canCut306 (p1 : Nat) (p2 : Int32) (p3 : Int32) (I : MJ) : Option (Int32 × MJ) :=
  (Option.bind (f_m_hasSuit305 p1 p2 I) fun v1 =>
  (Option.bind (α := Int32 × MJ)
  (if v1 = 0 then
  (Option.bind (f_m_cuts307 p1 p3 I) fun w3 =>
  (if w3.1 = 0 then
  some ((0 : Int32), w3.2)
  else
  some ((1 : Int32), w3.2)
  )
  )
  else
  some ((0 : Int32), I)
  )
  fun b2 =>
  some ((vp_nar .boolean b2.1), b2.2)
  )
  )
noncomputable def f_m_suitOf310 (p0 : Int32) (I : MJ) : Option (Int32) :=
  some ((10 : Int32) + ((12 : Int32) * p0))
noncomputable def f_m_has313 (p0 : Int32) (p1 : Int32) (I : MJ) : Option (Int32) :=
  (Option.bind (α := Int32)
  (if ((p0 >>> (p1 &&& 31)) &&& (1 : Int32)) = (1 : Int32) then
  some (1 : Int32)
  else
  some (0 : Int32)
  )
  fun b1 =>
  some (vp_nar .boolean b1)
  )
noncomputable def f_m_stateOf312 (p1 : Nat) (p2 : Int32) (I : MJ) : Option (Int32) :=
  (Option.bind (rd I p1 (88 : Int32)) fun v1 =>
  (Option.bind (f_m_has313 v1 p2 I) fun v2 =>
  (Option.bind (α := Int32)
  (if v2 = 0 then
  (Option.bind (rd I p1 (89 : Int32)) fun v4 =>
  (Option.bind (rdp 119 p2) fun r5 =>
  (Option.bind (rd I r5 (2 : Int32)) fun v6 =>
  (if v6 < v4 then
  some (2 : Int32)
  else
  some (0 : Int32)
  )
  )
  )
  )
  else
  some (1 : Int32)
  )
  fun b3 =>
  some b3
  )
  )
  )
noncomputable def f_m_isReady311 (p1 : Nat) (p2 : Int32) (I : MJ) : Option (Int32) :=
  (Option.bind (rdp 119 p2) fun r1 =>
  (Option.bind (rd I r1 (0 : Int32)) fun v2 =>
  (Option.bind (rdp 119 p2) fun r3 =>
  (Option.bind (rd I r3 (1 : Int32)) fun v4 =>
  (Option.bind (f_m_stateOf312 p1 p2 I) fun v5 =>
  (if v5 = 0 then
  (Option.bind (f_m_hasSuit305 p1 v2 I) fun v6 =>
  (if v6 = 0 then
  some (0 : Int32)
  else
  (Option.bind (rdb I 135 v4) fun v7 =>
  (if v7 = 0 then
  some (0 : Int32)
  else
  (wh (fun (s8 : Int32) =>
  (if s8 < (12 : Int32) then
  (Option.bind (f_m_suitOf310 v2 I) fun v9 =>
  (Option.bind (rd I p1 (v9 + s8)) fun v10 =>
  (Option.bind (rdp 128 v4) fun r11 =>
  (Option.bind (rd I r11 s8) fun v12 =>
  (if v10 = v12 then
  some (.inl (s8 + (1 : Int32)))
  else
  some (.inr (0 : Int32))
  )
  )
  )
  )
  )
  else
  some (.inr (1 : Int32))
  )
  ) (0 : Int32))
  )
  )
  )
  )
  else
  some (0 : Int32)
  )
  )
  )
  )
  )
  )
noncomputable def f_m_seamsOf316 (p0 : Nat) (p1 : Int32) (I : MJ) : Option (Int32) :=
  (Option.bind (wh (β := Int32) (fun (s1 : Int32 × Int32) =>
  (if s1.2 < (12 : Int32) then
  (Option.bind (rd I p0 (p1 + s1.2)) fun v3 =>
  (Option.bind (rd I p0 ((p1 + s1.2) - (1 : Int32))) fun v4 =>
  (Option.bind (α := Int32)
  (if v3 = v4 then
  some (0 : Int32)
  else
  some (1 : Int32)
  )
  fun b5 =>
  some (.inl ((s1.1 + b5), (s1.2 + (1 : Int32))))
  )
  )
  )
  else
  some (.inr s1.1)
  )
  ) ((0 : Int32), (1 : Int32))) fun b2 =>
  some b2
  )
noncomputable def f_m_less319 (p0 : Int32) (p1 : Int32) (I : MJ) : Option (Int32) :=
  (Option.bind (α := Int32)
  (if p0 < p1 then
  some p0
  else
  some p1
  )
  fun b1 =>
  some b1
  )
noncomputable def f_m_more320 (p0 : Int32) (p1 : Int32) (I : MJ) : Option (Int32) :=
  (Option.bind (α := Int32)
  (if p1 < p0 then
  some p0
  else
  some p1
  )
  fun b1 =>
  some b1
  )
noncomputable def f_m_by318 (p0 : Int32) (p1 : Int32) (p2 : Int32) (I : MJ) : Option (Int32) :=
  (if p0 = (2 : Int32) then
  some (p1 + p2)
  else
  (if p0 = (3 : Int32) then
  some (p1 - p2)
  else
  (if p0 = (4 : Int32) then
  some (p1 * p2)
  else
  (if p0 = (5 : Int32) then
  (Option.bind (α := Int32)
  (if p2 = 0 then
  some (0 : Int32)
  else
  (if p2 = (-1 : Int32) then
  some (-p1)
  else
  (Option.bind (dv p1 p2) fun v2 =>
  some v2
  )
  )
  )
  fun b1 =>
  some b1
  )
  else
  (if p0 = (6 : Int32) then
  (Option.bind (α := Int32)
  (if p2 = 0 then
  some (0 : Int32)
  else
  (if p2 = (-1 : Int32) then
  some (0 : Int32)
  else
  (Option.bind (rmd p1 p2) fun v4 =>
  some v4
  )
  )
  )
  fun b3 =>
  some b3
  )
  else
  (if p0 = (7 : Int32) then
  (Option.bind (f_m_less319 p1 p2 I) fun v5 =>
  some v5
  )
  else
  (Option.bind (f_m_more320 p1 p2 I) fun v6 =>
  some v6
  )
  ))))))
noncomputable def f_m_byLaw317  (I : MJ) : Option (Int32 × MJ) :=
  (if (I 47 25) = 0 then
  some ((0 : Int32), I)
  else
  (Option.bind (wh (β := MJ) (fun (s1 : Int32 × Int32 × MJ) =>
  (if s1.2.1 < (s1.2.2 47 25) then
  (Option.bind (rdp 145 s1.2.1) fun r3 =>
  (Option.bind (rd s1.2.2 r3 (0 : Int32)) fun v4 =>
  (Option.bind (α := Int32 × MJ)
  (if v4 < (2 : Int32) then
  (Option.bind (rdp 145 s1.2.1) fun r6 =>
  (Option.bind (rd s1.2.2 r6 (0 : Int32)) fun v7 =>
  (Option.bind (α := Int32)
  (if v7 = 0 then
  (Option.bind (rdp 145 s1.2.1) fun r10 =>
  (Option.bind (rd s1.2.2 r10 (1 : Int32)) fun v11 =>
  some v11
  )
  )
  else
  (Option.bind (rdp 145 s1.2.1) fun r12 =>
  (Option.bind (rd s1.2.2 r12 (1 : Int32)) fun v13 =>
  (Option.bind (rd s1.2.2 494 v13) fun v14 =>
  some v14
  )
  )
  )
  )
  fun b8 =>
  (Option.bind (wr s1.2.2 493 s1.1 b8) fun I9 =>
  some ((s1.1 + (1 : Int32)), I9)
  )
  )
  )
  )
  else
  (Option.bind (rdp 145 s1.2.1) fun r15 =>
  (Option.bind (rd s1.2.2 r15 (0 : Int32)) fun v16 =>
  (Option.bind (rd s1.2.2 493 ((s1.1 + (-1 : Int32)) - (1 : Int32))) fun v17 =>
  (Option.bind (rd s1.2.2 493 (s1.1 + (-1 : Int32))) fun v18 =>
  (Option.bind (f_m_by318 v16 v17 v18 s1.2.2) fun v19 =>
  (Option.bind (wr s1.2.2 493 ((s1.1 + (-1 : Int32)) - (1 : Int32)) v19) fun I20 =>
  some ((s1.1 + (-1 : Int32)), I20)
  )
  )
  )
  )
  )
  )
  )
  fun b5 =>
  some (.inl (b5.1, (s1.2.1 + (1 : Int32)), b5.2))
  )
  )
  )
  else
  some (.inr s1.2.2)
  )
  ) ((0 : Int32), (0 : Int32), I)) fun b2 =>
  some ((b2 493 0), b2)
  )
  )
noncomputable def f_m_eats315 (p1 : Nat) (p2 : Int32) (I : MJ) : Option (MJ) :=
  (Option.bind (f_m_suitOf310 p2 I) fun v1 =>
  (Option.bind (f_m_seamsOf316 p1 v1 I) fun v2 =>
  (Option.bind (wh (β := MJ) (fun (s3 : Int32 × MJ) =>
  (if s3.1 < (12 : Int32) then
  (Option.bind (f_m_suitOf310 p2 (ab_up1 s3.2 494 0 s3.1)) fun v13 =>
  (Option.bind (rd (ab_up1 s3.2 494 0 s3.1) p1 (v13 + s3.1)) fun v14 =>
  (Option.bind (rd (ab_up1 (ab_up1 s3.2 494 0 s3.1) 494 1 v14) p1 (89 : Int32)) fun v15 =>
  (Option.bind (rd (ab_up1 (ab_up1 s3.2 494 0 s3.1) 494 1 v14) p1 ((82 : Int32) + p2)) fun v16 =>
  (Option.bind (rd (ab_up1 (ab_up1 (ab_up1 s3.2 494 0 s3.1) 494 1 v14) 494 2 (v15 - v16)) p1 (89 : Int32)) fun v17 =>
  (Option.bind (f_m_byLaw317 (ab_up1 (ab_up1 (ab_up1 (ab_up1 (ab_up1 (ab_up1 s3.2 494 0 s3.1) 494 1 v14) 494 2 (v15 - v16)) 494 3 v17) 494 4 p2) 494 5 v2)) fun w18 =>
  (Option.bind (α := Int32)
  (if 0 < w18.1 then
  some (1 : Int32)
  else
  some (0 : Int32)
  )
  fun b19 =>
  (Option.bind (wrb w18.2 600 s3.1 b19) fun I20 =>
  some (.inl ((s3.1 + (1 : Int32)), I20))
  )
  )
  )
  )
  )
  )
  )
  )
  else
  some (.inr s3.2)
  )
  ) ((0 : Int32), I)) fun b4 =>
  (Option.bind (wh (β := MJ) (fun (s5 : Int32 × MJ) =>
  (if s5.1 < (12 : Int32) then
  (Option.bind (f_m_suitOf310 p2 s5.2) fun v7 =>
  (Option.bind (rdb s5.2 600 s5.1) fun v8 =>
  (Option.bind (α := Int32)
  (if v8 = 0 then
  (Option.bind (f_m_suitOf310 p2 s5.2) fun v11 =>
  (Option.bind (rd s5.2 p1 (v11 + s5.1)) fun v12 =>
  some v12
  )
  )
  else
  some (6 : Int32)
  )
  fun b9 =>
  (Option.bind (wr s5.2 p1 (v7 + s5.1) b9) fun I10 =>
  some (.inl ((s5.1 + (1 : Int32)), I10))
  )
  )
  )
  )
  else
  some (.inr s5.2)
  )
  ) ((0 : Int32), b4)) fun b6 =>
  some b6
  )
  )
  )
  )
noncomputable def f_m_dayEnds314 (p1 : Nat) (I : MJ) : Option (Int32 × MJ) :=
  (Option.bind (rd I p1 (89 : Int32)) fun v1 =>
  (if v1 = (60 : Int32) then
  some ((0 : Int32), I)
  else
  (Option.bind (rd I p1 (89 : Int32)) fun v2 =>
  (Option.bind (wr I p1 (89 : Int32) (v2 + (1 : Int32))) fun I3 =>
  (Option.bind (wh (β := MJ) (fun (s4 : Int32 × MJ) =>
  (if s4.1 < (s4.2 51 1) then
  (Option.bind (f_m_hasSuit305 p1 s4.1 s4.2) fun v6 =>
  (Option.bind (α := MJ)
  (if v6 = 0 then
  some s4.2
  else
  (Option.bind (f_m_eats315 p1 s4.1 s4.2) fun I8 =>
  some I8
  )
  )
  fun b7 =>
  some (.inl ((s4.1 + (1 : Int32)), b7))
  )
  )
  else
  some (.inr s4.2)
  )
  ) ((0 : Int32), I3)) fun b5 =>
  some ((1 : Int32), b5)
  )
  )
  )
  )
  )
noncomputable def f_m_does304 (p1 : Nat) (p2 : Nat) (I : MJ) : Option (Int32 × MJ) :=
  (Option.bind (rd I p2 (1 : Int32)) fun v1 =>
  (Option.bind (rd I p2 (0 : Int32)) fun v2 =>
  (if 0 < v2 then
  (Option.bind (rd I p2 (0 : Int32)) fun v3 =>
  (if v3 < (4 : Int32) then
  (Option.bind (f_m_hasSuit305 p1 v1 I) fun v4 =>
  (if v4 = 0 then
  some ((0 : Int32), I)
  else
  (Option.bind (rd I p2 (0 : Int32)) fun v5 =>
  (if v5 = (0 : Int32) then
  (Option.bind (rd I p2 (2 : Int32)) fun v6 =>
  (Option.bind (f_m_canCut306 p1 v1 v6 I) fun w7 =>
  (if w7.1 = 0 then
  some ((0 : Int32), w7.2)
  else
  (Option.bind (wh (β := MJ) (fun (s8 : Int32 × MJ) =>
  (if s8.1 < (10 : Int32) then
  (Option.bind (rd s8.2 599 ((0 : Int32) + s8.1)) fun v19 =>
  (Option.bind (wr s8.2 p1 ((0 : Int32) + s8.1) v19) fun I20 =>
  some (.inl ((s8.1 + (1 : Int32)), I20))
  )
  )
  else
  some (.inr s8.2)
  )
  ) ((0 : Int32), w7.2)) fun b9 =>
  (Option.bind (wh (β := MJ) (fun (s10 : Int32 × MJ) =>
  (if s10.1 < (12 : Int32) then
  (Option.bind (f_m_suitOf310 v1 s10.2) fun v14 =>
  (Option.bind (rd s10.2 p2 (2 : Int32)) fun v15 =>
  (Option.bind (rdp 128 v15) fun r16 =>
  (Option.bind (rd s10.2 r16 s10.1) fun v17 =>
  (Option.bind (wr s10.2 p1 (v14 + s10.1) v17) fun I18 =>
  some (.inl ((s10.1 + (1 : Int32)), I18))
  )
  )
  )
  )
  )
  else
  some (.inr s10.2)
  )
  ) ((0 : Int32), b9)) fun b11 =>
  (Option.bind (rd b11 p1 (89 : Int32)) fun v12 =>
  (Option.bind (wr b11 p1 ((82 : Int32) + v1) v12) fun I13 =>
  some ((1 : Int32), I13)
  )
  )
  )
  )
  )
  )
  )
  else
  (if v5 = (1 : Int32) then
  (Option.bind (rd I p2 (3 : Int32)) fun v21 =>
  (Option.bind (f_m_boltFor309 p1 v21 (1 : Int32) I) fun v22 =>
  (Option.bind (f_m_suitOf310 v1 I) fun v23 =>
  (Option.bind (rd I p2 (2 : Int32)) fun v24 =>
  (Option.bind (rd I p1 (v23 + v24)) fun v25 =>
  (Option.bind (rd I p2 (3 : Int32)) fun v26 =>
  (if v25 = v26 then
  some ((0 : Int32), I)
  else
  (if v22 = (-1 : Int32) then
  some ((0 : Int32), I)
  else
  (Option.bind (rd I p1 ((0 : Int32) + v22)) fun v27 =>
  (Option.bind (wr I p1 ((0 : Int32) + v22) (v27 - (1 : Int32))) fun I28 =>
  (Option.bind (f_m_suitOf310 v1 I28) fun v29 =>
  (Option.bind (rd I28 p2 (2 : Int32)) fun v30 =>
  (Option.bind (rd I28 p2 (3 : Int32)) fun v31 =>
  (Option.bind (wr I28 p1 (v29 + v30) v31) fun I32 =>
  some ((1 : Int32), I32)
  )
  )
  )
  )
  )
  )
  )
  )
  )
  )
  )
  )
  )
  )
  else
  (if v5 = (2 : Int32) then
  (Option.bind (wh (β := MJ) (fun (s33 : Int32 × MJ) =>
  (if s33.1 < (6 : Int32) then
  (Option.bind (f_m_suitOf310 v1 s33.2) fun v35 =>
  (Option.bind (rd s33.2 p1 (v35 + s33.1)) fun v36 =>
  (Option.bind (f_m_suitOf310 v1 s33.2) fun v37 =>
  (Option.bind (f_m_suitOf310 v1 s33.2) fun v38 =>
  (Option.bind (rd s33.2 p1 (((v38 + (12 : Int32)) - (1 : Int32)) - s33.1)) fun v39 =>
  (Option.bind (wr s33.2 p1 (v37 + s33.1) v39) fun I40 =>
  (Option.bind (f_m_suitOf310 v1 I40) fun v41 =>
  (Option.bind (wr I40 p1 (((v41 + (12 : Int32)) - (1 : Int32)) - s33.1) v36) fun I42 =>
  some (.inl ((s33.1 + (1 : Int32)), I42))
  )
  )
  )
  )
  )
  )
  )
  )
  else
  some (.inr s33.2)
  )
  ) ((0 : Int32), I)) fun b34 =>
  some ((1 : Int32), b34)
  )
  else
  (if v5 = (3 : Int32) then
  (Option.bind (wr I p1 ((82 : Int32) + v1) (-1 : Int32)) fun I43 =>
  some ((1 : Int32), I43)
  )
  else
  (if v5 = (4 : Int32) then
  (Option.bind (rd I p2 (1 : Int32)) fun v44 =>
  (Option.bind (f_m_isReady311 p1 v44 I) fun v45 =>
  (if v45 = 0 then
  some ((0 : Int32), I)
  else
  (Option.bind (rd I p1 (88 : Int32)) fun v46 =>
  (Option.bind (rd I p2 (1 : Int32)) fun v47 =>
  (Option.bind (wr I p1 (88 : Int32) (v46 ||| ((1 : Int32) <<< (v47 &&& 31)))) fun I48 =>
  (Option.bind (rd I48 p1 (90 : Int32)) fun v49 =>
  (Option.bind (rd I48 p2 (1 : Int32)) fun v50 =>
  (Option.bind (rdp 119 v50) fun r51 =>
  (Option.bind (rd I48 r51 (3 : Int32)) fun v52 =>
  (Option.bind (wr I48 p1 (90 : Int32) (v49 + v52)) fun I53 =>
  (Option.bind (rd I53 p2 (1 : Int32)) fun v54 =>
  (Option.bind (rdp 119 v54) fun r55 =>
  (Option.bind (rd I53 r55 (0 : Int32)) fun v56 =>
  (Option.bind (wr I53 p1 ((82 : Int32) + v56) (-1 : Int32)) fun I57 =>
  some ((1 : Int32), I57)
  )
  )
  )
  )
  )
  )
  )
  )
  )
  )
  )
  )
  )
  )
  )
  else
  (Option.bind (f_m_dayEnds314 p1 I) fun w58 =>
  some ((vp_nar .boolean w58.1), w58.2)
  )
  )))))
  )
  )
  )
  else
  (Option.bind (rd I p2 (0 : Int32)) fun v59 =>
  (if v59 = (0 : Int32) then
  (Option.bind (rd I p2 (2 : Int32)) fun v60 =>
  (Option.bind (f_m_canCut306 p1 v1 v60 I) fun w61 =>
  (if w61.1 = 0 then
  some ((0 : Int32), w61.2)
  else
  (Option.bind (wh (β := MJ) (fun (s62 : Int32 × MJ) =>
  (if s62.1 < (10 : Int32) then
  (Option.bind (rd s62.2 599 ((0 : Int32) + s62.1)) fun v73 =>
  (Option.bind (wr s62.2 p1 ((0 : Int32) + s62.1) v73) fun I74 =>
  some (.inl ((s62.1 + (1 : Int32)), I74))
  )
  )
  else
  some (.inr s62.2)
  )
  ) ((0 : Int32), w61.2)) fun b63 =>
  (Option.bind (wh (β := MJ) (fun (s64 : Int32 × MJ) =>
  (if s64.1 < (12 : Int32) then
  (Option.bind (f_m_suitOf310 v1 s64.2) fun v68 =>
  (Option.bind (rd s64.2 p2 (2 : Int32)) fun v69 =>
  (Option.bind (rdp 128 v69) fun r70 =>
  (Option.bind (rd s64.2 r70 s64.1) fun v71 =>
  (Option.bind (wr s64.2 p1 (v68 + s64.1) v71) fun I72 =>
  some (.inl ((s64.1 + (1 : Int32)), I72))
  )
  )
  )
  )
  )
  else
  some (.inr s64.2)
  )
  ) ((0 : Int32), b63)) fun b65 =>
  (Option.bind (rd b65 p1 (89 : Int32)) fun v66 =>
  (Option.bind (wr b65 p1 ((82 : Int32) + v1) v66) fun I67 =>
  some ((1 : Int32), I67)
  )
  )
  )
  )
  )
  )
  )
  else
  (if v59 = (1 : Int32) then
  (Option.bind (rd I p2 (3 : Int32)) fun v75 =>
  (Option.bind (f_m_boltFor309 p1 v75 (1 : Int32) I) fun v76 =>
  (Option.bind (f_m_suitOf310 v1 I) fun v77 =>
  (Option.bind (rd I p2 (2 : Int32)) fun v78 =>
  (Option.bind (rd I p1 (v77 + v78)) fun v79 =>
  (Option.bind (rd I p2 (3 : Int32)) fun v80 =>
  (if v79 = v80 then
  some ((0 : Int32), I)
  else
  (if v76 = (-1 : Int32) then
  some ((0 : Int32), I)
  else
  (Option.bind (rd I p1 ((0 : Int32) + v76)) fun v81 =>
  (Option.bind (wr I p1 ((0 : Int32) + v76) (v81 - (1 : Int32))) fun I82 =>
  (Option.bind (f_m_suitOf310 v1 I82) fun v83 =>
  (Option.bind (rd I82 p2 (2 : Int32)) fun v84 =>
  (Option.bind (rd I82 p2 (3 : Int32)) fun v85 =>
  (Option.bind (wr I82 p1 (v83 + v84) v85) fun I86 =>
  some ((1 : Int32), I86)
  )
  )
  )
  )
  )
  )
  )
  )
  )
  )
  )
  )
  )
  )
  else
  (if v59 = (2 : Int32) then
  (Option.bind (wh (β := MJ) (fun (s87 : Int32 × MJ) =>
  (if s87.1 < (6 : Int32) then
  (Option.bind (f_m_suitOf310 v1 s87.2) fun v89 =>
  (Option.bind (rd s87.2 p1 (v89 + s87.1)) fun v90 =>
  (Option.bind (f_m_suitOf310 v1 s87.2) fun v91 =>
  (Option.bind (f_m_suitOf310 v1 s87.2) fun v92 =>
  (Option.bind (rd s87.2 p1 (((v92 + (12 : Int32)) - (1 : Int32)) - s87.1)) fun v93 =>
  (Option.bind (wr s87.2 p1 (v91 + s87.1) v93) fun I94 =>
  (Option.bind (f_m_suitOf310 v1 I94) fun v95 =>
  (Option.bind (wr I94 p1 (((v95 + (12 : Int32)) - (1 : Int32)) - s87.1) v90) fun I96 =>
  some (.inl ((s87.1 + (1 : Int32)), I96))
  )
  )
  )
  )
  )
  )
  )
  )
  else
  some (.inr s87.2)
  )
  ) ((0 : Int32), I)) fun b88 =>
  some ((1 : Int32), b88)
  )
  else
  (if v59 = (3 : Int32) then
  (Option.bind (wr I p1 ((82 : Int32) + v1) (-1 : Int32)) fun I97 =>
  some ((1 : Int32), I97)
  )
  else
  (if v59 = (4 : Int32) then
  (Option.bind (rd I p2 (1 : Int32)) fun v98 =>
  (Option.bind (f_m_isReady311 p1 v98 I) fun v99 =>
  (if v99 = 0 then
  some ((0 : Int32), I)
  else
  (Option.bind (rd I p1 (88 : Int32)) fun v100 =>
  (Option.bind (rd I p2 (1 : Int32)) fun v101 =>
  (Option.bind (wr I p1 (88 : Int32) (v100 ||| ((1 : Int32) <<< (v101 &&& 31)))) fun I102 =>
  (Option.bind (rd I102 p1 (90 : Int32)) fun v103 =>
  (Option.bind (rd I102 p2 (1 : Int32)) fun v104 =>
  (Option.bind (rdp 119 v104) fun r105 =>
  (Option.bind (rd I102 r105 (3 : Int32)) fun v106 =>
  (Option.bind (wr I102 p1 (90 : Int32) (v103 + v106)) fun I107 =>
  (Option.bind (rd I107 p2 (1 : Int32)) fun v108 =>
  (Option.bind (rdp 119 v108) fun r109 =>
  (Option.bind (rd I107 r109 (0 : Int32)) fun v110 =>
  (Option.bind (wr I107 p1 ((82 : Int32) + v110) (-1 : Int32)) fun I111 =>
  some ((1 : Int32), I111)
  )
  )
  )
  )
  )
  )
  )
  )
  )
  )
  )
  )
  )
  )
  )
  else
  (Option.bind (f_m_dayEnds314 p1 I) fun w112 =>
  some ((vp_nar .boolean w112.1), w112.2)
  )
  )))))
  )
  )
  )
  else
  (Option.bind (rd I p2 (0 : Int32)) fun v113 =>
  (if v113 = (0 : Int32) then
  (Option.bind (rd I p2 (2 : Int32)) fun v114 =>
  (Option.bind (f_m_canCut306 p1 v1 v114 I) fun w115 =>
  (if w115.1 = 0 then
  some ((0 : Int32), w115.2)
  else
  (Option.bind (wh (β := MJ) (fun (s116 : Int32 × MJ) =>
  (if s116.1 < (10 : Int32) then
  (Option.bind (rd s116.2 599 ((0 : Int32) + s116.1)) fun v127 =>
  (Option.bind (wr s116.2 p1 ((0 : Int32) + s116.1) v127) fun I128 =>
  some (.inl ((s116.1 + (1 : Int32)), I128))
  )
  )
  else
  some (.inr s116.2)
  )
  ) ((0 : Int32), w115.2)) fun b117 =>
  (Option.bind (wh (β := MJ) (fun (s118 : Int32 × MJ) =>
  (if s118.1 < (12 : Int32) then
  (Option.bind (f_m_suitOf310 v1 s118.2) fun v122 =>
  (Option.bind (rd s118.2 p2 (2 : Int32)) fun v123 =>
  (Option.bind (rdp 128 v123) fun r124 =>
  (Option.bind (rd s118.2 r124 s118.1) fun v125 =>
  (Option.bind (wr s118.2 p1 (v122 + s118.1) v125) fun I126 =>
  some (.inl ((s118.1 + (1 : Int32)), I126))
  )
  )
  )
  )
  )
  else
  some (.inr s118.2)
  )
  ) ((0 : Int32), b117)) fun b119 =>
  (Option.bind (rd b119 p1 (89 : Int32)) fun v120 =>
  (Option.bind (wr b119 p1 ((82 : Int32) + v1) v120) fun I121 =>
  some ((1 : Int32), I121)
  )
  )
  )
  )
  )
  )
  )
  else
  (if v113 = (1 : Int32) then
  (Option.bind (rd I p2 (3 : Int32)) fun v129 =>
  (Option.bind (f_m_boltFor309 p1 v129 (1 : Int32) I) fun v130 =>
  (Option.bind (f_m_suitOf310 v1 I) fun v131 =>
  (Option.bind (rd I p2 (2 : Int32)) fun v132 =>
  (Option.bind (rd I p1 (v131 + v132)) fun v133 =>
  (Option.bind (rd I p2 (3 : Int32)) fun v134 =>
  (if v133 = v134 then
  some ((0 : Int32), I)
  else
  (if v130 = (-1 : Int32) then
  some ((0 : Int32), I)
  else
  (Option.bind (rd I p1 ((0 : Int32) + v130)) fun v135 =>
  (Option.bind (wr I p1 ((0 : Int32) + v130) (v135 - (1 : Int32))) fun I136 =>
  (Option.bind (f_m_suitOf310 v1 I136) fun v137 =>
  (Option.bind (rd I136 p2 (2 : Int32)) fun v138 =>
  (Option.bind (rd I136 p2 (3 : Int32)) fun v139 =>
  (Option.bind (wr I136 p1 (v137 + v138) v139) fun I140 =>
  some ((1 : Int32), I140)
  )
  )
  )
  )
  )
  )
  )
  )
  )
  )
  )
  )
  )
  )
  else
  (if v113 = (2 : Int32) then
  (Option.bind (wh (β := MJ) (fun (s141 : Int32 × MJ) =>
  (if s141.1 < (6 : Int32) then
  (Option.bind (f_m_suitOf310 v1 s141.2) fun v143 =>
  (Option.bind (rd s141.2 p1 (v143 + s141.1)) fun v144 =>
  (Option.bind (f_m_suitOf310 v1 s141.2) fun v145 =>
  (Option.bind (f_m_suitOf310 v1 s141.2) fun v146 =>
  (Option.bind (rd s141.2 p1 (((v146 + (12 : Int32)) - (1 : Int32)) - s141.1)) fun v147 =>
  (Option.bind (wr s141.2 p1 (v145 + s141.1) v147) fun I148 =>
  (Option.bind (f_m_suitOf310 v1 I148) fun v149 =>
  (Option.bind (wr I148 p1 (((v149 + (12 : Int32)) - (1 : Int32)) - s141.1) v144) fun I150 =>
  some (.inl ((s141.1 + (1 : Int32)), I150))
  )
  )
  )
  )
  )
  )
  )
  )
  else
  some (.inr s141.2)
  )
  ) ((0 : Int32), I)) fun b142 =>
  some ((1 : Int32), b142)
  )
  else
  (if v113 = (3 : Int32) then
  (Option.bind (wr I p1 ((82 : Int32) + v1) (-1 : Int32)) fun I151 =>
  some ((1 : Int32), I151)
  )
  else
  (if v113 = (4 : Int32) then
  (Option.bind (rd I p2 (1 : Int32)) fun v152 =>
  (Option.bind (f_m_isReady311 p1 v152 I) fun v153 =>
  (if v153 = 0 then
  some ((0 : Int32), I)
  else
  (Option.bind (rd I p1 (88 : Int32)) fun v154 =>
  (Option.bind (rd I p2 (1 : Int32)) fun v155 =>
  (Option.bind (wr I p1 (88 : Int32) (v154 ||| ((1 : Int32) <<< (v155 &&& 31)))) fun I156 =>
  (Option.bind (rd I156 p1 (90 : Int32)) fun v157 =>
  (Option.bind (rd I156 p2 (1 : Int32)) fun v158 =>
  (Option.bind (rdp 119 v158) fun r159 =>
  (Option.bind (rd I156 r159 (3 : Int32)) fun v160 =>
  (Option.bind (wr I156 p1 (90 : Int32) (v157 + v160)) fun I161 =>
  (Option.bind (rd I161 p2 (1 : Int32)) fun v162 =>
  (Option.bind (rdp 119 v162) fun r163 =>
  (Option.bind (rd I161 r163 (0 : Int32)) fun v164 =>
  (Option.bind (wr I161 p1 ((82 : Int32) + v164) (-1 : Int32)) fun I165 =>
  some ((1 : Int32), I165)
  )
  )
  )
  )
  )
  )
  )
  )
  )
  )
  )
  )
  )
  )
  )
  else
  (Option.bind (f_m_dayEnds314 p1 I) fun w166 =>
  some ((vp_nar .boolean w166.1), w166.2)
  )
  )))))
  )
  )
  )
  )
noncomputable def F_m_goes303 (r : Int32 → Int32 → MJ → Option (MJ)) (p1 : Int32) (p2 : Int32) (I : MJ) : Option (MJ) :=
  (Option.bind (wh (β := MJ) (fun (s1 : Int32 × MJ) =>
  (if s1.1 < p2 then
  (if (s1.2 47 46) < (200 : Int32) then
  (Option.bind (rdp 495 s1.1) fun r3 =>
  (Option.bind (rd (ab_up1 s1.2 47 46 ((s1.2 47 46) + (1 : Int32))) r3 (0 : Int32)) fun v4 =>
  (Option.bind (α := MJ)
  (if v4 = (6 : Int32) then
  (Option.bind (wh (β := MJ) (fun (s8 : Int32 × MJ) =>
  (Option.bind (rdp 495 s1.1) fun r10 =>
  (Option.bind (rd s8.2 r10 (1 : Int32)) fun v11 =>
  (if s8.1 < v11 then
  (if (s8.2 47 46) < (200 : Int32) then
  (Option.bind (rdp 495 s1.1) fun r12 =>
  (Option.bind (rd s8.2 r12 (4 : Int32)) fun v13 =>
  (Option.bind (r (s1.1 + (1 : Int32)) v13 s8.2) fun I14 =>
  some (.inl ((s8.1 + (1 : Int32)), I14))
  )
  )
  )
  else
  some (.inr s8.2)
  )
  else
  some (.inr s8.2)
  )
  )
  )
  ) ((0 : Int32), (ab_up1 s1.2 47 46 ((s1.2 47 46) + (1 : Int32))))) fun b9 =>
  some b9
  )
  else
  (Option.bind (rdp 495 s1.1) fun r15 =>
  (Option.bind (f_m_does304 576 r15 (ab_up1 s1.2 47 46 ((s1.2 47 46) + (1 : Int32)))) fun w16 =>
  (Option.bind (α := Int32)
  (if w16.1 = 0 then
  some (0 : Int32)
  else
  some (1 : Int32)
  )
  fun b17 =>
  (Option.bind (α := Int32)
  (if w16.1 = 0 then
  some (1 : Int32)
  else
  some (0 : Int32)
  )
  fun b18 =>
  some (ab_up1 (ab_up1 w16.2 47 47 ((w16.2 47 47) + b17)) 47 41 ((w16.2 47 41) + b18))
  )
  )
  )
  )
  )
  fun b5 =>
  (Option.bind (rdp 495 s1.1) fun r6 =>
  (Option.bind (rd b5 r6 (4 : Int32)) fun v7 =>
  some (.inl (v7, b5))
  )
  )
  )
  )
  )
  else
  some (.inr s1.2)
  )
  else
  some (.inr s1.2)
  )
  ) (p1, I)) fun b2 =>
  some b2
  )
noncomputable def f_m_goes303 : Nat → Int32 → Int32 → MJ → Option (MJ)
  | 0 => fun _ _ _ => none
  | k + 1 => F_m_goes303 (f_m_goes303 k)
noncomputable def f_m_work299 (p1 : Int32) (I : MJ) : Option (Int32 × MJ) :=
  (Option.bind (f_m_in264 p1 (0 : Int32) (I 47 1) (ab_up1 I 47 0 (0 : Int32))) fun v1 =>
  (Option.bind (α := Int32)
  (if v1 = 0 then
  some (1 : Int32)
  else
  (if (200 : Int32) < p1 then
  some (1 : Int32)
  else
  some (0 : Int32)
  )
  )
  fun b2 =>
  (Option.bind (f_m_bad268 b2 (1 : Int32) (1 : Int32) (ab_up1 I 47 0 (0 : Int32))) fun w3 =>
  (if w3.1 = 0 then
  (if (w3.2 47 40) = (16 : Int32) then
  some ((-20 : Int32), (ab_up1 (ab_up1 w3.2 47 1 (0 : Int32)) 47 3 (-1 : Int32)))
  else
  (Option.bind (f_m_starts269 p1 w3.2) fun I4 =>
  (Option.bind (wh (β := MJ) (fun (s5 : MJ) =>
  (if (s5 47 5) = 0 then
  (if (s5 47 4) < (s5 47 2) then
  (Option.bind (f_m_readsStep300 16 s5) fun I11 =>
  (Option.bind (f_m_blanks270 I11) fun I12 =>
  some (.inl I12)
  )
  )
  else
  some (.inr s5)
  )
  else
  some (.inr s5)
  )
  ) (ab_up1 I4 47 34 (0 : Int32))) fun b6 =>
  (if (b6 47 5) = 0 then
  (Option.bind (rdp 578 (b6 47 40)) fun r7 =>
  (Option.bind (f_m_copies302 576 r7 (ab_up1 b6 47 3 (-1 : Int32))) fun I8 =>
  (Option.bind (f_m_goes303 16 (0 : Int32) (I8 47 34) (ab_up1 (ab_up1 (ab_up1 (ab_up1 I8 47 40 ((I8 47 40) + (1 : Int32))) 47 46 (0 : Int32)) 47 47 (0 : Int32)) 47 41 (0 : Int32))) fun I9 =>
  some ((I9 47 47), I9)
  )
  )
  )
  else
  (Option.bind (f_m_ends286 b6) fun w10 =>
  some (w10.1, w10.2)
  )
  )
  )
  )
  )
  else
  some ((0 : Int32), w3.2)
  )
  )
  )
  )
noncomputable def f_boo_readFrom138  (I : MJ) : Option (MJ) :=
  (Option.bind (f_x_fill10 37 (-1 : Int32) I) fun I1 =>
  (Option.bind (wh (β := MJ) (fun (s2 : Int32 × MJ) =>
  (if (12 : Int32) < s2.1 then
  some (.inr s2.2)
  else
  (Option.bind (f_tap_hasMore42 s2.2) fun w4 =>
  (if w4.1 = 0 then
  some (.inr w4.2)
  else
  (Option.bind (f_tap_number53 (0 : Int32) (11 : Int32) w4.2) fun w5 =>
  (Option.bind (f_x_at16 37 w5.1 w5.2) fun v6 =>
  (Option.bind (α := MJ)
  (if v6 = (-1 : Int32) then
  some w5.2
  else
  (Option.bind (f_tap_fail50 (2 : Int32) (w5.2 1 4) w5.2) fun I11 =>
  some I11
  )
  )
  fun b7 =>
  (Option.bind (f_tap_word45 2000007 b7) fun w8 =>
  (Option.bind (f_x_put15 37 w5.1 w8.1 w8.2) fun I9 =>
  (Option.bind (f_tap_sign58 (59 : Int32) I9) fun I10 =>
  some (.inl ((s2.1 + (1 : Int32)), (ab_up1 I10 35 4 ((I10 35 4) + (1 : Int32)))))
  )
  )
  )
  )
  )
  )
  )
  )
  )
  ) ((0 : Int32), (ab_up1 I1 35 4 (0 : Int32)))) fun b3 =>
  some b3
  )
  )
noncomputable def f_boo_keep139  (I : MJ) : Option (MJ) :=
  (Option.bind (f_x_copy22 37 (0 : Int32) 36 (0 : Int32) (12 : Int32) (ab_up1 I 35 3 (I 35 4))) fun I1 =>
  some I1
  )
noncomputable def f_x_book137 (p1 : Int32) (I : MJ) : Option ((Nat ⊕ Int32) × MJ) :=
  (tb (f_x_needText37 p1 (100 : Int32) I) fun _ I2 =>
  (Option.bind (f_tap_open40 p1 I2) fun I3 =>
  (Option.bind (f_boo_readFrom138 I3) fun I4 =>
  (Option.bind (f_tap_isSound59 I4) fun v5 =>
  (Option.bind (α := MJ)
  (if v5 = 0 then
  some I4
  else
  (Option.bind (f_boo_keep139 I4) fun I8 =>
  some I8
  )
  )
  fun b6 =>
  (Option.bind (f_tap_close65 (b6 35 3) b6) fun w7 =>
  some (.inr w7.1, w7.2)
  )
  )
  )
  )
  )
  )
noncomputable def f_l_book136 (p1 : Int32) (I : MJ) (g : GG) : Option (Int32 × MJ × GG) :=
  (tryb (f_x_book137 p1 I) (fun v1 I2 =>
  (Option.bind (wrl g 698 (0 : Int32) (v1.toInt64)) fun g3 =>
  some ((0 : Int32), I2, g3)
  )
  ) (fun E2 I2 =>
  (if E2 = 1 then
  some ((1 : Int32), I2, (thr g))
  else
  none)
  ))
noncomputable def f_m_book322 (p1 : Int32) (I : MJ) : Option (Int32 × MJ) :=
  (Option.bind (f_m_in264 p1 (0 : Int32) (I 47 1) (ab_up1 I 47 0 (0 : Int32))) fun v1 =>
  (Option.bind (α := Int32)
  (if v1 = 0 then
  some (1 : Int32)
  else
  (if (100 : Int32) < p1 then
  some (1 : Int32)
  else
  some (0 : Int32)
  )
  )
  fun b2 =>
  (Option.bind (f_m_bad268 b2 (1 : Int32) (1 : Int32) (ab_up1 I 47 0 (0 : Int32))) fun w3 =>
  (if w3.1 = 0 then
  (Option.bind (f_m_starts269 p1 w3.2) fun I4 =>
  (Option.bind (wh (β := Int32 × MJ) (fun (s5 : Int32 × Int32 × MJ) =>
  (if (s5.2.2 47 5) = 0 then
  (if (s5.2.2 47 4) < (s5.2.2 47 2) then
  (Option.bind (f_m_number283 (0 : Int32) (11 : Int32) s5.2.2) fun w9 =>
  (Option.bind (α := MJ)
  (if (w9.2 47 5) = 0 then
  (Option.bind (f_m_has313 s5.2.1 w9.1 w9.2) fun v20 =>
  (if v20 = 0 then
  some w9.2
  else
  (Option.bind (f_m_wrong278 (2 : Int32) (s5.2.2 47 4) w9.2) fun I21 =>
  some I21
  )
  )
  )
  else
  some w9.2
  )
  fun b10 =>
  (Option.bind (α := Int32 × MJ)
  (if (b10 47 5) = 0 then
  (Option.bind (f_m_skyHere281 b10) fun w19 =>
  some (w19.1, w19.2)
  )
  else
  some ((0 : Int32), b10)
  )
  fun b11 =>
  (Option.bind (f_m_sign285 (59 : Int32) b11.2) fun I12 =>
  (Option.bind (α := Int32 × Int32 × MJ)
  (if (I12 47 5) = 0 then
  (Option.bind (rdp 480 s5.1) fun r15 =>
  (Option.bind (wr I12 r15 (0 : Int32) w9.1) fun I16 =>
  (Option.bind (rdp 480 s5.1) fun r17 =>
  (Option.bind (wr I16 r17 (1 : Int32) b11.1) fun I18 =>
  some ((s5.1 + (1 : Int32)), (s5.2.1 ||| ((1 : Int32) <<< (w9.1 &&& 31))), I18)
  )
  )
  )
  )
  else
  some (s5.1, s5.2.1, I12)
  )
  fun b13 =>
  (Option.bind (f_m_blanks270 b13.2.2) fun I14 =>
  some (.inl (b13.1, b13.2.1, I14))
  )
  )
  )
  )
  )
  )
  else
  some (.inr (s5.1, s5.2.2))
  )
  else
  some (.inr (s5.1, s5.2.2))
  )
  ) ((0 : Int32), (0 : Int32), I4)) fun b6 =>
  (if (b6.2 47 5) = 0 then
  (Option.bind (f_m_lays263 480 467 b6.1 (ab_up1 (ab_up1 b6.2 47 3 (-1 : Int32)) 47 39 b6.1)) fun I7 =>
  some (b6.1, I7)
  )
  else
  (Option.bind (f_m_ends286 b6.2) fun w8 =>
  some (w8.1, w8.2)
  )
  )
  )
  )
  else
  some ((0 : Int32), w3.2)
  )
  )
  )
  )
noncomputable def f_x_fault19  (I : MJ) : Option (Int32) :=
  some (I 1 6)
noncomputable def f_m_fault323  (I : MJ) : Option (Int32 × MJ) :=
  some ((I 47 3), (ab_up1 I 47 0 (0 : Int32)))
noncomputable def f_pas_takeWork21  (I : MJ) : Option (MJ) :=
  (Option.bind (f_x_copy22 32 (((I 31 3) - (1 : Int32)) * (91 : Int32)) 16 (0 : Int32) (91 : Int32) (ab_up1 I 31 3 ((I 31 3) - (1 : Int32)))) fun I1 =>
  some I1
  )
noncomputable def f_x_undo20  (I : MJ) : Option (Int32 × MJ) :=
  (if (I 31 3) = 0 then
  some ((-1 : Int32), I)
  else
  (Option.bind (f_pas_takeWork21 I) fun I1 =>
  some ((I1 31 3), (ab_up1 I1 0 13 (0 : Int32)))
  )
  )
noncomputable def f_m_undo321  (I : MJ) : Option (Int32 × MJ) :=
  (if (I 47 40) = 0 then
  some ((-1 : Int32), (ab_up1 I 47 0 (0 : Int32)))
  else
  (Option.bind (rdp 578 ((I 47 40) - (1 : Int32))) fun r1 =>
  (Option.bind (f_m_copies302 r1 576 (ab_up1 (ab_up1 I 47 0 (0 : Int32)) 47 40 ((I 47 40) - (1 : Int32)))) fun I2 =>
  some ((I2 47 40), (ab_up1 I2 47 41 (0 : Int32)))
  )
  )
  )
noncomputable def f_sta_leftOn143 (p0 : Nat) (p1 : Int32) (I : MJ) : Option (Int32) :=
  (Option.bind (f_x_at16 (p0 + 1) ((9 : Int32) + p1) I) fun v1 =>
  some v1
  )
noncomputable def f_sta_hoursLeft142 (p0 : Nat) (I : MJ) : Option (Int32) :=
  (Option.bind (wh (β := Int32) (fun (s1 : Int32 × Int32) =>
  (if s1.2 < (10 : Int32) then
  (Option.bind (f_sta_leftOn143 p0 s1.2 I) fun v3 =>
  some (.inl ((s1.1 + v3), (s1.2 + (1 : Int32))))
  )
  else
  some (.inr s1.1)
  )
  ) ((0 : Int32), (0 : Int32))) fun b2 =>
  some b2
  )
noncomputable def f_sta_suits144  (I : MJ) : Option (Int32) :=
  (Option.bind (wh (β := Int32) (fun (s1 : Int32 × Int32) =>
  (if s1.2 < (6 : Int32) then
  (Option.bind (f_sta_hasSuit108 15 s1.2 I) fun v3 =>
  (Option.bind (α := Int32)
  (if v3 = 0 then
  some (0 : Int32)
  else
  some (1 : Int32)
  )
  fun b4 =>
  some (.inl ((s1.1 + b4), (s1.2 + (1 : Int32))))
  )
  )
  else
  some (.inr s1.1)
  )
  ) ((0 : Int32), (0 : Int32))) fun b2 =>
  some b2
  )
noncomputable def f_x_told141 (p1 : Int32) (I : MJ) : Option ((Nat ⊕ Int32) × MJ) :=
  (tb (f_x_needWithin38 p1 (0 : Int32) (9 : Int32) I) fun _ I2 =>
  (if p1 = (0 : Int32) then
  some (.inr (I2 3 5), I2)
  else
  (if p1 = (1 : Int32) then
  some (.inr (I2 3 6), I2)
  else
  (if p1 = (2 : Int32) then
  some (.inr (I2 3 7), I2)
  else
  (if p1 = (3 : Int32) then
  some (.inr (I2 3 8), I2)
  else
  (if p1 = (4 : Int32) then
  (Option.bind (f_sta_day113 15 I2) fun v3 =>
  some (.inr v3, I2)
  )
  else
  (if p1 = (5 : Int32) then
  (Option.bind (f_sta_pence128 I2) fun v4 =>
  some (.inr v4, I2)
  )
  else
  (if p1 = (6 : Int32) then
  (Option.bind (f_sta_hoursLeft142 15 I2) fun v5 =>
  some (.inr v5, I2)
  )
  else
  (if p1 = (7 : Int32) then
  some (.inr (I2 35 3), I2)
  else
  (if p1 = (8 : Int32) then
  some (.inr (I2 0 13), I2)
  else
  (Option.bind (f_sta_suits144 I2) fun v6 =>
  some (.inr v6, I2)
  )
  )))))))))
  )
noncomputable def f_l_told140 (p1 : Int32) (I : MJ) (g : GG) : Option (Int32 × MJ × GG) :=
  (tryb (f_x_told141 p1 I) (fun v1 I2 =>
  (Option.bind (wrl g 698 (0 : Int32) (v1.toInt64)) fun g3 =>
  some ((0 : Int32), I2, g3)
  )
  ) (fun E2 I2 =>
  (if E2 = 1 then
  some ((1 : Int32), I2, (thr g))
  else
  none)
  ))
noncomputable def f_m_onBolts325 (p1 : Nat) (I : MJ) : Option (Int32) :=
  (Option.bind (wh (β := Int32) (fun (s1 : Int32 × Int32) =>
  (if s1.2 < (I 51 0) then
  (Option.bind (rd I p1 ((0 : Int32) + s1.2)) fun v3 =>
  some (.inl ((s1.1 + v3), (s1.2 + (1 : Int32))))
  )
  else
  some (.inr s1.1)
  )
  ) ((0 : Int32), (0 : Int32))) fun b2 =>
  some b2
  )
noncomputable def f_m_told324 (p1 : Int32) (I : MJ) : Option (Int32 × MJ) :=
  (Option.bind (f_m_in264 p1 (0 : Int32) (9 : Int32) (ab_up1 I 47 0 (0 : Int32))) fun v1 =>
  (Option.bind (α := Int32)
  (if v1 = 0 then
  some (1 : Int32)
  else
  some (0 : Int32)
  )
  fun b2 =>
  (Option.bind (f_m_bad268 b2 (1 : Int32) (1 : Int32) (ab_up1 I 47 0 (0 : Int32))) fun w3 =>
  (if w3.1 = 0 then
  (if p1 = (0 : Int32) then
  (Option.bind (rd w3.2 51 p1) fun v4 =>
  some (v4, w3.2)
  )
  else
  (if p1 = (1 : Int32) then
  (Option.bind (rd w3.2 51 p1) fun v5 =>
  some (v5, w3.2)
  )
  else
  (if p1 = (2 : Int32) then
  (Option.bind (rd w3.2 51 p1) fun v6 =>
  some (v6, w3.2)
  )
  else
  (if p1 = (3 : Int32) then
  (Option.bind (rd w3.2 51 p1) fun v7 =>
  some (v7, w3.2)
  )
  else
  (if p1 = (4 : Int32) then
  some ((w3.2 576 89), w3.2)
  else
  (if p1 = (5 : Int32) then
  some ((w3.2 576 90), w3.2)
  else
  (if p1 = (6 : Int32) then
  (Option.bind (f_m_onBolts325 576 w3.2) fun v8 =>
  some (v8, w3.2)
  )
  else
  (if p1 = (7 : Int32) then
  some ((w3.2 47 39), w3.2)
  else
  (if p1 = (8 : Int32) then
  some ((w3.2 47 41), w3.2)
  else
  (Option.bind (wh (β := Int32) (fun (s9 : Int32 × Int32) =>
  (if s9.2 < (w3.2 51 1) then
  (Option.bind (f_m_hasSuit305 576 s9.2 w3.2) fun v11 =>
  (Option.bind (α := Int32)
  (if v11 = 0 then
  some (0 : Int32)
  else
  some (1 : Int32)
  )
  fun b12 =>
  some (.inl ((s9.1 + b12), (s9.2 + (1 : Int32))))
  )
  )
  else
  some (.inr s9.1)
  )
  ) ((0 : Int32), (0 : Int32))) fun b10 =>
  some (b10, w3.2)
  )
  )))))))))
  else
  some ((0 : Int32), w3.2)
  )
  )
  )
  )
noncomputable def f_sho_boltKind147 (p1 : Int32) (I : MJ) : Option (Int32) :=
  (Option.bind (f_x_at16 4 p1 I) fun v1 =>
  some v1
  )
noncomputable def f_x_bolt146 (p1 : Int32) (p2 : Int32) (I : MJ) : Option ((Nat ⊕ Int32) × MJ) :=
  (tb (f_x_needElement69 p1 (I 3 5) I) fun _ I2 =>
  (tb (f_x_needWithin38 p2 (0 : Int32) (1 : Int32) I2) fun _ I4 =>
  (Option.bind (α := Int32)
  (if p2 = 0 then
  (Option.bind (f_sho_boltKind147 p1 I4) fun v6 =>
  some v6
  )
  else
  (Option.bind (f_sta_leftOn143 15 p1 I4) fun v7 =>
  some v7
  )
  )
  fun b5 =>
  some (.inr b5, I4)
  )
  )
  )
noncomputable def f_l_bolt145 (p1 : Int32) (p2 : Int32) (I : MJ) (g : GG) : Option (Int32 × MJ × GG) :=
  (tryb (f_x_bolt146 p1 p2 I) (fun v1 I2 =>
  (Option.bind (wrl g 698 (0 : Int32) (v1.toInt64)) fun g3 =>
  some ((0 : Int32), I2, g3)
  )
  ) (fun E2 I2 =>
  (if E2 = 0 then
  some ((1 : Int32), I2, (thr g))
  else
  (if E2 = 1 then
  some ((2 : Int32), I2, (thr g))
  else
  none))
  ))
noncomputable def f_m_bolt326 (p1 : Int32) (p2 : Int32) (I : MJ) : Option (Int32 × MJ) :=
  (Option.bind (f_m_in264 p1 (0 : Int32) ((I 51 0) - (1 : Int32)) (ab_up1 I 47 0 (0 : Int32))) fun v1 =>
  (Option.bind (α := Int32)
  (if v1 = 0 then
  some (1 : Int32)
  else
  some (0 : Int32)
  )
  fun b2 =>
  (Option.bind (f_m_bad268 b2 (1 : Int32) (0 : Int32) (ab_up1 I 47 0 (0 : Int32))) fun w3 =>
  (if w3.1 = 0 then
  (Option.bind (f_m_in264 p2 (0 : Int32) (1 : Int32) w3.2) fun v4 =>
  (Option.bind (α := Int32)
  (if v4 = 0 then
  some (1 : Int32)
  else
  some (0 : Int32)
  )
  fun b5 =>
  (Option.bind (f_m_bad268 b5 (2 : Int32) (1 : Int32) w3.2) fun w6 =>
  (if w6.1 = 0 then
  (Option.bind (α := Int32)
  (if p2 = 0 then
  (Option.bind (rdp 65 p1) fun r8 =>
  (Option.bind (rd w6.2 r8 (0 : Int32)) fun v9 =>
  some v9
  )
  )
  else
  (Option.bind (rd w6.2 576 ((0 : Int32) + p1)) fun v10 =>
  some v10
  )
  )
  fun b7 =>
  some (b7, w6.2)
  )
  else
  some ((0 : Int32), w6.2)
  )
  )
  )
  )
  else
  some ((0 : Int32), w3.2)
  )
  )
  )
  )
noncomputable def f_sho_streetOf150 (p1 : Int32) (I : MJ) : Option (Int32) :=
  (Option.bind (f_x_at16 6 p1 I) fun v1 =>
  some v1
  )
noncomputable def f_sho_wantPart152 (p1 : Int32) (p2 : Int32) (I : MJ) : Option (Int32) :=
  (Option.bind (f_x_at16 7 (((5 : Int32) * p1) + p2) I) fun v1 =>
  some v1
  )
noncomputable def f_sho_wantsOf151 (p1 : Int32) (I : MJ) : Option (Int32) :=
  (Option.bind (wh (β := Int32) (fun (s1 : Int32 × Int32) =>
  (if s1.2 < (I 3 7) then
  (Option.bind (f_sho_wantPart152 s1.2 (0 : Int32) I) fun v3 =>
  (Option.bind (α := Int32)
  (if v3 = p1 then
  some ((1 : Int32) <<< (s1.2 &&& 31))
  else
  some (0 : Int32)
  )
  fun b4 =>
  some (.inl ((s1.1 ||| b4), (s1.2 + (1 : Int32))))
  )
  )
  else
  some (.inr s1.1)
  )
  ) ((0 : Int32), (0 : Int32))) fun b2 =>
  some b2
  )
noncomputable def f_x_hoursOf155 (p0 : Nat) (p1 : Int32) (p2 : Int32) (I : MJ) : Option (Int32) :=
  (Option.bind (wh (β := Int32) (fun (s1 : Int32 × Int32) =>
  (if s1.2 < (12 : Int32) then
  (Option.bind (f_x_at16 p0 (p1 + s1.2) I) fun v3 =>
  (Option.bind (α := Int32)
  (if v3 = p2 then
  some (1 : Int32)
  else
  some (0 : Int32)
  )
  fun b4 =>
  some (.inl ((s1.1 + b4), (s1.2 + (1 : Int32))))
  )
  )
  else
  some (.inr s1.1)
  )
  ) ((0 : Int32), (0 : Int32))) fun b2 =>
  some b2
  )
noncomputable def f_sta_bareHours154 (p0 : Nat) (p1 : Int32) (I : MJ) : Option (Int32) :=
  (Option.bind (f_sta_hasSuit108 p0 p1 I) fun v1 =>
  (Option.bind (α := Int32)
  (if v1 = 0 then
  some (0 : Int32)
  else
  (Option.bind (f_sta_suitAt114 p0 p1 I) fun v3 =>
  (Option.bind (f_x_hoursOf155 (p0 + 1) v3 (6 : Int32) I) fun v4 =>
  some v4
  )
  )
  )
  fun b2 =>
  some b2
  )
  )
noncomputable def f_x_suitFact153 (p1 : Int32) (p2 : Int32) (I : MJ) : Option (Int32) :=
  (if p2 = (1 : Int32) then
  some (1 : Int32)
  else
  (if p2 = (2 : Int32) then
  (Option.bind (f_sta_ageOf132 15 p1 I) fun v1 =>
  some v1
  )
  else
  (if p2 = (3 : Int32) then
  (Option.bind (f_sta_bareHours154 15 p1 I) fun v2 =>
  some v2
  )
  else
  (if p2 = (4 : Int32) then
  (Option.bind (f_sta_suitAt114 15 p1 I) fun v3 =>
  (Option.bind (f_x_seamsOf133 16 v3 I) fun v4 =>
  some v4
  )
  )
  else
  (Option.bind (f_sta_suitAt114 15 p1 I) fun v5 =>
  (Option.bind (f_x_runsOf79 16 v5 I) fun v6 =>
  some v6
  )
  )
  ))))
noncomputable def f_x_client149 (p1 : Int32) (p2 : Int32) (I : MJ) : Option ((Nat ⊕ Int32) × MJ) :=
  (tb (f_x_needElement69 p1 (I 3 6) I) fun _ I2 =>
  (tb (f_x_needWithin38 p2 (0 : Int32) (6 : Int32) I2) fun _ I4 =>
  (if p2 = 0 then
  (Option.bind (f_sho_streetOf150 p1 I4) fun v5 =>
  some (.inr v5, I4)
  )
  else
  (if p2 = (6 : Int32) then
  (Option.bind (f_sho_wantsOf151 p1 I4) fun v6 =>
  some (.inr v6, I4)
  )
  else
  (Option.bind (f_sta_hasSuit108 15 p1 I4) fun v7 =>
  (Option.bind (α := Int32)
  (if v7 = 0 then
  some (0 : Int32)
  else
  (Option.bind (f_x_suitFact153 p1 p2 I4) fun v9 =>
  some v9
  )
  )
  fun b8 =>
  some (.inr b8, I4)
  )
  )
  )
  )
  )
  )
noncomputable def f_l_client148 (p1 : Int32) (p2 : Int32) (I : MJ) (g : GG) : Option (Int32 × MJ × GG) :=
  (tryb (f_x_client149 p1 p2 I) (fun v1 I2 =>
  (Option.bind (wrl g 698 (0 : Int32) (v1.toInt64)) fun g3 =>
  some ((0 : Int32), I2, g3)
  )
  ) (fun E2 I2 =>
  (if E2 = 0 then
  some ((1 : Int32), I2, (thr g))
  else
  (if E2 = 1 then
  some ((2 : Int32), I2, (thr g))
  else
  none))
  ))
noncomputable def f_m_isClient328 (p1 : Int32) (I : MJ) : Option (Int32) :=
  (Option.bind (f_m_in264 p1 (0 : Int32) ((I 51 1) - (1 : Int32)) I) fun v1 =>
  some (vp_nar .boolean v1)
  )
noncomputable def f_m_wantsOf329 (p1 : Int32) (I : MJ) : Option (Int32) :=
  (Option.bind (wh (β := Int32) (fun (s1 : Int32 × Int32) =>
  (if s1.2 < (I 51 2) then
  (Option.bind (rdp 93 s1.2) fun r3 =>
  (Option.bind (rd I r3 (0 : Int32)) fun v4 =>
  (Option.bind (α := Int32)
  (if v4 = p1 then
  some ((1 : Int32) <<< (s1.2 &&& 31))
  else
  some (0 : Int32)
  )
  fun b5 =>
  some (.inl ((s1.1 ||| b5), (s1.2 + (1 : Int32))))
  )
  )
  )
  else
  some (.inr s1.1)
  )
  ) ((0 : Int32), (0 : Int32))) fun b2 =>
  some b2
  )
noncomputable def f_m_bareOf330 (p0 : Nat) (p1 : Int32) (I : MJ) : Option (Int32) :=
  (Option.bind (wh (β := Int32) (fun (s1 : Int32 × Int32) =>
  (if s1.2 < (12 : Int32) then
  (Option.bind (f_m_suitOf310 p1 I) fun v3 =>
  (Option.bind (rd I p0 (v3 + s1.2)) fun v4 =>
  (Option.bind (α := Int32)
  (if v4 = (6 : Int32) then
  some (1 : Int32)
  else
  some (0 : Int32)
  )
  fun b5 =>
  some (.inl ((s1.1 + b5), (s1.2 + (1 : Int32))))
  )
  )
  )
  else
  some (.inr s1.1)
  )
  ) ((0 : Int32), (0 : Int32))) fun b2 =>
  some b2
  )
noncomputable def f_m_client327 (p1 : Int32) (p2 : Int32) (I : MJ) : Option (Int32 × MJ) :=
  (Option.bind (f_m_isClient328 p1 (ab_up1 I 47 0 (0 : Int32))) fun v1 =>
  (Option.bind (α := Int32)
  (if v1 = 0 then
  some (1 : Int32)
  else
  some (0 : Int32)
  )
  fun b2 =>
  (Option.bind (f_m_bad268 b2 (1 : Int32) (0 : Int32) (ab_up1 I 47 0 (0 : Int32))) fun w3 =>
  (if w3.1 = 0 then
  (Option.bind (f_m_in264 p2 (0 : Int32) (6 : Int32) w3.2) fun v4 =>
  (Option.bind (α := Int32)
  (if v4 = 0 then
  some (1 : Int32)
  else
  some (0 : Int32)
  )
  fun b5 =>
  (Option.bind (f_m_bad268 b5 (2 : Int32) (1 : Int32) w3.2) fun w6 =>
  (if w6.1 = 0 then
  (if p2 = 0 then
  (Option.bind (rd w6.2 53 p1) fun v7 =>
  some (v7, w6.2)
  )
  else
  (if p2 = (6 : Int32) then
  (Option.bind (f_m_wantsOf329 p1 w6.2) fun v8 =>
  some (v8, w6.2)
  )
  else
  (Option.bind (f_m_hasSuit305 576 p1 w6.2) fun v9 =>
  (if v9 = 0 then
  some ((0 : Int32), w6.2)
  else
  (if p2 = (1 : Int32) then
  some ((1 : Int32), w6.2)
  else
  (if p2 = (2 : Int32) then
  (Option.bind (rd w6.2 576 ((82 : Int32) + p1)) fun v10 =>
  some (((w6.2 576 89) - v10), w6.2)
  )
  else
  (if p2 = (3 : Int32) then
  (Option.bind (f_m_bareOf330 576 p1 w6.2) fun v11 =>
  some (v11, w6.2)
  )
  else
  (if p2 = (4 : Int32) then
  (Option.bind (f_m_suitOf310 p1 w6.2) fun v12 =>
  (Option.bind (f_m_seamsOf316 576 v12 w6.2) fun v13 =>
  some (v13, w6.2)
  )
  )
  else
  (Option.bind (f_m_suitOf310 p1 w6.2) fun v14 =>
  (Option.bind (f_m_runsOf291 576 v14 w6.2) fun v15 =>
  some (v15, w6.2)
  )
  )
  ))))
  )
  )
  )
  )
  else
  some ((0 : Int32), w6.2)
  )
  )
  )
  )
  else
  some ((0 : Int32), w3.2)
  )
  )
  )
  )
noncomputable def f_sho_isMet158 (p1 : Int32) (p2 : Nat) (p3 : Int32) (I : MJ) : Option (Int32) :=
  (Option.bind (f_sho_wantPart152 p1 (2 : Int32) I) fun v1 =>
  (Option.bind (f_sho_wantPart152 p1 (1 : Int32) I) fun v2 =>
  (wh (fun (s3 : Int32) =>
  (if (if v1 < (11 : Int32) then v1 else (11 : Int32)) < s3 then
  some (.inr (1 : Int32))
  else
  (Option.bind (f_x_at16 p2 (p3 + s3) I) fun v4 =>
  (Option.bind (f_sho_wantPart152 p1 (3 : Int32) I) fun v5 =>
  (if v4 = v5 then
  some (.inl (s3 + (1 : Int32)))
  else
  some (.inr (0 : Int32))
  )
  )
  )
  )
  ) v2)
  )
  )
noncomputable def f_x_want157 (p1 : Int32) (p2 : Int32) (I : MJ) : Option ((Nat ⊕ Int32) × MJ) :=
  (tb (f_x_needElement69 p1 (I 3 7) I) fun _ I2 =>
  (tb (f_x_needWithin38 p2 (0 : Int32) (5 : Int32) I2) fun _ I4 =>
  (if p2 < (5 : Int32) then
  (Option.bind (f_sho_wantPart152 p1 p2 I4) fun v5 =>
  some (.inr v5, I4)
  )
  else
  (Option.bind (f_sho_wantPart152 p1 (0 : Int32) I4) fun v6 =>
  (Option.bind (f_sta_hasSuit108 15 v6 I4) fun v7 =>
  (Option.bind (α := Int32)
  (if v7 = 0 then
  some (0 : Int32)
  else
  (Option.bind (f_sta_suitAt114 15 v6 I4) fun v9 =>
  (Option.bind (f_sho_isMet158 p1 16 v9 I4) fun v10 =>
  (if v10 = 0 then
  some (0 : Int32)
  else
  some (1 : Int32)
  )
  )
  )
  )
  fun b8 =>
  some (.inr b8, I4)
  )
  )
  )
  )
  )
  )
noncomputable def f_l_want156 (p1 : Int32) (p2 : Int32) (I : MJ) (g : GG) : Option (Int32 × MJ × GG) :=
  (tryb (f_x_want157 p1 p2 I) (fun v1 I2 =>
  (Option.bind (wrl g 698 (0 : Int32) (v1.toInt64)) fun g3 =>
  some ((0 : Int32), I2, g3)
  )
  ) (fun E2 I2 =>
  (if E2 = 0 then
  some ((1 : Int32), I2, (thr g))
  else
  (if E2 = 1 then
  some ((2 : Int32), I2, (thr g))
  else
  none))
  ))
noncomputable def f_m_isMet332 (p1 : Nat) (p2 : Int32) (p3 : Int32) (I : MJ) : Option (Int32) :=
  (Option.bind (rdp 93 p3) fun r1 =>
  (Option.bind (rd I r1 (1 : Int32)) fun v2 =>
  (wh (fun (s3 : Int32) =>
  (Option.bind (rdp 93 p3) fun r4 =>
  (Option.bind (rd I r4 (2 : Int32)) fun v5 =>
  (if v5 < s3 then
  some (.inr (1 : Int32))
  else
  (Option.bind (rd I p1 (p2 + s3)) fun v6 =>
  (Option.bind (rdp 93 p3) fun r7 =>
  (Option.bind (rd I r7 (3 : Int32)) fun v8 =>
  (if v6 = v8 then
  some (.inl (s3 + (1 : Int32)))
  else
  some (.inr (0 : Int32))
  )
  )
  )
  )
  )
  )
  )
  ) v2)
  )
  )
noncomputable def f_m_want331 (p1 : Int32) (p2 : Int32) (I : MJ) : Option (Int32 × MJ) :=
  (Option.bind (f_m_in264 p1 (0 : Int32) ((I 51 2) - (1 : Int32)) (ab_up1 I 47 0 (0 : Int32))) fun v1 =>
  (Option.bind (α := Int32)
  (if v1 = 0 then
  some (1 : Int32)
  else
  some (0 : Int32)
  )
  fun b2 =>
  (Option.bind (f_m_bad268 b2 (1 : Int32) (0 : Int32) (ab_up1 I 47 0 (0 : Int32))) fun w3 =>
  (if w3.1 = 0 then
  (Option.bind (f_m_in264 p2 (0 : Int32) (5 : Int32) w3.2) fun v4 =>
  (Option.bind (α := Int32)
  (if v4 = 0 then
  some (1 : Int32)
  else
  some (0 : Int32)
  )
  fun b5 =>
  (Option.bind (f_m_bad268 b5 (2 : Int32) (1 : Int32) w3.2) fun w6 =>
  (if w6.1 = 0 then
  (if p2 < (5 : Int32) then
  (Option.bind (rdp 93 p1) fun r7 =>
  (Option.bind (rd w6.2 r7 p2) fun v8 =>
  some (v8, w6.2)
  )
  )
  else
  (Option.bind (rdp 93 p1) fun r9 =>
  (Option.bind (rd w6.2 r9 (0 : Int32)) fun v10 =>
  (Option.bind (f_m_hasSuit305 576 v10 w6.2) fun v11 =>
  (Option.bind (α := Int32)
  (if v11 = 0 then
  some (0 : Int32)
  else
  (Option.bind (rdp 93 p1) fun r13 =>
  (Option.bind (rd w6.2 r13 (0 : Int32)) fun v14 =>
  (Option.bind (f_m_suitOf310 v14 w6.2) fun v15 =>
  (Option.bind (f_m_isMet332 576 v15 p1 w6.2) fun v16 =>
  (if v16 = 0 then
  some (0 : Int32)
  else
  some (1 : Int32)
  )
  )
  )
  )
  )
  )
  fun b12 =>
  some (b12, w6.2)
  )
  )
  )
  )
  )
  else
  some ((0 : Int32), w6.2)
  )
  )
  )
  )
  else
  some ((0 : Int32), w3.2)
  )
  )
  )
  )
noncomputable def f_x_order160 (p1 : Int32) (p2 : Int32) (I : MJ) : Option ((Nat ⊕ Int32) × MJ) :=
  (tb (f_x_needElement69 p1 (I 3 8) I) fun _ I2 =>
  (tb (f_x_needWithin38 p2 (0 : Int32) (5 : Int32) I2) fun _ I4 =>
  (Option.bind (α := Int32)
  (if p2 < (5 : Int32) then
  (Option.bind (f_sho_orderPart123 p1 p2 I4) fun v6 =>
  some v6
  )
  else
  (Option.bind (f_tra_stateOf124 p1 I4) fun v7 =>
  some v7
  )
  )
  fun b5 =>
  some (.inr b5, I4)
  )
  )
  )
noncomputable def f_l_order159 (p1 : Int32) (p2 : Int32) (I : MJ) (g : GG) : Option (Int32 × MJ × GG) :=
  (tryb (f_x_order160 p1 p2 I) (fun v1 I2 =>
  (Option.bind (wrl g 698 (0 : Int32) (v1.toInt64)) fun g3 =>
  some ((0 : Int32), I2, g3)
  )
  ) (fun E2 I2 =>
  (if E2 = 0 then
  some ((1 : Int32), I2, (thr g))
  else
  (if E2 = 1 then
  some ((2 : Int32), I2, (thr g))
  else
  none))
  ))
noncomputable def f_m_isOrder334 (p1 : Int32) (I : MJ) : Option (Int32) :=
  (Option.bind (f_m_in264 p1 (0 : Int32) ((I 51 3) - (1 : Int32)) I) fun v1 =>
  some (vp_nar .boolean v1)
  )
