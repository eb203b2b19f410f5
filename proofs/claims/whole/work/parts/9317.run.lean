/-! the law, case by case (written by wip/whole/dec_law.py) -/
def TL (d : Nat) (X : XX) (r : (Int32 × MJ × GG) ⊕ (Int32 × MJ × GG)) (x : ab_O × ab_H) : Prop := match r with
  | .inl t => ev d 386 23 [(0, .ref 1000000), (1, .ref 0), (2, .ref 47), (3, .ref 698), (4, .int t.1)] [] (hh X t.2.2 t.2.1) x
  | .inr b => pG X b x
set_option maxRecDepth 1000000 in
set_option maxHeartbeats 4000000 in
theorem gl_c0 {X : XX} {i : Int32} {I : MJ} {g : GG} {d : Nat} (hd : 86 ≤ d + 1) : Go (d + 1) 386 220 [(0, .ref 1000000), (1, .ref 0), (2, .ref 47), (3, .ref 698), (4, .int i)] [] (hh X g I)
  (
  (Option.bind (rds X (i + (1 : Int32))) fun v1 =>
  (Option.bind (rds X (i + (2 : Int32))) fun v2 =>
  (Option.bind (rds X (i + (3 : Int32))) fun v3 =>
  (Option.bind (rds X (i + (4 : Int32))) fun v4 =>
  (Option.bind (rds X (i + (5 : Int32))) fun v5 =>
  (Option.bind (f_x_feed17 v1 v2 v3 v4 v5 I) fun w6 =>
  (Option.bind (rds X (i + (1 : Int32))) fun v7 =>
  (Option.bind (rds X (i + (2 : Int32))) fun v8 =>
  (Option.bind (rds X (i + (3 : Int32))) fun v9 =>
  (Option.bind (rds X (i + (4 : Int32))) fun v10 =>
  (Option.bind (rds X (i + (5 : Int32))) fun v11 =>
  (Option.bind (f_m_feed266 v7 v8 v9 v10 v11 w6.2) fun w12 =>
  (if w6.1 = w12.1 then
  some (.inl ((i + (7 : Int32)), w12.2, g))
  else
  some (.inr ((0 : Int32), w12.2, g))
  )
  )
  )
  )
  )
  )
  )
  )
  )
  )
  )
  )
  )
  )
  (TL (d + 1) X) := by
  refine Go_blk 5 (pc' := 226) (L' := [(0, .ref 1000000), (1, .ref 0), (2, .ref 47), (3, .ref 698), (4, .int i)]) (S' := [.int (i + (1 : Int32)), .ref 1000000, .ref 0]) (h' := (hh X g I)) (ab_blkD_ok rfl) ?_
  refine Go_ialds (dl_ok rfl) fun v1 => ?_
  refine Go_blk 4 (pc' := 232) (L' := [(0, .ref 1000000), (1, .ref 0), (2, .ref 47), (3, .ref 698), (4, .int i)]) (S' := [.int (i + (2 : Int32)), .ref 1000000, .int v1, .ref 0]) (h' := (hh X g I)) (ab_blkD_ok rfl) ?_
  refine Go_ialds (dl_ok rfl) fun v2 => ?_
  refine Go_blk 4 (pc' := 238) (L' := [(0, .ref 1000000), (1, .ref 0), (2, .ref 47), (3, .ref 698), (4, .int i)]) (S' := [.int (i + (3 : Int32)), .ref 1000000, .int v2, .int v1, .ref 0]) (h' := (hh X g I)) (ab_blkD_ok rfl) ?_
  refine Go_ialds (dl_ok rfl) fun v3 => ?_
  refine Go_blk 4 (pc' := 244) (L' := [(0, .ref 1000000), (1, .ref 0), (2, .ref 47), (3, .ref 698), (4, .int i)]) (S' := [.int (i + (4 : Int32)), .ref 1000000, .int v3, .int v2, .int v1, .ref 0]) (h' := (hh X g I)) (ab_blkD_ok rfl) ?_
  refine Go_ialds (dl_ok rfl) fun v4 => ?_
  refine Go_blk 4 (pc' := 250) (L' := [(0, .ref 1000000), (1, .ref 0), (2, .ref 47), (3, .ref 698), (4, .int i)]) (S' := [.int (i + (5 : Int32)), .ref 1000000, .int v4, .int v3, .int v2, .int v1, .ref 0]) (h' := (hh X g I)) (ab_blkD_ok rfl) ?_
  refine Go_ialds (dl_ok rfl) fun v5 => ?_
  refine Go_cW (y' := 17) (As := [.ref 0, .int v1, .int v2, .int v3, .int v4, .int v5]) (r := []) (ab_clD_ok rfl) (g_x_feed17 v1 v2 v3 v4 v5 (by omega)) fun w6 => ?_
  refine Go_blk 5 (pc' := 260) (L' := [(0, .ref 1000000), (1, .ref 0), (2, .ref 47), (3, .ref 698), (4, .int i)]) (S' := [.int (i + (1 : Int32)), .ref 1000000, .ref 47, .int w6.1]) (h' := (hh X g w6.2)) (ab_blkD_ok rfl) ?_
  refine Go_ialds (dl_ok rfl) fun v7 => ?_
  refine Go_blk 4 (pc' := 266) (L' := [(0, .ref 1000000), (1, .ref 0), (2, .ref 47), (3, .ref 698), (4, .int i)]) (S' := [.int (i + (2 : Int32)), .ref 1000000, .int v7, .ref 47, .int w6.1]) (h' := (hh X g w6.2)) (ab_blkD_ok rfl) ?_
  refine Go_ialds (dl_ok rfl) fun v8 => ?_
  refine Go_blk 4 (pc' := 272) (L' := [(0, .ref 1000000), (1, .ref 0), (2, .ref 47), (3, .ref 698), (4, .int i)]) (S' := [.int (i + (3 : Int32)), .ref 1000000, .int v8, .int v7, .ref 47, .int w6.1]) (h' := (hh X g w6.2)) (ab_blkD_ok rfl) ?_
  refine Go_ialds (dl_ok rfl) fun v9 => ?_
  refine Go_blk 4 (pc' := 278) (L' := [(0, .ref 1000000), (1, .ref 0), (2, .ref 47), (3, .ref 698), (4, .int i)]) (S' := [.int (i + (4 : Int32)), .ref 1000000, .int v9, .int v8, .int v7, .ref 47, .int w6.1]) (h' := (hh X g w6.2)) (ab_blkD_ok rfl) ?_
  refine Go_ialds (dl_ok rfl) fun v10 => ?_
  refine Go_blk 4 (pc' := 284) (L' := [(0, .ref 1000000), (1, .ref 0), (2, .ref 47), (3, .ref 698), (4, .int i)]) (S' := [.int (i + (5 : Int32)), .ref 1000000, .int v10, .int v9, .int v8, .int v7, .ref 47, .int w6.1]) (h' := (hh X g w6.2)) (ab_blkD_ok rfl) ?_
  refine Go_ialds (dl_ok rfl) fun v11 => ?_
  refine Go_cW (y' := 266) (As := [.ref 47, .int v7, .int v8, .int v9, .int v10, .int v11]) (r := [.int w6.1]) (ab_clD_ok rfl) (g_m_feed266 v7 v8 v9 v10 v11 (by omega)) fun w12 => ?_
  refine Go_cmp (dl_ok rfl) rfl rfl ?_ ?_
  ·
    refine Go_blk 2 (pc' := 23) (L' := [(4, .int (i + (7 : Int32))), (0, .ref 1000000), (1, .ref 0), (2, .ref 47), (3, .ref 698)]) (S' := []) (h' := (hh X g w12.2)) (ab_blkD_ok rfl) ?_
    exact Go_jmp [(0, .ref 1000000), (1, .ref 0), (2, .ref 47), (3, .ref 698), (4, .int (i + (7 : Int32)))] rfl ⟨rfl, rfl, rfl, rfl, rfl, trivial⟩ (fun _ h => h)
  ·
    refine Go_inrS ?_
    refine Go_blk 1 (pc' := 292) (L' := [(0, .ref 1000000), (1, .ref 0), (2, .ref 47), (3, .ref 698), (4, .int i)]) (S' := [.int (0 : Int32)]) (h' := (hh X g w12.2)) (ab_blkD_ok rfl) ?_
    exact Go_ret (fun _ h => h) (ab_enD_ok rfl)
set_option maxRecDepth 1000000 in
set_option maxHeartbeats 4000000 in
theorem gl_c1 {X : XX} {i : Int32} {I : MJ} {g : GG} {d : Nat} (hd : 86 ≤ d + 1) : Go (d + 1) 386 293 [(0, .ref 1000000), (1, .ref 0), (2, .ref 47), (3, .ref 698), (4, .int i)] [] (hh X g I)
  (
  (Option.bind (rds X (i + (1 : Int32))) fun v1 =>
  (Option.bind (f_l_shop35 v1 I g) fun w2 =>
  (Option.bind (rds X (i + (1 : Int32))) fun v3 =>
  (Option.bind (f_m_shop267 v3 w2.2.1) fun w4 =>
  (Option.bind (f_m_thrown265 w4.2) fun v5 =>
  (if v5 = w2.1 then
  (if w2.1 = 0 then
  (Option.bind (rdl w2.2.2 698 (0 : Int32)) fun v6 =>
  (if (lg_cmp v6 (w4.1.toInt64)) = 0 then
  some (.inl ((i + (7 : Int32)), w4.2, w2.2.2))
  else
  some (.inr ((0 : Int32), w4.2, w2.2.2))
  )
  )
  else
  some (.inl ((i + (7 : Int32)), w4.2, w2.2.2))
  )
  else
  some (.inr ((0 : Int32), w4.2, w2.2.2))
  )
  )
  )
  )
  )
  )
  )
  (TL (d + 1) X) := by
  refine Go_blk 5 (pc' := 299) (L' := [(0, .ref 1000000), (1, .ref 0), (2, .ref 47), (3, .ref 698), (4, .int i)]) (S' := [.int (i + (1 : Int32)), .ref 1000000, .ref 0]) (h' := (hh X g I)) (ab_blkD_ok rfl) ?_
  refine Go_ialds (dl_ok rfl) fun v1 => ?_
  refine Go_blk 1 (pc' := 301) (L' := [(0, .ref 1000000), (1, .ref 0), (2, .ref 47), (3, .ref 698), (4, .int i)]) (S' := [.ref 698, .int v1, .ref 0]) (h' := (hh X g I)) (ab_blkD_ok rfl) ?_
  refine Go_cG (y' := 35) (As := [.ref 0, .int v1, .ref 698]) (r := []) (ab_clD_ok rfl) (g_l_shop35 v1 (by omega)) fun w2 => ?_
  refine Go_blk 6 (pc' := 312) (L' := [(5, .int w2.1), (0, .ref 1000000), (1, .ref 0), (2, .ref 47), (3, .ref 698), (4, .int i)]) (S' := [.int (i + (1 : Int32)), .ref 1000000, .ref 47]) (h' := (hh X w2.2.2 w2.2.1)) (ab_blkD_ok rfl) ?_
  refine Go_ialds (dl_ok rfl) fun v3 => ?_
  refine Go_cW (y' := 267) (As := [.ref 47, .int v3]) (r := []) (ab_clD_ok rfl) (g_m_shop267 v3 (by omega)) fun w4 => ?_
  refine Go_blk 2 (pc' := 319) (L' := [(6, .int w4.1), (5, .int w2.1), (0, .ref 1000000), (1, .ref 0), (2, .ref 47), (3, .ref 698), (4, .int i)]) (S' := [.ref 47]) (h' := (hh X w2.2.2 w4.2)) (ab_blkD_ok rfl) ?_
  refine Go_cR (y' := 265) (As := [.ref 47]) (r := []) (ab_clD_ok rfl) (g_m_thrown265  (by omega)) fun v5 => ?_
  refine Go_blk 1 (pc' := 324) (L' := [(6, .int w4.1), (5, .int w2.1), (0, .ref 1000000), (1, .ref 0), (2, .ref 47), (3, .ref 698), (4, .int i)]) (S' := [.int w2.1, .int v5]) (h' := (hh X w2.2.2 w4.2)) (ab_blkD_ok rfl) ?_
  refine Go_cmp (dl_ok rfl) rfl rfl ?_ ?_
  ·
    refine Go_blk 1 (pc' := 331) (L' := [(6, .int w4.1), (5, .int w2.1), (0, .ref 1000000), (1, .ref 0), (2, .ref 47), (3, .ref 698), (4, .int i)]) (S' := [.int w2.1]) (h' := (hh X w2.2.2 w4.2)) (ab_blkD_ok rfl) ?_
    refine Go_cmzn (dl_ok rfl) rfl rfl ?_ ?_
    ·
      refine Go_blk 2 (pc' := 336) (L' := [(6, .int w4.1), (5, .int w2.1), (0, .ref 1000000), (1, .ref 0), (2, .ref 47), (3, .ref 698), (4, .int i)]) (S' := [.int (0 : Int32), .ref 698]) (h' := (hh X w2.2.2 w4.2)) (ab_blkD_ok rfl) ?_
      refine Go_lald (dl_ok rfl) fun v6 => ?_
      refine Go_blk 3 (pc' := 341) (L' := [(6, .int w4.1), (5, .int w2.1), (0, .ref 1000000), (1, .ref 0), (2, .ref 47), (3, .ref 698), (4, .int i)]) (S' := [.int (lg_cmp v6 (w4.1.toInt64))]) (h' := (hh X w2.2.2 w4.2)) (ab_blkD_ok rfl) ?_
      refine Go_cmz (dl_ok rfl) rfl rfl ?_ ?_
      ·
        refine Go_blk 3 (pc' := 23) (L' := [(4, .int (i + (7 : Int32))), (6, .int w4.1), (5, .int w2.1), (0, .ref 1000000), (1, .ref 0), (2, .ref 47), (3, .ref 698)]) (S' := []) (h' := (hh X w2.2.2 w4.2)) (ab_blkD_ok rfl) ?_
        exact Go_jmp [(0, .ref 1000000), (1, .ref 0), (2, .ref 47), (3, .ref 698), (4, .int (i + (7 : Int32)))] rfl ⟨rfl, rfl, rfl, rfl, rfl, trivial⟩ (fun _ h => h)
      ·
        refine Go_inrS ?_
        refine Go_blk 1 (pc' := 345) (L' := [(6, .int w4.1), (5, .int w2.1), (0, .ref 1000000), (1, .ref 0), (2, .ref 47), (3, .ref 698), (4, .int i)]) (S' := [.int (0 : Int32)]) (h' := (hh X w2.2.2 w4.2)) (ab_blkD_ok rfl) ?_
        exact Go_ret (fun _ h => h) (ab_enD_ok rfl)
    ·
      refine Go_blk 3 (pc' := 23) (L' := [(4, .int (i + (7 : Int32))), (6, .int w4.1), (5, .int w2.1), (0, .ref 1000000), (1, .ref 0), (2, .ref 47), (3, .ref 698)]) (S' := []) (h' := (hh X w2.2.2 w4.2)) (ab_blkD_ok rfl) ?_
      exact Go_jmp [(0, .ref 1000000), (1, .ref 0), (2, .ref 47), (3, .ref 698), (4, .int (i + (7 : Int32)))] rfl ⟨rfl, rfl, rfl, rfl, rfl, trivial⟩ (fun _ h => h)
  ·
    refine Go_inrS ?_
    refine Go_blk 1 (pc' := 328) (L' := [(6, .int w4.1), (5, .int w2.1), (0, .ref 1000000), (1, .ref 0), (2, .ref 47), (3, .ref 698), (4, .int i)]) (S' := [.int (0 : Int32)]) (h' := (hh X w2.2.2 w4.2)) (ab_blkD_ok rfl) ?_
    exact Go_ret (fun _ h => h) (ab_enD_ok rfl)
set_option maxRecDepth 1000000 in
set_option maxHeartbeats 4000000 in
theorem gl_c2 {X : XX} {i : Int32} {I : MJ} {g : GG} {d : Nat} (hd : 86 ≤ d + 1) : Go (d + 1) 386 349 [(0, .ref 1000000), (1, .ref 0), (2, .ref 47), (3, .ref 698), (4, .int i)] [] (hh X g I)
  (
  (Option.bind (rds X (i + (1 : Int32))) fun v1 =>
  (Option.bind (rds X (i + (2 : Int32))) fun v2 =>
  (Option.bind (f_l_pattern66 v1 v2 I g) fun w3 =>
  (Option.bind (rds X (i + (1 : Int32))) fun v4 =>
  (Option.bind (rds X (i + (2 : Int32))) fun v5 =>
  (Option.bind (f_m_pattern287 v4 v5 w3.2.1) fun w6 =>
  (Option.bind (f_m_thrown265 w6.2) fun v7 =>
  (if v7 = w3.1 then
  (if w3.1 = 0 then
  (Option.bind (rdl w3.2.2 698 (0 : Int32)) fun v8 =>
  (if (lg_cmp v8 (w6.1.toInt64)) = 0 then
  some (.inl ((i + (7 : Int32)), w6.2, w3.2.2))
  else
  some (.inr ((0 : Int32), w6.2, w3.2.2))
  )
  )
  else
  some (.inl ((i + (7 : Int32)), w6.2, w3.2.2))
  )
  else
  some (.inr ((0 : Int32), w6.2, w3.2.2))
  )
  )
  )
  )
  )
  )
  )
  )
  )
  (TL (d + 1) X) := by
  refine Go_blk 5 (pc' := 355) (L' := [(0, .ref 1000000), (1, .ref 0), (2, .ref 47), (3, .ref 698), (4, .int i)]) (S' := [.int (i + (1 : Int32)), .ref 1000000, .ref 0]) (h' := (hh X g I)) (ab_blkD_ok rfl) ?_
  refine Go_ialds (dl_ok rfl) fun v1 => ?_
  refine Go_blk 4 (pc' := 361) (L' := [(0, .ref 1000000), (1, .ref 0), (2, .ref 47), (3, .ref 698), (4, .int i)]) (S' := [.int (i + (2 : Int32)), .ref 1000000, .int v1, .ref 0]) (h' := (hh X g I)) (ab_blkD_ok rfl) ?_
  refine Go_ialds (dl_ok rfl) fun v2 => ?_
  refine Go_blk 1 (pc' := 363) (L' := [(0, .ref 1000000), (1, .ref 0), (2, .ref 47), (3, .ref 698), (4, .int i)]) (S' := [.ref 698, .int v2, .int v1, .ref 0]) (h' := (hh X g I)) (ab_blkD_ok rfl) ?_
  refine Go_cG (y' := 66) (As := [.ref 0, .int v1, .int v2, .ref 698]) (r := []) (ab_clD_ok rfl) (g_l_pattern66 v1 v2 (by omega)) fun w3 => ?_
  refine Go_blk 6 (pc' := 374) (L' := [(5, .int w3.1), (0, .ref 1000000), (1, .ref 0), (2, .ref 47), (3, .ref 698), (4, .int i)]) (S' := [.int (i + (1 : Int32)), .ref 1000000, .ref 47]) (h' := (hh X w3.2.2 w3.2.1)) (ab_blkD_ok rfl) ?_
  refine Go_ialds (dl_ok rfl) fun v4 => ?_
  refine Go_blk 4 (pc' := 380) (L' := [(5, .int w3.1), (0, .ref 1000000), (1, .ref 0), (2, .ref 47), (3, .ref 698), (4, .int i)]) (S' := [.int (i + (2 : Int32)), .ref 1000000, .int v4, .ref 47]) (h' := (hh X w3.2.2 w3.2.1)) (ab_blkD_ok rfl) ?_
  refine Go_ialds (dl_ok rfl) fun v5 => ?_
  refine Go_cW (y' := 287) (As := [.ref 47, .int v4, .int v5]) (r := []) (ab_clD_ok rfl) (g_m_pattern287 v4 v5 (by omega)) fun w6 => ?_
  refine Go_blk 2 (pc' := 387) (L' := [(6, .int w6.1), (5, .int w3.1), (0, .ref 1000000), (1, .ref 0), (2, .ref 47), (3, .ref 698), (4, .int i)]) (S' := [.ref 47]) (h' := (hh X w3.2.2 w6.2)) (ab_blkD_ok rfl) ?_
  refine Go_cR (y' := 265) (As := [.ref 47]) (r := []) (ab_clD_ok rfl) (g_m_thrown265  (by omega)) fun v7 => ?_
  refine Go_blk 1 (pc' := 392) (L' := [(6, .int w6.1), (5, .int w3.1), (0, .ref 1000000), (1, .ref 0), (2, .ref 47), (3, .ref 698), (4, .int i)]) (S' := [.int w3.1, .int v7]) (h' := (hh X w3.2.2 w6.2)) (ab_blkD_ok rfl) ?_
  refine Go_cmp (dl_ok rfl) rfl rfl ?_ ?_
  ·
    refine Go_blk 1 (pc' := 399) (L' := [(6, .int w6.1), (5, .int w3.1), (0, .ref 1000000), (1, .ref 0), (2, .ref 47), (3, .ref 698), (4, .int i)]) (S' := [.int w3.1]) (h' := (hh X w3.2.2 w6.2)) (ab_blkD_ok rfl) ?_
    refine Go_cmzn (dl_ok rfl) rfl rfl ?_ ?_
    ·
      refine Go_blk 2 (pc' := 404) (L' := [(6, .int w6.1), (5, .int w3.1), (0, .ref 1000000), (1, .ref 0), (2, .ref 47), (3, .ref 698), (4, .int i)]) (S' := [.int (0 : Int32), .ref 698]) (h' := (hh X w3.2.2 w6.2)) (ab_blkD_ok rfl) ?_
      refine Go_lald (dl_ok rfl) fun v8 => ?_
      refine Go_blk 3 (pc' := 409) (L' := [(6, .int w6.1), (5, .int w3.1), (0, .ref 1000000), (1, .ref 0), (2, .ref 47), (3, .ref 698), (4, .int i)]) (S' := [.int (lg_cmp v8 (w6.1.toInt64))]) (h' := (hh X w3.2.2 w6.2)) (ab_blkD_ok rfl) ?_
      refine Go_cmz (dl_ok rfl) rfl rfl ?_ ?_
      ·
        refine Go_blk 3 (pc' := 23) (L' := [(4, .int (i + (7 : Int32))), (6, .int w6.1), (5, .int w3.1), (0, .ref 1000000), (1, .ref 0), (2, .ref 47), (3, .ref 698)]) (S' := []) (h' := (hh X w3.2.2 w6.2)) (ab_blkD_ok rfl) ?_
        exact Go_jmp [(0, .ref 1000000), (1, .ref 0), (2, .ref 47), (3, .ref 698), (4, .int (i + (7 : Int32)))] rfl ⟨rfl, rfl, rfl, rfl, rfl, trivial⟩ (fun _ h => h)
      ·
        refine Go_inrS ?_
        refine Go_blk 1 (pc' := 413) (L' := [(6, .int w6.1), (5, .int w3.1), (0, .ref 1000000), (1, .ref 0), (2, .ref 47), (3, .ref 698), (4, .int i)]) (S' := [.int (0 : Int32)]) (h' := (hh X w3.2.2 w6.2)) (ab_blkD_ok rfl) ?_
        exact Go_ret (fun _ h => h) (ab_enD_ok rfl)
    ·
      refine Go_blk 3 (pc' := 23) (L' := [(4, .int (i + (7 : Int32))), (6, .int w6.1), (5, .int w3.1), (0, .ref 1000000), (1, .ref 0), (2, .ref 47), (3, .ref 698)]) (S' := []) (h' := (hh X w3.2.2 w6.2)) (ab_blkD_ok rfl) ?_
      exact Go_jmp [(0, .ref 1000000), (1, .ref 0), (2, .ref 47), (3, .ref 698), (4, .int (i + (7 : Int32)))] rfl ⟨rfl, rfl, rfl, rfl, rfl, trivial⟩ (fun _ h => h)
  ·
    refine Go_inrS ?_
    refine Go_blk 1 (pc' := 396) (L' := [(6, .int w6.1), (5, .int w3.1), (0, .ref 1000000), (1, .ref 0), (2, .ref 47), (3, .ref 698), (4, .int i)]) (S' := [.int (0 : Int32)]) (h' := (hh X w3.2.2 w6.2)) (ab_blkD_ok rfl) ?_
    exact Go_ret (fun _ h => h) (ab_enD_ok rfl)
set_option maxRecDepth 1000000 in
set_option maxHeartbeats 4000000 in
theorem gl_c3 {X : XX} {i : Int32} {I : MJ} {g : GG} {d : Nat} (hd : 86 ≤ d + 1) : Go (d + 1) 386 417 [(0, .ref 1000000), (1, .ref 0), (2, .ref 47), (3, .ref 698), (4, .int i)] [] (hh X g I)
  (
  (Option.bind (rds X (i + (1 : Int32))) fun v1 =>
  (Option.bind (f_l_law80 X v1 I g) fun w2 =>
  (Option.bind (rds X (i + (1 : Int32))) fun v3 =>
  (Option.bind (f_m_law292 v3 w2.2.1) fun w4 =>
  (Option.bind (f_m_thrown265 w4.2) fun v5 =>
  (if v5 = w2.1 then
  (if w2.1 = 0 then
  (Option.bind (rdl w2.2.2 698 (0 : Int32)) fun v6 =>
  (if (lg_cmp v6 (w4.1.toInt64)) = 0 then
  some (.inl ((i + (7 : Int32)), w4.2, w2.2.2))
  else
  some (.inr ((0 : Int32), w4.2, w2.2.2))
  )
  )
  else
  some (.inl ((i + (7 : Int32)), w4.2, w2.2.2))
  )
  else
  some (.inr ((0 : Int32), w4.2, w2.2.2))
  )
  )
  )
  )
  )
  )
  )
  (TL (d + 1) X) := by
  refine Go_blk 5 (pc' := 423) (L' := [(0, .ref 1000000), (1, .ref 0), (2, .ref 47), (3, .ref 698), (4, .int i)]) (S' := [.int (i + (1 : Int32)), .ref 1000000, .ref 0]) (h' := (hh X g I)) (ab_blkD_ok rfl) ?_
  refine Go_ialds (dl_ok rfl) fun v1 => ?_
  refine Go_blk 1 (pc' := 425) (L' := [(0, .ref 1000000), (1, .ref 0), (2, .ref 47), (3, .ref 698), (4, .int i)]) (S' := [.ref 698, .int v1, .ref 0]) (h' := (hh X g I)) (ab_blkD_ok rfl) ?_
  refine Go_cG (y' := 80) (As := [.ref 0, .int v1, .ref 698]) (r := []) (ab_clD_ok rfl) (g_l_law80 v1 (by omega)) fun w2 => ?_
  refine Go_blk 6 (pc' := 436) (L' := [(5, .int w2.1), (0, .ref 1000000), (1, .ref 0), (2, .ref 47), (3, .ref 698), (4, .int i)]) (S' := [.int (i + (1 : Int32)), .ref 1000000, .ref 47]) (h' := (hh X w2.2.2 w2.2.1)) (ab_blkD_ok rfl) ?_
  refine Go_ialds (dl_ok rfl) fun v3 => ?_
  refine Go_cW (y' := 292) (As := [.ref 47, .int v3]) (r := []) (ab_clD_ok rfl) (g_m_law292 v3 (by omega)) fun w4 => ?_
  refine Go_blk 2 (pc' := 443) (L' := [(6, .int w4.1), (5, .int w2.1), (0, .ref 1000000), (1, .ref 0), (2, .ref 47), (3, .ref 698), (4, .int i)]) (S' := [.ref 47]) (h' := (hh X w2.2.2 w4.2)) (ab_blkD_ok rfl) ?_
  refine Go_cR (y' := 265) (As := [.ref 47]) (r := []) (ab_clD_ok rfl) (g_m_thrown265  (by omega)) fun v5 => ?_
  refine Go_blk 1 (pc' := 448) (L' := [(6, .int w4.1), (5, .int w2.1), (0, .ref 1000000), (1, .ref 0), (2, .ref 47), (3, .ref 698), (4, .int i)]) (S' := [.int w2.1, .int v5]) (h' := (hh X w2.2.2 w4.2)) (ab_blkD_ok rfl) ?_
  refine Go_cmp (dl_ok rfl) rfl rfl ?_ ?_
  ·
    refine Go_blk 1 (pc' := 455) (L' := [(6, .int w4.1), (5, .int w2.1), (0, .ref 1000000), (1, .ref 0), (2, .ref 47), (3, .ref 698), (4, .int i)]) (S' := [.int w2.1]) (h' := (hh X w2.2.2 w4.2)) (ab_blkD_ok rfl) ?_
    refine Go_cmzn (dl_ok rfl) rfl rfl ?_ ?_
    ·
      refine Go_blk 2 (pc' := 460) (L' := [(6, .int w4.1), (5, .int w2.1), (0, .ref 1000000), (1, .ref 0), (2, .ref 47), (3, .ref 698), (4, .int i)]) (S' := [.int (0 : Int32), .ref 698]) (h' := (hh X w2.2.2 w4.2)) (ab_blkD_ok rfl) ?_
      refine Go_lald (dl_ok rfl) fun v6 => ?_
      refine Go_blk 3 (pc' := 465) (L' := [(6, .int w4.1), (5, .int w2.1), (0, .ref 1000000), (1, .ref 0), (2, .ref 47), (3, .ref 698), (4, .int i)]) (S' := [.int (lg_cmp v6 (w4.1.toInt64))]) (h' := (hh X w2.2.2 w4.2)) (ab_blkD_ok rfl) ?_
      refine Go_cmz (dl_ok rfl) rfl rfl ?_ ?_
      ·
        refine Go_blk 3 (pc' := 23) (L' := [(4, .int (i + (7 : Int32))), (6, .int w4.1), (5, .int w2.1), (0, .ref 1000000), (1, .ref 0), (2, .ref 47), (3, .ref 698)]) (S' := []) (h' := (hh X w2.2.2 w4.2)) (ab_blkD_ok rfl) ?_
        exact Go_jmp [(0, .ref 1000000), (1, .ref 0), (2, .ref 47), (3, .ref 698), (4, .int (i + (7 : Int32)))] rfl ⟨rfl, rfl, rfl, rfl, rfl, trivial⟩ (fun _ h => h)
      ·
        refine Go_inrS ?_
        refine Go_blk 1 (pc' := 469) (L' := [(6, .int w4.1), (5, .int w2.1), (0, .ref 1000000), (1, .ref 0), (2, .ref 47), (3, .ref 698), (4, .int i)]) (S' := [.int (0 : Int32)]) (h' := (hh X w2.2.2 w4.2)) (ab_blkD_ok rfl) ?_
        exact Go_ret (fun _ h => h) (ab_enD_ok rfl)
    ·
      refine Go_blk 3 (pc' := 23) (L' := [(4, .int (i + (7 : Int32))), (6, .int w4.1), (5, .int w2.1), (0, .ref 1000000), (1, .ref 0), (2, .ref 47), (3, .ref 698)]) (S' := []) (h' := (hh X w2.2.2 w4.2)) (ab_blkD_ok rfl) ?_
      exact Go_jmp [(0, .ref 1000000), (1, .ref 0), (2, .ref 47), (3, .ref 698), (4, .int (i + (7 : Int32)))] rfl ⟨rfl, rfl, rfl, rfl, rfl, trivial⟩ (fun _ h => h)
  ·
    refine Go_inrS ?_
    refine Go_blk 1 (pc' := 452) (L' := [(6, .int w4.1), (5, .int w2.1), (0, .ref 1000000), (1, .ref 0), (2, .ref 47), (3, .ref 698), (4, .int i)]) (S' := [.int (0 : Int32)]) (h' := (hh X w2.2.2 w4.2)) (ab_blkD_ok rfl) ?_
    exact Go_ret (fun _ h => h) (ab_enD_ok rfl)
set_option maxRecDepth 1000000 in
set_option maxHeartbeats 4000000 in
theorem gl_c4 {X : XX} {i : Int32} {I : MJ} {g : GG} {d : Nat} (hd : 86 ≤ d + 1) : Go (d + 1) 386 473 [(0, .ref 1000000), (1, .ref 0), (2, .ref 47), (3, .ref 698), (4, .int i)] [] (hh X g I)
  (
  (Option.bind (rds X (i + (1 : Int32))) fun v1 =>
  (Option.bind (f_l_work91 v1 I g) fun w2 =>
  (Option.bind (rds X (i + (1 : Int32))) fun v3 =>
  (Option.bind (f_m_work299 v3 w2.2.1) fun w4 =>
  (Option.bind (f_m_thrown265 w4.2) fun v5 =>
  (if v5 = w2.1 then
  (if w2.1 = 0 then
  (Option.bind (rdl w2.2.2 698 (0 : Int32)) fun v6 =>
  (if (lg_cmp v6 (w4.1.toInt64)) = 0 then
  some (.inl ((i + (7 : Int32)), w4.2, w2.2.2))
  else
  some (.inr ((0 : Int32), w4.2, w2.2.2))
  )
  )
  else
  some (.inl ((i + (7 : Int32)), w4.2, w2.2.2))
  )
  else
  some (.inr ((0 : Int32), w4.2, w2.2.2))
  )
  )
  )
  )
  )
  )
  )
  (TL (d + 1) X) := by
  refine Go_blk 5 (pc' := 479) (L' := [(0, .ref 1000000), (1, .ref 0), (2, .ref 47), (3, .ref 698), (4, .int i)]) (S' := [.int (i + (1 : Int32)), .ref 1000000, .ref 0]) (h' := (hh X g I)) (ab_blkD_ok rfl) ?_
  refine Go_ialds (dl_ok rfl) fun v1 => ?_
  refine Go_blk 1 (pc' := 481) (L' := [(0, .ref 1000000), (1, .ref 0), (2, .ref 47), (3, .ref 698), (4, .int i)]) (S' := [.ref 698, .int v1, .ref 0]) (h' := (hh X g I)) (ab_blkD_ok rfl) ?_
  refine Go_cG (y' := 91) (As := [.ref 0, .int v1, .ref 698]) (r := []) (ab_clD_ok rfl) (g_l_work91 v1 (by omega)) fun w2 => ?_
  refine Go_blk 6 (pc' := 492) (L' := [(5, .int w2.1), (0, .ref 1000000), (1, .ref 0), (2, .ref 47), (3, .ref 698), (4, .int i)]) (S' := [.int (i + (1 : Int32)), .ref 1000000, .ref 47]) (h' := (hh X w2.2.2 w2.2.1)) (ab_blkD_ok rfl) ?_
  refine Go_ialds (dl_ok rfl) fun v3 => ?_
  refine Go_cW (y' := 299) (As := [.ref 47, .int v3]) (r := []) (ab_clD_ok rfl) (g_m_work299 v3 (by omega)) fun w4 => ?_
  refine Go_blk 2 (pc' := 499) (L' := [(6, .int w4.1), (5, .int w2.1), (0, .ref 1000000), (1, .ref 0), (2, .ref 47), (3, .ref 698), (4, .int i)]) (S' := [.ref 47]) (h' := (hh X w2.2.2 w4.2)) (ab_blkD_ok rfl) ?_
  refine Go_cR (y' := 265) (As := [.ref 47]) (r := []) (ab_clD_ok rfl) (g_m_thrown265  (by omega)) fun v5 => ?_
  refine Go_blk 1 (pc' := 504) (L' := [(6, .int w4.1), (5, .int w2.1), (0, .ref 1000000), (1, .ref 0), (2, .ref 47), (3, .ref 698), (4, .int i)]) (S' := [.int w2.1, .int v5]) (h' := (hh X w2.2.2 w4.2)) (ab_blkD_ok rfl) ?_
  refine Go_cmp (dl_ok rfl) rfl rfl ?_ ?_
  ·
    refine Go_blk 1 (pc' := 511) (L' := [(6, .int w4.1), (5, .int w2.1), (0, .ref 1000000), (1, .ref 0), (2, .ref 47), (3, .ref 698), (4, .int i)]) (S' := [.int w2.1]) (h' := (hh X w2.2.2 w4.2)) (ab_blkD_ok rfl) ?_
    refine Go_cmzn (dl_ok rfl) rfl rfl ?_ ?_
    ·
      refine Go_blk 2 (pc' := 516) (L' := [(6, .int w4.1), (5, .int w2.1), (0, .ref 1000000), (1, .ref 0), (2, .ref 47), (3, .ref 698), (4, .int i)]) (S' := [.int (0 : Int32), .ref 698]) (h' := (hh X w2.2.2 w4.2)) (ab_blkD_ok rfl) ?_
      refine Go_lald (dl_ok rfl) fun v6 => ?_
      refine Go_blk 3 (pc' := 521) (L' := [(6, .int w4.1), (5, .int w2.1), (0, .ref 1000000), (1, .ref 0), (2, .ref 47), (3, .ref 698), (4, .int i)]) (S' := [.int (lg_cmp v6 (w4.1.toInt64))]) (h' := (hh X w2.2.2 w4.2)) (ab_blkD_ok rfl) ?_
      refine Go_cmz (dl_ok rfl) rfl rfl ?_ ?_
      ·
        refine Go_blk 3 (pc' := 23) (L' := [(4, .int (i + (7 : Int32))), (6, .int w4.1), (5, .int w2.1), (0, .ref 1000000), (1, .ref 0), (2, .ref 47), (3, .ref 698)]) (S' := []) (h' := (hh X w2.2.2 w4.2)) (ab_blkD_ok rfl) ?_
        exact Go_jmp [(0, .ref 1000000), (1, .ref 0), (2, .ref 47), (3, .ref 698), (4, .int (i + (7 : Int32)))] rfl ⟨rfl, rfl, rfl, rfl, rfl, trivial⟩ (fun _ h => h)
      ·
        refine Go_inrS ?_
        refine Go_blk 1 (pc' := 525) (L' := [(6, .int w4.1), (5, .int w2.1), (0, .ref 1000000), (1, .ref 0), (2, .ref 47), (3, .ref 698), (4, .int i)]) (S' := [.int (0 : Int32)]) (h' := (hh X w2.2.2 w4.2)) (ab_blkD_ok rfl) ?_
        exact Go_ret (fun _ h => h) (ab_enD_ok rfl)
    ·
      refine Go_blk 3 (pc' := 23) (L' := [(4, .int (i + (7 : Int32))), (6, .int w4.1), (5, .int w2.1), (0, .ref 1000000), (1, .ref 0), (2, .ref 47), (3, .ref 698)]) (S' := []) (h' := (hh X w2.2.2 w4.2)) (ab_blkD_ok rfl) ?_
      exact Go_jmp [(0, .ref 1000000), (1, .ref 0), (2, .ref 47), (3, .ref 698), (4, .int (i + (7 : Int32)))] rfl ⟨rfl, rfl, rfl, rfl, rfl, trivial⟩ (fun _ h => h)
  ·
    refine Go_inrS ?_
    refine Go_blk 1 (pc' := 508) (L' := [(6, .int w4.1), (5, .int w2.1), (0, .ref 1000000), (1, .ref 0), (2, .ref 47), (3, .ref 698), (4, .int i)]) (S' := [.int (0 : Int32)]) (h' := (hh X w2.2.2 w4.2)) (ab_blkD_ok rfl) ?_
    exact Go_ret (fun _ h => h) (ab_enD_ok rfl)
set_option maxRecDepth 1000000 in
set_option maxHeartbeats 4000000 in
theorem gl_c5 {X : XX} {i : Int32} {I : MJ} {g : GG} {d : Nat} (hd : 86 ≤ d + 1) : Go (d + 1) 386 529 [(0, .ref 1000000), (1, .ref 0), (2, .ref 47), (3, .ref 698), (4, .int i)] [] (hh X g I)
  (
  (Option.bind (rds X (i + (1 : Int32))) fun v1 =>
  (Option.bind (f_l_book136 v1 I g) fun w2 =>
  (Option.bind (rds X (i + (1 : Int32))) fun v3 =>
  (Option.bind (f_m_book322 v3 w2.2.1) fun w4 =>
  (Option.bind (f_m_thrown265 w4.2) fun v5 =>
  (if v5 = w2.1 then
  (if w2.1 = 0 then
  (Option.bind (rdl w2.2.2 698 (0 : Int32)) fun v6 =>
  (if (lg_cmp v6 (w4.1.toInt64)) = 0 then
  some (.inl ((i + (7 : Int32)), w4.2, w2.2.2))
  else
  some (.inr ((0 : Int32), w4.2, w2.2.2))
  )
  )
  else
  some (.inl ((i + (7 : Int32)), w4.2, w2.2.2))
  )
  else
  some (.inr ((0 : Int32), w4.2, w2.2.2))
  )
  )
  )
  )
  )
  )
  )
  (TL (d + 1) X) := by
  refine Go_blk 5 (pc' := 535) (L' := [(0, .ref 1000000), (1, .ref 0), (2, .ref 47), (3, .ref 698), (4, .int i)]) (S' := [.int (i + (1 : Int32)), .ref 1000000, .ref 0]) (h' := (hh X g I)) (ab_blkD_ok rfl) ?_
  refine Go_ialds (dl_ok rfl) fun v1 => ?_
  refine Go_blk 1 (pc' := 537) (L' := [(0, .ref 1000000), (1, .ref 0), (2, .ref 47), (3, .ref 698), (4, .int i)]) (S' := [.ref 698, .int v1, .ref 0]) (h' := (hh X g I)) (ab_blkD_ok rfl) ?_
  refine Go_cG (y' := 136) (As := [.ref 0, .int v1, .ref 698]) (r := []) (ab_clD_ok rfl) (g_l_book136 v1 (by omega)) fun w2 => ?_
  refine Go_blk 6 (pc' := 548) (L' := [(5, .int w2.1), (0, .ref 1000000), (1, .ref 0), (2, .ref 47), (3, .ref 698), (4, .int i)]) (S' := [.int (i + (1 : Int32)), .ref 1000000, .ref 47]) (h' := (hh X w2.2.2 w2.2.1)) (ab_blkD_ok rfl) ?_
  refine Go_ialds (dl_ok rfl) fun v3 => ?_
  refine Go_cW (y' := 322) (As := [.ref 47, .int v3]) (r := []) (ab_clD_ok rfl) (g_m_book322 v3 (by omega)) fun w4 => ?_
  refine Go_blk 2 (pc' := 555) (L' := [(6, .int w4.1), (5, .int w2.1), (0, .ref 1000000), (1, .ref 0), (2, .ref 47), (3, .ref 698), (4, .int i)]) (S' := [.ref 47]) (h' := (hh X w2.2.2 w4.2)) (ab_blkD_ok rfl) ?_
  refine Go_cR (y' := 265) (As := [.ref 47]) (r := []) (ab_clD_ok rfl) (g_m_thrown265  (by omega)) fun v5 => ?_
  refine Go_blk 1 (pc' := 560) (L' := [(6, .int w4.1), (5, .int w2.1), (0, .ref 1000000), (1, .ref 0), (2, .ref 47), (3, .ref 698), (4, .int i)]) (S' := [.int w2.1, .int v5]) (h' := (hh X w2.2.2 w4.2)) (ab_blkD_ok rfl) ?_
  refine Go_cmp (dl_ok rfl) rfl rfl ?_ ?_
  ·
    refine Go_blk 1 (pc' := 567) (L' := [(6, .int w4.1), (5, .int w2.1), (0, .ref 1000000), (1, .ref 0), (2, .ref 47), (3, .ref 698), (4, .int i)]) (S' := [.int w2.1]) (h' := (hh X w2.2.2 w4.2)) (ab_blkD_ok rfl) ?_
    refine Go_cmzn (dl_ok rfl) rfl rfl ?_ ?_
    ·
      refine Go_blk 2 (pc' := 572) (L' := [(6, .int w4.1), (5, .int w2.1), (0, .ref 1000000), (1, .ref 0), (2, .ref 47), (3, .ref 698), (4, .int i)]) (S' := [.int (0 : Int32), .ref 698]) (h' := (hh X w2.2.2 w4.2)) (ab_blkD_ok rfl) ?_
      refine Go_lald (dl_ok rfl) fun v6 => ?_
      refine Go_blk 3 (pc' := 577) (L' := [(6, .int w4.1), (5, .int w2.1), (0, .ref 1000000), (1, .ref 0), (2, .ref 47), (3, .ref 698), (4, .int i)]) (S' := [.int (lg_cmp v6 (w4.1.toInt64))]) (h' := (hh X w2.2.2 w4.2)) (ab_blkD_ok rfl) ?_
      refine Go_cmz (dl_ok rfl) rfl rfl ?_ ?_
      ·
        refine Go_blk 3 (pc' := 23) (L' := [(4, .int (i + (7 : Int32))), (6, .int w4.1), (5, .int w2.1), (0, .ref 1000000), (1, .ref 0), (2, .ref 47), (3, .ref 698)]) (S' := []) (h' := (hh X w2.2.2 w4.2)) (ab_blkD_ok rfl) ?_
        exact Go_jmp [(0, .ref 1000000), (1, .ref 0), (2, .ref 47), (3, .ref 698), (4, .int (i + (7 : Int32)))] rfl ⟨rfl, rfl, rfl, rfl, rfl, trivial⟩ (fun _ h => h)
      ·
        refine Go_inrS ?_
        refine Go_blk 1 (pc' := 581) (L' := [(6, .int w4.1), (5, .int w2.1), (0, .ref 1000000), (1, .ref 0), (2, .ref 47), (3, .ref 698), (4, .int i)]) (S' := [.int (0 : Int32)]) (h' := (hh X w2.2.2 w4.2)) (ab_blkD_ok rfl) ?_
        exact Go_ret (fun _ h => h) (ab_enD_ok rfl)
    ·
      refine Go_blk 3 (pc' := 23) (L' := [(4, .int (i + (7 : Int32))), (6, .int w4.1), (5, .int w2.1), (0, .ref 1000000), (1, .ref 0), (2, .ref 47), (3, .ref 698)]) (S' := []) (h' := (hh X w2.2.2 w4.2)) (ab_blkD_ok rfl) ?_
      exact Go_jmp [(0, .ref 1000000), (1, .ref 0), (2, .ref 47), (3, .ref 698), (4, .int (i + (7 : Int32)))] rfl ⟨rfl, rfl, rfl, rfl, rfl, trivial⟩ (fun _ h => h)
  ·
    refine Go_inrS ?_
    refine Go_blk 1 (pc' := 564) (L' := [(6, .int w4.1), (5, .int w2.1), (0, .ref 1000000), (1, .ref 0), (2, .ref 47), (3, .ref 698), (4, .int i)]) (S' := [.int (0 : Int32)]) (h' := (hh X w2.2.2 w4.2)) (ab_blkD_ok rfl) ?_
    exact Go_ret (fun _ h => h) (ab_enD_ok rfl)
set_option maxRecDepth 1000000 in
set_option maxHeartbeats 4000000 in
theorem gl_c6 {X : XX} {i : Int32} {I : MJ} {g : GG} {d : Nat} (hd : 86 ≤ d + 1) : Go (d + 1) 386 585 [(0, .ref 1000000), (1, .ref 0), (2, .ref 47), (3, .ref 698), (4, .int i)] [] (hh X g I)
  (
  (Option.bind (f_x_fault19 I) fun v1 =>
  (Option.bind (f_m_fault323 I) fun w2 =>
  (if v1 = w2.1 then
  some (.inl ((i + (7 : Int32)), w2.2, g))
  else
  some (.inr ((0 : Int32), w2.2, g))
  )
  )
  )
  )
  (TL (d + 1) X) := by
  refine Go_blk 1 (pc' := 586) (L' := [(0, .ref 1000000), (1, .ref 0), (2, .ref 47), (3, .ref 698), (4, .int i)]) (S' := [.ref 0]) (h' := (hh X g I)) (ab_blkD_ok rfl) ?_
  refine Go_cR (y' := 19) (As := [.ref 0]) (r := []) (ab_clD_ok rfl) (g_x_fault19  (by omega)) fun v1 => ?_
  refine Go_blk 1 (pc' := 590) (L' := [(0, .ref 1000000), (1, .ref 0), (2, .ref 47), (3, .ref 698), (4, .int i)]) (S' := [.ref 47, .int v1]) (h' := (hh X g I)) (ab_blkD_ok rfl) ?_
  refine Go_cW (y' := 323) (As := [.ref 47]) (r := [.int v1]) (ab_clD_ok rfl) (g_m_fault323  (by omega)) fun w2 => ?_
  refine Go_cmp (dl_ok rfl) rfl rfl ?_ ?_
  ·
    refine Go_blk 2 (pc' := 23) (L' := [(4, .int (i + (7 : Int32))), (0, .ref 1000000), (1, .ref 0), (2, .ref 47), (3, .ref 698)]) (S' := []) (h' := (hh X g w2.2)) (ab_blkD_ok rfl) ?_
    exact Go_jmp [(0, .ref 1000000), (1, .ref 0), (2, .ref 47), (3, .ref 698), (4, .int (i + (7 : Int32)))] rfl ⟨rfl, rfl, rfl, rfl, rfl, trivial⟩ (fun _ h => h)
  ·
    refine Go_inrS ?_
    refine Go_blk 1 (pc' := 597) (L' := [(0, .ref 1000000), (1, .ref 0), (2, .ref 47), (3, .ref 698), (4, .int i)]) (S' := [.int (0 : Int32)]) (h' := (hh X g w2.2)) (ab_blkD_ok rfl) ?_
    exact Go_ret (fun _ h => h) (ab_enD_ok rfl)
set_option maxRecDepth 1000000 in
set_option maxHeartbeats 4000000 in
theorem gl_c7 {X : XX} {i : Int32} {I : MJ} {g : GG} {d : Nat} (hd : 86 ≤ d + 1) : Go (d + 1) 386 598 [(0, .ref 1000000), (1, .ref 0), (2, .ref 47), (3, .ref 698), (4, .int i)] [] (hh X g I)
  (
  (Option.bind (f_x_undo20 I) fun w1 =>
  (Option.bind (f_m_undo321 w1.2) fun w2 =>
  (if w1.1 = w2.1 then
  some (.inl ((i + (7 : Int32)), w2.2, g))
  else
  some (.inr ((0 : Int32), w2.2, g))
  )
  )
  )
  )
  (TL (d + 1) X) := by
  refine Go_blk 1 (pc' := 599) (L' := [(0, .ref 1000000), (1, .ref 0), (2, .ref 47), (3, .ref 698), (4, .int i)]) (S' := [.ref 0]) (h' := (hh X g I)) (ab_blkD_ok rfl) ?_
  refine Go_cW (y' := 20) (As := [.ref 0]) (r := []) (ab_clD_ok rfl) (g_x_undo20  (by omega)) fun w1 => ?_
  refine Go_blk 1 (pc' := 603) (L' := [(0, .ref 1000000), (1, .ref 0), (2, .ref 47), (3, .ref 698), (4, .int i)]) (S' := [.ref 47, .int w1.1]) (h' := (hh X g w1.2)) (ab_blkD_ok rfl) ?_
  refine Go_cW (y' := 321) (As := [.ref 47]) (r := [.int w1.1]) (ab_clD_ok rfl) (g_m_undo321  (by omega)) fun w2 => ?_
  refine Go_cmp (dl_ok rfl) rfl rfl ?_ ?_
  ·
    refine Go_blk 2 (pc' := 23) (L' := [(4, .int (i + (7 : Int32))), (0, .ref 1000000), (1, .ref 0), (2, .ref 47), (3, .ref 698)]) (S' := []) (h' := (hh X g w2.2)) (ab_blkD_ok rfl) ?_
    exact Go_jmp [(0, .ref 1000000), (1, .ref 0), (2, .ref 47), (3, .ref 698), (4, .int (i + (7 : Int32)))] rfl ⟨rfl, rfl, rfl, rfl, rfl, trivial⟩ (fun _ h => h)
  ·
    refine Go_inrS ?_
    refine Go_blk 1 (pc' := 610) (L' := [(0, .ref 1000000), (1, .ref 0), (2, .ref 47), (3, .ref 698), (4, .int i)]) (S' := [.int (0 : Int32)]) (h' := (hh X g w2.2)) (ab_blkD_ok rfl) ?_
    exact Go_ret (fun _ h => h) (ab_enD_ok rfl)
set_option maxRecDepth 1000000 in
set_option maxHeartbeats 4000000 in
theorem gl_c8 {X : XX} {i : Int32} {I : MJ} {g : GG} {d : Nat} (hd : 86 ≤ d + 1) : Go (d + 1) 386 611 [(0, .ref 1000000), (1, .ref 0), (2, .ref 47), (3, .ref 698), (4, .int i)] [] (hh X g I)
  (
  (Option.bind (rds X (i + (1 : Int32))) fun v1 =>
  (Option.bind (f_l_told140 v1 I g) fun w2 =>
  (Option.bind (rds X (i + (1 : Int32))) fun v3 =>
  (Option.bind (f_m_told324 v3 w2.2.1) fun w4 =>
  (Option.bind (f_m_thrown265 w4.2) fun v5 =>
  (if v5 = w2.1 then
  (if w2.1 = 0 then
  (Option.bind (rdl w2.2.2 698 (0 : Int32)) fun v6 =>
  (if (lg_cmp v6 (w4.1.toInt64)) = 0 then
  some (.inl ((i + (7 : Int32)), w4.2, w2.2.2))
  else
  some (.inr ((0 : Int32), w4.2, w2.2.2))
  )
  )
  else
  some (.inl ((i + (7 : Int32)), w4.2, w2.2.2))
  )
  else
  some (.inr ((0 : Int32), w4.2, w2.2.2))
  )
  )
  )
  )
  )
  )
  )
  (TL (d + 1) X) := by
  refine Go_blk 5 (pc' := 617) (L' := [(0, .ref 1000000), (1, .ref 0), (2, .ref 47), (3, .ref 698), (4, .int i)]) (S' := [.int (i + (1 : Int32)), .ref 1000000, .ref 0]) (h' := (hh X g I)) (ab_blkD_ok rfl) ?_
  refine Go_ialds (dl_ok rfl) fun v1 => ?_
  refine Go_blk 1 (pc' := 619) (L' := [(0, .ref 1000000), (1, .ref 0), (2, .ref 47), (3, .ref 698), (4, .int i)]) (S' := [.ref 698, .int v1, .ref 0]) (h' := (hh X g I)) (ab_blkD_ok rfl) ?_
  refine Go_cG (y' := 140) (As := [.ref 0, .int v1, .ref 698]) (r := []) (ab_clD_ok rfl) (g_l_told140 v1 (by omega)) fun w2 => ?_
  refine Go_blk 6 (pc' := 630) (L' := [(5, .int w2.1), (0, .ref 1000000), (1, .ref 0), (2, .ref 47), (3, .ref 698), (4, .int i)]) (S' := [.int (i + (1 : Int32)), .ref 1000000, .ref 47]) (h' := (hh X w2.2.2 w2.2.1)) (ab_blkD_ok rfl) ?_
  refine Go_ialds (dl_ok rfl) fun v3 => ?_
  refine Go_cW (y' := 324) (As := [.ref 47, .int v3]) (r := []) (ab_clD_ok rfl) (g_m_told324 v3 (by omega)) fun w4 => ?_
  refine Go_blk 2 (pc' := 637) (L' := [(6, .int w4.1), (5, .int w2.1), (0, .ref 1000000), (1, .ref 0), (2, .ref 47), (3, .ref 698), (4, .int i)]) (S' := [.ref 47]) (h' := (hh X w2.2.2 w4.2)) (ab_blkD_ok rfl) ?_
  refine Go_cR (y' := 265) (As := [.ref 47]) (r := []) (ab_clD_ok rfl) (g_m_thrown265  (by omega)) fun v5 => ?_
  refine Go_blk 1 (pc' := 642) (L' := [(6, .int w4.1), (5, .int w2.1), (0, .ref 1000000), (1, .ref 0), (2, .ref 47), (3, .ref 698), (4, .int i)]) (S' := [.int w2.1, .int v5]) (h' := (hh X w2.2.2 w4.2)) (ab_blkD_ok rfl) ?_
  refine Go_cmp (dl_ok rfl) rfl rfl ?_ ?_
  ·
    refine Go_blk 1 (pc' := 649) (L' := [(6, .int w4.1), (5, .int w2.1), (0, .ref 1000000), (1, .ref 0), (2, .ref 47), (3, .ref 698), (4, .int i)]) (S' := [.int w2.1]) (h' := (hh X w2.2.2 w4.2)) (ab_blkD_ok rfl) ?_
    refine Go_cmzn (dl_ok rfl) rfl rfl ?_ ?_
    ·
      refine Go_blk 2 (pc' := 654) (L' := [(6, .int w4.1), (5, .int w2.1), (0, .ref 1000000), (1, .ref 0), (2, .ref 47), (3, .ref 698), (4, .int i)]) (S' := [.int (0 : Int32), .ref 698]) (h' := (hh X w2.2.2 w4.2)) (ab_blkD_ok rfl) ?_
      refine Go_lald (dl_ok rfl) fun v6 => ?_
      refine Go_blk 3 (pc' := 659) (L' := [(6, .int w4.1), (5, .int w2.1), (0, .ref 1000000), (1, .ref 0), (2, .ref 47), (3, .ref 698), (4, .int i)]) (S' := [.int (lg_cmp v6 (w4.1.toInt64))]) (h' := (hh X w2.2.2 w4.2)) (ab_blkD_ok rfl) ?_
      refine Go_cmz (dl_ok rfl) rfl rfl ?_ ?_
      ·
        refine Go_blk 3 (pc' := 23) (L' := [(4, .int (i + (7 : Int32))), (6, .int w4.1), (5, .int w2.1), (0, .ref 1000000), (1, .ref 0), (2, .ref 47), (3, .ref 698)]) (S' := []) (h' := (hh X w2.2.2 w4.2)) (ab_blkD_ok rfl) ?_
        exact Go_jmp [(0, .ref 1000000), (1, .ref 0), (2, .ref 47), (3, .ref 698), (4, .int (i + (7 : Int32)))] rfl ⟨rfl, rfl, rfl, rfl, rfl, trivial⟩ (fun _ h => h)
      ·
        refine Go_inrS ?_
        refine Go_blk 1 (pc' := 663) (L' := [(6, .int w4.1), (5, .int w2.1), (0, .ref 1000000), (1, .ref 0), (2, .ref 47), (3, .ref 698), (4, .int i)]) (S' := [.int (0 : Int32)]) (h' := (hh X w2.2.2 w4.2)) (ab_blkD_ok rfl) ?_
        exact Go_ret (fun _ h => h) (ab_enD_ok rfl)
    ·
      refine Go_blk 3 (pc' := 23) (L' := [(4, .int (i + (7 : Int32))), (6, .int w4.1), (5, .int w2.1), (0, .ref 1000000), (1, .ref 0), (2, .ref 47), (3, .ref 698)]) (S' := []) (h' := (hh X w2.2.2 w4.2)) (ab_blkD_ok rfl) ?_
      exact Go_jmp [(0, .ref 1000000), (1, .ref 0), (2, .ref 47), (3, .ref 698), (4, .int (i + (7 : Int32)))] rfl ⟨rfl, rfl, rfl, rfl, rfl, trivial⟩ (fun _ h => h)
  ·
    refine Go_inrS ?_
    refine Go_blk 1 (pc' := 646) (L' := [(6, .int w4.1), (5, .int w2.1), (0, .ref 1000000), (1, .ref 0), (2, .ref 47), (3, .ref 698), (4, .int i)]) (S' := [.int (0 : Int32)]) (h' := (hh X w2.2.2 w4.2)) (ab_blkD_ok rfl) ?_
    exact Go_ret (fun _ h => h) (ab_enD_ok rfl)
set_option maxRecDepth 1000000 in
set_option maxHeartbeats 4000000 in
theorem gl_c9 {X : XX} {i : Int32} {I : MJ} {g : GG} {d : Nat} (hd : 86 ≤ d + 1) : Go (d + 1) 386 667 [(0, .ref 1000000), (1, .ref 0), (2, .ref 47), (3, .ref 698), (4, .int i)] [] (hh X g I)
  (
  (Option.bind (rds X (i + (1 : Int32))) fun v1 =>
  (Option.bind (rds X (i + (2 : Int32))) fun v2 =>
  (Option.bind (f_l_bolt145 v1 v2 I g) fun w3 =>
  (Option.bind (rds X (i + (1 : Int32))) fun v4 =>
  (Option.bind (rds X (i + (2 : Int32))) fun v5 =>
  (Option.bind (f_m_bolt326 v4 v5 w3.2.1) fun w6 =>
  (Option.bind (f_m_thrown265 w6.2) fun v7 =>
  (if v7 = w3.1 then
  (if w3.1 = 0 then
  (Option.bind (rdl w3.2.2 698 (0 : Int32)) fun v8 =>
  (if (lg_cmp v8 (w6.1.toInt64)) = 0 then
  some (.inl ((i + (7 : Int32)), w6.2, w3.2.2))
  else
  some (.inr ((0 : Int32), w6.2, w3.2.2))
  )
  )
  else
  some (.inl ((i + (7 : Int32)), w6.2, w3.2.2))
  )
  else
  some (.inr ((0 : Int32), w6.2, w3.2.2))
  )
  )
  )
  )
  )
  )
  )
  )
  )
  (TL (d + 1) X) := by
  refine Go_blk 5 (pc' := 673) (L' := [(0, .ref 1000000), (1, .ref 0), (2, .ref 47), (3, .ref 698), (4, .int i)]) (S' := [.int (i + (1 : Int32)), .ref 1000000, .ref 0]) (h' := (hh X g I)) (ab_blkD_ok rfl) ?_
  refine Go_ialds (dl_ok rfl) fun v1 => ?_
  refine Go_blk 4 (pc' := 679) (L' := [(0, .ref 1000000), (1, .ref 0), (2, .ref 47), (3, .ref 698), (4, .int i)]) (S' := [.int (i + (2 : Int32)), .ref 1000000, .int v1, .ref 0]) (h' := (hh X g I)) (ab_blkD_ok rfl) ?_
  refine Go_ialds (dl_ok rfl) fun v2 => ?_
  refine Go_blk 1 (pc' := 681) (L' := [(0, .ref 1000000), (1, .ref 0), (2, .ref 47), (3, .ref 698), (4, .int i)]) (S' := [.ref 698, .int v2, .int v1, .ref 0]) (h' := (hh X g I)) (ab_blkD_ok rfl) ?_
  refine Go_cG (y' := 145) (As := [.ref 0, .int v1, .int v2, .ref 698]) (r := []) (ab_clD_ok rfl) (g_l_bolt145 v1 v2 (by omega)) fun w3 => ?_
  refine Go_blk 6 (pc' := 692) (L' := [(5, .int w3.1), (0, .ref 1000000), (1, .ref 0), (2, .ref 47), (3, .ref 698), (4, .int i)]) (S' := [.int (i + (1 : Int32)), .ref 1000000, .ref 47]) (h' := (hh X w3.2.2 w3.2.1)) (ab_blkD_ok rfl) ?_
  refine Go_ialds (dl_ok rfl) fun v4 => ?_
  refine Go_blk 4 (pc' := 698) (L' := [(5, .int w3.1), (0, .ref 1000000), (1, .ref 0), (2, .ref 47), (3, .ref 698), (4, .int i)]) (S' := [.int (i + (2 : Int32)), .ref 1000000, .int v4, .ref 47]) (h' := (hh X w3.2.2 w3.2.1)) (ab_blkD_ok rfl) ?_
  refine Go_ialds (dl_ok rfl) fun v5 => ?_
  refine Go_cW (y' := 326) (As := [.ref 47, .int v4, .int v5]) (r := []) (ab_clD_ok rfl) (g_m_bolt326 v4 v5 (by omega)) fun w6 => ?_
  refine Go_blk 2 (pc' := 705) (L' := [(6, .int w6.1), (5, .int w3.1), (0, .ref 1000000), (1, .ref 0), (2, .ref 47), (3, .ref 698), (4, .int i)]) (S' := [.ref 47]) (h' := (hh X w3.2.2 w6.2)) (ab_blkD_ok rfl) ?_
  refine Go_cR (y' := 265) (As := [.ref 47]) (r := []) (ab_clD_ok rfl) (g_m_thrown265  (by omega)) fun v7 => ?_
  refine Go_blk 1 (pc' := 710) (L' := [(6, .int w6.1), (5, .int w3.1), (0, .ref 1000000), (1, .ref 0), (2, .ref 47), (3, .ref 698), (4, .int i)]) (S' := [.int w3.1, .int v7]) (h' := (hh X w3.2.2 w6.2)) (ab_blkD_ok rfl) ?_
  refine Go_cmp (dl_ok rfl) rfl rfl ?_ ?_
  ·
    refine Go_blk 1 (pc' := 717) (L' := [(6, .int w6.1), (5, .int w3.1), (0, .ref 1000000), (1, .ref 0), (2, .ref 47), (3, .ref 698), (4, .int i)]) (S' := [.int w3.1]) (h' := (hh X w3.2.2 w6.2)) (ab_blkD_ok rfl) ?_
    refine Go_cmzn (dl_ok rfl) rfl rfl ?_ ?_
    ·
      refine Go_blk 2 (pc' := 722) (L' := [(6, .int w6.1), (5, .int w3.1), (0, .ref 1000000), (1, .ref 0), (2, .ref 47), (3, .ref 698), (4, .int i)]) (S' := [.int (0 : Int32), .ref 698]) (h' := (hh X w3.2.2 w6.2)) (ab_blkD_ok rfl) ?_
      refine Go_lald (dl_ok rfl) fun v8 => ?_
      refine Go_blk 3 (pc' := 727) (L' := [(6, .int w6.1), (5, .int w3.1), (0, .ref 1000000), (1, .ref 0), (2, .ref 47), (3, .ref 698), (4, .int i)]) (S' := [.int (lg_cmp v8 (w6.1.toInt64))]) (h' := (hh X w3.2.2 w6.2)) (ab_blkD_ok rfl) ?_
      refine Go_cmz (dl_ok rfl) rfl rfl ?_ ?_
      ·
        refine Go_blk 3 (pc' := 23) (L' := [(4, .int (i + (7 : Int32))), (6, .int w6.1), (5, .int w3.1), (0, .ref 1000000), (1, .ref 0), (2, .ref 47), (3, .ref 698)]) (S' := []) (h' := (hh X w3.2.2 w6.2)) (ab_blkD_ok rfl) ?_
        exact Go_jmp [(0, .ref 1000000), (1, .ref 0), (2, .ref 47), (3, .ref 698), (4, .int (i + (7 : Int32)))] rfl ⟨rfl, rfl, rfl, rfl, rfl, trivial⟩ (fun _ h => h)
      ·
        refine Go_inrS ?_
        refine Go_blk 1 (pc' := 731) (L' := [(6, .int w6.1), (5, .int w3.1), (0, .ref 1000000), (1, .ref 0), (2, .ref 47), (3, .ref 698), (4, .int i)]) (S' := [.int (0 : Int32)]) (h' := (hh X w3.2.2 w6.2)) (ab_blkD_ok rfl) ?_
        exact Go_ret (fun _ h => h) (ab_enD_ok rfl)
    ·
      refine Go_blk 3 (pc' := 23) (L' := [(4, .int (i + (7 : Int32))), (6, .int w6.1), (5, .int w3.1), (0, .ref 1000000), (1, .ref 0), (2, .ref 47), (3, .ref 698)]) (S' := []) (h' := (hh X w3.2.2 w6.2)) (ab_blkD_ok rfl) ?_
      exact Go_jmp [(0, .ref 1000000), (1, .ref 0), (2, .ref 47), (3, .ref 698), (4, .int (i + (7 : Int32)))] rfl ⟨rfl, rfl, rfl, rfl, rfl, trivial⟩ (fun _ h => h)
  ·
    refine Go_inrS ?_
    refine Go_blk 1 (pc' := 714) (L' := [(6, .int w6.1), (5, .int w3.1), (0, .ref 1000000), (1, .ref 0), (2, .ref 47), (3, .ref 698), (4, .int i)]) (S' := [.int (0 : Int32)]) (h' := (hh X w3.2.2 w6.2)) (ab_blkD_ok rfl) ?_
    exact Go_ret (fun _ h => h) (ab_enD_ok rfl)
set_option maxRecDepth 1000000 in
set_option maxHeartbeats 4000000 in
theorem gl_c10 {X : XX} {i : Int32} {I : MJ} {g : GG} {d : Nat} (hd : 86 ≤ d + 1) : Go (d + 1) 386 735 [(0, .ref 1000000), (1, .ref 0), (2, .ref 47), (3, .ref 698), (4, .int i)] [] (hh X g I)
  (
  (Option.bind (rds X (i + (1 : Int32))) fun v1 =>
  (Option.bind (rds X (i + (2 : Int32))) fun v2 =>
  (Option.bind (f_l_client148 v1 v2 I g) fun w3 =>
  (Option.bind (rds X (i + (1 : Int32))) fun v4 =>
  (Option.bind (rds X (i + (2 : Int32))) fun v5 =>
  (Option.bind (f_m_client327 v4 v5 w3.2.1) fun w6 =>
  (Option.bind (f_m_thrown265 w6.2) fun v7 =>
  (if v7 = w3.1 then
  (if w3.1 = 0 then
  (Option.bind (rdl w3.2.2 698 (0 : Int32)) fun v8 =>
  (if (lg_cmp v8 (w6.1.toInt64)) = 0 then
  some (.inl ((i + (7 : Int32)), w6.2, w3.2.2))
  else
  some (.inr ((0 : Int32), w6.2, w3.2.2))
  )
  )
  else
  some (.inl ((i + (7 : Int32)), w6.2, w3.2.2))
  )
  else
  some (.inr ((0 : Int32), w6.2, w3.2.2))
  )
  )
  )
  )
  )
  )
  )
  )
  )
  (TL (d + 1) X) := by
  refine Go_blk 5 (pc' := 741) (L' := [(0, .ref 1000000), (1, .ref 0), (2, .ref 47), (3, .ref 698), (4, .int i)]) (S' := [.int (i + (1 : Int32)), .ref 1000000, .ref 0]) (h' := (hh X g I)) (ab_blkD_ok rfl) ?_
  refine Go_ialds (dl_ok rfl) fun v1 => ?_
  refine Go_blk 4 (pc' := 747) (L' := [(0, .ref 1000000), (1, .ref 0), (2, .ref 47), (3, .ref 698), (4, .int i)]) (S' := [.int (i + (2 : Int32)), .ref 1000000, .int v1, .ref 0]) (h' := (hh X g I)) (ab_blkD_ok rfl) ?_
  refine Go_ialds (dl_ok rfl) fun v2 => ?_
  refine Go_blk 1 (pc' := 749) (L' := [(0, .ref 1000000), (1, .ref 0), (2, .ref 47), (3, .ref 698), (4, .int i)]) (S' := [.ref 698, .int v2, .int v1, .ref 0]) (h' := (hh X g I)) (ab_blkD_ok rfl) ?_
  refine Go_cG (y' := 148) (As := [.ref 0, .int v1, .int v2, .ref 698]) (r := []) (ab_clD_ok rfl) (g_l_client148 v1 v2 (by omega)) fun w3 => ?_
  refine Go_blk 6 (pc' := 760) (L' := [(5, .int w3.1), (0, .ref 1000000), (1, .ref 0), (2, .ref 47), (3, .ref 698), (4, .int i)]) (S' := [.int (i + (1 : Int32)), .ref 1000000, .ref 47]) (h' := (hh X w3.2.2 w3.2.1)) (ab_blkD_ok rfl) ?_
  refine Go_ialds (dl_ok rfl) fun v4 => ?_
  refine Go_blk 4 (pc' := 766) (L' := [(5, .int w3.1), (0, .ref 1000000), (1, .ref 0), (2, .ref 47), (3, .ref 698), (4, .int i)]) (S' := [.int (i + (2 : Int32)), .ref 1000000, .int v4, .ref 47]) (h' := (hh X w3.2.2 w3.2.1)) (ab_blkD_ok rfl) ?_
  refine Go_ialds (dl_ok rfl) fun v5 => ?_
  refine Go_cW (y' := 327) (As := [.ref 47, .int v4, .int v5]) (r := []) (ab_clD_ok rfl) (g_m_client327 v4 v5 (by omega)) fun w6 => ?_
  refine Go_blk 2 (pc' := 773) (L' := [(6, .int w6.1), (5, .int w3.1), (0, .ref 1000000), (1, .ref 0), (2, .ref 47), (3, .ref 698), (4, .int i)]) (S' := [.ref 47]) (h' := (hh X w3.2.2 w6.2)) (ab_blkD_ok rfl) ?_
  refine Go_cR (y' := 265) (As := [.ref 47]) (r := []) (ab_clD_ok rfl) (g_m_thrown265  (by omega)) fun v7 => ?_
  refine Go_blk 1 (pc' := 778) (L' := [(6, .int w6.1), (5, .int w3.1), (0, .ref 1000000), (1, .ref 0), (2, .ref 47), (3, .ref 698), (4, .int i)]) (S' := [.int w3.1, .int v7]) (h' := (hh X w3.2.2 w6.2)) (ab_blkD_ok rfl) ?_
  refine Go_cmp (dl_ok rfl) rfl rfl ?_ ?_
  ·
    refine Go_blk 1 (pc' := 785) (L' := [(6, .int w6.1), (5, .int w3.1), (0, .ref 1000000), (1, .ref 0), (2, .ref 47), (3, .ref 698), (4, .int i)]) (S' := [.int w3.1]) (h' := (hh X w3.2.2 w6.2)) (ab_blkD_ok rfl) ?_
    refine Go_cmzn (dl_ok rfl) rfl rfl ?_ ?_
    ·
      refine Go_blk 2 (pc' := 790) (L' := [(6, .int w6.1), (5, .int w3.1), (0, .ref 1000000), (1, .ref 0), (2, .ref 47), (3, .ref 698), (4, .int i)]) (S' := [.int (0 : Int32), .ref 698]) (h' := (hh X w3.2.2 w6.2)) (ab_blkD_ok rfl) ?_
      refine Go_lald (dl_ok rfl) fun v8 => ?_
      refine Go_blk 3 (pc' := 795) (L' := [(6, .int w6.1), (5, .int w3.1), (0, .ref 1000000), (1, .ref 0), (2, .ref 47), (3, .ref 698), (4, .int i)]) (S' := [.int (lg_cmp v8 (w6.1.toInt64))]) (h' := (hh X w3.2.2 w6.2)) (ab_blkD_ok rfl) ?_
      refine Go_cmz (dl_ok rfl) rfl rfl ?_ ?_
      ·
        refine Go_blk 3 (pc' := 23) (L' := [(4, .int (i + (7 : Int32))), (6, .int w6.1), (5, .int w3.1), (0, .ref 1000000), (1, .ref 0), (2, .ref 47), (3, .ref 698)]) (S' := []) (h' := (hh X w3.2.2 w6.2)) (ab_blkD_ok rfl) ?_
        exact Go_jmp [(0, .ref 1000000), (1, .ref 0), (2, .ref 47), (3, .ref 698), (4, .int (i + (7 : Int32)))] rfl ⟨rfl, rfl, rfl, rfl, rfl, trivial⟩ (fun _ h => h)
      ·
        refine Go_inrS ?_
        refine Go_blk 1 (pc' := 799) (L' := [(6, .int w6.1), (5, .int w3.1), (0, .ref 1000000), (1, .ref 0), (2, .ref 47), (3, .ref 698), (4, .int i)]) (S' := [.int (0 : Int32)]) (h' := (hh X w3.2.2 w6.2)) (ab_blkD_ok rfl) ?_
        exact Go_ret (fun _ h => h) (ab_enD_ok rfl)
    ·
      refine Go_blk 3 (pc' := 23) (L' := [(4, .int (i + (7 : Int32))), (6, .int w6.1), (5, .int w3.1), (0, .ref 1000000), (1, .ref 0), (2, .ref 47), (3, .ref 698)]) (S' := []) (h' := (hh X w3.2.2 w6.2)) (ab_blkD_ok rfl) ?_
      exact Go_jmp [(0, .ref 1000000), (1, .ref 0), (2, .ref 47), (3, .ref 698), (4, .int (i + (7 : Int32)))] rfl ⟨rfl, rfl, rfl, rfl, rfl, trivial⟩ (fun _ h => h)
  ·
    refine Go_inrS ?_
    refine Go_blk 1 (pc' := 782) (L' := [(6, .int w6.1), (5, .int w3.1), (0, .ref 1000000), (1, .ref 0), (2, .ref 47), (3, .ref 698), (4, .int i)]) (S' := [.int (0 : Int32)]) (h' := (hh X w3.2.2 w6.2)) (ab_blkD_ok rfl) ?_
    exact Go_ret (fun _ h => h) (ab_enD_ok rfl)
set_option maxRecDepth 1000000 in
set_option maxHeartbeats 4000000 in
theorem gl_c11 {X : XX} {i : Int32} {I : MJ} {g : GG} {d : Nat} (hd : 86 ≤ d + 1) : Go (d + 1) 386 803 [(0, .ref 1000000), (1, .ref 0), (2, .ref 47), (3, .ref 698), (4, .int i)] [] (hh X g I)
  (
  (Option.bind (rds X (i + (1 : Int32))) fun v1 =>
  (Option.bind (rds X (i + (2 : Int32))) fun v2 =>
  (Option.bind (f_l_want156 v1 v2 I g) fun w3 =>
  (Option.bind (rds X (i + (1 : Int32))) fun v4 =>
  (Option.bind (rds X (i + (2 : Int32))) fun v5 =>
  (Option.bind (f_m_want331 v4 v5 w3.2.1) fun w6 =>
  (Option.bind (f_m_thrown265 w6.2) fun v7 =>
  (if v7 = w3.1 then
  (if w3.1 = 0 then
  (Option.bind (rdl w3.2.2 698 (0 : Int32)) fun v8 =>
  (if (lg_cmp v8 (w6.1.toInt64)) = 0 then
  some (.inl ((i + (7 : Int32)), w6.2, w3.2.2))
  else
  some (.inr ((0 : Int32), w6.2, w3.2.2))
  )
  )
  else
  some (.inl ((i + (7 : Int32)), w6.2, w3.2.2))
  )
  else
  some (.inr ((0 : Int32), w6.2, w3.2.2))
  )
  )
  )
  )
  )
  )
  )
  )
  )
  (TL (d + 1) X) := by
  refine Go_blk 5 (pc' := 809) (L' := [(0, .ref 1000000), (1, .ref 0), (2, .ref 47), (3, .ref 698), (4, .int i)]) (S' := [.int (i + (1 : Int32)), .ref 1000000, .ref 0]) (h' := (hh X g I)) (ab_blkD_ok rfl) ?_
  refine Go_ialds (dl_ok rfl) fun v1 => ?_
  refine Go_blk 4 (pc' := 815) (L' := [(0, .ref 1000000), (1, .ref 0), (2, .ref 47), (3, .ref 698), (4, .int i)]) (S' := [.int (i + (2 : Int32)), .ref 1000000, .int v1, .ref 0]) (h' := (hh X g I)) (ab_blkD_ok rfl) ?_
  refine Go_ialds (dl_ok rfl) fun v2 => ?_
  refine Go_blk 1 (pc' := 817) (L' := [(0, .ref 1000000), (1, .ref 0), (2, .ref 47), (3, .ref 698), (4, .int i)]) (S' := [.ref 698, .int v2, .int v1, .ref 0]) (h' := (hh X g I)) (ab_blkD_ok rfl) ?_
  refine Go_cG (y' := 156) (As := [.ref 0, .int v1, .int v2, .ref 698]) (r := []) (ab_clD_ok rfl) (g_l_want156 v1 v2 (by omega)) fun w3 => ?_
  refine Go_blk 6 (pc' := 828) (L' := [(5, .int w3.1), (0, .ref 1000000), (1, .ref 0), (2, .ref 47), (3, .ref 698), (4, .int i)]) (S' := [.int (i + (1 : Int32)), .ref 1000000, .ref 47]) (h' := (hh X w3.2.2 w3.2.1)) (ab_blkD_ok rfl) ?_
  refine Go_ialds (dl_ok rfl) fun v4 => ?_
  refine Go_blk 4 (pc' := 834) (L' := [(5, .int w3.1), (0, .ref 1000000), (1, .ref 0), (2, .ref 47), (3, .ref 698), (4, .int i)]) (S' := [.int (i + (2 : Int32)), .ref 1000000, .int v4, .ref 47]) (h' := (hh X w3.2.2 w3.2.1)) (ab_blkD_ok rfl) ?_
  refine Go_ialds (dl_ok rfl) fun v5 => ?_
  refine Go_cW (y' := 331) (As := [.ref 47, .int v4, .int v5]) (r := []) (ab_clD_ok rfl) (g_m_want331 v4 v5 (by omega)) fun w6 => ?_
  refine Go_blk 2 (pc' := 841) (L' := [(6, .int w6.1), (5, .int w3.1), (0, .ref 1000000), (1, .ref 0), (2, .ref 47), (3, .ref 698), (4, .int i)]) (S' := [.ref 47]) (h' := (hh X w3.2.2 w6.2)) (ab_blkD_ok rfl) ?_
  refine Go_cR (y' := 265) (As := [.ref 47]) (r := []) (ab_clD_ok rfl) (g_m_thrown265  (by omega)) fun v7 => ?_
  refine Go_blk 1 (pc' := 846) (L' := [(6, .int w6.1), (5, .int w3.1), (0, .ref 1000000), (1, .ref 0), (2, .ref 47), (3, .ref 698), (4, .int i)]) (S' := [.int w3.1, .int v7]) (h' := (hh X w3.2.2 w6.2)) (ab_blkD_ok rfl) ?_
  refine Go_cmp (dl_ok rfl) rfl rfl ?_ ?_
  ·
    refine Go_blk 1 (pc' := 853) (L' := [(6, .int w6.1), (5, .int w3.1), (0, .ref 1000000), (1, .ref 0), (2, .ref 47), (3, .ref 698), (4, .int i)]) (S' := [.int w3.1]) (h' := (hh X w3.2.2 w6.2)) (ab_blkD_ok rfl) ?_
    refine Go_cmzn (dl_ok rfl) rfl rfl ?_ ?_
    ·
      refine Go_blk 2 (pc' := 858) (L' := [(6, .int w6.1), (5, .int w3.1), (0, .ref 1000000), (1, .ref 0), (2, .ref 47), (3, .ref 698), (4, .int i)]) (S' := [.int (0 : Int32), .ref 698]) (h' := (hh X w3.2.2 w6.2)) (ab_blkD_ok rfl) ?_
      refine Go_lald (dl_ok rfl) fun v8 => ?_
      refine Go_blk 3 (pc' := 863) (L' := [(6, .int w6.1), (5, .int w3.1), (0, .ref 1000000), (1, .ref 0), (2, .ref 47), (3, .ref 698), (4, .int i)]) (S' := [.int (lg_cmp v8 (w6.1.toInt64))]) (h' := (hh X w3.2.2 w6.2)) (ab_blkD_ok rfl) ?_
      refine Go_cmz (dl_ok rfl) rfl rfl ?_ ?_
      ·
        refine Go_blk 3 (pc' := 23) (L' := [(4, .int (i + (7 : Int32))), (6, .int w6.1), (5, .int w3.1), (0, .ref 1000000), (1, .ref 0), (2, .ref 47), (3, .ref 698)]) (S' := []) (h' := (hh X w3.2.2 w6.2)) (ab_blkD_ok rfl) ?_
        exact Go_jmp [(0, .ref 1000000), (1, .ref 0), (2, .ref 47), (3, .ref 698), (4, .int (i + (7 : Int32)))] rfl ⟨rfl, rfl, rfl, rfl, rfl, trivial⟩ (fun _ h => h)
      ·
        refine Go_inrS ?_
        refine Go_blk 1 (pc' := 867) (L' := [(6, .int w6.1), (5, .int w3.1), (0, .ref 1000000), (1, .ref 0), (2, .ref 47), (3, .ref 698), (4, .int i)]) (S' := [.int (0 : Int32)]) (h' := (hh X w3.2.2 w6.2)) (ab_blkD_ok rfl) ?_
        exact Go_ret (fun _ h => h) (ab_enD_ok rfl)
    ·
      refine Go_blk 3 (pc' := 23) (L' := [(4, .int (i + (7 : Int32))), (6, .int w6.1), (5, .int w3.1), (0, .ref 1000000), (1, .ref 0), (2, .ref 47), (3, .ref 698)]) (S' := []) (h' := (hh X w3.2.2 w6.2)) (ab_blkD_ok rfl) ?_
      exact Go_jmp [(0, .ref 1000000), (1, .ref 0), (2, .ref 47), (3, .ref 698), (4, .int (i + (7 : Int32)))] rfl ⟨rfl, rfl, rfl, rfl, rfl, trivial⟩ (fun _ h => h)
  ·
    refine Go_inrS ?_
    refine Go_blk 1 (pc' := 850) (L' := [(6, .int w6.1), (5, .int w3.1), (0, .ref 1000000), (1, .ref 0), (2, .ref 47), (3, .ref 698), (4, .int i)]) (S' := [.int (0 : Int32)]) (h' := (hh X w3.2.2 w6.2)) (ab_blkD_ok rfl) ?_
    exact Go_ret (fun _ h => h) (ab_enD_ok rfl)
set_option maxRecDepth 1000000 in
set_option maxHeartbeats 4000000 in
theorem gl_c12 {X : XX} {i : Int32} {I : MJ} {g : GG} {d : Nat} (hd : 86 ≤ d + 1) : Go (d + 1) 386 871 [(0, .ref 1000000), (1, .ref 0), (2, .ref 47), (3, .ref 698), (4, .int i)] [] (hh X g I)
  (
  (Option.bind (rds X (i + (1 : Int32))) fun v1 =>
  (Option.bind (rds X (i + (2 : Int32))) fun v2 =>
  (Option.bind (f_l_order159 v1 v2 I g) fun w3 =>
  (Option.bind (rds X (i + (1 : Int32))) fun v4 =>
  (Option.bind (rds X (i + (2 : Int32))) fun v5 =>
  (Option.bind (f_m_order333 v4 v5 w3.2.1) fun w6 =>
  (Option.bind (f_m_thrown265 w6.2) fun v7 =>
  (if v7 = w3.1 then
  (if w3.1 = 0 then
  (Option.bind (rdl w3.2.2 698 (0 : Int32)) fun v8 =>
  (if (lg_cmp v8 (w6.1.toInt64)) = 0 then
  some (.inl ((i + (7 : Int32)), w6.2, w3.2.2))
  else
  some (.inr ((0 : Int32), w6.2, w3.2.2))
  )
  )
  else
  some (.inl ((i + (7 : Int32)), w6.2, w3.2.2))
  )
  else
  some (.inr ((0 : Int32), w6.2, w3.2.2))
  )
  )
  )
  )
  )
  )
  )
  )
  )
  (TL (d + 1) X) := by
  refine Go_blk 5 (pc' := 877) (L' := [(0, .ref 1000000), (1, .ref 0), (2, .ref 47), (3, .ref 698), (4, .int i)]) (S' := [.int (i + (1 : Int32)), .ref 1000000, .ref 0]) (h' := (hh X g I)) (ab_blkD_ok rfl) ?_
  refine Go_ialds (dl_ok rfl) fun v1 => ?_
  refine Go_blk 4 (pc' := 883) (L' := [(0, .ref 1000000), (1, .ref 0), (2, .ref 47), (3, .ref 698), (4, .int i)]) (S' := [.int (i + (2 : Int32)), .ref 1000000, .int v1, .ref 0]) (h' := (hh X g I)) (ab_blkD_ok rfl) ?_
  refine Go_ialds (dl_ok rfl) fun v2 => ?_
  refine Go_blk 1 (pc' := 885) (L' := [(0, .ref 1000000), (1, .ref 0), (2, .ref 47), (3, .ref 698), (4, .int i)]) (S' := [.ref 698, .int v2, .int v1, .ref 0]) (h' := (hh X g I)) (ab_blkD_ok rfl) ?_
  refine Go_cG (y' := 159) (As := [.ref 0, .int v1, .int v2, .ref 698]) (r := []) (ab_clD_ok rfl) (g_l_order159 v1 v2 (by omega)) fun w3 => ?_
  refine Go_blk 6 (pc' := 896) (L' := [(5, .int w3.1), (0, .ref 1000000), (1, .ref 0), (2, .ref 47), (3, .ref 698), (4, .int i)]) (S' := [.int (i + (1 : Int32)), .ref 1000000, .ref 47]) (h' := (hh X w3.2.2 w3.2.1)) (ab_blkD_ok rfl) ?_
  refine Go_ialds (dl_ok rfl) fun v4 => ?_
  refine Go_blk 4 (pc' := 902) (L' := [(5, .int w3.1), (0, .ref 1000000), (1, .ref 0), (2, .ref 47), (3, .ref 698), (4, .int i)]) (S' := [.int (i + (2 : Int32)), .ref 1000000, .int v4, .ref 47]) (h' := (hh X w3.2.2 w3.2.1)) (ab_blkD_ok rfl) ?_
  refine Go_ialds (dl_ok rfl) fun v5 => ?_
  refine Go_cW (y' := 333) (As := [.ref 47, .int v4, .int v5]) (r := []) (ab_clD_ok rfl) (g_m_order333 v4 v5 (by omega)) fun w6 => ?_
  refine Go_blk 2 (pc' := 909) (L' := [(6, .int w6.1), (5, .int w3.1), (0, .ref 1000000), (1, .ref 0), (2, .ref 47), (3, .ref 698), (4, .int i)]) (S' := [.ref 47]) (h' := (hh X w3.2.2 w6.2)) (ab_blkD_ok rfl) ?_
  refine Go_cR (y' := 265) (As := [.ref 47]) (r := []) (ab_clD_ok rfl) (g_m_thrown265  (by omega)) fun v7 => ?_
  refine Go_blk 1 (pc' := 914) (L' := [(6, .int w6.1), (5, .int w3.1), (0, .ref 1000000), (1, .ref 0), (2, .ref 47), (3, .ref 698), (4, .int i)]) (S' := [.int w3.1, .int v7]) (h' := (hh X w3.2.2 w6.2)) (ab_blkD_ok rfl) ?_
  refine Go_cmp (dl_ok rfl) rfl rfl ?_ ?_
  ·
    refine Go_blk 1 (pc' := 921) (L' := [(6, .int w6.1), (5, .int w3.1), (0, .ref 1000000), (1, .ref 0), (2, .ref 47), (3, .ref 698), (4, .int i)]) (S' := [.int w3.1]) (h' := (hh X w3.2.2 w6.2)) (ab_blkD_ok rfl) ?_
    refine Go_cmzn (dl_ok rfl) rfl rfl ?_ ?_
    ·
      refine Go_blk 2 (pc' := 926) (L' := [(6, .int w6.1), (5, .int w3.1), (0, .ref 1000000), (1, .ref 0), (2, .ref 47), (3, .ref 698), (4, .int i)]) (S' := [.int (0 : Int32), .ref 698]) (h' := (hh X w3.2.2 w6.2)) (ab_blkD_ok rfl) ?_
      refine Go_lald (dl_ok rfl) fun v8 => ?_
      refine Go_blk 3 (pc' := 931) (L' := [(6, .int w6.1), (5, .int w3.1), (0, .ref 1000000), (1, .ref 0), (2, .ref 47), (3, .ref 698), (4, .int i)]) (S' := [.int (lg_cmp v8 (w6.1.toInt64))]) (h' := (hh X w3.2.2 w6.2)) (ab_blkD_ok rfl) ?_
      refine Go_cmz (dl_ok rfl) rfl rfl ?_ ?_
      ·
        refine Go_blk 3 (pc' := 23) (L' := [(4, .int (i + (7 : Int32))), (6, .int w6.1), (5, .int w3.1), (0, .ref 1000000), (1, .ref 0), (2, .ref 47), (3, .ref 698)]) (S' := []) (h' := (hh X w3.2.2 w6.2)) (ab_blkD_ok rfl) ?_
        exact Go_jmp [(0, .ref 1000000), (1, .ref 0), (2, .ref 47), (3, .ref 698), (4, .int (i + (7 : Int32)))] rfl ⟨rfl, rfl, rfl, rfl, rfl, trivial⟩ (fun _ h => h)
      ·
        refine Go_inrS ?_
        refine Go_blk 1 (pc' := 935) (L' := [(6, .int w6.1), (5, .int w3.1), (0, .ref 1000000), (1, .ref 0), (2, .ref 47), (3, .ref 698), (4, .int i)]) (S' := [.int (0 : Int32)]) (h' := (hh X w3.2.2 w6.2)) (ab_blkD_ok rfl) ?_
        exact Go_ret (fun _ h => h) (ab_enD_ok rfl)
    ·
      refine Go_blk 3 (pc' := 23) (L' := [(4, .int (i + (7 : Int32))), (6, .int w6.1), (5, .int w3.1), (0, .ref 1000000), (1, .ref 0), (2, .ref 47), (3, .ref 698)]) (S' := []) (h' := (hh X w3.2.2 w6.2)) (ab_blkD_ok rfl) ?_
      exact Go_jmp [(0, .ref 1000000), (1, .ref 0), (2, .ref 47), (3, .ref 698), (4, .int (i + (7 : Int32)))] rfl ⟨rfl, rfl, rfl, rfl, rfl, trivial⟩ (fun _ h => h)
  ·
    refine Go_inrS ?_
    refine Go_blk 1 (pc' := 918) (L' := [(6, .int w6.1), (5, .int w3.1), (0, .ref 1000000), (1, .ref 0), (2, .ref 47), (3, .ref 698), (4, .int i)]) (S' := [.int (0 : Int32)]) (h' := (hh X w3.2.2 w6.2)) (ab_blkD_ok rfl) ?_
    exact Go_ret (fun _ h => h) (ab_enD_ok rfl)
set_option maxRecDepth 1000000 in
set_option maxHeartbeats 4000000 in
theorem gl_c13 {X : XX} {i : Int32} {I : MJ} {g : GG} {d : Nat} (hd : 86 ≤ d + 1) : Go (d + 1) 386 939 [(0, .ref 1000000), (1, .ref 0), (2, .ref 47), (3, .ref 698), (4, .int i)] [] (hh X g I)
  (
  (Option.bind (rds X (i + (1 : Int32))) fun v1 =>
  (Option.bind (rds X (i + (2 : Int32))) fun v2 =>
  (Option.bind (f_l_wears161 v1 v2 I g) fun w3 =>
  (Option.bind (rds X (i + (1 : Int32))) fun v4 =>
  (Option.bind (rds X (i + (2 : Int32))) fun v5 =>
  (Option.bind (f_m_wears335 v4 v5 w3.2.1) fun w6 =>
  (Option.bind (f_m_thrown265 w6.2) fun v7 =>
  (if v7 = w3.1 then
  (if w3.1 = 0 then
  (Option.bind (rdl w3.2.2 698 (0 : Int32)) fun v8 =>
  (if (lg_cmp v8 (w6.1.toInt64)) = 0 then
  some (.inl ((i + (7 : Int32)), w6.2, w3.2.2))
  else
  some (.inr ((0 : Int32), w6.2, w3.2.2))
  )
  )
  else
  some (.inl ((i + (7 : Int32)), w6.2, w3.2.2))
  )
  else
  some (.inr ((0 : Int32), w6.2, w3.2.2))
  )
  )
  )
  )
  )
  )
  )
  )
  )
  (TL (d + 1) X) := by
  refine Go_blk 5 (pc' := 945) (L' := [(0, .ref 1000000), (1, .ref 0), (2, .ref 47), (3, .ref 698), (4, .int i)]) (S' := [.int (i + (1 : Int32)), .ref 1000000, .ref 0]) (h' := (hh X g I)) (ab_blkD_ok rfl) ?_
  refine Go_ialds (dl_ok rfl) fun v1 => ?_
  refine Go_blk 4 (pc' := 951) (L' := [(0, .ref 1000000), (1, .ref 0), (2, .ref 47), (3, .ref 698), (4, .int i)]) (S' := [.int (i + (2 : Int32)), .ref 1000000, .int v1, .ref 0]) (h' := (hh X g I)) (ab_blkD_ok rfl) ?_
  refine Go_ialds (dl_ok rfl) fun v2 => ?_
  refine Go_blk 1 (pc' := 953) (L' := [(0, .ref 1000000), (1, .ref 0), (2, .ref 47), (3, .ref 698), (4, .int i)]) (S' := [.ref 698, .int v2, .int v1, .ref 0]) (h' := (hh X g I)) (ab_blkD_ok rfl) ?_
  refine Go_cG (y' := 161) (As := [.ref 0, .int v1, .int v2, .ref 698]) (r := []) (ab_clD_ok rfl) (g_l_wears161 v1 v2 (by omega)) fun w3 => ?_
  refine Go_blk 6 (pc' := 964) (L' := [(5, .int w3.1), (0, .ref 1000000), (1, .ref 0), (2, .ref 47), (3, .ref 698), (4, .int i)]) (S' := [.int (i + (1 : Int32)), .ref 1000000, .ref 47]) (h' := (hh X w3.2.2 w3.2.1)) (ab_blkD_ok rfl) ?_
  refine Go_ialds (dl_ok rfl) fun v4 => ?_
  refine Go_blk 4 (pc' := 970) (L' := [(5, .int w3.1), (0, .ref 1000000), (1, .ref 0), (2, .ref 47), (3, .ref 698), (4, .int i)]) (S' := [.int (i + (2 : Int32)), .ref 1000000, .int v4, .ref 47]) (h' := (hh X w3.2.2 w3.2.1)) (ab_blkD_ok rfl) ?_
  refine Go_ialds (dl_ok rfl) fun v5 => ?_
  refine Go_cW (y' := 335) (As := [.ref 47, .int v4, .int v5]) (r := []) (ab_clD_ok rfl) (g_m_wears335 v4 v5 (by omega)) fun w6 => ?_
  refine Go_blk 2 (pc' := 977) (L' := [(6, .int w6.1), (5, .int w3.1), (0, .ref 1000000), (1, .ref 0), (2, .ref 47), (3, .ref 698), (4, .int i)]) (S' := [.ref 47]) (h' := (hh X w3.2.2 w6.2)) (ab_blkD_ok rfl) ?_
  refine Go_cR (y' := 265) (As := [.ref 47]) (r := []) (ab_clD_ok rfl) (g_m_thrown265  (by omega)) fun v7 => ?_
  refine Go_blk 1 (pc' := 982) (L' := [(6, .int w6.1), (5, .int w3.1), (0, .ref 1000000), (1, .ref 0), (2, .ref 47), (3, .ref 698), (4, .int i)]) (S' := [.int w3.1, .int v7]) (h' := (hh X w3.2.2 w6.2)) (ab_blkD_ok rfl) ?_
  refine Go_cmp (dl_ok rfl) rfl rfl ?_ ?_
  ·
    refine Go_blk 1 (pc' := 989) (L' := [(6, .int w6.1), (5, .int w3.1), (0, .ref 1000000), (1, .ref 0), (2, .ref 47), (3, .ref 698), (4, .int i)]) (S' := [.int w3.1]) (h' := (hh X w3.2.2 w6.2)) (ab_blkD_ok rfl) ?_
    refine Go_cmzn (dl_ok rfl) rfl rfl ?_ ?_
    ·
      refine Go_blk 2 (pc' := 994) (L' := [(6, .int w6.1), (5, .int w3.1), (0, .ref 1000000), (1, .ref 0), (2, .ref 47), (3, .ref 698), (4, .int i)]) (S' := [.int (0 : Int32), .ref 698]) (h' := (hh X w3.2.2 w6.2)) (ab_blkD_ok rfl) ?_
      refine Go_lald (dl_ok rfl) fun v8 => ?_
      refine Go_blk 3 (pc' := 999) (L' := [(6, .int w6.1), (5, .int w3.1), (0, .ref 1000000), (1, .ref 0), (2, .ref 47), (3, .ref 698), (4, .int i)]) (S' := [.int (lg_cmp v8 (w6.1.toInt64))]) (h' := (hh X w3.2.2 w6.2)) (ab_blkD_ok rfl) ?_
      refine Go_cmz (dl_ok rfl) rfl rfl ?_ ?_
      ·
        refine Go_blk 3 (pc' := 23) (L' := [(4, .int (i + (7 : Int32))), (6, .int w6.1), (5, .int w3.1), (0, .ref 1000000), (1, .ref 0), (2, .ref 47), (3, .ref 698)]) (S' := []) (h' := (hh X w3.2.2 w6.2)) (ab_blkD_ok rfl) ?_
        exact Go_jmp [(0, .ref 1000000), (1, .ref 0), (2, .ref 47), (3, .ref 698), (4, .int (i + (7 : Int32)))] rfl ⟨rfl, rfl, rfl, rfl, rfl, trivial⟩ (fun _ h => h)
      ·
        refine Go_inrS ?_
        refine Go_blk 1 (pc' := 1003) (L' := [(6, .int w6.1), (5, .int w3.1), (0, .ref 1000000), (1, .ref 0), (2, .ref 47), (3, .ref 698), (4, .int i)]) (S' := [.int (0 : Int32)]) (h' := (hh X w3.2.2 w6.2)) (ab_blkD_ok rfl) ?_
        exact Go_ret (fun _ h => h) (ab_enD_ok rfl)
    ·
      refine Go_blk 3 (pc' := 23) (L' := [(4, .int (i + (7 : Int32))), (6, .int w6.1), (5, .int w3.1), (0, .ref 1000000), (1, .ref 0), (2, .ref 47), (3, .ref 698)]) (S' := []) (h' := (hh X w3.2.2 w6.2)) (ab_blkD_ok rfl) ?_
      exact Go_jmp [(0, .ref 1000000), (1, .ref 0), (2, .ref 47), (3, .ref 698), (4, .int (i + (7 : Int32)))] rfl ⟨rfl, rfl, rfl, rfl, rfl, trivial⟩ (fun _ h => h)
  ·
    refine Go_inrS ?_
    refine Go_blk 1 (pc' := 986) (L' := [(6, .int w6.1), (5, .int w3.1), (0, .ref 1000000), (1, .ref 0), (2, .ref 47), (3, .ref 698), (4, .int i)]) (S' := [.int (0 : Int32)]) (h' := (hh X w3.2.2 w6.2)) (ab_blkD_ok rfl) ?_
    exact Go_ret (fun _ h => h) (ab_enD_ok rfl)
set_option maxRecDepth 1000000 in
set_option maxHeartbeats 4000000 in
theorem gl_c14 {X : XX} {i : Int32} {I : MJ} {g : GG} {d : Nat} (hd : 86 ≤ d + 1) : Go (d + 1) 386 1007 [(0, .ref 1000000), (1, .ref 0), (2, .ref 47), (3, .ref 698), (4, .int i)] [] (hh X g I)
  (
  (Option.bind (rds X (i + (1 : Int32))) fun v1 =>
  (Option.bind (rds X (i + (2 : Int32))) fun v2 =>
  (Option.bind (f_l_sky163 v1 v2 I g) fun w3 =>
  (Option.bind (rds X (i + (1 : Int32))) fun v4 =>
  (Option.bind (rds X (i + (2 : Int32))) fun v5 =>
  (Option.bind (f_m_sky337 v4 v5 w3.2.1) fun w6 =>
  (Option.bind (f_m_thrown265 w6.2) fun v7 =>
  (if v7 = w3.1 then
  (if w3.1 = 0 then
  (Option.bind (rdl w3.2.2 698 (0 : Int32)) fun v8 =>
  (if (lg_cmp v8 (w6.1.toInt64)) = 0 then
  some (.inl ((i + (7 : Int32)), w6.2, w3.2.2))
  else
  some (.inr ((0 : Int32), w6.2, w3.2.2))
  )
  )
  else
  some (.inl ((i + (7 : Int32)), w6.2, w3.2.2))
  )
  else
  some (.inr ((0 : Int32), w6.2, w3.2.2))
  )
  )
  )
  )
  )
  )
  )
  )
  )
  (TL (d + 1) X) := by
  refine Go_blk 5 (pc' := 1013) (L' := [(0, .ref 1000000), (1, .ref 0), (2, .ref 47), (3, .ref 698), (4, .int i)]) (S' := [.int (i + (1 : Int32)), .ref 1000000, .ref 0]) (h' := (hh X g I)) (ab_blkD_ok rfl) ?_
  refine Go_ialds (dl_ok rfl) fun v1 => ?_
  refine Go_blk 4 (pc' := 1019) (L' := [(0, .ref 1000000), (1, .ref 0), (2, .ref 47), (3, .ref 698), (4, .int i)]) (S' := [.int (i + (2 : Int32)), .ref 1000000, .int v1, .ref 0]) (h' := (hh X g I)) (ab_blkD_ok rfl) ?_
  refine Go_ialds (dl_ok rfl) fun v2 => ?_
  refine Go_blk 1 (pc' := 1021) (L' := [(0, .ref 1000000), (1, .ref 0), (2, .ref 47), (3, .ref 698), (4, .int i)]) (S' := [.ref 698, .int v2, .int v1, .ref 0]) (h' := (hh X g I)) (ab_blkD_ok rfl) ?_
  refine Go_cG (y' := 163) (As := [.ref 0, .int v1, .int v2, .ref 698]) (r := []) (ab_clD_ok rfl) (g_l_sky163 v1 v2 (by omega)) fun w3 => ?_
  refine Go_blk 6 (pc' := 1032) (L' := [(5, .int w3.1), (0, .ref 1000000), (1, .ref 0), (2, .ref 47), (3, .ref 698), (4, .int i)]) (S' := [.int (i + (1 : Int32)), .ref 1000000, .ref 47]) (h' := (hh X w3.2.2 w3.2.1)) (ab_blkD_ok rfl) ?_
  refine Go_ialds (dl_ok rfl) fun v4 => ?_
  refine Go_blk 4 (pc' := 1038) (L' := [(5, .int w3.1), (0, .ref 1000000), (1, .ref 0), (2, .ref 47), (3, .ref 698), (4, .int i)]) (S' := [.int (i + (2 : Int32)), .ref 1000000, .int v4, .ref 47]) (h' := (hh X w3.2.2 w3.2.1)) (ab_blkD_ok rfl) ?_
  refine Go_ialds (dl_ok rfl) fun v5 => ?_
  refine Go_cW (y' := 337) (As := [.ref 47, .int v4, .int v5]) (r := []) (ab_clD_ok rfl) (g_m_sky337 v4 v5 (by omega)) fun w6 => ?_
  refine Go_blk 2 (pc' := 1045) (L' := [(6, .int w6.1), (5, .int w3.1), (0, .ref 1000000), (1, .ref 0), (2, .ref 47), (3, .ref 698), (4, .int i)]) (S' := [.ref 47]) (h' := (hh X w3.2.2 w6.2)) (ab_blkD_ok rfl) ?_
  refine Go_cR (y' := 265) (As := [.ref 47]) (r := []) (ab_clD_ok rfl) (g_m_thrown265  (by omega)) fun v7 => ?_
  refine Go_blk 1 (pc' := 1050) (L' := [(6, .int w6.1), (5, .int w3.1), (0, .ref 1000000), (1, .ref 0), (2, .ref 47), (3, .ref 698), (4, .int i)]) (S' := [.int w3.1, .int v7]) (h' := (hh X w3.2.2 w6.2)) (ab_blkD_ok rfl) ?_
  refine Go_cmp (dl_ok rfl) rfl rfl ?_ ?_
  ·
    refine Go_blk 1 (pc' := 1057) (L' := [(6, .int w6.1), (5, .int w3.1), (0, .ref 1000000), (1, .ref 0), (2, .ref 47), (3, .ref 698), (4, .int i)]) (S' := [.int w3.1]) (h' := (hh X w3.2.2 w6.2)) (ab_blkD_ok rfl) ?_
    refine Go_cmzn (dl_ok rfl) rfl rfl ?_ ?_
    ·
      refine Go_blk 2 (pc' := 1062) (L' := [(6, .int w6.1), (5, .int w3.1), (0, .ref 1000000), (1, .ref 0), (2, .ref 47), (3, .ref 698), (4, .int i)]) (S' := [.int (0 : Int32), .ref 698]) (h' := (hh X w3.2.2 w6.2)) (ab_blkD_ok rfl) ?_
      refine Go_lald (dl_ok rfl) fun v8 => ?_
      refine Go_blk 3 (pc' := 1067) (L' := [(6, .int w6.1), (5, .int w3.1), (0, .ref 1000000), (1, .ref 0), (2, .ref 47), (3, .ref 698), (4, .int i)]) (S' := [.int (lg_cmp v8 (w6.1.toInt64))]) (h' := (hh X w3.2.2 w6.2)) (ab_blkD_ok rfl) ?_
      refine Go_cmz (dl_ok rfl) rfl rfl ?_ ?_
      ·
        refine Go_blk 3 (pc' := 23) (L' := [(4, .int (i + (7 : Int32))), (6, .int w6.1), (5, .int w3.1), (0, .ref 1000000), (1, .ref 0), (2, .ref 47), (3, .ref 698)]) (S' := []) (h' := (hh X w3.2.2 w6.2)) (ab_blkD_ok rfl) ?_
        exact Go_jmp [(0, .ref 1000000), (1, .ref 0), (2, .ref 47), (3, .ref 698), (4, .int (i + (7 : Int32)))] rfl ⟨rfl, rfl, rfl, rfl, rfl, trivial⟩ (fun _ h => h)
      ·
        refine Go_inrS ?_
        refine Go_blk 1 (pc' := 1071) (L' := [(6, .int w6.1), (5, .int w3.1), (0, .ref 1000000), (1, .ref 0), (2, .ref 47), (3, .ref 698), (4, .int i)]) (S' := [.int (0 : Int32)]) (h' := (hh X w3.2.2 w6.2)) (ab_blkD_ok rfl) ?_
        exact Go_ret (fun _ h => h) (ab_enD_ok rfl)
    ·
      refine Go_blk 3 (pc' := 23) (L' := [(4, .int (i + (7 : Int32))), (6, .int w6.1), (5, .int w3.1), (0, .ref 1000000), (1, .ref 0), (2, .ref 47), (3, .ref 698)]) (S' := []) (h' := (hh X w3.2.2 w6.2)) (ab_blkD_ok rfl) ?_
      exact Go_jmp [(0, .ref 1000000), (1, .ref 0), (2, .ref 47), (3, .ref 698), (4, .int (i + (7 : Int32)))] rfl ⟨rfl, rfl, rfl, rfl, rfl, trivial⟩ (fun _ h => h)
  ·
    refine Go_inrS ?_
    refine Go_blk 1 (pc' := 1054) (L' := [(6, .int w6.1), (5, .int w3.1), (0, .ref 1000000), (1, .ref 0), (2, .ref 47), (3, .ref 698), (4, .int i)]) (S' := [.int (0 : Int32)]) (h' := (hh X w3.2.2 w6.2)) (ab_blkD_ok rfl) ?_
    exact Go_ret (fun _ h => h) (ab_enD_ok rfl)
set_option maxRecDepth 1000000 in
set_option maxHeartbeats 4000000 in
theorem gl_c15 {X : XX} {i : Int32} {I : MJ} {g : GG} {d : Nat} (hd : 86 ≤ d + 1) : Go (d + 1) 386 1075 [(0, .ref 1000000), (1, .ref 0), (2, .ref 47), (3, .ref 698), (4, .int i)] [] (hh X g I)
  (
  (Option.bind (rds X (i + (1 : Int32))) fun v1 =>
  (Option.bind (rds X (i + (2 : Int32))) fun v2 =>
  (Option.bind (f_l_cloth165 v1 v2 I g) fun w3 =>
  (Option.bind (rds X (i + (1 : Int32))) fun v4 =>
  (Option.bind (rds X (i + (2 : Int32))) fun v5 =>
  (Option.bind (f_m_cloth338 v4 v5 w3.2.1) fun w6 =>
  (Option.bind (f_m_thrown265 w6.2) fun v7 =>
  (if v7 = w3.1 then
  (if w3.1 = 0 then
  (Option.bind (rdl w3.2.2 698 (0 : Int32)) fun v8 =>
  (if (lg_cmp v8 (w6.1.toInt64)) = 0 then
  some (.inl ((i + (7 : Int32)), w6.2, w3.2.2))
  else
  some (.inr ((0 : Int32), w6.2, w3.2.2))
  )
  )
  else
  some (.inl ((i + (7 : Int32)), w6.2, w3.2.2))
  )
  else
  some (.inr ((0 : Int32), w6.2, w3.2.2))
  )
  )
  )
  )
  )
  )
  )
  )
  )
  (TL (d + 1) X) := by
  refine Go_blk 5 (pc' := 1081) (L' := [(0, .ref 1000000), (1, .ref 0), (2, .ref 47), (3, .ref 698), (4, .int i)]) (S' := [.int (i + (1 : Int32)), .ref 1000000, .ref 0]) (h' := (hh X g I)) (ab_blkD_ok rfl) ?_
  refine Go_ialds (dl_ok rfl) fun v1 => ?_
  refine Go_blk 4 (pc' := 1087) (L' := [(0, .ref 1000000), (1, .ref 0), (2, .ref 47), (3, .ref 698), (4, .int i)]) (S' := [.int (i + (2 : Int32)), .ref 1000000, .int v1, .ref 0]) (h' := (hh X g I)) (ab_blkD_ok rfl) ?_
  refine Go_ialds (dl_ok rfl) fun v2 => ?_
  refine Go_blk 1 (pc' := 1089) (L' := [(0, .ref 1000000), (1, .ref 0), (2, .ref 47), (3, .ref 698), (4, .int i)]) (S' := [.ref 698, .int v2, .int v1, .ref 0]) (h' := (hh X g I)) (ab_blkD_ok rfl) ?_
  refine Go_cG (y' := 165) (As := [.ref 0, .int v1, .int v2, .ref 698]) (r := []) (ab_clD_ok rfl) (g_l_cloth165 v1 v2 (by omega)) fun w3 => ?_
  refine Go_blk 6 (pc' := 1100) (L' := [(5, .int w3.1), (0, .ref 1000000), (1, .ref 0), (2, .ref 47), (3, .ref 698), (4, .int i)]) (S' := [.int (i + (1 : Int32)), .ref 1000000, .ref 47]) (h' := (hh X w3.2.2 w3.2.1)) (ab_blkD_ok rfl) ?_
  refine Go_ialds (dl_ok rfl) fun v4 => ?_
  refine Go_blk 4 (pc' := 1106) (L' := [(5, .int w3.1), (0, .ref 1000000), (1, .ref 0), (2, .ref 47), (3, .ref 698), (4, .int i)]) (S' := [.int (i + (2 : Int32)), .ref 1000000, .int v4, .ref 47]) (h' := (hh X w3.2.2 w3.2.1)) (ab_blkD_ok rfl) ?_
  refine Go_ialds (dl_ok rfl) fun v5 => ?_
  refine Go_cW (y' := 338) (As := [.ref 47, .int v4, .int v5]) (r := []) (ab_clD_ok rfl) (g_m_cloth338 v4 v5 (by omega)) fun w6 => ?_
  refine Go_blk 2 (pc' := 1113) (L' := [(6, .int w6.1), (5, .int w3.1), (0, .ref 1000000), (1, .ref 0), (2, .ref 47), (3, .ref 698), (4, .int i)]) (S' := [.ref 47]) (h' := (hh X w3.2.2 w6.2)) (ab_blkD_ok rfl) ?_
  refine Go_cR (y' := 265) (As := [.ref 47]) (r := []) (ab_clD_ok rfl) (g_m_thrown265  (by omega)) fun v7 => ?_
  refine Go_blk 1 (pc' := 1118) (L' := [(6, .int w6.1), (5, .int w3.1), (0, .ref 1000000), (1, .ref 0), (2, .ref 47), (3, .ref 698), (4, .int i)]) (S' := [.int w3.1, .int v7]) (h' := (hh X w3.2.2 w6.2)) (ab_blkD_ok rfl) ?_
  refine Go_cmp (dl_ok rfl) rfl rfl ?_ ?_
  ·
    refine Go_blk 1 (pc' := 1125) (L' := [(6, .int w6.1), (5, .int w3.1), (0, .ref 1000000), (1, .ref 0), (2, .ref 47), (3, .ref 698), (4, .int i)]) (S' := [.int w3.1]) (h' := (hh X w3.2.2 w6.2)) (ab_blkD_ok rfl) ?_
    refine Go_cmzn (dl_ok rfl) rfl rfl ?_ ?_
    ·
      refine Go_blk 2 (pc' := 1130) (L' := [(6, .int w6.1), (5, .int w3.1), (0, .ref 1000000), (1, .ref 0), (2, .ref 47), (3, .ref 698), (4, .int i)]) (S' := [.int (0 : Int32), .ref 698]) (h' := (hh X w3.2.2 w6.2)) (ab_blkD_ok rfl) ?_
      refine Go_lald (dl_ok rfl) fun v8 => ?_
      refine Go_blk 3 (pc' := 1135) (L' := [(6, .int w6.1), (5, .int w3.1), (0, .ref 1000000), (1, .ref 0), (2, .ref 47), (3, .ref 698), (4, .int i)]) (S' := [.int (lg_cmp v8 (w6.1.toInt64))]) (h' := (hh X w3.2.2 w6.2)) (ab_blkD_ok rfl) ?_
      refine Go_cmz (dl_ok rfl) rfl rfl ?_ ?_
      ·
        refine Go_blk 3 (pc' := 23) (L' := [(4, .int (i + (7 : Int32))), (6, .int w6.1), (5, .int w3.1), (0, .ref 1000000), (1, .ref 0), (2, .ref 47), (3, .ref 698)]) (S' := []) (h' := (hh X w3.2.2 w6.2)) (ab_blkD_ok rfl) ?_
        exact Go_jmp [(0, .ref 1000000), (1, .ref 0), (2, .ref 47), (3, .ref 698), (4, .int (i + (7 : Int32)))] rfl ⟨rfl, rfl, rfl, rfl, rfl, trivial⟩ (fun _ h => h)
      ·
        refine Go_inrS ?_
        refine Go_blk 1 (pc' := 1139) (L' := [(6, .int w6.1), (5, .int w3.1), (0, .ref 1000000), (1, .ref 0), (2, .ref 47), (3, .ref 698), (4, .int i)]) (S' := [.int (0 : Int32)]) (h' := (hh X w3.2.2 w6.2)) (ab_blkD_ok rfl) ?_
        exact Go_ret (fun _ h => h) (ab_enD_ok rfl)
    ·
      refine Go_blk 3 (pc' := 23) (L' := [(4, .int (i + (7 : Int32))), (6, .int w6.1), (5, .int w3.1), (0, .ref 1000000), (1, .ref 0), (2, .ref 47), (3, .ref 698)]) (S' := []) (h' := (hh X w3.2.2 w6.2)) (ab_blkD_ok rfl) ?_
      exact Go_jmp [(0, .ref 1000000), (1, .ref 0), (2, .ref 47), (3, .ref 698), (4, .int (i + (7 : Int32)))] rfl ⟨rfl, rfl, rfl, rfl, rfl, trivial⟩ (fun _ h => h)
  ·
    refine Go_inrS ?_
    refine Go_blk 1 (pc' := 1122) (L' := [(6, .int w6.1), (5, .int w3.1), (0, .ref 1000000), (1, .ref 0), (2, .ref 47), (3, .ref 698), (4, .int i)]) (S' := [.int (0 : Int32)]) (h' := (hh X w3.2.2 w6.2)) (ab_blkD_ok rfl) ?_
    exact Go_ret (fun _ h => h) (ab_enD_ok rfl)
set_option maxRecDepth 1000000 in
set_option maxHeartbeats 4000000 in
theorem gl_c16 {X : XX} {i : Int32} {I : MJ} {g : GG} {d : Nat} (hd : 86 ≤ d + 1) : Go (d + 1) 386 1143 [(0, .ref 1000000), (1, .ref 0), (2, .ref 47), (3, .ref 698), (4, .int i)] [] (hh X g I)
  (
  (Option.bind (rds X (i + (1 : Int32))) fun v1 =>
  (Option.bind (rds X (i + (2 : Int32))) fun v2 =>
  (Option.bind (f_l_can170 v1 v2 I g) fun w3 =>
  (Option.bind (rds X (i + (1 : Int32))) fun v4 =>
  (Option.bind (rds X (i + (2 : Int32))) fun v5 =>
  (Option.bind (f_m_can339 v4 v5 w3.2.1) fun w6 =>
  (Option.bind (f_m_thrown265 w6.2) fun v7 =>
  (if v7 = w3.1 then
  (if w3.1 = 0 then
  (Option.bind (rdl w3.2.2 698 (0 : Int32)) fun v8 =>
  (Option.bind (α := Int64)
  (if w6.1 = 0 then
  some (0 : Int64)
  else
  some (1 : Int64)
  )
  fun b9 =>
  (if (lg_cmp v8 b9) = 0 then
  some (.inl ((i + (7 : Int32)), w6.2, w3.2.2))
  else
  some (.inr ((0 : Int32), w6.2, w3.2.2))
  )
  )
  )
  else
  some (.inl ((i + (7 : Int32)), w6.2, w3.2.2))
  )
  else
  some (.inr ((0 : Int32), w6.2, w3.2.2))
  )
  )
  )
  )
  )
  )
  )
  )
  )
  (TL (d + 1) X) := by
  refine Go_blk 5 (pc' := 1149) (L' := [(0, .ref 1000000), (1, .ref 0), (2, .ref 47), (3, .ref 698), (4, .int i)]) (S' := [.int (i + (1 : Int32)), .ref 1000000, .ref 0]) (h' := (hh X g I)) (ab_blkD_ok rfl) ?_
  refine Go_ialds (dl_ok rfl) fun v1 => ?_
  refine Go_blk 4 (pc' := 1155) (L' := [(0, .ref 1000000), (1, .ref 0), (2, .ref 47), (3, .ref 698), (4, .int i)]) (S' := [.int (i + (2 : Int32)), .ref 1000000, .int v1, .ref 0]) (h' := (hh X g I)) (ab_blkD_ok rfl) ?_
  refine Go_ialds (dl_ok rfl) fun v2 => ?_
  refine Go_blk 1 (pc' := 1157) (L' := [(0, .ref 1000000), (1, .ref 0), (2, .ref 47), (3, .ref 698), (4, .int i)]) (S' := [.ref 698, .int v2, .int v1, .ref 0]) (h' := (hh X g I)) (ab_blkD_ok rfl) ?_
  refine Go_cG (y' := 170) (As := [.ref 0, .int v1, .int v2, .ref 698]) (r := []) (ab_clD_ok rfl) (g_l_can170 v1 v2 (by omega)) fun w3 => ?_
  refine Go_blk 6 (pc' := 1168) (L' := [(5, .int w3.1), (0, .ref 1000000), (1, .ref 0), (2, .ref 47), (3, .ref 698), (4, .int i)]) (S' := [.int (i + (1 : Int32)), .ref 1000000, .ref 47]) (h' := (hh X w3.2.2 w3.2.1)) (ab_blkD_ok rfl) ?_
  refine Go_ialds (dl_ok rfl) fun v4 => ?_
  refine Go_blk 4 (pc' := 1174) (L' := [(5, .int w3.1), (0, .ref 1000000), (1, .ref 0), (2, .ref 47), (3, .ref 698), (4, .int i)]) (S' := [.int (i + (2 : Int32)), .ref 1000000, .int v4, .ref 47]) (h' := (hh X w3.2.2 w3.2.1)) (ab_blkD_ok rfl) ?_
  refine Go_ialds (dl_ok rfl) fun v5 => ?_
  refine Go_cW (y' := 339) (As := [.ref 47, .int v4, .int v5]) (r := []) (ab_clD_ok rfl) (g_m_can339 v4 v5 (by omega)) fun w6 => ?_
  refine Go_blk 2 (pc' := 1181) (L' := [(6, .int w6.1), (5, .int w3.1), (0, .ref 1000000), (1, .ref 0), (2, .ref 47), (3, .ref 698), (4, .int i)]) (S' := [.ref 47]) (h' := (hh X w3.2.2 w6.2)) (ab_blkD_ok rfl) ?_
  refine Go_cR (y' := 265) (As := [.ref 47]) (r := []) (ab_clD_ok rfl) (g_m_thrown265  (by omega)) fun v7 => ?_
  refine Go_blk 1 (pc' := 1186) (L' := [(6, .int w6.1), (5, .int w3.1), (0, .ref 1000000), (1, .ref 0), (2, .ref 47), (3, .ref 698), (4, .int i)]) (S' := [.int w3.1, .int v7]) (h' := (hh X w3.2.2 w6.2)) (ab_blkD_ok rfl) ?_
  refine Go_cmp (dl_ok rfl) rfl rfl ?_ ?_
  ·
    refine Go_blk 1 (pc' := 1193) (L' := [(6, .int w6.1), (5, .int w3.1), (0, .ref 1000000), (1, .ref 0), (2, .ref 47), (3, .ref 698), (4, .int i)]) (S' := [.int w3.1]) (h' := (hh X w3.2.2 w6.2)) (ab_blkD_ok rfl) ?_
    refine Go_cmzn (dl_ok rfl) rfl rfl ?_ ?_
    ·
      refine Go_blk 2 (pc' := 1198) (L' := [(6, .int w6.1), (5, .int w3.1), (0, .ref 1000000), (1, .ref 0), (2, .ref 47), (3, .ref 698), (4, .int i)]) (S' := [.int (0 : Int32), .ref 698]) (h' := (hh X w3.2.2 w6.2)) (ab_blkD_ok rfl) ?_
      refine Go_lald (dl_ok rfl) fun v8 => ?_
      refine Go_blk 1 (pc' := 1201) (L' := [(6, .int w6.1), (5, .int w3.1), (0, .ref 1000000), (1, .ref 0), (2, .ref 47), (3, .ref 698), (4, .int i)]) (S' := [.int w6.1, .long v8]) (h' := (hh X w3.2.2 w6.2)) (ab_blkD_ok rfl) ?_
      refine Go_seq (pcj := 1209) (fun (b9 : Int64) => [(0, .ref 1000000), (1, .ref 0), (2, .ref 47), (3, .ref 698), (4, .int i)]) (fun (b9 : Int64) => [.long b9, .long v8]) (fun (b9 : Int64) => (hh X w3.2.2 w6.2)) (fun b9 => ?_) ?_
      ·
        refine Go_blk 1 (pc' := 1210) (L' := [(0, .ref 1000000), (1, .ref 0), (2, .ref 47), (3, .ref 698), (4, .int i)]) (S' := [.int (lg_cmp v8 b9)]) (h' := (hh X w3.2.2 w6.2)) (ab_blkD_ok rfl) ?_
        refine Go_cmz (dl_ok rfl) rfl rfl ?_ ?_
        ·
          refine Go_blk 3 (pc' := 23) (L' := [(4, .int (i + (7 : Int32))), (0, .ref 1000000), (1, .ref 0), (2, .ref 47), (3, .ref 698)]) (S' := []) (h' := (hh X w3.2.2 w6.2)) (ab_blkD_ok rfl) ?_
          exact Go_jmp [(0, .ref 1000000), (1, .ref 0), (2, .ref 47), (3, .ref 698), (4, .int (i + (7 : Int32)))] rfl ⟨rfl, rfl, rfl, rfl, rfl, trivial⟩ (fun _ h => h)
        ·
          refine Go_inrS ?_
          refine Go_blk 1 (pc' := 1214) (L' := [(0, .ref 1000000), (1, .ref 0), (2, .ref 47), (3, .ref 698), (4, .int i)]) (S' := [.int (0 : Int32)]) (h' := (hh X w3.2.2 w6.2)) (ab_blkD_ok rfl) ?_
          exact Go_ret (fun _ h => h) (ab_enD_ok rfl)
      ·
        refine Go_cmz (dl_ok rfl) rfl rfl ?_ ?_
        ·
          refine Go_blk 1 (pc' := 1209) (L' := [(6, .int w6.1), (5, .int w3.1), (0, .ref 1000000), (1, .ref 0), (2, .ref 47), (3, .ref 698), (4, .int i)]) (S' := [.long (0 : Int64), .long v8]) (h' := (hh X w3.2.2 w6.2)) (ab_blkD_ok rfl) ?_
          exact Go_jmp [(0, .ref 1000000), (1, .ref 0), (2, .ref 47), (3, .ref 698), (4, .int i)] rfl ⟨rfl, rfl, rfl, rfl, rfl, trivial⟩ (fun _ h => h)
        ·
          refine Go_blk 2 (pc' := 1209) (L' := [(6, .int w6.1), (5, .int w3.1), (0, .ref 1000000), (1, .ref 0), (2, .ref 47), (3, .ref 698), (4, .int i)]) (S' := [.long (1 : Int64), .long v8]) (h' := (hh X w3.2.2 w6.2)) (ab_blkD_ok rfl) ?_
          exact Go_jmp [(0, .ref 1000000), (1, .ref 0), (2, .ref 47), (3, .ref 698), (4, .int i)] rfl ⟨rfl, rfl, rfl, rfl, rfl, trivial⟩ (fun _ h => h)
    ·
      refine Go_blk 3 (pc' := 23) (L' := [(4, .int (i + (7 : Int32))), (6, .int w6.1), (5, .int w3.1), (0, .ref 1000000), (1, .ref 0), (2, .ref 47), (3, .ref 698)]) (S' := []) (h' := (hh X w3.2.2 w6.2)) (ab_blkD_ok rfl) ?_
      exact Go_jmp [(0, .ref 1000000), (1, .ref 0), (2, .ref 47), (3, .ref 698), (4, .int (i + (7 : Int32)))] rfl ⟨rfl, rfl, rfl, rfl, rfl, trivial⟩ (fun _ h => h)
  ·
    refine Go_inrS ?_
    refine Go_blk 1 (pc' := 1190) (L' := [(6, .int w6.1), (5, .int w3.1), (0, .ref 1000000), (1, .ref 0), (2, .ref 47), (3, .ref 698), (4, .int i)]) (S' := [.int (0 : Int32)]) (h' := (hh X w3.2.2 w6.2)) (ab_blkD_ok rfl) ?_
    exact Go_ret (fun _ h => h) (ab_enD_ok rfl)
set_option maxRecDepth 1000000 in
set_option maxHeartbeats 4000000 in
theorem gl_c17 {X : XX} {i : Int32} {I : MJ} {g : GG} {d : Nat} (hd : 86 ≤ d + 1) : Go (d + 1) 386 1218 [(0, .ref 1000000), (1, .ref 0), (2, .ref 47), (3, .ref 698), (4, .int i)] [] (hh X g I)
  (
  (Option.bind (rds X (i + (1 : Int32))) fun v1 =>
  (Option.bind (f_l_ready172 v1 I g) fun w2 =>
  (Option.bind (rds X (i + (1 : Int32))) fun v3 =>
  (Option.bind (f_m_ready340 v3 w2.2.1) fun w4 =>
  (Option.bind (f_m_thrown265 w4.2) fun v5 =>
  (if v5 = w2.1 then
  (if w2.1 = 0 then
  (Option.bind (rdl w2.2.2 698 (0 : Int32)) fun v6 =>
  (Option.bind (α := Int64)
  (if w4.1 = 0 then
  some (0 : Int64)
  else
  some (1 : Int64)
  )
  fun b7 =>
  (if (lg_cmp v6 b7) = 0 then
  some (.inl ((i + (7 : Int32)), w4.2, w2.2.2))
  else
  some (.inr ((0 : Int32), w4.2, w2.2.2))
  )
  )
  )
  else
  some (.inl ((i + (7 : Int32)), w4.2, w2.2.2))
  )
  else
  some (.inr ((0 : Int32), w4.2, w2.2.2))
  )
  )
  )
  )
  )
  )
  )
  (TL (d + 1) X) := by
  refine Go_blk 5 (pc' := 1224) (L' := [(0, .ref 1000000), (1, .ref 0), (2, .ref 47), (3, .ref 698), (4, .int i)]) (S' := [.int (i + (1 : Int32)), .ref 1000000, .ref 0]) (h' := (hh X g I)) (ab_blkD_ok rfl) ?_
  refine Go_ialds (dl_ok rfl) fun v1 => ?_
  refine Go_blk 1 (pc' := 1226) (L' := [(0, .ref 1000000), (1, .ref 0), (2, .ref 47), (3, .ref 698), (4, .int i)]) (S' := [.ref 698, .int v1, .ref 0]) (h' := (hh X g I)) (ab_blkD_ok rfl) ?_
  refine Go_cG (y' := 172) (As := [.ref 0, .int v1, .ref 698]) (r := []) (ab_clD_ok rfl) (g_l_ready172 v1 (by omega)) fun w2 => ?_
  refine Go_blk 6 (pc' := 1237) (L' := [(5, .int w2.1), (0, .ref 1000000), (1, .ref 0), (2, .ref 47), (3, .ref 698), (4, .int i)]) (S' := [.int (i + (1 : Int32)), .ref 1000000, .ref 47]) (h' := (hh X w2.2.2 w2.2.1)) (ab_blkD_ok rfl) ?_
  refine Go_ialds (dl_ok rfl) fun v3 => ?_
  refine Go_cW (y' := 340) (As := [.ref 47, .int v3]) (r := []) (ab_clD_ok rfl) (g_m_ready340 v3 (by omega)) fun w4 => ?_
  refine Go_blk 2 (pc' := 1244) (L' := [(6, .int w4.1), (5, .int w2.1), (0, .ref 1000000), (1, .ref 0), (2, .ref 47), (3, .ref 698), (4, .int i)]) (S' := [.ref 47]) (h' := (hh X w2.2.2 w4.2)) (ab_blkD_ok rfl) ?_
  refine Go_cR (y' := 265) (As := [.ref 47]) (r := []) (ab_clD_ok rfl) (g_m_thrown265  (by omega)) fun v5 => ?_
  refine Go_blk 1 (pc' := 1249) (L' := [(6, .int w4.1), (5, .int w2.1), (0, .ref 1000000), (1, .ref 0), (2, .ref 47), (3, .ref 698), (4, .int i)]) (S' := [.int w2.1, .int v5]) (h' := (hh X w2.2.2 w4.2)) (ab_blkD_ok rfl) ?_
  refine Go_cmp (dl_ok rfl) rfl rfl ?_ ?_
  ·
    refine Go_blk 1 (pc' := 1256) (L' := [(6, .int w4.1), (5, .int w2.1), (0, .ref 1000000), (1, .ref 0), (2, .ref 47), (3, .ref 698), (4, .int i)]) (S' := [.int w2.1]) (h' := (hh X w2.2.2 w4.2)) (ab_blkD_ok rfl) ?_
    refine Go_cmzn (dl_ok rfl) rfl rfl ?_ ?_
    ·
      refine Go_blk 2 (pc' := 1261) (L' := [(6, .int w4.1), (5, .int w2.1), (0, .ref 1000000), (1, .ref 0), (2, .ref 47), (3, .ref 698), (4, .int i)]) (S' := [.int (0 : Int32), .ref 698]) (h' := (hh X w2.2.2 w4.2)) (ab_blkD_ok rfl) ?_
      refine Go_lald (dl_ok rfl) fun v6 => ?_
      refine Go_blk 1 (pc' := 1264) (L' := [(6, .int w4.1), (5, .int w2.1), (0, .ref 1000000), (1, .ref 0), (2, .ref 47), (3, .ref 698), (4, .int i)]) (S' := [.int w4.1, .long v6]) (h' := (hh X w2.2.2 w4.2)) (ab_blkD_ok rfl) ?_
      refine Go_seq (pcj := 1272) (fun (b7 : Int64) => [(0, .ref 1000000), (1, .ref 0), (2, .ref 47), (3, .ref 698), (4, .int i)]) (fun (b7 : Int64) => [.long b7, .long v6]) (fun (b7 : Int64) => (hh X w2.2.2 w4.2)) (fun b7 => ?_) ?_
      ·
        refine Go_blk 1 (pc' := 1273) (L' := [(0, .ref 1000000), (1, .ref 0), (2, .ref 47), (3, .ref 698), (4, .int i)]) (S' := [.int (lg_cmp v6 b7)]) (h' := (hh X w2.2.2 w4.2)) (ab_blkD_ok rfl) ?_
        refine Go_cmz (dl_ok rfl) rfl rfl ?_ ?_
        ·
          refine Go_blk 3 (pc' := 23) (L' := [(4, .int (i + (7 : Int32))), (0, .ref 1000000), (1, .ref 0), (2, .ref 47), (3, .ref 698)]) (S' := []) (h' := (hh X w2.2.2 w4.2)) (ab_blkD_ok rfl) ?_
          exact Go_jmp [(0, .ref 1000000), (1, .ref 0), (2, .ref 47), (3, .ref 698), (4, .int (i + (7 : Int32)))] rfl ⟨rfl, rfl, rfl, rfl, rfl, trivial⟩ (fun _ h => h)
        ·
          refine Go_inrS ?_
          refine Go_blk 1 (pc' := 1277) (L' := [(0, .ref 1000000), (1, .ref 0), (2, .ref 47), (3, .ref 698), (4, .int i)]) (S' := [.int (0 : Int32)]) (h' := (hh X w2.2.2 w4.2)) (ab_blkD_ok rfl) ?_
          exact Go_ret (fun _ h => h) (ab_enD_ok rfl)
      ·
        refine Go_cmz (dl_ok rfl) rfl rfl ?_ ?_
        ·
          refine Go_blk 1 (pc' := 1272) (L' := [(6, .int w4.1), (5, .int w2.1), (0, .ref 1000000), (1, .ref 0), (2, .ref 47), (3, .ref 698), (4, .int i)]) (S' := [.long (0 : Int64), .long v6]) (h' := (hh X w2.2.2 w4.2)) (ab_blkD_ok rfl) ?_
          exact Go_jmp [(0, .ref 1000000), (1, .ref 0), (2, .ref 47), (3, .ref 698), (4, .int i)] rfl ⟨rfl, rfl, rfl, rfl, rfl, trivial⟩ (fun _ h => h)
        ·
          refine Go_blk 2 (pc' := 1272) (L' := [(6, .int w4.1), (5, .int w2.1), (0, .ref 1000000), (1, .ref 0), (2, .ref 47), (3, .ref 698), (4, .int i)]) (S' := [.long (1 : Int64), .long v6]) (h' := (hh X w2.2.2 w4.2)) (ab_blkD_ok rfl) ?_
          exact Go_jmp [(0, .ref 1000000), (1, .ref 0), (2, .ref 47), (3, .ref 698), (4, .int i)] rfl ⟨rfl, rfl, rfl, rfl, rfl, trivial⟩ (fun _ h => h)
    ·
      refine Go_blk 3 (pc' := 23) (L' := [(4, .int (i + (7 : Int32))), (6, .int w4.1), (5, .int w2.1), (0, .ref 1000000), (1, .ref 0), (2, .ref 47), (3, .ref 698)]) (S' := []) (h' := (hh X w2.2.2 w4.2)) (ab_blkD_ok rfl) ?_
      exact Go_jmp [(0, .ref 1000000), (1, .ref 0), (2, .ref 47), (3, .ref 698), (4, .int (i + (7 : Int32)))] rfl ⟨rfl, rfl, rfl, rfl, rfl, trivial⟩ (fun _ h => h)
  ·
    refine Go_inrS ?_
    refine Go_blk 1 (pc' := 1253) (L' := [(6, .int w4.1), (5, .int w2.1), (0, .ref 1000000), (1, .ref 0), (2, .ref 47), (3, .ref 698), (4, .int i)]) (S' := [.int (0 : Int32)]) (h' := (hh X w2.2.2 w4.2)) (ab_blkD_ok rfl) ?_
    exact Go_ret (fun _ h => h) (ab_enD_ok rfl)
set_option maxRecDepth 1000000 in
set_option maxHeartbeats 4000000 in
theorem gl_c18 {X : XX} {i : Int32} {I : MJ} {g : GG} {d : Nat} (hd : 86 ≤ d + 1) : Go (d + 1) 386 1281 [(0, .ref 1000000), (1, .ref 0), (2, .ref 47), (3, .ref 698), (4, .int i)] [] (hh X g I)
  (
  (Option.bind (rds X (i + (1 : Int32))) fun v1 =>
  (Option.bind (f_l_fit174 v1 I g) fun w2 =>
  (Option.bind (rds X (i + (1 : Int32))) fun v3 =>
  (Option.bind (f_m_fit341 v3 w2.2.1) fun w4 =>
  (Option.bind (f_m_thrown265 w4.2) fun v5 =>
  (if v5 = w2.1 then
  (if w2.1 = 0 then
  (Option.bind (rdl w2.2.2 698 (0 : Int32)) fun v6 =>
  (if (lg_cmp v6 (w4.1.toInt64)) = 0 then
  some (.inl ((i + (7 : Int32)), w4.2, w2.2.2))
  else
  some (.inr ((0 : Int32), w4.2, w2.2.2))
  )
  )
  else
  some (.inl ((i + (7 : Int32)), w4.2, w2.2.2))
  )
  else
  some (.inr ((0 : Int32), w4.2, w2.2.2))
  )
  )
  )
  )
  )
  )
  )
  (TL (d + 1) X) := by
  refine Go_blk 5 (pc' := 1287) (L' := [(0, .ref 1000000), (1, .ref 0), (2, .ref 47), (3, .ref 698), (4, .int i)]) (S' := [.int (i + (1 : Int32)), .ref 1000000, .ref 0]) (h' := (hh X g I)) (ab_blkD_ok rfl) ?_
  refine Go_ialds (dl_ok rfl) fun v1 => ?_
  refine Go_blk 1 (pc' := 1289) (L' := [(0, .ref 1000000), (1, .ref 0), (2, .ref 47), (3, .ref 698), (4, .int i)]) (S' := [.ref 698, .int v1, .ref 0]) (h' := (hh X g I)) (ab_blkD_ok rfl) ?_
  refine Go_cG (y' := 174) (As := [.ref 0, .int v1, .ref 698]) (r := []) (ab_clD_ok rfl) (g_l_fit174 v1 (by omega)) fun w2 => ?_
  refine Go_blk 6 (pc' := 1300) (L' := [(5, .int w2.1), (0, .ref 1000000), (1, .ref 0), (2, .ref 47), (3, .ref 698), (4, .int i)]) (S' := [.int (i + (1 : Int32)), .ref 1000000, .ref 47]) (h' := (hh X w2.2.2 w2.2.1)) (ab_blkD_ok rfl) ?_
  refine Go_ialds (dl_ok rfl) fun v3 => ?_
  refine Go_cW (y' := 341) (As := [.ref 47, .int v3]) (r := []) (ab_clD_ok rfl) (g_m_fit341 v3 (by omega)) fun w4 => ?_
  refine Go_blk 2 (pc' := 1307) (L' := [(6, .int w4.1), (5, .int w2.1), (0, .ref 1000000), (1, .ref 0), (2, .ref 47), (3, .ref 698), (4, .int i)]) (S' := [.ref 47]) (h' := (hh X w2.2.2 w4.2)) (ab_blkD_ok rfl) ?_
  refine Go_cR (y' := 265) (As := [.ref 47]) (r := []) (ab_clD_ok rfl) (g_m_thrown265  (by omega)) fun v5 => ?_
  refine Go_blk 1 (pc' := 1312) (L' := [(6, .int w4.1), (5, .int w2.1), (0, .ref 1000000), (1, .ref 0), (2, .ref 47), (3, .ref 698), (4, .int i)]) (S' := [.int w2.1, .int v5]) (h' := (hh X w2.2.2 w4.2)) (ab_blkD_ok rfl) ?_
  refine Go_cmp (dl_ok rfl) rfl rfl ?_ ?_
  ·
    refine Go_blk 1 (pc' := 1319) (L' := [(6, .int w4.1), (5, .int w2.1), (0, .ref 1000000), (1, .ref 0), (2, .ref 47), (3, .ref 698), (4, .int i)]) (S' := [.int w2.1]) (h' := (hh X w2.2.2 w4.2)) (ab_blkD_ok rfl) ?_
    refine Go_cmzn (dl_ok rfl) rfl rfl ?_ ?_
    ·
      refine Go_blk 2 (pc' := 1324) (L' := [(6, .int w4.1), (5, .int w2.1), (0, .ref 1000000), (1, .ref 0), (2, .ref 47), (3, .ref 698), (4, .int i)]) (S' := [.int (0 : Int32), .ref 698]) (h' := (hh X w2.2.2 w4.2)) (ab_blkD_ok rfl) ?_
      refine Go_lald (dl_ok rfl) fun v6 => ?_
      refine Go_blk 3 (pc' := 1329) (L' := [(6, .int w4.1), (5, .int w2.1), (0, .ref 1000000), (1, .ref 0), (2, .ref 47), (3, .ref 698), (4, .int i)]) (S' := [.int (lg_cmp v6 (w4.1.toInt64))]) (h' := (hh X w2.2.2 w4.2)) (ab_blkD_ok rfl) ?_
      refine Go_cmz (dl_ok rfl) rfl rfl ?_ ?_
      ·
        refine Go_blk 3 (pc' := 23) (L' := [(4, .int (i + (7 : Int32))), (6, .int w4.1), (5, .int w2.1), (0, .ref 1000000), (1, .ref 0), (2, .ref 47), (3, .ref 698)]) (S' := []) (h' := (hh X w2.2.2 w4.2)) (ab_blkD_ok rfl) ?_
        exact Go_jmp [(0, .ref 1000000), (1, .ref 0), (2, .ref 47), (3, .ref 698), (4, .int (i + (7 : Int32)))] rfl ⟨rfl, rfl, rfl, rfl, rfl, trivial⟩ (fun _ h => h)
      ·
        refine Go_inrS ?_
        refine Go_blk 1 (pc' := 1333) (L' := [(6, .int w4.1), (5, .int w2.1), (0, .ref 1000000), (1, .ref 0), (2, .ref 47), (3, .ref 698), (4, .int i)]) (S' := [.int (0 : Int32)]) (h' := (hh X w2.2.2 w4.2)) (ab_blkD_ok rfl) ?_
        exact Go_ret (fun _ h => h) (ab_enD_ok rfl)
    ·
      refine Go_blk 3 (pc' := 23) (L' := [(4, .int (i + (7 : Int32))), (6, .int w4.1), (5, .int w2.1), (0, .ref 1000000), (1, .ref 0), (2, .ref 47), (3, .ref 698)]) (S' := []) (h' := (hh X w2.2.2 w4.2)) (ab_blkD_ok rfl) ?_
      exact Go_jmp [(0, .ref 1000000), (1, .ref 0), (2, .ref 47), (3, .ref 698), (4, .int (i + (7 : Int32)))] rfl ⟨rfl, rfl, rfl, rfl, rfl, trivial⟩ (fun _ h => h)
  ·
    refine Go_inrS ?_
    refine Go_blk 1 (pc' := 1316) (L' := [(6, .int w4.1), (5, .int w2.1), (0, .ref 1000000), (1, .ref 0), (2, .ref 47), (3, .ref 698), (4, .int i)]) (S' := [.int (0 : Int32)]) (h' := (hh X w2.2.2 w4.2)) (ab_blkD_ok rfl) ?_
    exact Go_ret (fun _ h => h) (ab_enD_ok rfl)
set_option maxRecDepth 1000000 in
set_option maxHeartbeats 4000000 in
theorem gl_c19 {X : XX} {i : Int32} {I : MJ} {g : GG} {d : Nat} (hd : 86 ≤ d + 1) : Go (d + 1) 386 1337 [(0, .ref 1000000), (1, .ref 0), (2, .ref 47), (3, .ref 698), (4, .int i)] [] (hh X g I)
  (
  (Option.bind (rds X (i + (1 : Int32))) fun v1 =>
  (Option.bind (rds X (i + (2 : Int32))) fun v2 =>
  (Option.bind (f_l_tries178 v1 v2 I g) fun w3 =>
  (Option.bind (rds X (i + (1 : Int32))) fun v4 =>
  (Option.bind (rds X (i + (2 : Int32))) fun v5 =>
  (Option.bind (f_m_tries343 v4 v5 w3.2.1) fun w6 =>
  (Option.bind (f_m_thrown265 w6.2) fun v7 =>
  (if v7 = w3.1 then
  (if w3.1 = 0 then
  (Option.bind (rdl w3.2.2 698 (0 : Int32)) fun v8 =>
  (if (lg_cmp v8 (w6.1.toInt64)) = 0 then
  some (.inl ((i + (7 : Int32)), w6.2, w3.2.2))
  else
  some (.inr ((0 : Int32), w6.2, w3.2.2))
  )
  )
  else
  some (.inl ((i + (7 : Int32)), w6.2, w3.2.2))
  )
  else
  some (.inr ((0 : Int32), w6.2, w3.2.2))
  )
  )
  )
  )
  )
  )
  )
  )
  )
  (TL (d + 1) X) := by
  refine Go_blk 5 (pc' := 1343) (L' := [(0, .ref 1000000), (1, .ref 0), (2, .ref 47), (3, .ref 698), (4, .int i)]) (S' := [.int (i + (1 : Int32)), .ref 1000000, .ref 0]) (h' := (hh X g I)) (ab_blkD_ok rfl) ?_
  refine Go_ialds (dl_ok rfl) fun v1 => ?_
  refine Go_blk 4 (pc' := 1349) (L' := [(0, .ref 1000000), (1, .ref 0), (2, .ref 47), (3, .ref 698), (4, .int i)]) (S' := [.int (i + (2 : Int32)), .ref 1000000, .int v1, .ref 0]) (h' := (hh X g I)) (ab_blkD_ok rfl) ?_
  refine Go_ialds (dl_ok rfl) fun v2 => ?_
  refine Go_blk 1 (pc' := 1351) (L' := [(0, .ref 1000000), (1, .ref 0), (2, .ref 47), (3, .ref 698), (4, .int i)]) (S' := [.ref 698, .int v2, .int v1, .ref 0]) (h' := (hh X g I)) (ab_blkD_ok rfl) ?_
  refine Go_cG (y' := 178) (As := [.ref 0, .int v1, .int v2, .ref 698]) (r := []) (ab_clD_ok rfl) (g_l_tries178 v1 v2 (by omega)) fun w3 => ?_
  refine Go_blk 6 (pc' := 1362) (L' := [(5, .int w3.1), (0, .ref 1000000), (1, .ref 0), (2, .ref 47), (3, .ref 698), (4, .int i)]) (S' := [.int (i + (1 : Int32)), .ref 1000000, .ref 47]) (h' := (hh X w3.2.2 w3.2.1)) (ab_blkD_ok rfl) ?_
  refine Go_ialds (dl_ok rfl) fun v4 => ?_
  refine Go_blk 4 (pc' := 1368) (L' := [(5, .int w3.1), (0, .ref 1000000), (1, .ref 0), (2, .ref 47), (3, .ref 698), (4, .int i)]) (S' := [.int (i + (2 : Int32)), .ref 1000000, .int v4, .ref 47]) (h' := (hh X w3.2.2 w3.2.1)) (ab_blkD_ok rfl) ?_
  refine Go_ialds (dl_ok rfl) fun v5 => ?_
  refine Go_cW (y' := 343) (As := [.ref 47, .int v4, .int v5]) (r := []) (ab_clD_ok rfl) (g_m_tries343 v4 v5 (by omega)) fun w6 => ?_
  refine Go_blk 2 (pc' := 1375) (L' := [(6, .int w6.1), (5, .int w3.1), (0, .ref 1000000), (1, .ref 0), (2, .ref 47), (3, .ref 698), (4, .int i)]) (S' := [.ref 47]) (h' := (hh X w3.2.2 w6.2)) (ab_blkD_ok rfl) ?_
  refine Go_cR (y' := 265) (As := [.ref 47]) (r := []) (ab_clD_ok rfl) (g_m_thrown265  (by omega)) fun v7 => ?_
  refine Go_blk 1 (pc' := 1380) (L' := [(6, .int w6.1), (5, .int w3.1), (0, .ref 1000000), (1, .ref 0), (2, .ref 47), (3, .ref 698), (4, .int i)]) (S' := [.int w3.1, .int v7]) (h' := (hh X w3.2.2 w6.2)) (ab_blkD_ok rfl) ?_
  refine Go_cmp (dl_ok rfl) rfl rfl ?_ ?_
  ·
    refine Go_blk 1 (pc' := 1387) (L' := [(6, .int w6.1), (5, .int w3.1), (0, .ref 1000000), (1, .ref 0), (2, .ref 47), (3, .ref 698), (4, .int i)]) (S' := [.int w3.1]) (h' := (hh X w3.2.2 w6.2)) (ab_blkD_ok rfl) ?_
    refine Go_cmzn (dl_ok rfl) rfl rfl ?_ ?_
    ·
      refine Go_blk 2 (pc' := 1392) (L' := [(6, .int w6.1), (5, .int w3.1), (0, .ref 1000000), (1, .ref 0), (2, .ref 47), (3, .ref 698), (4, .int i)]) (S' := [.int (0 : Int32), .ref 698]) (h' := (hh X w3.2.2 w6.2)) (ab_blkD_ok rfl) ?_
      refine Go_lald (dl_ok rfl) fun v8 => ?_
      refine Go_blk 3 (pc' := 1397) (L' := [(6, .int w6.1), (5, .int w3.1), (0, .ref 1000000), (1, .ref 0), (2, .ref 47), (3, .ref 698), (4, .int i)]) (S' := [.int (lg_cmp v8 (w6.1.toInt64))]) (h' := (hh X w3.2.2 w6.2)) (ab_blkD_ok rfl) ?_
      refine Go_cmz (dl_ok rfl) rfl rfl ?_ ?_
      ·
        refine Go_blk 3 (pc' := 23) (L' := [(4, .int (i + (7 : Int32))), (6, .int w6.1), (5, .int w3.1), (0, .ref 1000000), (1, .ref 0), (2, .ref 47), (3, .ref 698)]) (S' := []) (h' := (hh X w3.2.2 w6.2)) (ab_blkD_ok rfl) ?_
        exact Go_jmp [(0, .ref 1000000), (1, .ref 0), (2, .ref 47), (3, .ref 698), (4, .int (i + (7 : Int32)))] rfl ⟨rfl, rfl, rfl, rfl, rfl, trivial⟩ (fun _ h => h)
      ·
        refine Go_inrS ?_
        refine Go_blk 1 (pc' := 1401) (L' := [(6, .int w6.1), (5, .int w3.1), (0, .ref 1000000), (1, .ref 0), (2, .ref 47), (3, .ref 698), (4, .int i)]) (S' := [.int (0 : Int32)]) (h' := (hh X w3.2.2 w6.2)) (ab_blkD_ok rfl) ?_
        exact Go_ret (fun _ h => h) (ab_enD_ok rfl)
    ·
      refine Go_blk 3 (pc' := 23) (L' := [(4, .int (i + (7 : Int32))), (6, .int w6.1), (5, .int w3.1), (0, .ref 1000000), (1, .ref 0), (2, .ref 47), (3, .ref 698)]) (S' := []) (h' := (hh X w3.2.2 w6.2)) (ab_blkD_ok rfl) ?_
      exact Go_jmp [(0, .ref 1000000), (1, .ref 0), (2, .ref 47), (3, .ref 698), (4, .int (i + (7 : Int32)))] rfl ⟨rfl, rfl, rfl, rfl, rfl, trivial⟩ (fun _ h => h)
  ·
    refine Go_inrS ?_
    refine Go_blk 1 (pc' := 1384) (L' := [(6, .int w6.1), (5, .int w3.1), (0, .ref 1000000), (1, .ref 0), (2, .ref 47), (3, .ref 698), (4, .int i)]) (S' := [.int (0 : Int32)]) (h' := (hh X w3.2.2 w6.2)) (ab_blkD_ok rfl) ?_
    exact Go_ret (fun _ h => h) (ab_enD_ok rfl)
set_option maxRecDepth 1000000 in
set_option maxHeartbeats 4000000 in
theorem gl_c20 {X : XX} {i : Int32} {I : MJ} {g : GG} {d : Nat} (hd : 86 ≤ d + 1) : Go (d + 1) 386 1405 [(0, .ref 1000000), (1, .ref 0), (2, .ref 47), (3, .ref 698), (4, .int i)] [] (hh X g I)
  (
  (Option.bind (rds X (i + (1 : Int32))) fun v1 =>
  (Option.bind (f_l_best182 v1 I g) fun w2 =>
  (Option.bind (rds X (i + (1 : Int32))) fun v3 =>
  (Option.bind (f_m_best344 v3 w2.2.1) fun w4 =>
  (Option.bind (f_m_thrown265 w4.2) fun v5 =>
  (if v5 = w2.1 then
  (if w2.1 = 0 then
  (Option.bind (rdl w2.2.2 698 (0 : Int32)) fun v6 =>
  (if (lg_cmp v6 (w4.1.toInt64)) = 0 then
  some (.inl ((i + (7 : Int32)), w4.2, w2.2.2))
  else
  some (.inr ((0 : Int32), w4.2, w2.2.2))
  )
  )
  else
  some (.inl ((i + (7 : Int32)), w4.2, w2.2.2))
  )
  else
  some (.inr ((0 : Int32), w4.2, w2.2.2))
  )
  )
  )
  )
  )
  )
  )
  (TL (d + 1) X) := by
  refine Go_blk 5 (pc' := 1411) (L' := [(0, .ref 1000000), (1, .ref 0), (2, .ref 47), (3, .ref 698), (4, .int i)]) (S' := [.int (i + (1 : Int32)), .ref 1000000, .ref 0]) (h' := (hh X g I)) (ab_blkD_ok rfl) ?_
  refine Go_ialds (dl_ok rfl) fun v1 => ?_
  refine Go_blk 1 (pc' := 1413) (L' := [(0, .ref 1000000), (1, .ref 0), (2, .ref 47), (3, .ref 698), (4, .int i)]) (S' := [.ref 698, .int v1, .ref 0]) (h' := (hh X g I)) (ab_blkD_ok rfl) ?_
  refine Go_cG (y' := 182) (As := [.ref 0, .int v1, .ref 698]) (r := []) (ab_clD_ok rfl) (g_l_best182 v1 (by omega)) fun w2 => ?_
  refine Go_blk 6 (pc' := 1424) (L' := [(5, .int w2.1), (0, .ref 1000000), (1, .ref 0), (2, .ref 47), (3, .ref 698), (4, .int i)]) (S' := [.int (i + (1 : Int32)), .ref 1000000, .ref 47]) (h' := (hh X w2.2.2 w2.2.1)) (ab_blkD_ok rfl) ?_
  refine Go_ialds (dl_ok rfl) fun v3 => ?_
  refine Go_cW (y' := 344) (As := [.ref 47, .int v3]) (r := []) (ab_clD_ok rfl) (g_m_best344 v3 (by omega)) fun w4 => ?_
  refine Go_blk 2 (pc' := 1431) (L' := [(6, .int w4.1), (5, .int w2.1), (0, .ref 1000000), (1, .ref 0), (2, .ref 47), (3, .ref 698), (4, .int i)]) (S' := [.ref 47]) (h' := (hh X w2.2.2 w4.2)) (ab_blkD_ok rfl) ?_
  refine Go_cR (y' := 265) (As := [.ref 47]) (r := []) (ab_clD_ok rfl) (g_m_thrown265  (by omega)) fun v5 => ?_
  refine Go_blk 1 (pc' := 1436) (L' := [(6, .int w4.1), (5, .int w2.1), (0, .ref 1000000), (1, .ref 0), (2, .ref 47), (3, .ref 698), (4, .int i)]) (S' := [.int w2.1, .int v5]) (h' := (hh X w2.2.2 w4.2)) (ab_blkD_ok rfl) ?_
  refine Go_cmp (dl_ok rfl) rfl rfl ?_ ?_
  ·
    refine Go_blk 1 (pc' := 1443) (L' := [(6, .int w4.1), (5, .int w2.1), (0, .ref 1000000), (1, .ref 0), (2, .ref 47), (3, .ref 698), (4, .int i)]) (S' := [.int w2.1]) (h' := (hh X w2.2.2 w4.2)) (ab_blkD_ok rfl) ?_
    refine Go_cmzn (dl_ok rfl) rfl rfl ?_ ?_
    ·
      refine Go_blk 2 (pc' := 1448) (L' := [(6, .int w4.1), (5, .int w2.1), (0, .ref 1000000), (1, .ref 0), (2, .ref 47), (3, .ref 698), (4, .int i)]) (S' := [.int (0 : Int32), .ref 698]) (h' := (hh X w2.2.2 w4.2)) (ab_blkD_ok rfl) ?_
      refine Go_lald (dl_ok rfl) fun v6 => ?_
      refine Go_blk 3 (pc' := 1453) (L' := [(6, .int w4.1), (5, .int w2.1), (0, .ref 1000000), (1, .ref 0), (2, .ref 47), (3, .ref 698), (4, .int i)]) (S' := [.int (lg_cmp v6 (w4.1.toInt64))]) (h' := (hh X w2.2.2 w4.2)) (ab_blkD_ok rfl) ?_
      refine Go_cmz (dl_ok rfl) rfl rfl ?_ ?_
      ·
        refine Go_blk 3 (pc' := 23) (L' := [(4, .int (i + (7 : Int32))), (6, .int w4.1), (5, .int w2.1), (0, .ref 1000000), (1, .ref 0), (2, .ref 47), (3, .ref 698)]) (S' := []) (h' := (hh X w2.2.2 w4.2)) (ab_blkD_ok rfl) ?_
        exact Go_jmp [(0, .ref 1000000), (1, .ref 0), (2, .ref 47), (3, .ref 698), (4, .int (i + (7 : Int32)))] rfl ⟨rfl, rfl, rfl, rfl, rfl, trivial⟩ (fun _ h => h)
      ·
        refine Go_inrS ?_
        refine Go_blk 1 (pc' := 1457) (L' := [(6, .int w4.1), (5, .int w2.1), (0, .ref 1000000), (1, .ref 0), (2, .ref 47), (3, .ref 698), (4, .int i)]) (S' := [.int (0 : Int32)]) (h' := (hh X w2.2.2 w4.2)) (ab_blkD_ok rfl) ?_
        exact Go_ret (fun _ h => h) (ab_enD_ok rfl)
    ·
      refine Go_blk 3 (pc' := 23) (L' := [(4, .int (i + (7 : Int32))), (6, .int w4.1), (5, .int w2.1), (0, .ref 1000000), (1, .ref 0), (2, .ref 47), (3, .ref 698)]) (S' := []) (h' := (hh X w2.2.2 w4.2)) (ab_blkD_ok rfl) ?_
      exact Go_jmp [(0, .ref 1000000), (1, .ref 0), (2, .ref 47), (3, .ref 698), (4, .int (i + (7 : Int32)))] rfl ⟨rfl, rfl, rfl, rfl, rfl, trivial⟩ (fun _ h => h)
  ·
    refine Go_inrS ?_
    refine Go_blk 1 (pc' := 1440) (L' := [(6, .int w4.1), (5, .int w2.1), (0, .ref 1000000), (1, .ref 0), (2, .ref 47), (3, .ref 698), (4, .int i)]) (S' := [.int (0 : Int32)]) (h' := (hh X w2.2.2 w4.2)) (ab_blkD_ok rfl) ?_
    exact Go_ret (fun _ h => h) (ab_enD_ok rfl)
set_option maxRecDepth 1000000 in
set_option maxHeartbeats 4000000 in
theorem gl_c21 {X : XX} {i : Int32} {I : MJ} {g : GG} {d : Nat} (hd : 86 ≤ d + 1) : Go (d + 1) 386 1461 [(0, .ref 1000000), (1, .ref 0), (2, .ref 47), (3, .ref 698), (4, .int i)] [] (hh X g I)
  (
  (Option.bind (rds X (i + (1 : Int32))) fun v1 =>
  (Option.bind (rds X (i + (2 : Int32))) fun v2 =>
  (Option.bind (f_l_bestAt191 v1 v2 I g) fun w3 =>
  (Option.bind (rds X (i + (1 : Int32))) fun v4 =>
  (Option.bind (rds X (i + (2 : Int32))) fun v5 =>
  (Option.bind (f_m_bestAt348 v4 v5 w3.2.1) fun w6 =>
  (Option.bind (f_m_thrown265 w6.2) fun v7 =>
  (if v7 = w3.1 then
  (if w3.1 = 0 then
  (Option.bind (rdl w3.2.2 698 (0 : Int32)) fun v8 =>
  (if (lg_cmp v8 (w6.1.toInt64)) = 0 then
  some (.inl ((i + (7 : Int32)), w6.2, w3.2.2))
  else
  some (.inr ((0 : Int32), w6.2, w3.2.2))
  )
  )
  else
  some (.inl ((i + (7 : Int32)), w6.2, w3.2.2))
  )
  else
  some (.inr ((0 : Int32), w6.2, w3.2.2))
  )
  )
  )
  )
  )
  )
  )
  )
  )
  (TL (d + 1) X) := by
  refine Go_blk 5 (pc' := 1467) (L' := [(0, .ref 1000000), (1, .ref 0), (2, .ref 47), (3, .ref 698), (4, .int i)]) (S' := [.int (i + (1 : Int32)), .ref 1000000, .ref 0]) (h' := (hh X g I)) (ab_blkD_ok rfl) ?_
  refine Go_ialds (dl_ok rfl) fun v1 => ?_
  refine Go_blk 4 (pc' := 1473) (L' := [(0, .ref 1000000), (1, .ref 0), (2, .ref 47), (3, .ref 698), (4, .int i)]) (S' := [.int (i + (2 : Int32)), .ref 1000000, .int v1, .ref 0]) (h' := (hh X g I)) (ab_blkD_ok rfl) ?_
  refine Go_ialds (dl_ok rfl) fun v2 => ?_
  refine Go_blk 1 (pc' := 1475) (L' := [(0, .ref 1000000), (1, .ref 0), (2, .ref 47), (3, .ref 698), (4, .int i)]) (S' := [.ref 698, .int v2, .int v1, .ref 0]) (h' := (hh X g I)) (ab_blkD_ok rfl) ?_
  refine Go_cG (y' := 191) (As := [.ref 0, .int v1, .int v2, .ref 698]) (r := []) (ab_clD_ok rfl) (g_l_bestAt191 v1 v2 (by omega)) fun w3 => ?_
  refine Go_blk 6 (pc' := 1486) (L' := [(5, .int w3.1), (0, .ref 1000000), (1, .ref 0), (2, .ref 47), (3, .ref 698), (4, .int i)]) (S' := [.int (i + (1 : Int32)), .ref 1000000, .ref 47]) (h' := (hh X w3.2.2 w3.2.1)) (ab_blkD_ok rfl) ?_
  refine Go_ialds (dl_ok rfl) fun v4 => ?_
  refine Go_blk 4 (pc' := 1492) (L' := [(5, .int w3.1), (0, .ref 1000000), (1, .ref 0), (2, .ref 47), (3, .ref 698), (4, .int i)]) (S' := [.int (i + (2 : Int32)), .ref 1000000, .int v4, .ref 47]) (h' := (hh X w3.2.2 w3.2.1)) (ab_blkD_ok rfl) ?_
  refine Go_ialds (dl_ok rfl) fun v5 => ?_
  refine Go_cW (y' := 348) (As := [.ref 47, .int v4, .int v5]) (r := []) (ab_clD_ok rfl) (g_m_bestAt348 v4 v5 (by omega)) fun w6 => ?_
  refine Go_blk 2 (pc' := 1499) (L' := [(6, .int w6.1), (5, .int w3.1), (0, .ref 1000000), (1, .ref 0), (2, .ref 47), (3, .ref 698), (4, .int i)]) (S' := [.ref 47]) (h' := (hh X w3.2.2 w6.2)) (ab_blkD_ok rfl) ?_
  refine Go_cR (y' := 265) (As := [.ref 47]) (r := []) (ab_clD_ok rfl) (g_m_thrown265  (by omega)) fun v7 => ?_
  refine Go_blk 1 (pc' := 1504) (L' := [(6, .int w6.1), (5, .int w3.1), (0, .ref 1000000), (1, .ref 0), (2, .ref 47), (3, .ref 698), (4, .int i)]) (S' := [.int w3.1, .int v7]) (h' := (hh X w3.2.2 w6.2)) (ab_blkD_ok rfl) ?_
  refine Go_cmp (dl_ok rfl) rfl rfl ?_ ?_
  ·
    refine Go_blk 1 (pc' := 1511) (L' := [(6, .int w6.1), (5, .int w3.1), (0, .ref 1000000), (1, .ref 0), (2, .ref 47), (3, .ref 698), (4, .int i)]) (S' := [.int w3.1]) (h' := (hh X w3.2.2 w6.2)) (ab_blkD_ok rfl) ?_
    refine Go_cmzn (dl_ok rfl) rfl rfl ?_ ?_
    ·
      refine Go_blk 2 (pc' := 1516) (L' := [(6, .int w6.1), (5, .int w3.1), (0, .ref 1000000), (1, .ref 0), (2, .ref 47), (3, .ref 698), (4, .int i)]) (S' := [.int (0 : Int32), .ref 698]) (h' := (hh X w3.2.2 w6.2)) (ab_blkD_ok rfl) ?_
      refine Go_lald (dl_ok rfl) fun v8 => ?_
      refine Go_blk 3 (pc' := 1521) (L' := [(6, .int w6.1), (5, .int w3.1), (0, .ref 1000000), (1, .ref 0), (2, .ref 47), (3, .ref 698), (4, .int i)]) (S' := [.int (lg_cmp v8 (w6.1.toInt64))]) (h' := (hh X w3.2.2 w6.2)) (ab_blkD_ok rfl) ?_
      refine Go_cmz (dl_ok rfl) rfl rfl ?_ ?_
      ·
        refine Go_blk 3 (pc' := 23) (L' := [(4, .int (i + (7 : Int32))), (6, .int w6.1), (5, .int w3.1), (0, .ref 1000000), (1, .ref 0), (2, .ref 47), (3, .ref 698)]) (S' := []) (h' := (hh X w3.2.2 w6.2)) (ab_blkD_ok rfl) ?_
        exact Go_jmp [(0, .ref 1000000), (1, .ref 0), (2, .ref 47), (3, .ref 698), (4, .int (i + (7 : Int32)))] rfl ⟨rfl, rfl, rfl, rfl, rfl, trivial⟩ (fun _ h => h)
      ·
        refine Go_inrS ?_
        refine Go_blk 1 (pc' := 1525) (L' := [(6, .int w6.1), (5, .int w3.1), (0, .ref 1000000), (1, .ref 0), (2, .ref 47), (3, .ref 698), (4, .int i)]) (S' := [.int (0 : Int32)]) (h' := (hh X w3.2.2 w6.2)) (ab_blkD_ok rfl) ?_
        exact Go_ret (fun _ h => h) (ab_enD_ok rfl)
    ·
      refine Go_blk 3 (pc' := 23) (L' := [(4, .int (i + (7 : Int32))), (6, .int w6.1), (5, .int w3.1), (0, .ref 1000000), (1, .ref 0), (2, .ref 47), (3, .ref 698)]) (S' := []) (h' := (hh X w3.2.2 w6.2)) (ab_blkD_ok rfl) ?_
      exact Go_jmp [(0, .ref 1000000), (1, .ref 0), (2, .ref 47), (3, .ref 698), (4, .int (i + (7 : Int32)))] rfl ⟨rfl, rfl, rfl, rfl, rfl, trivial⟩ (fun _ h => h)
  ·
    refine Go_inrS ?_
    refine Go_blk 1 (pc' := 1508) (L' := [(6, .int w6.1), (5, .int w3.1), (0, .ref 1000000), (1, .ref 0), (2, .ref 47), (3, .ref 698), (4, .int i)]) (S' := [.int (0 : Int32)]) (h' := (hh X w3.2.2 w6.2)) (ab_blkD_ok rfl) ?_
    exact Go_ret (fun _ h => h) (ab_enD_ok rfl)
set_option maxRecDepth 1000000 in
set_option maxHeartbeats 4000000 in
theorem gl_c22 {X : XX} {i : Int32} {I : MJ} {g : GG} {d : Nat} (hd : 86 ≤ d + 1) : Go (d + 1) 386 1529 [(0, .ref 1000000), (1, .ref 0), (2, .ref 47), (3, .ref 698), (4, .int i)] [] (hh X g I)
  (
  (Option.bind (rds X (i + (1 : Int32))) fun v1 =>
  (Option.bind (f_l_clashes193 v1 I g) fun w2 =>
  (Option.bind (rds X (i + (1 : Int32))) fun v3 =>
  (Option.bind (f_m_clashes349 v3 w2.2.1) fun w4 =>
  (Option.bind (f_m_thrown265 w4.2) fun v5 =>
  (if v5 = w2.1 then
  (if w2.1 = 0 then
  (Option.bind (rdl w2.2.2 698 (0 : Int32)) fun v6 =>
  (if (lg_cmp v6 (w4.1.toInt64)) = 0 then
  some (.inl ((i + (7 : Int32)), w4.2, w2.2.2))
  else
  some (.inr ((0 : Int32), w4.2, w2.2.2))
  )
  )
  else
  some (.inl ((i + (7 : Int32)), w4.2, w2.2.2))
  )
  else
  some (.inr ((0 : Int32), w4.2, w2.2.2))
  )
  )
  )
  )
  )
  )
  )
  (TL (d + 1) X) := by
  refine Go_blk 5 (pc' := 1535) (L' := [(0, .ref 1000000), (1, .ref 0), (2, .ref 47), (3, .ref 698), (4, .int i)]) (S' := [.int (i + (1 : Int32)), .ref 1000000, .ref 0]) (h' := (hh X g I)) (ab_blkD_ok rfl) ?_
  refine Go_ialds (dl_ok rfl) fun v1 => ?_
  refine Go_blk 1 (pc' := 1537) (L' := [(0, .ref 1000000), (1, .ref 0), (2, .ref 47), (3, .ref 698), (4, .int i)]) (S' := [.ref 698, .int v1, .ref 0]) (h' := (hh X g I)) (ab_blkD_ok rfl) ?_
  refine Go_cG (y' := 193) (As := [.ref 0, .int v1, .ref 698]) (r := []) (ab_clD_ok rfl) (g_l_clashes193 v1 (by omega)) fun w2 => ?_
  refine Go_blk 6 (pc' := 1548) (L' := [(5, .int w2.1), (0, .ref 1000000), (1, .ref 0), (2, .ref 47), (3, .ref 698), (4, .int i)]) (S' := [.int (i + (1 : Int32)), .ref 1000000, .ref 47]) (h' := (hh X w2.2.2 w2.2.1)) (ab_blkD_ok rfl) ?_
  refine Go_ialds (dl_ok rfl) fun v3 => ?_
  refine Go_cW (y' := 349) (As := [.ref 47, .int v3]) (r := []) (ab_clD_ok rfl) (g_m_clashes349 v3 (by omega)) fun w4 => ?_
  refine Go_blk 2 (pc' := 1555) (L' := [(6, .int w4.1), (5, .int w2.1), (0, .ref 1000000), (1, .ref 0), (2, .ref 47), (3, .ref 698), (4, .int i)]) (S' := [.ref 47]) (h' := (hh X w2.2.2 w4.2)) (ab_blkD_ok rfl) ?_
  refine Go_cR (y' := 265) (As := [.ref 47]) (r := []) (ab_clD_ok rfl) (g_m_thrown265  (by omega)) fun v5 => ?_
  refine Go_blk 1 (pc' := 1560) (L' := [(6, .int w4.1), (5, .int w2.1), (0, .ref 1000000), (1, .ref 0), (2, .ref 47), (3, .ref 698), (4, .int i)]) (S' := [.int w2.1, .int v5]) (h' := (hh X w2.2.2 w4.2)) (ab_blkD_ok rfl) ?_
  refine Go_cmp (dl_ok rfl) rfl rfl ?_ ?_
  ·
    refine Go_blk 1 (pc' := 1567) (L' := [(6, .int w4.1), (5, .int w2.1), (0, .ref 1000000), (1, .ref 0), (2, .ref 47), (3, .ref 698), (4, .int i)]) (S' := [.int w2.1]) (h' := (hh X w2.2.2 w4.2)) (ab_blkD_ok rfl) ?_
    refine Go_cmzn (dl_ok rfl) rfl rfl ?_ ?_
    ·
      refine Go_blk 2 (pc' := 1572) (L' := [(6, .int w4.1), (5, .int w2.1), (0, .ref 1000000), (1, .ref 0), (2, .ref 47), (3, .ref 698), (4, .int i)]) (S' := [.int (0 : Int32), .ref 698]) (h' := (hh X w2.2.2 w4.2)) (ab_blkD_ok rfl) ?_
      refine Go_lald (dl_ok rfl) fun v6 => ?_
      refine Go_blk 3 (pc' := 1577) (L' := [(6, .int w4.1), (5, .int w2.1), (0, .ref 1000000), (1, .ref 0), (2, .ref 47), (3, .ref 698), (4, .int i)]) (S' := [.int (lg_cmp v6 (w4.1.toInt64))]) (h' := (hh X w2.2.2 w4.2)) (ab_blkD_ok rfl) ?_
      refine Go_cmz (dl_ok rfl) rfl rfl ?_ ?_
      ·
        refine Go_blk 3 (pc' := 23) (L' := [(4, .int (i + (7 : Int32))), (6, .int w4.1), (5, .int w2.1), (0, .ref 1000000), (1, .ref 0), (2, .ref 47), (3, .ref 698)]) (S' := []) (h' := (hh X w2.2.2 w4.2)) (ab_blkD_ok rfl) ?_
        exact Go_jmp [(0, .ref 1000000), (1, .ref 0), (2, .ref 47), (3, .ref 698), (4, .int (i + (7 : Int32)))] rfl ⟨rfl, rfl, rfl, rfl, rfl, trivial⟩ (fun _ h => h)
      ·
        refine Go_inrS ?_
        refine Go_blk 1 (pc' := 1581) (L' := [(6, .int w4.1), (5, .int w2.1), (0, .ref 1000000), (1, .ref 0), (2, .ref 47), (3, .ref 698), (4, .int i)]) (S' := [.int (0 : Int32)]) (h' := (hh X w2.2.2 w4.2)) (ab_blkD_ok rfl) ?_
        exact Go_ret (fun _ h => h) (ab_enD_ok rfl)
    ·
      refine Go_blk 3 (pc' := 23) (L' := [(4, .int (i + (7 : Int32))), (6, .int w4.1), (5, .int w2.1), (0, .ref 1000000), (1, .ref 0), (2, .ref 47), (3, .ref 698)]) (S' := []) (h' := (hh X w2.2.2 w4.2)) (ab_blkD_ok rfl) ?_
      exact Go_jmp [(0, .ref 1000000), (1, .ref 0), (2, .ref 47), (3, .ref 698), (4, .int (i + (7 : Int32)))] rfl ⟨rfl, rfl, rfl, rfl, rfl, trivial⟩ (fun _ h => h)
  ·
    refine Go_inrS ?_
    refine Go_blk 1 (pc' := 1564) (L' := [(6, .int w4.1), (5, .int w2.1), (0, .ref 1000000), (1, .ref 0), (2, .ref 47), (3, .ref 698), (4, .int i)]) (S' := [.int (0 : Int32)]) (h' := (hh X w2.2.2 w4.2)) (ab_blkD_ok rfl) ?_
    exact Go_ret (fun _ h => h) (ab_enD_ok rfl)
set_option maxRecDepth 1000000 in
set_option maxHeartbeats 4000000 in
theorem gl_c23 {X : XX} {i : Int32} {I : MJ} {g : GG} {d : Nat} (hd : 86 ≤ d + 1) : Go (d + 1) 386 1585 [(0, .ref 1000000), (1, .ref 0), (2, .ref 47), (3, .ref 698), (4, .int i)] [] (hh X g I)
  (
  (Option.bind (rds X (i + (1 : Int32))) fun v1 =>
  (Option.bind (rds X (i + (2 : Int32))) fun v2 =>
  (Option.bind (f_l_mend197 v1 v2 I g) fun w3 =>
  (Option.bind (rds X (i + (1 : Int32))) fun v4 =>
  (Option.bind (rds X (i + (2 : Int32))) fun v5 =>
  (Option.bind (f_m_mend351 v4 v5 w3.2.1) fun w6 =>
  (Option.bind (f_m_thrown265 w6.2) fun v7 =>
  (if v7 = w3.1 then
  (if w3.1 = 0 then
  (Option.bind (rdl w3.2.2 698 (0 : Int32)) fun v8 =>
  (if (lg_cmp v8 (w6.1.toInt64)) = 0 then
  some (.inl ((i + (7 : Int32)), w6.2, w3.2.2))
  else
  some (.inr ((0 : Int32), w6.2, w3.2.2))
  )
  )
  else
  some (.inl ((i + (7 : Int32)), w6.2, w3.2.2))
  )
  else
  some (.inr ((0 : Int32), w6.2, w3.2.2))
  )
  )
  )
  )
  )
  )
  )
  )
  )
  (TL (d + 1) X) := by
  refine Go_blk 5 (pc' := 1591) (L' := [(0, .ref 1000000), (1, .ref 0), (2, .ref 47), (3, .ref 698), (4, .int i)]) (S' := [.int (i + (1 : Int32)), .ref 1000000, .ref 0]) (h' := (hh X g I)) (ab_blkD_ok rfl) ?_
  refine Go_ialds (dl_ok rfl) fun v1 => ?_
  refine Go_blk 4 (pc' := 1597) (L' := [(0, .ref 1000000), (1, .ref 0), (2, .ref 47), (3, .ref 698), (4, .int i)]) (S' := [.int (i + (2 : Int32)), .ref 1000000, .int v1, .ref 0]) (h' := (hh X g I)) (ab_blkD_ok rfl) ?_
  refine Go_ialds (dl_ok rfl) fun v2 => ?_
  refine Go_blk 1 (pc' := 1599) (L' := [(0, .ref 1000000), (1, .ref 0), (2, .ref 47), (3, .ref 698), (4, .int i)]) (S' := [.ref 698, .int v2, .int v1, .ref 0]) (h' := (hh X g I)) (ab_blkD_ok rfl) ?_
  refine Go_cG (y' := 197) (As := [.ref 0, .int v1, .int v2, .ref 698]) (r := []) (ab_clD_ok rfl) (g_l_mend197 v1 v2 (by omega)) fun w3 => ?_
  refine Go_blk 6 (pc' := 1610) (L' := [(5, .int w3.1), (0, .ref 1000000), (1, .ref 0), (2, .ref 47), (3, .ref 698), (4, .int i)]) (S' := [.int (i + (1 : Int32)), .ref 1000000, .ref 47]) (h' := (hh X w3.2.2 w3.2.1)) (ab_blkD_ok rfl) ?_
  refine Go_ialds (dl_ok rfl) fun v4 => ?_
  refine Go_blk 4 (pc' := 1616) (L' := [(5, .int w3.1), (0, .ref 1000000), (1, .ref 0), (2, .ref 47), (3, .ref 698), (4, .int i)]) (S' := [.int (i + (2 : Int32)), .ref 1000000, .int v4, .ref 47]) (h' := (hh X w3.2.2 w3.2.1)) (ab_blkD_ok rfl) ?_
  refine Go_ialds (dl_ok rfl) fun v5 => ?_
  refine Go_cW (y' := 351) (As := [.ref 47, .int v4, .int v5]) (r := []) (ab_clD_ok rfl) (g_m_mend351 v4 v5 (by omega)) fun w6 => ?_
  refine Go_blk 2 (pc' := 1623) (L' := [(6, .int w6.1), (5, .int w3.1), (0, .ref 1000000), (1, .ref 0), (2, .ref 47), (3, .ref 698), (4, .int i)]) (S' := [.ref 47]) (h' := (hh X w3.2.2 w6.2)) (ab_blkD_ok rfl) ?_
  refine Go_cR (y' := 265) (As := [.ref 47]) (r := []) (ab_clD_ok rfl) (g_m_thrown265  (by omega)) fun v7 => ?_
  refine Go_blk 1 (pc' := 1628) (L' := [(6, .int w6.1), (5, .int w3.1), (0, .ref 1000000), (1, .ref 0), (2, .ref 47), (3, .ref 698), (4, .int i)]) (S' := [.int w3.1, .int v7]) (h' := (hh X w3.2.2 w6.2)) (ab_blkD_ok rfl) ?_
  refine Go_cmp (dl_ok rfl) rfl rfl ?_ ?_
  ·
    refine Go_blk 1 (pc' := 1635) (L' := [(6, .int w6.1), (5, .int w3.1), (0, .ref 1000000), (1, .ref 0), (2, .ref 47), (3, .ref 698), (4, .int i)]) (S' := [.int w3.1]) (h' := (hh X w3.2.2 w6.2)) (ab_blkD_ok rfl) ?_
    refine Go_cmzn (dl_ok rfl) rfl rfl ?_ ?_
    ·
      refine Go_blk 2 (pc' := 1640) (L' := [(6, .int w6.1), (5, .int w3.1), (0, .ref 1000000), (1, .ref 0), (2, .ref 47), (3, .ref 698), (4, .int i)]) (S' := [.int (0 : Int32), .ref 698]) (h' := (hh X w3.2.2 w6.2)) (ab_blkD_ok rfl) ?_
      refine Go_lald (dl_ok rfl) fun v8 => ?_
      refine Go_blk 3 (pc' := 1645) (L' := [(6, .int w6.1), (5, .int w3.1), (0, .ref 1000000), (1, .ref 0), (2, .ref 47), (3, .ref 698), (4, .int i)]) (S' := [.int (lg_cmp v8 (w6.1.toInt64))]) (h' := (hh X w3.2.2 w6.2)) (ab_blkD_ok rfl) ?_
      refine Go_cmz (dl_ok rfl) rfl rfl ?_ ?_
      ·
        refine Go_blk 3 (pc' := 23) (L' := [(4, .int (i + (7 : Int32))), (6, .int w6.1), (5, .int w3.1), (0, .ref 1000000), (1, .ref 0), (2, .ref 47), (3, .ref 698)]) (S' := []) (h' := (hh X w3.2.2 w6.2)) (ab_blkD_ok rfl) ?_
        exact Go_jmp [(0, .ref 1000000), (1, .ref 0), (2, .ref 47), (3, .ref 698), (4, .int (i + (7 : Int32)))] rfl ⟨rfl, rfl, rfl, rfl, rfl, trivial⟩ (fun _ h => h)
      ·
        refine Go_inrS ?_
        refine Go_blk 1 (pc' := 1649) (L' := [(6, .int w6.1), (5, .int w3.1), (0, .ref 1000000), (1, .ref 0), (2, .ref 47), (3, .ref 698), (4, .int i)]) (S' := [.int (0 : Int32)]) (h' := (hh X w3.2.2 w6.2)) (ab_blkD_ok rfl) ?_
        exact Go_ret (fun _ h => h) (ab_enD_ok rfl)
    ·
      refine Go_blk 3 (pc' := 23) (L' := [(4, .int (i + (7 : Int32))), (6, .int w6.1), (5, .int w3.1), (0, .ref 1000000), (1, .ref 0), (2, .ref 47), (3, .ref 698)]) (S' := []) (h' := (hh X w3.2.2 w6.2)) (ab_blkD_ok rfl) ?_
      exact Go_jmp [(0, .ref 1000000), (1, .ref 0), (2, .ref 47), (3, .ref 698), (4, .int (i + (7 : Int32)))] rfl ⟨rfl, rfl, rfl, rfl, rfl, trivial⟩ (fun _ h => h)
  ·
    refine Go_inrS ?_
    refine Go_blk 1 (pc' := 1632) (L' := [(6, .int w6.1), (5, .int w3.1), (0, .ref 1000000), (1, .ref 0), (2, .ref 47), (3, .ref 698), (4, .int i)]) (S' := [.int (0 : Int32)]) (h' := (hh X w3.2.2 w6.2)) (ab_blkD_ok rfl) ?_
    exact Go_ret (fun _ h => h) (ab_enD_ok rfl)
set_option maxRecDepth 1000000 in
set_option maxHeartbeats 4000000 in
theorem gl_c24 {X : XX} {i : Int32} {I : MJ} {g : GG} {d : Nat} (hd : 86 ≤ d + 1) : Go (d + 1) 386 1653 [(0, .ref 1000000), (1, .ref 0), (2, .ref 47), (3, .ref 698), (4, .int i)] [] (hh X g I)
  (
  (Option.bind (rds X (i + (1 : Int32))) fun v1 =>
  (Option.bind (f_l_pieces202 v1 I g) fun w2 =>
  (Option.bind (rds X (i + (1 : Int32))) fun v3 =>
  (Option.bind (f_m_pieces352 v3 w2.2.1) fun w4 =>
  (Option.bind (f_m_thrown265 w4.2) fun v5 =>
  (if v5 = w2.1 then
  (if w2.1 = 0 then
  (Option.bind (rdl w2.2.2 698 (0 : Int32)) fun v6 =>
  (if (lg_cmp v6 (w4.1.toInt64)) = 0 then
  some (.inl ((i + (7 : Int32)), w4.2, w2.2.2))
  else
  some (.inr ((0 : Int32), w4.2, w2.2.2))
  )
  )
  else
  some (.inl ((i + (7 : Int32)), w4.2, w2.2.2))
  )
  else
  some (.inr ((0 : Int32), w4.2, w2.2.2))
  )
  )
  )
  )
  )
  )
  )
  (TL (d + 1) X) := by
  refine Go_blk 5 (pc' := 1659) (L' := [(0, .ref 1000000), (1, .ref 0), (2, .ref 47), (3, .ref 698), (4, .int i)]) (S' := [.int (i + (1 : Int32)), .ref 1000000, .ref 0]) (h' := (hh X g I)) (ab_blkD_ok rfl) ?_
  refine Go_ialds (dl_ok rfl) fun v1 => ?_
  refine Go_blk 1 (pc' := 1661) (L' := [(0, .ref 1000000), (1, .ref 0), (2, .ref 47), (3, .ref 698), (4, .int i)]) (S' := [.ref 698, .int v1, .ref 0]) (h' := (hh X g I)) (ab_blkD_ok rfl) ?_
  refine Go_cG (y' := 202) (As := [.ref 0, .int v1, .ref 698]) (r := []) (ab_clD_ok rfl) (g_l_pieces202 v1 (by omega)) fun w2 => ?_
  refine Go_blk 6 (pc' := 1672) (L' := [(5, .int w2.1), (0, .ref 1000000), (1, .ref 0), (2, .ref 47), (3, .ref 698), (4, .int i)]) (S' := [.int (i + (1 : Int32)), .ref 1000000, .ref 47]) (h' := (hh X w2.2.2 w2.2.1)) (ab_blkD_ok rfl) ?_
  refine Go_ialds (dl_ok rfl) fun v3 => ?_
  refine Go_cW (y' := 352) (As := [.ref 47, .int v3]) (r := []) (ab_clD_ok rfl) (g_m_pieces352 v3 (by omega)) fun w4 => ?_
  refine Go_blk 2 (pc' := 1679) (L' := [(6, .int w4.1), (5, .int w2.1), (0, .ref 1000000), (1, .ref 0), (2, .ref 47), (3, .ref 698), (4, .int i)]) (S' := [.ref 47]) (h' := (hh X w2.2.2 w4.2)) (ab_blkD_ok rfl) ?_
  refine Go_cR (y' := 265) (As := [.ref 47]) (r := []) (ab_clD_ok rfl) (g_m_thrown265  (by omega)) fun v5 => ?_
  refine Go_blk 1 (pc' := 1684) (L' := [(6, .int w4.1), (5, .int w2.1), (0, .ref 1000000), (1, .ref 0), (2, .ref 47), (3, .ref 698), (4, .int i)]) (S' := [.int w2.1, .int v5]) (h' := (hh X w2.2.2 w4.2)) (ab_blkD_ok rfl) ?_
  refine Go_cmp (dl_ok rfl) rfl rfl ?_ ?_
  ·
    refine Go_blk 1 (pc' := 1691) (L' := [(6, .int w4.1), (5, .int w2.1), (0, .ref 1000000), (1, .ref 0), (2, .ref 47), (3, .ref 698), (4, .int i)]) (S' := [.int w2.1]) (h' := (hh X w2.2.2 w4.2)) (ab_blkD_ok rfl) ?_
    refine Go_cmzn (dl_ok rfl) rfl rfl ?_ ?_
    ·
      refine Go_blk 2 (pc' := 1696) (L' := [(6, .int w4.1), (5, .int w2.1), (0, .ref 1000000), (1, .ref 0), (2, .ref 47), (3, .ref 698), (4, .int i)]) (S' := [.int (0 : Int32), .ref 698]) (h' := (hh X w2.2.2 w4.2)) (ab_blkD_ok rfl) ?_
      refine Go_lald (dl_ok rfl) fun v6 => ?_
      refine Go_blk 3 (pc' := 1701) (L' := [(6, .int w4.1), (5, .int w2.1), (0, .ref 1000000), (1, .ref 0), (2, .ref 47), (3, .ref 698), (4, .int i)]) (S' := [.int (lg_cmp v6 (w4.1.toInt64))]) (h' := (hh X w2.2.2 w4.2)) (ab_blkD_ok rfl) ?_
      refine Go_cmz (dl_ok rfl) rfl rfl ?_ ?_
      ·
        refine Go_blk 3 (pc' := 23) (L' := [(4, .int (i + (7 : Int32))), (6, .int w4.1), (5, .int w2.1), (0, .ref 1000000), (1, .ref 0), (2, .ref 47), (3, .ref 698)]) (S' := []) (h' := (hh X w2.2.2 w4.2)) (ab_blkD_ok rfl) ?_
        exact Go_jmp [(0, .ref 1000000), (1, .ref 0), (2, .ref 47), (3, .ref 698), (4, .int (i + (7 : Int32)))] rfl ⟨rfl, rfl, rfl, rfl, rfl, trivial⟩ (fun _ h => h)
      ·
        refine Go_inrS ?_
        refine Go_blk 1 (pc' := 1705) (L' := [(6, .int w4.1), (5, .int w2.1), (0, .ref 1000000), (1, .ref 0), (2, .ref 47), (3, .ref 698), (4, .int i)]) (S' := [.int (0 : Int32)]) (h' := (hh X w2.2.2 w4.2)) (ab_blkD_ok rfl) ?_
        exact Go_ret (fun _ h => h) (ab_enD_ok rfl)
    ·
      refine Go_blk 3 (pc' := 23) (L' := [(4, .int (i + (7 : Int32))), (6, .int w4.1), (5, .int w2.1), (0, .ref 1000000), (1, .ref 0), (2, .ref 47), (3, .ref 698)]) (S' := []) (h' := (hh X w2.2.2 w4.2)) (ab_blkD_ok rfl) ?_
      exact Go_jmp [(0, .ref 1000000), (1, .ref 0), (2, .ref 47), (3, .ref 698), (4, .int (i + (7 : Int32)))] rfl ⟨rfl, rfl, rfl, rfl, rfl, trivial⟩ (fun _ h => h)
  ·
    refine Go_inrS ?_
    refine Go_blk 1 (pc' := 1688) (L' := [(6, .int w4.1), (5, .int w2.1), (0, .ref 1000000), (1, .ref 0), (2, .ref 47), (3, .ref 698), (4, .int i)]) (S' := [.int (0 : Int32)]) (h' := (hh X w2.2.2 w4.2)) (ab_blkD_ok rfl) ?_
    exact Go_ret (fun _ h => h) (ab_enD_ok rfl)
set_option maxRecDepth 1000000 in
set_option maxHeartbeats 4000000 in
theorem gl_c25 {X : XX} {i : Int32} {I : MJ} {g : GG} {d : Nat} (hd : 86 ≤ d + 1) : Go (d + 1) 386 1709 [(0, .ref 1000000), (1, .ref 0), (2, .ref 47), (3, .ref 698), (4, .int i)] [] (hh X g I)
  (
  (Option.bind (rds X (i + (1 : Int32))) fun v1 =>
  (Option.bind (rds X (i + (2 : Int32))) fun v2 =>
  (Option.bind (f_l_sewn213 v1 v2 I g) fun w3 =>
  (Option.bind (rds X (i + (1 : Int32))) fun v4 =>
  (Option.bind (rds X (i + (2 : Int32))) fun v5 =>
  (Option.bind (f_m_sewn357 v4 v5 w3.2.1) fun w6 =>
  (Option.bind (f_m_thrown265 w6.2) fun v7 =>
  (if v7 = w3.1 then
  (if w3.1 = 0 then
  (Option.bind (rdl w3.2.2 698 (0 : Int32)) fun v8 =>
  (if (lg_cmp v8 (w6.1.toInt64)) = 0 then
  some (.inl ((i + (7 : Int32)), w6.2, w3.2.2))
  else
  some (.inr ((0 : Int32), w6.2, w3.2.2))
  )
  )
  else
  some (.inl ((i + (7 : Int32)), w6.2, w3.2.2))
  )
  else
  some (.inr ((0 : Int32), w6.2, w3.2.2))
  )
  )
  )
  )
  )
  )
  )
  )
  )
  (TL (d + 1) X) := by
  refine Go_blk 5 (pc' := 1715) (L' := [(0, .ref 1000000), (1, .ref 0), (2, .ref 47), (3, .ref 698), (4, .int i)]) (S' := [.int (i + (1 : Int32)), .ref 1000000, .ref 0]) (h' := (hh X g I)) (ab_blkD_ok rfl) ?_
  refine Go_ialds (dl_ok rfl) fun v1 => ?_
  refine Go_blk 4 (pc' := 1721) (L' := [(0, .ref 1000000), (1, .ref 0), (2, .ref 47), (3, .ref 698), (4, .int i)]) (S' := [.int (i + (2 : Int32)), .ref 1000000, .int v1, .ref 0]) (h' := (hh X g I)) (ab_blkD_ok rfl) ?_
  refine Go_ialds (dl_ok rfl) fun v2 => ?_
  refine Go_blk 1 (pc' := 1723) (L' := [(0, .ref 1000000), (1, .ref 0), (2, .ref 47), (3, .ref 698), (4, .int i)]) (S' := [.ref 698, .int v2, .int v1, .ref 0]) (h' := (hh X g I)) (ab_blkD_ok rfl) ?_
  refine Go_cG (y' := 213) (As := [.ref 0, .int v1, .int v2, .ref 698]) (r := []) (ab_clD_ok rfl) (g_l_sewn213 v1 v2 (by omega)) fun w3 => ?_
  refine Go_blk 6 (pc' := 1734) (L' := [(5, .int w3.1), (0, .ref 1000000), (1, .ref 0), (2, .ref 47), (3, .ref 698), (4, .int i)]) (S' := [.int (i + (1 : Int32)), .ref 1000000, .ref 47]) (h' := (hh X w3.2.2 w3.2.1)) (ab_blkD_ok rfl) ?_
  refine Go_ialds (dl_ok rfl) fun v4 => ?_
  refine Go_blk 4 (pc' := 1740) (L' := [(5, .int w3.1), (0, .ref 1000000), (1, .ref 0), (2, .ref 47), (3, .ref 698), (4, .int i)]) (S' := [.int (i + (2 : Int32)), .ref 1000000, .int v4, .ref 47]) (h' := (hh X w3.2.2 w3.2.1)) (ab_blkD_ok rfl) ?_
  refine Go_ialds (dl_ok rfl) fun v5 => ?_
  refine Go_cW (y' := 357) (As := [.ref 47, .int v4, .int v5]) (r := []) (ab_clD_ok rfl) (g_m_sewn357 v4 v5 (by omega)) fun w6 => ?_
  refine Go_blk 2 (pc' := 1747) (L' := [(6, .int w6.1), (5, .int w3.1), (0, .ref 1000000), (1, .ref 0), (2, .ref 47), (3, .ref 698), (4, .int i)]) (S' := [.ref 47]) (h' := (hh X w3.2.2 w6.2)) (ab_blkD_ok rfl) ?_
  refine Go_cR (y' := 265) (As := [.ref 47]) (r := []) (ab_clD_ok rfl) (g_m_thrown265  (by omega)) fun v7 => ?_
  refine Go_blk 1 (pc' := 1752) (L' := [(6, .int w6.1), (5, .int w3.1), (0, .ref 1000000), (1, .ref 0), (2, .ref 47), (3, .ref 698), (4, .int i)]) (S' := [.int w3.1, .int v7]) (h' := (hh X w3.2.2 w6.2)) (ab_blkD_ok rfl) ?_
  refine Go_cmp (dl_ok rfl) rfl rfl ?_ ?_
  ·
    refine Go_blk 1 (pc' := 1759) (L' := [(6, .int w6.1), (5, .int w3.1), (0, .ref 1000000), (1, .ref 0), (2, .ref 47), (3, .ref 698), (4, .int i)]) (S' := [.int w3.1]) (h' := (hh X w3.2.2 w6.2)) (ab_blkD_ok rfl) ?_
    refine Go_cmzn (dl_ok rfl) rfl rfl ?_ ?_
    ·
      refine Go_blk 2 (pc' := 1764) (L' := [(6, .int w6.1), (5, .int w3.1), (0, .ref 1000000), (1, .ref 0), (2, .ref 47), (3, .ref 698), (4, .int i)]) (S' := [.int (0 : Int32), .ref 698]) (h' := (hh X w3.2.2 w6.2)) (ab_blkD_ok rfl) ?_
      refine Go_lald (dl_ok rfl) fun v8 => ?_
      refine Go_blk 3 (pc' := 1769) (L' := [(6, .int w6.1), (5, .int w3.1), (0, .ref 1000000), (1, .ref 0), (2, .ref 47), (3, .ref 698), (4, .int i)]) (S' := [.int (lg_cmp v8 (w6.1.toInt64))]) (h' := (hh X w3.2.2 w6.2)) (ab_blkD_ok rfl) ?_
      refine Go_cmz (dl_ok rfl) rfl rfl ?_ ?_
      ·
        refine Go_blk 3 (pc' := 23) (L' := [(4, .int (i + (7 : Int32))), (6, .int w6.1), (5, .int w3.1), (0, .ref 1000000), (1, .ref 0), (2, .ref 47), (3, .ref 698)]) (S' := []) (h' := (hh X w3.2.2 w6.2)) (ab_blkD_ok rfl) ?_
        exact Go_jmp [(0, .ref 1000000), (1, .ref 0), (2, .ref 47), (3, .ref 698), (4, .int (i + (7 : Int32)))] rfl ⟨rfl, rfl, rfl, rfl, rfl, trivial⟩ (fun _ h => h)
      ·
        refine Go_inrS ?_
        refine Go_blk 1 (pc' := 1773) (L' := [(6, .int w6.1), (5, .int w3.1), (0, .ref 1000000), (1, .ref 0), (2, .ref 47), (3, .ref 698), (4, .int i)]) (S' := [.int (0 : Int32)]) (h' := (hh X w3.2.2 w6.2)) (ab_blkD_ok rfl) ?_
        exact Go_ret (fun _ h => h) (ab_enD_ok rfl)
    ·
      refine Go_blk 3 (pc' := 23) (L' := [(4, .int (i + (7 : Int32))), (6, .int w6.1), (5, .int w3.1), (0, .ref 1000000), (1, .ref 0), (2, .ref 47), (3, .ref 698)]) (S' := []) (h' := (hh X w3.2.2 w6.2)) (ab_blkD_ok rfl) ?_
      exact Go_jmp [(0, .ref 1000000), (1, .ref 0), (2, .ref 47), (3, .ref 698), (4, .int (i + (7 : Int32)))] rfl ⟨rfl, rfl, rfl, rfl, rfl, trivial⟩ (fun _ h => h)
  ·
    refine Go_inrS ?_
    refine Go_blk 1 (pc' := 1756) (L' := [(6, .int w6.1), (5, .int w3.1), (0, .ref 1000000), (1, .ref 0), (2, .ref 47), (3, .ref 698), (4, .int i)]) (S' := [.int (0 : Int32)]) (h' := (hh X w3.2.2 w6.2)) (ab_blkD_ok rfl) ?_
    exact Go_ret (fun _ h => h) (ab_enD_ok rfl)
set_option maxRecDepth 1000000 in
set_option maxHeartbeats 4000000 in
theorem gl_c26 {X : XX} {i : Int32} {I : MJ} {g : GG} {d : Nat} (hd : 86 ≤ d + 1) : Go (d + 1) 386 1777 [(0, .ref 1000000), (1, .ref 0), (2, .ref 47), (3, .ref 698), (4, .int i)] [] (hh X g I)
  (
  (Option.bind (rds X (i + (1 : Int32))) fun v1 =>
  (Option.bind (f_l_words219 v1 I g) fun w2 =>
  (Option.bind (rds X (i + (1 : Int32))) fun v3 =>
  (Option.bind (f_m_words359 v3 w2.2.1) fun w4 =>
  (Option.bind (f_m_thrown265 w4.2) fun v5 =>
  (if v5 = w2.1 then
  (if w2.1 = 0 then
  (Option.bind (rdl w2.2.2 698 (0 : Int32)) fun v6 =>
  (if (lg_cmp v6 (w4.1.toInt64)) = 0 then
  some (.inl ((i + (7 : Int32)), w4.2, w2.2.2))
  else
  some (.inr ((0 : Int32), w4.2, w2.2.2))
  )
  )
  else
  some (.inl ((i + (7 : Int32)), w4.2, w2.2.2))
  )
  else
  some (.inr ((0 : Int32), w4.2, w2.2.2))
  )
  )
  )
  )
  )
  )
  )
  (TL (d + 1) X) := by
  refine Go_blk 5 (pc' := 1783) (L' := [(0, .ref 1000000), (1, .ref 0), (2, .ref 47), (3, .ref 698), (4, .int i)]) (S' := [.int (i + (1 : Int32)), .ref 1000000, .ref 0]) (h' := (hh X g I)) (ab_blkD_ok rfl) ?_
  refine Go_ialds (dl_ok rfl) fun v1 => ?_
  refine Go_blk 1 (pc' := 1785) (L' := [(0, .ref 1000000), (1, .ref 0), (2, .ref 47), (3, .ref 698), (4, .int i)]) (S' := [.ref 698, .int v1, .ref 0]) (h' := (hh X g I)) (ab_blkD_ok rfl) ?_
  refine Go_cG (y' := 219) (As := [.ref 0, .int v1, .ref 698]) (r := []) (ab_clD_ok rfl) (g_l_words219 v1 (by omega)) fun w2 => ?_
  refine Go_blk 6 (pc' := 1796) (L' := [(5, .int w2.1), (0, .ref 1000000), (1, .ref 0), (2, .ref 47), (3, .ref 698), (4, .int i)]) (S' := [.int (i + (1 : Int32)), .ref 1000000, .ref 47]) (h' := (hh X w2.2.2 w2.2.1)) (ab_blkD_ok rfl) ?_
  refine Go_ialds (dl_ok rfl) fun v3 => ?_
  refine Go_cW (y' := 359) (As := [.ref 47, .int v3]) (r := []) (ab_clD_ok rfl) (g_m_words359 v3 (by omega)) fun w4 => ?_
  refine Go_blk 2 (pc' := 1803) (L' := [(6, .int w4.1), (5, .int w2.1), (0, .ref 1000000), (1, .ref 0), (2, .ref 47), (3, .ref 698), (4, .int i)]) (S' := [.ref 47]) (h' := (hh X w2.2.2 w4.2)) (ab_blkD_ok rfl) ?_
  refine Go_cR (y' := 265) (As := [.ref 47]) (r := []) (ab_clD_ok rfl) (g_m_thrown265  (by omega)) fun v5 => ?_
  refine Go_blk 1 (pc' := 1808) (L' := [(6, .int w4.1), (5, .int w2.1), (0, .ref 1000000), (1, .ref 0), (2, .ref 47), (3, .ref 698), (4, .int i)]) (S' := [.int w2.1, .int v5]) (h' := (hh X w2.2.2 w4.2)) (ab_blkD_ok rfl) ?_
  refine Go_cmp (dl_ok rfl) rfl rfl ?_ ?_
  ·
    refine Go_blk 1 (pc' := 1815) (L' := [(6, .int w4.1), (5, .int w2.1), (0, .ref 1000000), (1, .ref 0), (2, .ref 47), (3, .ref 698), (4, .int i)]) (S' := [.int w2.1]) (h' := (hh X w2.2.2 w4.2)) (ab_blkD_ok rfl) ?_
    refine Go_cmzn (dl_ok rfl) rfl rfl ?_ ?_
    ·
      refine Go_blk 2 (pc' := 1820) (L' := [(6, .int w4.1), (5, .int w2.1), (0, .ref 1000000), (1, .ref 0), (2, .ref 47), (3, .ref 698), (4, .int i)]) (S' := [.int (0 : Int32), .ref 698]) (h' := (hh X w2.2.2 w4.2)) (ab_blkD_ok rfl) ?_
      refine Go_lald (dl_ok rfl) fun v6 => ?_
      refine Go_blk 3 (pc' := 1825) (L' := [(6, .int w4.1), (5, .int w2.1), (0, .ref 1000000), (1, .ref 0), (2, .ref 47), (3, .ref 698), (4, .int i)]) (S' := [.int (lg_cmp v6 (w4.1.toInt64))]) (h' := (hh X w2.2.2 w4.2)) (ab_blkD_ok rfl) ?_
      refine Go_cmz (dl_ok rfl) rfl rfl ?_ ?_
      ·
        refine Go_blk 3 (pc' := 23) (L' := [(4, .int (i + (7 : Int32))), (6, .int w4.1), (5, .int w2.1), (0, .ref 1000000), (1, .ref 0), (2, .ref 47), (3, .ref 698)]) (S' := []) (h' := (hh X w2.2.2 w4.2)) (ab_blkD_ok rfl) ?_
        exact Go_jmp [(0, .ref 1000000), (1, .ref 0), (2, .ref 47), (3, .ref 698), (4, .int (i + (7 : Int32)))] rfl ⟨rfl, rfl, rfl, rfl, rfl, trivial⟩ (fun _ h => h)
      ·
        refine Go_inrS ?_
        refine Go_blk 1 (pc' := 1829) (L' := [(6, .int w4.1), (5, .int w2.1), (0, .ref 1000000), (1, .ref 0), (2, .ref 47), (3, .ref 698), (4, .int i)]) (S' := [.int (0 : Int32)]) (h' := (hh X w2.2.2 w4.2)) (ab_blkD_ok rfl) ?_
        exact Go_ret (fun _ h => h) (ab_enD_ok rfl)
    ·
      refine Go_blk 3 (pc' := 23) (L' := [(4, .int (i + (7 : Int32))), (6, .int w4.1), (5, .int w2.1), (0, .ref 1000000), (1, .ref 0), (2, .ref 47), (3, .ref 698)]) (S' := []) (h' := (hh X w2.2.2 w4.2)) (ab_blkD_ok rfl) ?_
      exact Go_jmp [(0, .ref 1000000), (1, .ref 0), (2, .ref 47), (3, .ref 698), (4, .int (i + (7 : Int32)))] rfl ⟨rfl, rfl, rfl, rfl, rfl, trivial⟩ (fun _ h => h)
  ·
    refine Go_inrS ?_
    refine Go_blk 1 (pc' := 1812) (L' := [(6, .int w4.1), (5, .int w2.1), (0, .ref 1000000), (1, .ref 0), (2, .ref 47), (3, .ref 698), (4, .int i)]) (S' := [.int (0 : Int32)]) (h' := (hh X w2.2.2 w4.2)) (ab_blkD_ok rfl) ?_
    exact Go_ret (fun _ h => h) (ab_enD_ok rfl)
set_option maxRecDepth 1000000 in
set_option maxHeartbeats 4000000 in
theorem gl_c27 {X : XX} {i : Int32} {I : MJ} {g : GG} {d : Nat} (hd : 86 ≤ d + 1) : Go (d + 1) 386 1833 [(0, .ref 1000000), (1, .ref 0), (2, .ref 47), (3, .ref 698), (4, .int i)] [] (hh X g I)
  (
  (Option.bind (rds X (i + (1 : Int32))) fun v1 =>
  (Option.bind (rds X (i + (2 : Int32))) fun v2 =>
  (Option.bind (f_l_offers222 v1 v2 I g) fun w3 =>
  (Option.bind (rds X (i + (1 : Int32))) fun v4 =>
  (Option.bind (rds X (i + (2 : Int32))) fun v5 =>
  (Option.bind (f_m_offers360 v4 v5 w3.2.1) fun w6 =>
  (Option.bind (f_m_thrown265 w6.2) fun v7 =>
  (if v7 = w3.1 then
  (if w3.1 = 0 then
  (Option.bind (rdl w3.2.2 698 (0 : Int32)) fun v8 =>
  (if (lg_cmp v8 w6.1) = 0 then
  some (.inl ((i + (7 : Int32)), w6.2, w3.2.2))
  else
  some (.inr ((0 : Int32), w6.2, w3.2.2))
  )
  )
  else
  some (.inl ((i + (7 : Int32)), w6.2, w3.2.2))
  )
  else
  some (.inr ((0 : Int32), w6.2, w3.2.2))
  )
  )
  )
  )
  )
  )
  )
  )
  )
  (TL (d + 1) X) := by
  refine Go_blk 5 (pc' := 1839) (L' := [(0, .ref 1000000), (1, .ref 0), (2, .ref 47), (3, .ref 698), (4, .int i)]) (S' := [.int (i + (1 : Int32)), .ref 1000000, .ref 0]) (h' := (hh X g I)) (ab_blkD_ok rfl) ?_
  refine Go_ialds (dl_ok rfl) fun v1 => ?_
  refine Go_blk 4 (pc' := 1845) (L' := [(0, .ref 1000000), (1, .ref 0), (2, .ref 47), (3, .ref 698), (4, .int i)]) (S' := [.int (i + (2 : Int32)), .ref 1000000, .int v1, .ref 0]) (h' := (hh X g I)) (ab_blkD_ok rfl) ?_
  refine Go_ialds (dl_ok rfl) fun v2 => ?_
  refine Go_blk 1 (pc' := 1847) (L' := [(0, .ref 1000000), (1, .ref 0), (2, .ref 47), (3, .ref 698), (4, .int i)]) (S' := [.ref 698, .int v2, .int v1, .ref 0]) (h' := (hh X g I)) (ab_blkD_ok rfl) ?_
  refine Go_cG (y' := 222) (As := [.ref 0, .int v1, .int v2, .ref 698]) (r := []) (ab_clD_ok rfl) (g_l_offers222 v1 v2 (by omega)) fun w3 => ?_
  refine Go_blk 6 (pc' := 1858) (L' := [(5, .int w3.1), (0, .ref 1000000), (1, .ref 0), (2, .ref 47), (3, .ref 698), (4, .int i)]) (S' := [.int (i + (1 : Int32)), .ref 1000000, .ref 47]) (h' := (hh X w3.2.2 w3.2.1)) (ab_blkD_ok rfl) ?_
  refine Go_ialds (dl_ok rfl) fun v4 => ?_
  refine Go_blk 4 (pc' := 1864) (L' := [(5, .int w3.1), (0, .ref 1000000), (1, .ref 0), (2, .ref 47), (3, .ref 698), (4, .int i)]) (S' := [.int (i + (2 : Int32)), .ref 1000000, .int v4, .ref 47]) (h' := (hh X w3.2.2 w3.2.1)) (ab_blkD_ok rfl) ?_
  refine Go_ialds (dl_ok rfl) fun v5 => ?_
  refine Go_cWJ (y' := 360) (As := [.ref 47, .int v4, .int v5]) (r := []) (ab_clD_ok rfl) (g_m_offers360 v4 v5 (by omega)) fun w6 => ?_
  refine Go_blk 2 (pc' := 1871) (L' := [(6, .long w6.1), (5, .int w3.1), (0, .ref 1000000), (1, .ref 0), (2, .ref 47), (3, .ref 698), (4, .int i)]) (S' := [.ref 47]) (h' := (hh X w3.2.2 w6.2)) (ab_blkD_ok rfl) ?_
  refine Go_cR (y' := 265) (As := [.ref 47]) (r := []) (ab_clD_ok rfl) (g_m_thrown265  (by omega)) fun v7 => ?_
  refine Go_blk 1 (pc' := 1876) (L' := [(6, .long w6.1), (5, .int w3.1), (0, .ref 1000000), (1, .ref 0), (2, .ref 47), (3, .ref 698), (4, .int i)]) (S' := [.int w3.1, .int v7]) (h' := (hh X w3.2.2 w6.2)) (ab_blkD_ok rfl) ?_
  refine Go_cmp (dl_ok rfl) rfl rfl ?_ ?_
  ·
    refine Go_blk 1 (pc' := 1883) (L' := [(6, .long w6.1), (5, .int w3.1), (0, .ref 1000000), (1, .ref 0), (2, .ref 47), (3, .ref 698), (4, .int i)]) (S' := [.int w3.1]) (h' := (hh X w3.2.2 w6.2)) (ab_blkD_ok rfl) ?_
    refine Go_cmzn (dl_ok rfl) rfl rfl ?_ ?_
    ·
      refine Go_blk 2 (pc' := 1888) (L' := [(6, .long w6.1), (5, .int w3.1), (0, .ref 1000000), (1, .ref 0), (2, .ref 47), (3, .ref 698), (4, .int i)]) (S' := [.int (0 : Int32), .ref 698]) (h' := (hh X w3.2.2 w6.2)) (ab_blkD_ok rfl) ?_
      refine Go_lald (dl_ok rfl) fun v8 => ?_
      refine Go_blk 2 (pc' := 1892) (L' := [(6, .long w6.1), (5, .int w3.1), (0, .ref 1000000), (1, .ref 0), (2, .ref 47), (3, .ref 698), (4, .int i)]) (S' := [.int (lg_cmp v8 w6.1)]) (h' := (hh X w3.2.2 w6.2)) (ab_blkD_ok rfl) ?_
      refine Go_cmz (dl_ok rfl) rfl rfl ?_ ?_
      ·
        refine Go_blk 3 (pc' := 23) (L' := [(4, .int (i + (7 : Int32))), (6, .long w6.1), (5, .int w3.1), (0, .ref 1000000), (1, .ref 0), (2, .ref 47), (3, .ref 698)]) (S' := []) (h' := (hh X w3.2.2 w6.2)) (ab_blkD_ok rfl) ?_
        exact Go_jmp [(0, .ref 1000000), (1, .ref 0), (2, .ref 47), (3, .ref 698), (4, .int (i + (7 : Int32)))] rfl ⟨rfl, rfl, rfl, rfl, rfl, trivial⟩ (fun _ h => h)
      ·
        refine Go_inrS ?_
        refine Go_blk 1 (pc' := 1896) (L' := [(6, .long w6.1), (5, .int w3.1), (0, .ref 1000000), (1, .ref 0), (2, .ref 47), (3, .ref 698), (4, .int i)]) (S' := [.int (0 : Int32)]) (h' := (hh X w3.2.2 w6.2)) (ab_blkD_ok rfl) ?_
        exact Go_ret (fun _ h => h) (ab_enD_ok rfl)
    ·
      refine Go_blk 3 (pc' := 23) (L' := [(4, .int (i + (7 : Int32))), (6, .long w6.1), (5, .int w3.1), (0, .ref 1000000), (1, .ref 0), (2, .ref 47), (3, .ref 698)]) (S' := []) (h' := (hh X w3.2.2 w6.2)) (ab_blkD_ok rfl) ?_
      exact Go_jmp [(0, .ref 1000000), (1, .ref 0), (2, .ref 47), (3, .ref 698), (4, .int (i + (7 : Int32)))] rfl ⟨rfl, rfl, rfl, rfl, rfl, trivial⟩ (fun _ h => h)
  ·
    refine Go_inrS ?_
    refine Go_blk 1 (pc' := 1880) (L' := [(6, .long w6.1), (5, .int w3.1), (0, .ref 1000000), (1, .ref 0), (2, .ref 47), (3, .ref 698), (4, .int i)]) (S' := [.int (0 : Int32)]) (h' := (hh X w3.2.2 w6.2)) (ab_blkD_ok rfl) ?_
    exact Go_ret (fun _ h => h) (ab_enD_ok rfl)
set_option maxRecDepth 1000000 in
set_option maxHeartbeats 4000000 in
theorem gl_c28 {X : XX} {i : Int32} {I : MJ} {g : GG} {d : Nat} (hd : 86 ≤ d + 1) : Go (d + 1) 386 1900 [(0, .ref 1000000), (1, .ref 0), (2, .ref 47), (3, .ref 698), (4, .int i)] [] (hh X g I)
  (
  (Option.bind (rds X (i + (1 : Int32))) fun v1 =>
  (Option.bind (f_l_line227 v1 I g) fun w2 =>
  (Option.bind (rds X (i + (1 : Int32))) fun v3 =>
  (Option.bind (f_m_line363 v3 w2.2.1) fun w4 =>
  (Option.bind (f_m_thrown265 w4.2) fun v5 =>
  (if v5 = w2.1 then
  (if w2.1 = 0 then
  (Option.bind (rdl w2.2.2 698 (0 : Int32)) fun v6 =>
  (if (lg_cmp v6 (w4.1.toInt64)) = 0 then
  some (.inl ((i + (7 : Int32)), w4.2, w2.2.2))
  else
  some (.inr ((0 : Int32), w4.2, w2.2.2))
  )
  )
  else
  some (.inl ((i + (7 : Int32)), w4.2, w2.2.2))
  )
  else
  some (.inr ((0 : Int32), w4.2, w2.2.2))
  )
  )
  )
  )
  )
  )
  )
  (TL (d + 1) X) := by
  refine Go_blk 5 (pc' := 1906) (L' := [(0, .ref 1000000), (1, .ref 0), (2, .ref 47), (3, .ref 698), (4, .int i)]) (S' := [.int (i + (1 : Int32)), .ref 1000000, .ref 0]) (h' := (hh X g I)) (ab_blkD_ok rfl) ?_
  refine Go_ialds (dl_ok rfl) fun v1 => ?_
  refine Go_blk 1 (pc' := 1908) (L' := [(0, .ref 1000000), (1, .ref 0), (2, .ref 47), (3, .ref 698), (4, .int i)]) (S' := [.ref 698, .int v1, .ref 0]) (h' := (hh X g I)) (ab_blkD_ok rfl) ?_
  refine Go_cG (y' := 227) (As := [.ref 0, .int v1, .ref 698]) (r := []) (ab_clD_ok rfl) (g_l_line227 v1 (by omega)) fun w2 => ?_
  refine Go_blk 6 (pc' := 1919) (L' := [(5, .int w2.1), (0, .ref 1000000), (1, .ref 0), (2, .ref 47), (3, .ref 698), (4, .int i)]) (S' := [.int (i + (1 : Int32)), .ref 1000000, .ref 47]) (h' := (hh X w2.2.2 w2.2.1)) (ab_blkD_ok rfl) ?_
  refine Go_ialds (dl_ok rfl) fun v3 => ?_
  refine Go_cW (y' := 363) (As := [.ref 47, .int v3]) (r := []) (ab_clD_ok rfl) (g_m_line363 v3 (by omega)) fun w4 => ?_
  refine Go_blk 2 (pc' := 1926) (L' := [(6, .int w4.1), (5, .int w2.1), (0, .ref 1000000), (1, .ref 0), (2, .ref 47), (3, .ref 698), (4, .int i)]) (S' := [.ref 47]) (h' := (hh X w2.2.2 w4.2)) (ab_blkD_ok rfl) ?_
  refine Go_cR (y' := 265) (As := [.ref 47]) (r := []) (ab_clD_ok rfl) (g_m_thrown265  (by omega)) fun v5 => ?_
  refine Go_blk 1 (pc' := 1931) (L' := [(6, .int w4.1), (5, .int w2.1), (0, .ref 1000000), (1, .ref 0), (2, .ref 47), (3, .ref 698), (4, .int i)]) (S' := [.int w2.1, .int v5]) (h' := (hh X w2.2.2 w4.2)) (ab_blkD_ok rfl) ?_
  refine Go_cmp (dl_ok rfl) rfl rfl ?_ ?_
  ·
    refine Go_blk 1 (pc' := 1938) (L' := [(6, .int w4.1), (5, .int w2.1), (0, .ref 1000000), (1, .ref 0), (2, .ref 47), (3, .ref 698), (4, .int i)]) (S' := [.int w2.1]) (h' := (hh X w2.2.2 w4.2)) (ab_blkD_ok rfl) ?_
    refine Go_cmzn (dl_ok rfl) rfl rfl ?_ ?_
    ·
      refine Go_blk 2 (pc' := 1943) (L' := [(6, .int w4.1), (5, .int w2.1), (0, .ref 1000000), (1, .ref 0), (2, .ref 47), (3, .ref 698), (4, .int i)]) (S' := [.int (0 : Int32), .ref 698]) (h' := (hh X w2.2.2 w4.2)) (ab_blkD_ok rfl) ?_
      refine Go_lald (dl_ok rfl) fun v6 => ?_
      refine Go_blk 3 (pc' := 1948) (L' := [(6, .int w4.1), (5, .int w2.1), (0, .ref 1000000), (1, .ref 0), (2, .ref 47), (3, .ref 698), (4, .int i)]) (S' := [.int (lg_cmp v6 (w4.1.toInt64))]) (h' := (hh X w2.2.2 w4.2)) (ab_blkD_ok rfl) ?_
      refine Go_cmz (dl_ok rfl) rfl rfl ?_ ?_
      ·
        refine Go_blk 3 (pc' := 23) (L' := [(4, .int (i + (7 : Int32))), (6, .int w4.1), (5, .int w2.1), (0, .ref 1000000), (1, .ref 0), (2, .ref 47), (3, .ref 698)]) (S' := []) (h' := (hh X w2.2.2 w4.2)) (ab_blkD_ok rfl) ?_
        exact Go_jmp [(0, .ref 1000000), (1, .ref 0), (2, .ref 47), (3, .ref 698), (4, .int (i + (7 : Int32)))] rfl ⟨rfl, rfl, rfl, rfl, rfl, trivial⟩ (fun _ h => h)
      ·
        refine Go_inrS ?_
        refine Go_blk 1 (pc' := 1952) (L' := [(6, .int w4.1), (5, .int w2.1), (0, .ref 1000000), (1, .ref 0), (2, .ref 47), (3, .ref 698), (4, .int i)]) (S' := [.int (0 : Int32)]) (h' := (hh X w2.2.2 w4.2)) (ab_blkD_ok rfl) ?_
        exact Go_ret (fun _ h => h) (ab_enD_ok rfl)
    ·
      refine Go_blk 3 (pc' := 23) (L' := [(4, .int (i + (7 : Int32))), (6, .int w4.1), (5, .int w2.1), (0, .ref 1000000), (1, .ref 0), (2, .ref 47), (3, .ref 698)]) (S' := []) (h' := (hh X w2.2.2 w4.2)) (ab_blkD_ok rfl) ?_
      exact Go_jmp [(0, .ref 1000000), (1, .ref 0), (2, .ref 47), (3, .ref 698), (4, .int (i + (7 : Int32)))] rfl ⟨rfl, rfl, rfl, rfl, rfl, trivial⟩ (fun _ h => h)
  ·
    refine Go_inrS ?_
    refine Go_blk 1 (pc' := 1935) (L' := [(6, .int w4.1), (5, .int w2.1), (0, .ref 1000000), (1, .ref 0), (2, .ref 47), (3, .ref 698), (4, .int i)]) (S' := [.int (0 : Int32)]) (h' := (hh X w2.2.2 w4.2)) (ab_blkD_ok rfl) ?_
    exact Go_ret (fun _ h => h) (ab_enD_ok rfl)
set_option maxRecDepth 1000000 in
set_option maxHeartbeats 4000000 in
theorem gl_c29 {X : XX} {i : Int32} {I : MJ} {g : GG} {d : Nat} (hd : 86 ≤ d + 1) : Go (d + 1) 386 1956 [(0, .ref 1000000), (1, .ref 0), (2, .ref 47), (3, .ref 698), (4, .int i)] [] (hh X g I)
  (
  (Option.bind (rds X (i + (1 : Int32))) fun v1 =>
  (Option.bind (f_l_skies229 v1 I g) fun w2 =>
  (Option.bind (rds X (i + (1 : Int32))) fun v3 =>
  (Option.bind (f_m_skies364 v3 w2.2.1) fun w4 =>
  (Option.bind (f_m_thrown265 w4.2) fun v5 =>
  (if v5 = w2.1 then
  (if w2.1 = 0 then
  (Option.bind (rdl w2.2.2 698 (0 : Int32)) fun v6 =>
  (if (lg_cmp v6 (w4.1.toInt64)) = 0 then
  some (.inl ((i + (7 : Int32)), w4.2, w2.2.2))
  else
  some (.inr ((0 : Int32), w4.2, w2.2.2))
  )
  )
  else
  some (.inl ((i + (7 : Int32)), w4.2, w2.2.2))
  )
  else
  some (.inr ((0 : Int32), w4.2, w2.2.2))
  )
  )
  )
  )
  )
  )
  )
  (TL (d + 1) X) := by
  refine Go_blk 5 (pc' := 1962) (L' := [(0, .ref 1000000), (1, .ref 0), (2, .ref 47), (3, .ref 698), (4, .int i)]) (S' := [.int (i + (1 : Int32)), .ref 1000000, .ref 0]) (h' := (hh X g I)) (ab_blkD_ok rfl) ?_
  refine Go_ialds (dl_ok rfl) fun v1 => ?_
  refine Go_blk 1 (pc' := 1964) (L' := [(0, .ref 1000000), (1, .ref 0), (2, .ref 47), (3, .ref 698), (4, .int i)]) (S' := [.ref 698, .int v1, .ref 0]) (h' := (hh X g I)) (ab_blkD_ok rfl) ?_
  refine Go_cG (y' := 229) (As := [.ref 0, .int v1, .ref 698]) (r := []) (ab_clD_ok rfl) (g_l_skies229 v1 (by omega)) fun w2 => ?_
  refine Go_blk 6 (pc' := 1975) (L' := [(5, .int w2.1), (0, .ref 1000000), (1, .ref 0), (2, .ref 47), (3, .ref 698), (4, .int i)]) (S' := [.int (i + (1 : Int32)), .ref 1000000, .ref 47]) (h' := (hh X w2.2.2 w2.2.1)) (ab_blkD_ok rfl) ?_
  refine Go_ialds (dl_ok rfl) fun v3 => ?_
  refine Go_cW (y' := 364) (As := [.ref 47, .int v3]) (r := []) (ab_clD_ok rfl) (g_m_skies364 v3 (by omega)) fun w4 => ?_
  refine Go_blk 2 (pc' := 1982) (L' := [(6, .int w4.1), (5, .int w2.1), (0, .ref 1000000), (1, .ref 0), (2, .ref 47), (3, .ref 698), (4, .int i)]) (S' := [.ref 47]) (h' := (hh X w2.2.2 w4.2)) (ab_blkD_ok rfl) ?_
  refine Go_cR (y' := 265) (As := [.ref 47]) (r := []) (ab_clD_ok rfl) (g_m_thrown265  (by omega)) fun v5 => ?_
  refine Go_blk 1 (pc' := 1987) (L' := [(6, .int w4.1), (5, .int w2.1), (0, .ref 1000000), (1, .ref 0), (2, .ref 47), (3, .ref 698), (4, .int i)]) (S' := [.int w2.1, .int v5]) (h' := (hh X w2.2.2 w4.2)) (ab_blkD_ok rfl) ?_
  refine Go_cmp (dl_ok rfl) rfl rfl ?_ ?_
  ·
    refine Go_blk 1 (pc' := 1994) (L' := [(6, .int w4.1), (5, .int w2.1), (0, .ref 1000000), (1, .ref 0), (2, .ref 47), (3, .ref 698), (4, .int i)]) (S' := [.int w2.1]) (h' := (hh X w2.2.2 w4.2)) (ab_blkD_ok rfl) ?_
    refine Go_cmzn (dl_ok rfl) rfl rfl ?_ ?_
    ·
      refine Go_blk 2 (pc' := 1999) (L' := [(6, .int w4.1), (5, .int w2.1), (0, .ref 1000000), (1, .ref 0), (2, .ref 47), (3, .ref 698), (4, .int i)]) (S' := [.int (0 : Int32), .ref 698]) (h' := (hh X w2.2.2 w4.2)) (ab_blkD_ok rfl) ?_
      refine Go_lald (dl_ok rfl) fun v6 => ?_
      refine Go_blk 3 (pc' := 2004) (L' := [(6, .int w4.1), (5, .int w2.1), (0, .ref 1000000), (1, .ref 0), (2, .ref 47), (3, .ref 698), (4, .int i)]) (S' := [.int (lg_cmp v6 (w4.1.toInt64))]) (h' := (hh X w2.2.2 w4.2)) (ab_blkD_ok rfl) ?_
      refine Go_cmz (dl_ok rfl) rfl rfl ?_ ?_
      ·
        refine Go_blk 3 (pc' := 23) (L' := [(4, .int (i + (7 : Int32))), (6, .int w4.1), (5, .int w2.1), (0, .ref 1000000), (1, .ref 0), (2, .ref 47), (3, .ref 698)]) (S' := []) (h' := (hh X w2.2.2 w4.2)) (ab_blkD_ok rfl) ?_
        exact Go_jmp [(0, .ref 1000000), (1, .ref 0), (2, .ref 47), (3, .ref 698), (4, .int (i + (7 : Int32)))] rfl ⟨rfl, rfl, rfl, rfl, rfl, trivial⟩ (fun _ h => h)
      ·
        refine Go_inrS ?_
        refine Go_blk 1 (pc' := 2008) (L' := [(6, .int w4.1), (5, .int w2.1), (0, .ref 1000000), (1, .ref 0), (2, .ref 47), (3, .ref 698), (4, .int i)]) (S' := [.int (0 : Int32)]) (h' := (hh X w2.2.2 w4.2)) (ab_blkD_ok rfl) ?_
        exact Go_ret (fun _ h => h) (ab_enD_ok rfl)
    ·
      refine Go_blk 3 (pc' := 23) (L' := [(4, .int (i + (7 : Int32))), (6, .int w4.1), (5, .int w2.1), (0, .ref 1000000), (1, .ref 0), (2, .ref 47), (3, .ref 698)]) (S' := []) (h' := (hh X w2.2.2 w4.2)) (ab_blkD_ok rfl) ?_
      exact Go_jmp [(0, .ref 1000000), (1, .ref 0), (2, .ref 47), (3, .ref 698), (4, .int (i + (7 : Int32)))] rfl ⟨rfl, rfl, rfl, rfl, rfl, trivial⟩ (fun _ h => h)
  ·
    refine Go_inrS ?_
    refine Go_blk 1 (pc' := 1991) (L' := [(6, .int w4.1), (5, .int w2.1), (0, .ref 1000000), (1, .ref 0), (2, .ref 47), (3, .ref 698), (4, .int i)]) (S' := [.int (0 : Int32)]) (h' := (hh X w2.2.2 w4.2)) (ab_blkD_ok rfl) ?_
    exact Go_ret (fun _ h => h) (ab_enD_ok rfl)
set_option maxRecDepth 1000000 in
set_option maxHeartbeats 4000000 in
theorem gl_c30 {X : XX} {i : Int32} {I : MJ} {g : GG} {d : Nat} (hd : 86 ≤ d + 1) : Go (d + 1) 386 2012 [(0, .ref 1000000), (1, .ref 0), (2, .ref 47), (3, .ref 698), (4, .int i)] [] (hh X g I)
  (
  (Option.bind (f_x_which23 I) fun v1 =>
  (Option.bind (f_m_which367 I) fun w2 =>
  (if v1 = w2.1 then
  some (.inl ((i + (7 : Int32)), w2.2, g))
  else
  some (.inr ((0 : Int32), w2.2, g))
  )
  )
  )
  )
  (TL (d + 1) X) := by
  refine Go_blk 1 (pc' := 2013) (L' := [(0, .ref 1000000), (1, .ref 0), (2, .ref 47), (3, .ref 698), (4, .int i)]) (S' := [.ref 0]) (h' := (hh X g I)) (ab_blkD_ok rfl) ?_
  refine Go_cR (y' := 23) (As := [.ref 0]) (r := []) (ab_clD_ok rfl) (g_x_which23  (by omega)) fun v1 => ?_
  refine Go_blk 1 (pc' := 2017) (L' := [(0, .ref 1000000), (1, .ref 0), (2, .ref 47), (3, .ref 698), (4, .int i)]) (S' := [.ref 47, .int v1]) (h' := (hh X g I)) (ab_blkD_ok rfl) ?_
  refine Go_cW (y' := 367) (As := [.ref 47]) (r := [.int v1]) (ab_clD_ok rfl) (g_m_which367  (by omega)) fun w2 => ?_
  refine Go_cmp (dl_ok rfl) rfl rfl ?_ ?_
  ·
    refine Go_blk 2 (pc' := 23) (L' := [(4, .int (i + (7 : Int32))), (0, .ref 1000000), (1, .ref 0), (2, .ref 47), (3, .ref 698)]) (S' := []) (h' := (hh X g w2.2)) (ab_blkD_ok rfl) ?_
    exact Go_jmp [(0, .ref 1000000), (1, .ref 0), (2, .ref 47), (3, .ref 698), (4, .int (i + (7 : Int32)))] rfl ⟨rfl, rfl, rfl, rfl, rfl, trivial⟩ (fun _ h => h)
  ·
    refine Go_inrS ?_
    refine Go_blk 1 (pc' := 2024) (L' := [(0, .ref 1000000), (1, .ref 0), (2, .ref 47), (3, .ref 698), (4, .int i)]) (S' := [.int (0 : Int32)]) (h' := (hh X g w2.2)) (ab_blkD_ok rfl) ?_
    exact Go_ret (fun _ h => h) (ab_enD_ok rfl)
set_option maxRecDepth 1000000 in
set_option maxHeartbeats 4000000 in
theorem gl_c31 {X : XX} {i : Int32} {I : MJ} {g : GG} {d : Nat} (hd : 86 ≤ d + 1) : Go (d + 1) 386 2025 [(0, .ref 1000000), (1, .ref 0), (2, .ref 47), (3, .ref 698), (4, .int i)] [] (hh X g I)
  (
  (Option.bind (rds X (i + (1 : Int32))) fun v1 =>
  (Option.bind (f_l_look231 v1 I g) fun w2 =>
  (Option.bind (rds X (i + (1 : Int32))) fun v3 =>
  (Option.bind (f_m_look368 v3 w2.2.1) fun w4 =>
  (Option.bind (f_m_thrown265 w4.2) fun v5 =>
  (if v5 = w2.1 then
  (if w2.1 = 0 then
  (Option.bind (rdl w2.2.2 698 (0 : Int32)) fun v6 =>
  (if (lg_cmp v6 (w4.1.toInt64)) = 0 then
  some (.inl ((i + (7 : Int32)), w4.2, w2.2.2))
  else
  some (.inr ((0 : Int32), w4.2, w2.2.2))
  )
  )
  else
  some (.inl ((i + (7 : Int32)), w4.2, w2.2.2))
  )
  else
  some (.inr ((0 : Int32), w4.2, w2.2.2))
  )
  )
  )
  )
  )
  )
  )
  (TL (d + 1) X) := by
  refine Go_blk 5 (pc' := 2031) (L' := [(0, .ref 1000000), (1, .ref 0), (2, .ref 47), (3, .ref 698), (4, .int i)]) (S' := [.int (i + (1 : Int32)), .ref 1000000, .ref 0]) (h' := (hh X g I)) (ab_blkD_ok rfl) ?_
  refine Go_ialds (dl_ok rfl) fun v1 => ?_
  refine Go_blk 1 (pc' := 2033) (L' := [(0, .ref 1000000), (1, .ref 0), (2, .ref 47), (3, .ref 698), (4, .int i)]) (S' := [.ref 698, .int v1, .ref 0]) (h' := (hh X g I)) (ab_blkD_ok rfl) ?_
  refine Go_cG (y' := 231) (As := [.ref 0, .int v1, .ref 698]) (r := []) (ab_clD_ok rfl) (g_l_look231 v1 (by omega)) fun w2 => ?_
  refine Go_blk 6 (pc' := 2044) (L' := [(5, .int w2.1), (0, .ref 1000000), (1, .ref 0), (2, .ref 47), (3, .ref 698), (4, .int i)]) (S' := [.int (i + (1 : Int32)), .ref 1000000, .ref 47]) (h' := (hh X w2.2.2 w2.2.1)) (ab_blkD_ok rfl) ?_
  refine Go_ialds (dl_ok rfl) fun v3 => ?_
  refine Go_cW (y' := 368) (As := [.ref 47, .int v3]) (r := []) (ab_clD_ok rfl) (g_m_look368 v3 (by omega)) fun w4 => ?_
  refine Go_blk 2 (pc' := 2051) (L' := [(6, .int w4.1), (5, .int w2.1), (0, .ref 1000000), (1, .ref 0), (2, .ref 47), (3, .ref 698), (4, .int i)]) (S' := [.ref 47]) (h' := (hh X w2.2.2 w4.2)) (ab_blkD_ok rfl) ?_
  refine Go_cR (y' := 265) (As := [.ref 47]) (r := []) (ab_clD_ok rfl) (g_m_thrown265  (by omega)) fun v5 => ?_
  refine Go_blk 1 (pc' := 2056) (L' := [(6, .int w4.1), (5, .int w2.1), (0, .ref 1000000), (1, .ref 0), (2, .ref 47), (3, .ref 698), (4, .int i)]) (S' := [.int w2.1, .int v5]) (h' := (hh X w2.2.2 w4.2)) (ab_blkD_ok rfl) ?_
  refine Go_cmp (dl_ok rfl) rfl rfl ?_ ?_
  ·
    refine Go_blk 1 (pc' := 2063) (L' := [(6, .int w4.1), (5, .int w2.1), (0, .ref 1000000), (1, .ref 0), (2, .ref 47), (3, .ref 698), (4, .int i)]) (S' := [.int w2.1]) (h' := (hh X w2.2.2 w4.2)) (ab_blkD_ok rfl) ?_
    refine Go_cmzn (dl_ok rfl) rfl rfl ?_ ?_
    ·
      refine Go_blk 2 (pc' := 2068) (L' := [(6, .int w4.1), (5, .int w2.1), (0, .ref 1000000), (1, .ref 0), (2, .ref 47), (3, .ref 698), (4, .int i)]) (S' := [.int (0 : Int32), .ref 698]) (h' := (hh X w2.2.2 w4.2)) (ab_blkD_ok rfl) ?_
      refine Go_lald (dl_ok rfl) fun v6 => ?_
      refine Go_blk 3 (pc' := 2073) (L' := [(6, .int w4.1), (5, .int w2.1), (0, .ref 1000000), (1, .ref 0), (2, .ref 47), (3, .ref 698), (4, .int i)]) (S' := [.int (lg_cmp v6 (w4.1.toInt64))]) (h' := (hh X w2.2.2 w4.2)) (ab_blkD_ok rfl) ?_
      refine Go_cmz (dl_ok rfl) rfl rfl ?_ ?_
      ·
        refine Go_blk 3 (pc' := 23) (L' := [(4, .int (i + (7 : Int32))), (6, .int w4.1), (5, .int w2.1), (0, .ref 1000000), (1, .ref 0), (2, .ref 47), (3, .ref 698)]) (S' := []) (h' := (hh X w2.2.2 w4.2)) (ab_blkD_ok rfl) ?_
        exact Go_jmp [(0, .ref 1000000), (1, .ref 0), (2, .ref 47), (3, .ref 698), (4, .int (i + (7 : Int32)))] rfl ⟨rfl, rfl, rfl, rfl, rfl, trivial⟩ (fun _ h => h)
      ·
        refine Go_inrS ?_
        refine Go_blk 1 (pc' := 2077) (L' := [(6, .int w4.1), (5, .int w2.1), (0, .ref 1000000), (1, .ref 0), (2, .ref 47), (3, .ref 698), (4, .int i)]) (S' := [.int (0 : Int32)]) (h' := (hh X w2.2.2 w4.2)) (ab_blkD_ok rfl) ?_
        exact Go_ret (fun _ h => h) (ab_enD_ok rfl)
    ·
      refine Go_blk 3 (pc' := 23) (L' := [(4, .int (i + (7 : Int32))), (6, .int w4.1), (5, .int w2.1), (0, .ref 1000000), (1, .ref 0), (2, .ref 47), (3, .ref 698)]) (S' := []) (h' := (hh X w2.2.2 w4.2)) (ab_blkD_ok rfl) ?_
      exact Go_jmp [(0, .ref 1000000), (1, .ref 0), (2, .ref 47), (3, .ref 698), (4, .int (i + (7 : Int32)))] rfl ⟨rfl, rfl, rfl, rfl, rfl, trivial⟩ (fun _ h => h)
  ·
    refine Go_inrS ?_
    refine Go_blk 1 (pc' := 2060) (L' := [(6, .int w4.1), (5, .int w2.1), (0, .ref 1000000), (1, .ref 0), (2, .ref 47), (3, .ref 698), (4, .int i)]) (S' := [.int (0 : Int32)]) (h' := (hh X w2.2.2 w4.2)) (ab_blkD_ok rfl) ?_
    exact Go_ret (fun _ h => h) (ab_enD_ok rfl)
set_option maxRecDepth 1000000 in
set_option maxHeartbeats 4000000 in
theorem gl_c32 {X : XX} {i : Int32} {I : MJ} {g : GG} {d : Nat} (hd : 86 ≤ d + 1) : Go (d + 1) 386 2081 [(0, .ref 1000000), (1, .ref 0), (2, .ref 47), (3, .ref 698), (4, .int i)] [] (hh X g I)
  (
  (Option.bind (rds X (i + (1 : Int32))) fun v1 =>
  (Option.bind (f_l_tailors237 v1 I g) fun w2 =>
  (Option.bind (rds X (i + (1 : Int32))) fun v3 =>
  (Option.bind (f_m_tailors371 v3 w2.2.1) fun w4 =>
  (Option.bind (f_m_thrown265 w4.2) fun v5 =>
  (if v5 = w2.1 then
  (if w2.1 = 0 then
  (Option.bind (rdl w2.2.2 698 (0 : Int32)) fun v6 =>
  (if (lg_cmp v6 (w4.1.toInt64)) = 0 then
  some (.inl ((i + (7 : Int32)), w4.2, w2.2.2))
  else
  some (.inr ((0 : Int32), w4.2, w2.2.2))
  )
  )
  else
  some (.inl ((i + (7 : Int32)), w4.2, w2.2.2))
  )
  else
  some (.inr ((0 : Int32), w4.2, w2.2.2))
  )
  )
  )
  )
  )
  )
  )
  (TL (d + 1) X) := by
  refine Go_blk 5 (pc' := 2087) (L' := [(0, .ref 1000000), (1, .ref 0), (2, .ref 47), (3, .ref 698), (4, .int i)]) (S' := [.int (i + (1 : Int32)), .ref 1000000, .ref 0]) (h' := (hh X g I)) (ab_blkD_ok rfl) ?_
  refine Go_ialds (dl_ok rfl) fun v1 => ?_
  refine Go_blk 1 (pc' := 2089) (L' := [(0, .ref 1000000), (1, .ref 0), (2, .ref 47), (3, .ref 698), (4, .int i)]) (S' := [.ref 698, .int v1, .ref 0]) (h' := (hh X g I)) (ab_blkD_ok rfl) ?_
  refine Go_cG (y' := 237) (As := [.ref 0, .int v1, .ref 698]) (r := []) (ab_clD_ok rfl) (g_l_tailors237 v1 (by omega)) fun w2 => ?_
  refine Go_blk 6 (pc' := 2100) (L' := [(5, .int w2.1), (0, .ref 1000000), (1, .ref 0), (2, .ref 47), (3, .ref 698), (4, .int i)]) (S' := [.int (i + (1 : Int32)), .ref 1000000, .ref 47]) (h' := (hh X w2.2.2 w2.2.1)) (ab_blkD_ok rfl) ?_
  refine Go_ialds (dl_ok rfl) fun v3 => ?_
  refine Go_cW (y' := 371) (As := [.ref 47, .int v3]) (r := []) (ab_clD_ok rfl) (g_m_tailors371 v3 (by omega)) fun w4 => ?_
  refine Go_blk 2 (pc' := 2107) (L' := [(6, .int w4.1), (5, .int w2.1), (0, .ref 1000000), (1, .ref 0), (2, .ref 47), (3, .ref 698), (4, .int i)]) (S' := [.ref 47]) (h' := (hh X w2.2.2 w4.2)) (ab_blkD_ok rfl) ?_
  refine Go_cR (y' := 265) (As := [.ref 47]) (r := []) (ab_clD_ok rfl) (g_m_thrown265  (by omega)) fun v5 => ?_
  refine Go_blk 1 (pc' := 2112) (L' := [(6, .int w4.1), (5, .int w2.1), (0, .ref 1000000), (1, .ref 0), (2, .ref 47), (3, .ref 698), (4, .int i)]) (S' := [.int w2.1, .int v5]) (h' := (hh X w2.2.2 w4.2)) (ab_blkD_ok rfl) ?_
  refine Go_cmp (dl_ok rfl) rfl rfl ?_ ?_
  ·
    refine Go_blk 1 (pc' := 2119) (L' := [(6, .int w4.1), (5, .int w2.1), (0, .ref 1000000), (1, .ref 0), (2, .ref 47), (3, .ref 698), (4, .int i)]) (S' := [.int w2.1]) (h' := (hh X w2.2.2 w4.2)) (ab_blkD_ok rfl) ?_
    refine Go_cmzn (dl_ok rfl) rfl rfl ?_ ?_
    ·
      refine Go_blk 2 (pc' := 2124) (L' := [(6, .int w4.1), (5, .int w2.1), (0, .ref 1000000), (1, .ref 0), (2, .ref 47), (3, .ref 698), (4, .int i)]) (S' := [.int (0 : Int32), .ref 698]) (h' := (hh X w2.2.2 w4.2)) (ab_blkD_ok rfl) ?_
      refine Go_lald (dl_ok rfl) fun v6 => ?_
      refine Go_blk 3 (pc' := 2129) (L' := [(6, .int w4.1), (5, .int w2.1), (0, .ref 1000000), (1, .ref 0), (2, .ref 47), (3, .ref 698), (4, .int i)]) (S' := [.int (lg_cmp v6 (w4.1.toInt64))]) (h' := (hh X w2.2.2 w4.2)) (ab_blkD_ok rfl) ?_
      refine Go_cmz (dl_ok rfl) rfl rfl ?_ ?_
      ·
        refine Go_blk 3 (pc' := 23) (L' := [(4, .int (i + (7 : Int32))), (6, .int w4.1), (5, .int w2.1), (0, .ref 1000000), (1, .ref 0), (2, .ref 47), (3, .ref 698)]) (S' := []) (h' := (hh X w2.2.2 w4.2)) (ab_blkD_ok rfl) ?_
        exact Go_jmp [(0, .ref 1000000), (1, .ref 0), (2, .ref 47), (3, .ref 698), (4, .int (i + (7 : Int32)))] rfl ⟨rfl, rfl, rfl, rfl, rfl, trivial⟩ (fun _ h => h)
      ·
        refine Go_inrS ?_
        refine Go_blk 1 (pc' := 2133) (L' := [(6, .int w4.1), (5, .int w2.1), (0, .ref 1000000), (1, .ref 0), (2, .ref 47), (3, .ref 698), (4, .int i)]) (S' := [.int (0 : Int32)]) (h' := (hh X w2.2.2 w4.2)) (ab_blkD_ok rfl) ?_
        exact Go_ret (fun _ h => h) (ab_enD_ok rfl)
    ·
      refine Go_blk 3 (pc' := 23) (L' := [(4, .int (i + (7 : Int32))), (6, .int w4.1), (5, .int w2.1), (0, .ref 1000000), (1, .ref 0), (2, .ref 47), (3, .ref 698)]) (S' := []) (h' := (hh X w2.2.2 w4.2)) (ab_blkD_ok rfl) ?_
      exact Go_jmp [(0, .ref 1000000), (1, .ref 0), (2, .ref 47), (3, .ref 698), (4, .int (i + (7 : Int32)))] rfl ⟨rfl, rfl, rfl, rfl, rfl, trivial⟩ (fun _ h => h)
  ·
    refine Go_inrS ?_
    refine Go_blk 1 (pc' := 2116) (L' := [(6, .int w4.1), (5, .int w2.1), (0, .ref 1000000), (1, .ref 0), (2, .ref 47), (3, .ref 698), (4, .int i)]) (S' := [.int (0 : Int32)]) (h' := (hh X w2.2.2 w4.2)) (ab_blkD_ok rfl) ?_
    exact Go_ret (fun _ h => h) (ab_enD_ok rfl)
set_option maxRecDepth 1000000 in
set_option maxHeartbeats 4000000 in
theorem gl_c33 {X : XX} {i : Int32} {I : MJ} {g : GG} {d : Nat} (hd : 86 ≤ d + 1) : Go (d + 1) 386 2137 [(0, .ref 1000000), (1, .ref 0), (2, .ref 47), (3, .ref 698), (4, .int i)] [] (hh X g I)
  (
  (Option.bind (rds X (i + (1 : Int32))) fun v1 =>
  (Option.bind (rds X (i + (2 : Int32))) fun v2 =>
  (Option.bind (f_l_gets245 v1 v2 I g) fun w3 =>
  (Option.bind (rds X (i + (1 : Int32))) fun v4 =>
  (Option.bind (rds X (i + (2 : Int32))) fun v5 =>
  (Option.bind (f_m_gets374 v4 v5 w3.2.1) fun w6 =>
  (Option.bind (f_m_thrown265 w6.2) fun v7 =>
  (if v7 = w3.1 then
  (if w3.1 = 0 then
  (Option.bind (rdl w3.2.2 698 (0 : Int32)) fun v8 =>
  (if (lg_cmp v8 (w6.1.toInt64)) = 0 then
  some (.inl ((i + (7 : Int32)), w6.2, w3.2.2))
  else
  some (.inr ((0 : Int32), w6.2, w3.2.2))
  )
  )
  else
  some (.inl ((i + (7 : Int32)), w6.2, w3.2.2))
  )
  else
  some (.inr ((0 : Int32), w6.2, w3.2.2))
  )
  )
  )
  )
  )
  )
  )
  )
  )
  (TL (d + 1) X) := by
  refine Go_blk 5 (pc' := 2143) (L' := [(0, .ref 1000000), (1, .ref 0), (2, .ref 47), (3, .ref 698), (4, .int i)]) (S' := [.int (i + (1 : Int32)), .ref 1000000, .ref 0]) (h' := (hh X g I)) (ab_blkD_ok rfl) ?_
  refine Go_ialds (dl_ok rfl) fun v1 => ?_
  refine Go_blk 4 (pc' := 2149) (L' := [(0, .ref 1000000), (1, .ref 0), (2, .ref 47), (3, .ref 698), (4, .int i)]) (S' := [.int (i + (2 : Int32)), .ref 1000000, .int v1, .ref 0]) (h' := (hh X g I)) (ab_blkD_ok rfl) ?_
  refine Go_ialds (dl_ok rfl) fun v2 => ?_
  refine Go_blk 1 (pc' := 2151) (L' := [(0, .ref 1000000), (1, .ref 0), (2, .ref 47), (3, .ref 698), (4, .int i)]) (S' := [.ref 698, .int v2, .int v1, .ref 0]) (h' := (hh X g I)) (ab_blkD_ok rfl) ?_
  refine Go_cG (y' := 245) (As := [.ref 0, .int v1, .int v2, .ref 698]) (r := []) (ab_clD_ok rfl) (g_l_gets245 v1 v2 (by omega)) fun w3 => ?_
  refine Go_blk 6 (pc' := 2162) (L' := [(5, .int w3.1), (0, .ref 1000000), (1, .ref 0), (2, .ref 47), (3, .ref 698), (4, .int i)]) (S' := [.int (i + (1 : Int32)), .ref 1000000, .ref 47]) (h' := (hh X w3.2.2 w3.2.1)) (ab_blkD_ok rfl) ?_
  refine Go_ialds (dl_ok rfl) fun v4 => ?_
  refine Go_blk 4 (pc' := 2168) (L' := [(5, .int w3.1), (0, .ref 1000000), (1, .ref 0), (2, .ref 47), (3, .ref 698), (4, .int i)]) (S' := [.int (i + (2 : Int32)), .ref 1000000, .int v4, .ref 47]) (h' := (hh X w3.2.2 w3.2.1)) (ab_blkD_ok rfl) ?_
  refine Go_ialds (dl_ok rfl) fun v5 => ?_
  refine Go_cW (y' := 374) (As := [.ref 47, .int v4, .int v5]) (r := []) (ab_clD_ok rfl) (g_m_gets374 v4 v5 (by omega)) fun w6 => ?_
  refine Go_blk 2 (pc' := 2175) (L' := [(6, .int w6.1), (5, .int w3.1), (0, .ref 1000000), (1, .ref 0), (2, .ref 47), (3, .ref 698), (4, .int i)]) (S' := [.ref 47]) (h' := (hh X w3.2.2 w6.2)) (ab_blkD_ok rfl) ?_
  refine Go_cR (y' := 265) (As := [.ref 47]) (r := []) (ab_clD_ok rfl) (g_m_thrown265  (by omega)) fun v7 => ?_
  refine Go_blk 1 (pc' := 2180) (L' := [(6, .int w6.1), (5, .int w3.1), (0, .ref 1000000), (1, .ref 0), (2, .ref 47), (3, .ref 698), (4, .int i)]) (S' := [.int w3.1, .int v7]) (h' := (hh X w3.2.2 w6.2)) (ab_blkD_ok rfl) ?_
  refine Go_cmp (dl_ok rfl) rfl rfl ?_ ?_
  ·
    refine Go_blk 1 (pc' := 2187) (L' := [(6, .int w6.1), (5, .int w3.1), (0, .ref 1000000), (1, .ref 0), (2, .ref 47), (3, .ref 698), (4, .int i)]) (S' := [.int w3.1]) (h' := (hh X w3.2.2 w6.2)) (ab_blkD_ok rfl) ?_
    refine Go_cmzn (dl_ok rfl) rfl rfl ?_ ?_
    ·
      refine Go_blk 2 (pc' := 2192) (L' := [(6, .int w6.1), (5, .int w3.1), (0, .ref 1000000), (1, .ref 0), (2, .ref 47), (3, .ref 698), (4, .int i)]) (S' := [.int (0 : Int32), .ref 698]) (h' := (hh X w3.2.2 w6.2)) (ab_blkD_ok rfl) ?_
      refine Go_lald (dl_ok rfl) fun v8 => ?_
      refine Go_blk 3 (pc' := 2197) (L' := [(6, .int w6.1), (5, .int w3.1), (0, .ref 1000000), (1, .ref 0), (2, .ref 47), (3, .ref 698), (4, .int i)]) (S' := [.int (lg_cmp v8 (w6.1.toInt64))]) (h' := (hh X w3.2.2 w6.2)) (ab_blkD_ok rfl) ?_
      refine Go_cmz (dl_ok rfl) rfl rfl ?_ ?_
      ·
        refine Go_blk 3 (pc' := 23) (L' := [(4, .int (i + (7 : Int32))), (6, .int w6.1), (5, .int w3.1), (0, .ref 1000000), (1, .ref 0), (2, .ref 47), (3, .ref 698)]) (S' := []) (h' := (hh X w3.2.2 w6.2)) (ab_blkD_ok rfl) ?_
        exact Go_jmp [(0, .ref 1000000), (1, .ref 0), (2, .ref 47), (3, .ref 698), (4, .int (i + (7 : Int32)))] rfl ⟨rfl, rfl, rfl, rfl, rfl, trivial⟩ (fun _ h => h)
      ·
        refine Go_inrS ?_
        refine Go_blk 1 (pc' := 2201) (L' := [(6, .int w6.1), (5, .int w3.1), (0, .ref 1000000), (1, .ref 0), (2, .ref 47), (3, .ref 698), (4, .int i)]) (S' := [.int (0 : Int32)]) (h' := (hh X w3.2.2 w6.2)) (ab_blkD_ok rfl) ?_
        exact Go_ret (fun _ h => h) (ab_enD_ok rfl)
    ·
      refine Go_blk 3 (pc' := 23) (L' := [(4, .int (i + (7 : Int32))), (6, .int w6.1), (5, .int w3.1), (0, .ref 1000000), (1, .ref 0), (2, .ref 47), (3, .ref 698)]) (S' := []) (h' := (hh X w3.2.2 w6.2)) (ab_blkD_ok rfl) ?_
      exact Go_jmp [(0, .ref 1000000), (1, .ref 0), (2, .ref 47), (3, .ref 698), (4, .int (i + (7 : Int32)))] rfl ⟨rfl, rfl, rfl, rfl, rfl, trivial⟩ (fun _ h => h)
  ·
    refine Go_inrS ?_
    refine Go_blk 1 (pc' := 2184) (L' := [(6, .int w6.1), (5, .int w3.1), (0, .ref 1000000), (1, .ref 0), (2, .ref 47), (3, .ref 698), (4, .int i)]) (S' := [.int (0 : Int32)]) (h' := (hh X w3.2.2 w6.2)) (ab_blkD_ok rfl) ?_
    exact Go_ret (fun _ h => h) (ab_enD_ok rfl)
set_option maxRecDepth 1000000 in
set_option maxHeartbeats 4000000 in
theorem gl_c34 {X : XX} {i : Int32} {I : MJ} {g : GG} {d : Nat} (hd : 86 ≤ d + 1) : Go (d + 1) 386 2205 [(0, .ref 1000000), (1, .ref 0), (2, .ref 47), (3, .ref 698), (4, .int i)] [] (hh X g I)
  (
  (Option.bind (rds X (i + (1 : Int32))) fun v1 =>
  (Option.bind (rds X (i + (2 : Int32))) fun v2 =>
  (Option.bind (rds X (i + (3 : Int32))) fun v3 =>
  (Option.bind (f_l_ahead247 v1 v2 v3 I g) fun w4 =>
  (Option.bind (rds X (i + (1 : Int32))) fun v5 =>
  (Option.bind (rds X (i + (2 : Int32))) fun v6 =>
  (Option.bind (rds X (i + (3 : Int32))) fun v7 =>
  (Option.bind (f_m_ahead375 v5 v6 v7 w4.2.1) fun w8 =>
  (Option.bind (f_m_thrown265 w8.2) fun v9 =>
  (if v9 = w4.1 then
  (if w4.1 = 0 then
  (Option.bind (rdl w4.2.2 698 (0 : Int32)) fun v10 =>
  (if (lg_cmp v10 (w8.1.toInt64)) = 0 then
  some (.inl ((i + (7 : Int32)), w8.2, w4.2.2))
  else
  some (.inr ((0 : Int32), w8.2, w4.2.2))
  )
  )
  else
  some (.inl ((i + (7 : Int32)), w8.2, w4.2.2))
  )
  else
  some (.inr ((0 : Int32), w8.2, w4.2.2))
  )
  )
  )
  )
  )
  )
  )
  )
  )
  )
  )
  (TL (d + 1) X) := by
  refine Go_blk 5 (pc' := 2211) (L' := [(0, .ref 1000000), (1, .ref 0), (2, .ref 47), (3, .ref 698), (4, .int i)]) (S' := [.int (i + (1 : Int32)), .ref 1000000, .ref 0]) (h' := (hh X g I)) (ab_blkD_ok rfl) ?_
  refine Go_ialds (dl_ok rfl) fun v1 => ?_
  refine Go_blk 4 (pc' := 2217) (L' := [(0, .ref 1000000), (1, .ref 0), (2, .ref 47), (3, .ref 698), (4, .int i)]) (S' := [.int (i + (2 : Int32)), .ref 1000000, .int v1, .ref 0]) (h' := (hh X g I)) (ab_blkD_ok rfl) ?_
  refine Go_ialds (dl_ok rfl) fun v2 => ?_
  refine Go_blk 4 (pc' := 2223) (L' := [(0, .ref 1000000), (1, .ref 0), (2, .ref 47), (3, .ref 698), (4, .int i)]) (S' := [.int (i + (3 : Int32)), .ref 1000000, .int v2, .int v1, .ref 0]) (h' := (hh X g I)) (ab_blkD_ok rfl) ?_
  refine Go_ialds (dl_ok rfl) fun v3 => ?_
  refine Go_blk 1 (pc' := 2225) (L' := [(0, .ref 1000000), (1, .ref 0), (2, .ref 47), (3, .ref 698), (4, .int i)]) (S' := [.ref 698, .int v3, .int v2, .int v1, .ref 0]) (h' := (hh X g I)) (ab_blkD_ok rfl) ?_
  refine Go_cG (y' := 247) (As := [.ref 0, .int v1, .int v2, .int v3, .ref 698]) (r := []) (ab_clD_ok rfl) (g_l_ahead247 v1 v2 v3 (by omega)) fun w4 => ?_
  refine Go_blk 6 (pc' := 2236) (L' := [(5, .int w4.1), (0, .ref 1000000), (1, .ref 0), (2, .ref 47), (3, .ref 698), (4, .int i)]) (S' := [.int (i + (1 : Int32)), .ref 1000000, .ref 47]) (h' := (hh X w4.2.2 w4.2.1)) (ab_blkD_ok rfl) ?_
  refine Go_ialds (dl_ok rfl) fun v5 => ?_
  refine Go_blk 4 (pc' := 2242) (L' := [(5, .int w4.1), (0, .ref 1000000), (1, .ref 0), (2, .ref 47), (3, .ref 698), (4, .int i)]) (S' := [.int (i + (2 : Int32)), .ref 1000000, .int v5, .ref 47]) (h' := (hh X w4.2.2 w4.2.1)) (ab_blkD_ok rfl) ?_
  refine Go_ialds (dl_ok rfl) fun v6 => ?_
  refine Go_blk 4 (pc' := 2248) (L' := [(5, .int w4.1), (0, .ref 1000000), (1, .ref 0), (2, .ref 47), (3, .ref 698), (4, .int i)]) (S' := [.int (i + (3 : Int32)), .ref 1000000, .int v6, .int v5, .ref 47]) (h' := (hh X w4.2.2 w4.2.1)) (ab_blkD_ok rfl) ?_
  refine Go_ialds (dl_ok rfl) fun v7 => ?_
  refine Go_cW (y' := 375) (As := [.ref 47, .int v5, .int v6, .int v7]) (r := []) (ab_clD_ok rfl) (g_m_ahead375 v5 v6 v7 (by omega)) fun w8 => ?_
  refine Go_blk 2 (pc' := 2255) (L' := [(6, .int w8.1), (5, .int w4.1), (0, .ref 1000000), (1, .ref 0), (2, .ref 47), (3, .ref 698), (4, .int i)]) (S' := [.ref 47]) (h' := (hh X w4.2.2 w8.2)) (ab_blkD_ok rfl) ?_
  refine Go_cR (y' := 265) (As := [.ref 47]) (r := []) (ab_clD_ok rfl) (g_m_thrown265  (by omega)) fun v9 => ?_
  refine Go_blk 1 (pc' := 2260) (L' := [(6, .int w8.1), (5, .int w4.1), (0, .ref 1000000), (1, .ref 0), (2, .ref 47), (3, .ref 698), (4, .int i)]) (S' := [.int w4.1, .int v9]) (h' := (hh X w4.2.2 w8.2)) (ab_blkD_ok rfl) ?_
  refine Go_cmp (dl_ok rfl) rfl rfl ?_ ?_
  ·
    refine Go_blk 1 (pc' := 2267) (L' := [(6, .int w8.1), (5, .int w4.1), (0, .ref 1000000), (1, .ref 0), (2, .ref 47), (3, .ref 698), (4, .int i)]) (S' := [.int w4.1]) (h' := (hh X w4.2.2 w8.2)) (ab_blkD_ok rfl) ?_
    refine Go_cmzn (dl_ok rfl) rfl rfl ?_ ?_
    ·
      refine Go_blk 2 (pc' := 2272) (L' := [(6, .int w8.1), (5, .int w4.1), (0, .ref 1000000), (1, .ref 0), (2, .ref 47), (3, .ref 698), (4, .int i)]) (S' := [.int (0 : Int32), .ref 698]) (h' := (hh X w4.2.2 w8.2)) (ab_blkD_ok rfl) ?_
      refine Go_lald (dl_ok rfl) fun v10 => ?_
      refine Go_blk 3 (pc' := 2277) (L' := [(6, .int w8.1), (5, .int w4.1), (0, .ref 1000000), (1, .ref 0), (2, .ref 47), (3, .ref 698), (4, .int i)]) (S' := [.int (lg_cmp v10 (w8.1.toInt64))]) (h' := (hh X w4.2.2 w8.2)) (ab_blkD_ok rfl) ?_
      refine Go_cmz (dl_ok rfl) rfl rfl ?_ ?_
      ·
        refine Go_blk 3 (pc' := 23) (L' := [(4, .int (i + (7 : Int32))), (6, .int w8.1), (5, .int w4.1), (0, .ref 1000000), (1, .ref 0), (2, .ref 47), (3, .ref 698)]) (S' := []) (h' := (hh X w4.2.2 w8.2)) (ab_blkD_ok rfl) ?_
        exact Go_jmp [(0, .ref 1000000), (1, .ref 0), (2, .ref 47), (3, .ref 698), (4, .int (i + (7 : Int32)))] rfl ⟨rfl, rfl, rfl, rfl, rfl, trivial⟩ (fun _ h => h)
      ·
        refine Go_inrS ?_
        refine Go_blk 1 (pc' := 2281) (L' := [(6, .int w8.1), (5, .int w4.1), (0, .ref 1000000), (1, .ref 0), (2, .ref 47), (3, .ref 698), (4, .int i)]) (S' := [.int (0 : Int32)]) (h' := (hh X w4.2.2 w8.2)) (ab_blkD_ok rfl) ?_
        exact Go_ret (fun _ h => h) (ab_enD_ok rfl)
    ·
      refine Go_blk 3 (pc' := 23) (L' := [(4, .int (i + (7 : Int32))), (6, .int w8.1), (5, .int w4.1), (0, .ref 1000000), (1, .ref 0), (2, .ref 47), (3, .ref 698)]) (S' := []) (h' := (hh X w4.2.2 w8.2)) (ab_blkD_ok rfl) ?_
      exact Go_jmp [(0, .ref 1000000), (1, .ref 0), (2, .ref 47), (3, .ref 698), (4, .int (i + (7 : Int32)))] rfl ⟨rfl, rfl, rfl, rfl, rfl, trivial⟩ (fun _ h => h)
  ·
    refine Go_inrS ?_
    refine Go_blk 1 (pc' := 2264) (L' := [(6, .int w8.1), (5, .int w4.1), (0, .ref 1000000), (1, .ref 0), (2, .ref 47), (3, .ref 698), (4, .int i)]) (S' := [.int (0 : Int32)]) (h' := (hh X w4.2.2 w8.2)) (ab_blkD_ok rfl) ?_
    exact Go_ret (fun _ h => h) (ab_enD_ok rfl)
set_option maxRecDepth 1000000 in
set_option maxHeartbeats 4000000 in
theorem gl_c35 {X : XX} {i : Int32} {I : MJ} {g : GG} {d : Nat} (hd : 86 ≤ d + 1) : Go (d + 1) 386 2285 [(0, .ref 1000000), (1, .ref 0), (2, .ref 47), (3, .ref 698), (4, .int i)] [] (hh X g I)
  (
  (Option.bind (rds X (i + (1 : Int32))) fun v1 =>
  (Option.bind (rds X (i + (2 : Int32))) fun v2 =>
  (Option.bind (rds X (i + (3 : Int32))) fun v3 =>
  (Option.bind (rds X (i + (4 : Int32))) fun v4 =>
  (Option.bind (f_l_years250 v1 v2 v3 v4 I g) fun w5 =>
  (Option.bind (rds X (i + (1 : Int32))) fun v6 =>
  (Option.bind (rds X (i + (2 : Int32))) fun v7 =>
  (Option.bind (rds X (i + (3 : Int32))) fun v8 =>
  (Option.bind (rds X (i + (4 : Int32))) fun v9 =>
  (Option.bind (f_m_years376 v6 v7 v8 v9 w5.2.1) fun w10 =>
  (Option.bind (f_m_thrown265 w10.2) fun v11 =>
  (if v11 = w5.1 then
  (if w5.1 = 0 then
  (Option.bind (rdl w5.2.2 698 (0 : Int32)) fun v12 =>
  (if (lg_cmp v12 (w10.1.toInt64)) = 0 then
  some (.inl ((i + (7 : Int32)), w10.2, w5.2.2))
  else
  some (.inr ((0 : Int32), w10.2, w5.2.2))
  )
  )
  else
  some (.inl ((i + (7 : Int32)), w10.2, w5.2.2))
  )
  else
  some (.inr ((0 : Int32), w10.2, w5.2.2))
  )
  )
  )
  )
  )
  )
  )
  )
  )
  )
  )
  )
  )
  (TL (d + 1) X) := by
  refine Go_blk 5 (pc' := 2291) (L' := [(0, .ref 1000000), (1, .ref 0), (2, .ref 47), (3, .ref 698), (4, .int i)]) (S' := [.int (i + (1 : Int32)), .ref 1000000, .ref 0]) (h' := (hh X g I)) (ab_blkD_ok rfl) ?_
  refine Go_ialds (dl_ok rfl) fun v1 => ?_
  refine Go_blk 4 (pc' := 2297) (L' := [(0, .ref 1000000), (1, .ref 0), (2, .ref 47), (3, .ref 698), (4, .int i)]) (S' := [.int (i + (2 : Int32)), .ref 1000000, .int v1, .ref 0]) (h' := (hh X g I)) (ab_blkD_ok rfl) ?_
  refine Go_ialds (dl_ok rfl) fun v2 => ?_
  refine Go_blk 4 (pc' := 2303) (L' := [(0, .ref 1000000), (1, .ref 0), (2, .ref 47), (3, .ref 698), (4, .int i)]) (S' := [.int (i + (3 : Int32)), .ref 1000000, .int v2, .int v1, .ref 0]) (h' := (hh X g I)) (ab_blkD_ok rfl) ?_
  refine Go_ialds (dl_ok rfl) fun v3 => ?_
  refine Go_blk 4 (pc' := 2309) (L' := [(0, .ref 1000000), (1, .ref 0), (2, .ref 47), (3, .ref 698), (4, .int i)]) (S' := [.int (i + (4 : Int32)), .ref 1000000, .int v3, .int v2, .int v1, .ref 0]) (h' := (hh X g I)) (ab_blkD_ok rfl) ?_
  refine Go_ialds (dl_ok rfl) fun v4 => ?_
  refine Go_blk 1 (pc' := 2311) (L' := [(0, .ref 1000000), (1, .ref 0), (2, .ref 47), (3, .ref 698), (4, .int i)]) (S' := [.ref 698, .int v4, .int v3, .int v2, .int v1, .ref 0]) (h' := (hh X g I)) (ab_blkD_ok rfl) ?_
  refine Go_cG (y' := 250) (As := [.ref 0, .int v1, .int v2, .int v3, .int v4, .ref 698]) (r := []) (ab_clD_ok rfl) (g_l_years250 v1 v2 v3 v4 (by omega)) fun w5 => ?_
  refine Go_blk 6 (pc' := 2322) (L' := [(5, .int w5.1), (0, .ref 1000000), (1, .ref 0), (2, .ref 47), (3, .ref 698), (4, .int i)]) (S' := [.int (i + (1 : Int32)), .ref 1000000, .ref 47]) (h' := (hh X w5.2.2 w5.2.1)) (ab_blkD_ok rfl) ?_
  refine Go_ialds (dl_ok rfl) fun v6 => ?_
  refine Go_blk 4 (pc' := 2328) (L' := [(5, .int w5.1), (0, .ref 1000000), (1, .ref 0), (2, .ref 47), (3, .ref 698), (4, .int i)]) (S' := [.int (i + (2 : Int32)), .ref 1000000, .int v6, .ref 47]) (h' := (hh X w5.2.2 w5.2.1)) (ab_blkD_ok rfl) ?_
  refine Go_ialds (dl_ok rfl) fun v7 => ?_
  refine Go_blk 4 (pc' := 2334) (L' := [(5, .int w5.1), (0, .ref 1000000), (1, .ref 0), (2, .ref 47), (3, .ref 698), (4, .int i)]) (S' := [.int (i + (3 : Int32)), .ref 1000000, .int v7, .int v6, .ref 47]) (h' := (hh X w5.2.2 w5.2.1)) (ab_blkD_ok rfl) ?_
  refine Go_ialds (dl_ok rfl) fun v8 => ?_
  refine Go_blk 4 (pc' := 2340) (L' := [(5, .int w5.1), (0, .ref 1000000), (1, .ref 0), (2, .ref 47), (3, .ref 698), (4, .int i)]) (S' := [.int (i + (4 : Int32)), .ref 1000000, .int v8, .int v7, .int v6, .ref 47]) (h' := (hh X w5.2.2 w5.2.1)) (ab_blkD_ok rfl) ?_
  refine Go_ialds (dl_ok rfl) fun v9 => ?_
  refine Go_cW (y' := 376) (As := [.ref 47, .int v6, .int v7, .int v8, .int v9]) (r := []) (ab_clD_ok rfl) (g_m_years376 v6 v7 v8 v9 (by omega)) fun w10 => ?_
  refine Go_blk 2 (pc' := 2347) (L' := [(6, .int w10.1), (5, .int w5.1), (0, .ref 1000000), (1, .ref 0), (2, .ref 47), (3, .ref 698), (4, .int i)]) (S' := [.ref 47]) (h' := (hh X w5.2.2 w10.2)) (ab_blkD_ok rfl) ?_
  refine Go_cR (y' := 265) (As := [.ref 47]) (r := []) (ab_clD_ok rfl) (g_m_thrown265  (by omega)) fun v11 => ?_
  refine Go_blk 1 (pc' := 2352) (L' := [(6, .int w10.1), (5, .int w5.1), (0, .ref 1000000), (1, .ref 0), (2, .ref 47), (3, .ref 698), (4, .int i)]) (S' := [.int w5.1, .int v11]) (h' := (hh X w5.2.2 w10.2)) (ab_blkD_ok rfl) ?_
  refine Go_cmp (dl_ok rfl) rfl rfl ?_ ?_
  ·
    refine Go_blk 1 (pc' := 2359) (L' := [(6, .int w10.1), (5, .int w5.1), (0, .ref 1000000), (1, .ref 0), (2, .ref 47), (3, .ref 698), (4, .int i)]) (S' := [.int w5.1]) (h' := (hh X w5.2.2 w10.2)) (ab_blkD_ok rfl) ?_
    refine Go_cmzn (dl_ok rfl) rfl rfl ?_ ?_
    ·
      refine Go_blk 2 (pc' := 2364) (L' := [(6, .int w10.1), (5, .int w5.1), (0, .ref 1000000), (1, .ref 0), (2, .ref 47), (3, .ref 698), (4, .int i)]) (S' := [.int (0 : Int32), .ref 698]) (h' := (hh X w5.2.2 w10.2)) (ab_blkD_ok rfl) ?_
      refine Go_lald (dl_ok rfl) fun v12 => ?_
      refine Go_blk 3 (pc' := 2369) (L' := [(6, .int w10.1), (5, .int w5.1), (0, .ref 1000000), (1, .ref 0), (2, .ref 47), (3, .ref 698), (4, .int i)]) (S' := [.int (lg_cmp v12 (w10.1.toInt64))]) (h' := (hh X w5.2.2 w10.2)) (ab_blkD_ok rfl) ?_
      refine Go_cmz (dl_ok rfl) rfl rfl ?_ ?_
      ·
        refine Go_blk 3 (pc' := 23) (L' := [(4, .int (i + (7 : Int32))), (6, .int w10.1), (5, .int w5.1), (0, .ref 1000000), (1, .ref 0), (2, .ref 47), (3, .ref 698)]) (S' := []) (h' := (hh X w5.2.2 w10.2)) (ab_blkD_ok rfl) ?_
        exact Go_jmp [(0, .ref 1000000), (1, .ref 0), (2, .ref 47), (3, .ref 698), (4, .int (i + (7 : Int32)))] rfl ⟨rfl, rfl, rfl, rfl, rfl, trivial⟩ (fun _ h => h)
      ·
        refine Go_inrS ?_
        refine Go_blk 1 (pc' := 2373) (L' := [(6, .int w10.1), (5, .int w5.1), (0, .ref 1000000), (1, .ref 0), (2, .ref 47), (3, .ref 698), (4, .int i)]) (S' := [.int (0 : Int32)]) (h' := (hh X w5.2.2 w10.2)) (ab_blkD_ok rfl) ?_
        exact Go_ret (fun _ h => h) (ab_enD_ok rfl)
    ·
      refine Go_blk 3 (pc' := 23) (L' := [(4, .int (i + (7 : Int32))), (6, .int w10.1), (5, .int w5.1), (0, .ref 1000000), (1, .ref 0), (2, .ref 47), (3, .ref 698)]) (S' := []) (h' := (hh X w5.2.2 w10.2)) (ab_blkD_ok rfl) ?_
      exact Go_jmp [(0, .ref 1000000), (1, .ref 0), (2, .ref 47), (3, .ref 698), (4, .int (i + (7 : Int32)))] rfl ⟨rfl, rfl, rfl, rfl, rfl, trivial⟩ (fun _ h => h)
  ·
    refine Go_inrS ?_
    refine Go_blk 1 (pc' := 2356) (L' := [(6, .int w10.1), (5, .int w5.1), (0, .ref 1000000), (1, .ref 0), (2, .ref 47), (3, .ref 698), (4, .int i)]) (S' := [.int (0 : Int32)]) (h' := (hh X w5.2.2 w10.2)) (ab_blkD_ok rfl) ?_
    exact Go_ret (fun _ h => h) (ab_enD_ok rfl)
set_option maxRecDepth 1000000 in
set_option maxHeartbeats 4000000 in
theorem gl_c36 {X : XX} {i : Int32} {I : MJ} {g : GG} {d : Nat} (hd : 86 ≤ d + 1) : Go (d + 1) 386 2377 [(0, .ref 1000000), (1, .ref 0), (2, .ref 47), (3, .ref 698), (4, .int i)] [] (hh X g I)
  (
  (Option.bind (rds X (i + (1 : Int32))) fun v1 =>
  (Option.bind (rds X (i + (2 : Int32))) fun v2 =>
  (Option.bind (rds X (i + (3 : Int32))) fun v3 =>
  (Option.bind (rds X (i + (4 : Int32))) fun v4 =>
  (Option.bind (rds X (i + (5 : Int32))) fun v5 =>
  (Option.bind (rds X (i + (6 : Int32))) fun v6 =>
  (Option.bind (f_l_span258 v1 v2 v3 v4 v5 v6 I g) fun w7 =>
  (Option.bind (rds X (i + (1 : Int32))) fun v8 =>
  (Option.bind (rds X (i + (2 : Int32))) fun v9 =>
  (Option.bind (rds X (i + (3 : Int32))) fun v10 =>
  (Option.bind (rds X (i + (4 : Int32))) fun v11 =>
  (Option.bind (rds X (i + (5 : Int32))) fun v12 =>
  (Option.bind (rds X (i + (6 : Int32))) fun v13 =>
  (Option.bind (f_m_span379 v8 v9 v10 v11 v12 v13 w7.2.1) fun w14 =>
  (Option.bind (f_m_thrown265 w14.2) fun v15 =>
  (if v15 = w7.1 then
  (if w7.1 = 0 then
  (Option.bind (rdl w7.2.2 698 (0 : Int32)) fun v16 =>
  (if (lg_cmp v16 (w14.1.toInt64)) = 0 then
  some (.inl ((i + (7 : Int32)), w14.2, w7.2.2))
  else
  some (.inr ((0 : Int32), w14.2, w7.2.2))
  )
  )
  else
  some (.inl ((i + (7 : Int32)), w14.2, w7.2.2))
  )
  else
  some (.inr ((0 : Int32), w14.2, w7.2.2))
  )
  )
  )
  )
  )
  )
  )
  )
  )
  )
  )
  )
  )
  )
  )
  )
  )
  (TL (d + 1) X) := by
  refine Go_blk 5 (pc' := 2383) (L' := [(0, .ref 1000000), (1, .ref 0), (2, .ref 47), (3, .ref 698), (4, .int i)]) (S' := [.int (i + (1 : Int32)), .ref 1000000, .ref 0]) (h' := (hh X g I)) (ab_blkD_ok rfl) ?_
  refine Go_ialds (dl_ok rfl) fun v1 => ?_
  refine Go_blk 4 (pc' := 2389) (L' := [(0, .ref 1000000), (1, .ref 0), (2, .ref 47), (3, .ref 698), (4, .int i)]) (S' := [.int (i + (2 : Int32)), .ref 1000000, .int v1, .ref 0]) (h' := (hh X g I)) (ab_blkD_ok rfl) ?_
  refine Go_ialds (dl_ok rfl) fun v2 => ?_
  refine Go_blk 4 (pc' := 2395) (L' := [(0, .ref 1000000), (1, .ref 0), (2, .ref 47), (3, .ref 698), (4, .int i)]) (S' := [.int (i + (3 : Int32)), .ref 1000000, .int v2, .int v1, .ref 0]) (h' := (hh X g I)) (ab_blkD_ok rfl) ?_
  refine Go_ialds (dl_ok rfl) fun v3 => ?_
  refine Go_blk 4 (pc' := 2401) (L' := [(0, .ref 1000000), (1, .ref 0), (2, .ref 47), (3, .ref 698), (4, .int i)]) (S' := [.int (i + (4 : Int32)), .ref 1000000, .int v3, .int v2, .int v1, .ref 0]) (h' := (hh X g I)) (ab_blkD_ok rfl) ?_
  refine Go_ialds (dl_ok rfl) fun v4 => ?_
  refine Go_blk 4 (pc' := 2407) (L' := [(0, .ref 1000000), (1, .ref 0), (2, .ref 47), (3, .ref 698), (4, .int i)]) (S' := [.int (i + (5 : Int32)), .ref 1000000, .int v4, .int v3, .int v2, .int v1, .ref 0]) (h' := (hh X g I)) (ab_blkD_ok rfl) ?_
  refine Go_ialds (dl_ok rfl) fun v5 => ?_
  refine Go_blk 4 (pc' := 2414) (L' := [(0, .ref 1000000), (1, .ref 0), (2, .ref 47), (3, .ref 698), (4, .int i)]) (S' := [.int (i + (6 : Int32)), .ref 1000000, .int v5, .int v4, .int v3, .int v2, .int v1, .ref 0]) (h' := (hh X g I)) (ab_blkD_ok rfl) ?_
  refine Go_ialds (dl_ok rfl) fun v6 => ?_
  refine Go_blk 1 (pc' := 2416) (L' := [(0, .ref 1000000), (1, .ref 0), (2, .ref 47), (3, .ref 698), (4, .int i)]) (S' := [.ref 698, .int v6, .int v5, .int v4, .int v3, .int v2, .int v1, .ref 0]) (h' := (hh X g I)) (ab_blkD_ok rfl) ?_
  refine Go_cG (y' := 258) (As := [.ref 0, .int v1, .int v2, .int v3, .int v4, .int v5, .int v6, .ref 698]) (r := []) (ab_clD_ok rfl) (g_l_span258 v1 v2 v3 v4 v5 v6 (by omega)) fun w7 => ?_
  refine Go_blk 6 (pc' := 2427) (L' := [(5, .int w7.1), (0, .ref 1000000), (1, .ref 0), (2, .ref 47), (3, .ref 698), (4, .int i)]) (S' := [.int (i + (1 : Int32)), .ref 1000000, .ref 47]) (h' := (hh X w7.2.2 w7.2.1)) (ab_blkD_ok rfl) ?_
  refine Go_ialds (dl_ok rfl) fun v8 => ?_
  refine Go_blk 4 (pc' := 2433) (L' := [(5, .int w7.1), (0, .ref 1000000), (1, .ref 0), (2, .ref 47), (3, .ref 698), (4, .int i)]) (S' := [.int (i + (2 : Int32)), .ref 1000000, .int v8, .ref 47]) (h' := (hh X w7.2.2 w7.2.1)) (ab_blkD_ok rfl) ?_
  refine Go_ialds (dl_ok rfl) fun v9 => ?_
  refine Go_blk 4 (pc' := 2439) (L' := [(5, .int w7.1), (0, .ref 1000000), (1, .ref 0), (2, .ref 47), (3, .ref 698), (4, .int i)]) (S' := [.int (i + (3 : Int32)), .ref 1000000, .int v9, .int v8, .ref 47]) (h' := (hh X w7.2.2 w7.2.1)) (ab_blkD_ok rfl) ?_
  refine Go_ialds (dl_ok rfl) fun v10 => ?_
  refine Go_blk 4 (pc' := 2445) (L' := [(5, .int w7.1), (0, .ref 1000000), (1, .ref 0), (2, .ref 47), (3, .ref 698), (4, .int i)]) (S' := [.int (i + (4 : Int32)), .ref 1000000, .int v10, .int v9, .int v8, .ref 47]) (h' := (hh X w7.2.2 w7.2.1)) (ab_blkD_ok rfl) ?_
  refine Go_ialds (dl_ok rfl) fun v11 => ?_
  refine Go_blk 4 (pc' := 2451) (L' := [(5, .int w7.1), (0, .ref 1000000), (1, .ref 0), (2, .ref 47), (3, .ref 698), (4, .int i)]) (S' := [.int (i + (5 : Int32)), .ref 1000000, .int v11, .int v10, .int v9, .int v8, .ref 47]) (h' := (hh X w7.2.2 w7.2.1)) (ab_blkD_ok rfl) ?_
  refine Go_ialds (dl_ok rfl) fun v12 => ?_
  refine Go_blk 4 (pc' := 2458) (L' := [(5, .int w7.1), (0, .ref 1000000), (1, .ref 0), (2, .ref 47), (3, .ref 698), (4, .int i)]) (S' := [.int (i + (6 : Int32)), .ref 1000000, .int v12, .int v11, .int v10, .int v9, .int v8, .ref 47]) (h' := (hh X w7.2.2 w7.2.1)) (ab_blkD_ok rfl) ?_
  refine Go_ialds (dl_ok rfl) fun v13 => ?_
  refine Go_cW (y' := 379) (As := [.ref 47, .int v8, .int v9, .int v10, .int v11, .int v12, .int v13]) (r := []) (ab_clD_ok rfl) (g_m_span379 v8 v9 v10 v11 v12 v13 (by omega)) fun w14 => ?_
  refine Go_blk 2 (pc' := 2465) (L' := [(6, .int w14.1), (5, .int w7.1), (0, .ref 1000000), (1, .ref 0), (2, .ref 47), (3, .ref 698), (4, .int i)]) (S' := [.ref 47]) (h' := (hh X w7.2.2 w14.2)) (ab_blkD_ok rfl) ?_
  refine Go_cR (y' := 265) (As := [.ref 47]) (r := []) (ab_clD_ok rfl) (g_m_thrown265  (by omega)) fun v15 => ?_
  refine Go_blk 1 (pc' := 2470) (L' := [(6, .int w14.1), (5, .int w7.1), (0, .ref 1000000), (1, .ref 0), (2, .ref 47), (3, .ref 698), (4, .int i)]) (S' := [.int w7.1, .int v15]) (h' := (hh X w7.2.2 w14.2)) (ab_blkD_ok rfl) ?_
  refine Go_cmp (dl_ok rfl) rfl rfl ?_ ?_
  ·
    refine Go_blk 1 (pc' := 2477) (L' := [(6, .int w14.1), (5, .int w7.1), (0, .ref 1000000), (1, .ref 0), (2, .ref 47), (3, .ref 698), (4, .int i)]) (S' := [.int w7.1]) (h' := (hh X w7.2.2 w14.2)) (ab_blkD_ok rfl) ?_
    refine Go_cmzn (dl_ok rfl) rfl rfl ?_ ?_
    ·
      refine Go_blk 2 (pc' := 2482) (L' := [(6, .int w14.1), (5, .int w7.1), (0, .ref 1000000), (1, .ref 0), (2, .ref 47), (3, .ref 698), (4, .int i)]) (S' := [.int (0 : Int32), .ref 698]) (h' := (hh X w7.2.2 w14.2)) (ab_blkD_ok rfl) ?_
      refine Go_lald (dl_ok rfl) fun v16 => ?_
      refine Go_blk 3 (pc' := 2487) (L' := [(6, .int w14.1), (5, .int w7.1), (0, .ref 1000000), (1, .ref 0), (2, .ref 47), (3, .ref 698), (4, .int i)]) (S' := [.int (lg_cmp v16 (w14.1.toInt64))]) (h' := (hh X w7.2.2 w14.2)) (ab_blkD_ok rfl) ?_
      refine Go_cmz (dl_ok rfl) rfl rfl ?_ ?_
      ·
        refine Go_blk 3 (pc' := 23) (L' := [(4, .int (i + (7 : Int32))), (6, .int w14.1), (5, .int w7.1), (0, .ref 1000000), (1, .ref 0), (2, .ref 47), (3, .ref 698)]) (S' := []) (h' := (hh X w7.2.2 w14.2)) (ab_blkD_ok rfl) ?_
        exact Go_jmp [(0, .ref 1000000), (1, .ref 0), (2, .ref 47), (3, .ref 698), (4, .int (i + (7 : Int32)))] rfl ⟨rfl, rfl, rfl, rfl, rfl, trivial⟩ (fun _ h => h)
      ·
        refine Go_inrS ?_
        refine Go_blk 1 (pc' := 2491) (L' := [(6, .int w14.1), (5, .int w7.1), (0, .ref 1000000), (1, .ref 0), (2, .ref 47), (3, .ref 698), (4, .int i)]) (S' := [.int (0 : Int32)]) (h' := (hh X w7.2.2 w14.2)) (ab_blkD_ok rfl) ?_
        exact Go_ret (fun _ h => h) (ab_enD_ok rfl)
    ·
      refine Go_blk 3 (pc' := 23) (L' := [(4, .int (i + (7 : Int32))), (6, .int w14.1), (5, .int w7.1), (0, .ref 1000000), (1, .ref 0), (2, .ref 47), (3, .ref 698)]) (S' := []) (h' := (hh X w7.2.2 w14.2)) (ab_blkD_ok rfl) ?_
      exact Go_jmp [(0, .ref 1000000), (1, .ref 0), (2, .ref 47), (3, .ref 698), (4, .int (i + (7 : Int32)))] rfl ⟨rfl, rfl, rfl, rfl, rfl, trivial⟩ (fun _ h => h)
  ·
    refine Go_inrS ?_
    refine Go_blk 1 (pc' := 2474) (L' := [(6, .int w14.1), (5, .int w7.1), (0, .ref 1000000), (1, .ref 0), (2, .ref 47), (3, .ref 698), (4, .int i)]) (S' := [.int (0 : Int32)]) (h' := (hh X w7.2.2 w14.2)) (ab_blkD_ok rfl) ?_
    exact Go_ret (fun _ h => h) (ab_enD_ok rfl)
set_option maxRecDepth 1000000 in
set_option maxHeartbeats 4000000 in
theorem gl_c37 {X : XX} {i : Int32} {I : MJ} {g : GG} {d : Nat} (hd : 86 ≤ d + 1) : Go (d + 1) 386 2495 [(0, .ref 1000000), (1, .ref 0), (2, .ref 47), (3, .ref 698), (4, .int i)] [] (hh X g I)
  (
  (Option.bind (f_x_image29 I) fun w1 =>
  (Option.bind (f_m_image380 w1.2) fun w2 =>
  (if w1.1 = w2.1 then
  some (.inl ((i + (7 : Int32)), w2.2, g))
  else
  some (.inr ((0 : Int32), w2.2, g))
  )
  )
  )
  )
  (TL (d + 1) X) := by
  refine Go_blk 1 (pc' := 2496) (L' := [(0, .ref 1000000), (1, .ref 0), (2, .ref 47), (3, .ref 698), (4, .int i)]) (S' := [.ref 0]) (h' := (hh X g I)) (ab_blkD_ok rfl) ?_
  refine Go_cW (y' := 29) (As := [.ref 0]) (r := []) (ab_clD_ok rfl) (g_x_image29  (by omega)) fun w1 => ?_
  refine Go_blk 1 (pc' := 2500) (L' := [(0, .ref 1000000), (1, .ref 0), (2, .ref 47), (3, .ref 698), (4, .int i)]) (S' := [.ref 47, .int w1.1]) (h' := (hh X g w1.2)) (ab_blkD_ok rfl) ?_
  refine Go_cW (y' := 380) (As := [.ref 47]) (r := [.int w1.1]) (ab_clD_ok rfl) (g_m_image380  (by omega)) fun w2 => ?_
  refine Go_cmp (dl_ok rfl) rfl rfl ?_ ?_
  ·
    refine Go_blk 2 (pc' := 23) (L' := [(4, .int (i + (7 : Int32))), (0, .ref 1000000), (1, .ref 0), (2, .ref 47), (3, .ref 698)]) (S' := []) (h' := (hh X g w2.2)) (ab_blkD_ok rfl) ?_
    exact Go_jmp [(0, .ref 1000000), (1, .ref 0), (2, .ref 47), (3, .ref 698), (4, .int (i + (7 : Int32)))] rfl ⟨rfl, rfl, rfl, rfl, rfl, trivial⟩ (fun _ h => h)
  ·
    refine Go_inrS ?_
    refine Go_blk 1 (pc' := 2507) (L' := [(0, .ref 1000000), (1, .ref 0), (2, .ref 47), (3, .ref 698), (4, .int i)]) (S' := [.int (0 : Int32)]) (h' := (hh X g w2.2)) (ab_blkD_ok rfl) ?_
    exact Go_ret (fun _ h => h) (ab_enD_ok rfl)
set_option maxRecDepth 1000000 in
set_option maxHeartbeats 4000000 in
theorem gl_c38 {X : XX} {i : Int32} {I : MJ} {g : GG} {d : Nat} (hd : 86 ≤ d + 1) : Go (d + 1) 386 2508 [(0, .ref 1000000), (1, .ref 0), (2, .ref 47), (3, .ref 698), (4, .int i)] [] (hh X g I)
  (
  (Option.bind (f_x_restore31 I) fun w1 =>
  (Option.bind (f_m_restore383 w1.2) fun w2 =>
  (if w1.1 = w2.1 then
  some (.inl ((i + (7 : Int32)), w2.2, g))
  else
  some (.inr ((0 : Int32), w2.2, g))
  )
  )
  )
  )
  (TL (d + 1) X) := by
  refine Go_blk 1 (pc' := 2509) (L' := [(0, .ref 1000000), (1, .ref 0), (2, .ref 47), (3, .ref 698), (4, .int i)]) (S' := [.ref 0]) (h' := (hh X g I)) (ab_blkD_ok rfl) ?_
  refine Go_cW (y' := 31) (As := [.ref 0]) (r := []) (ab_clD_ok rfl) (g_x_restore31  (by omega)) fun w1 => ?_
  refine Go_blk 1 (pc' := 2513) (L' := [(0, .ref 1000000), (1, .ref 0), (2, .ref 47), (3, .ref 698), (4, .int i)]) (S' := [.ref 47, .int w1.1]) (h' := (hh X g w1.2)) (ab_blkD_ok rfl) ?_
  refine Go_cW (y' := 383) (As := [.ref 47]) (r := [.int w1.1]) (ab_clD_ok rfl) (g_m_restore383  (by omega)) fun w2 => ?_
  refine Go_cmp (dl_ok rfl) rfl rfl ?_ ?_
  ·
    refine Go_blk 2 (pc' := 23) (L' := [(4, .int (i + (7 : Int32))), (0, .ref 1000000), (1, .ref 0), (2, .ref 47), (3, .ref 698)]) (S' := []) (h' := (hh X g w2.2)) (ab_blkD_ok rfl) ?_
    exact Go_jmp [(0, .ref 1000000), (1, .ref 0), (2, .ref 47), (3, .ref 698), (4, .int (i + (7 : Int32)))] rfl ⟨rfl, rfl, rfl, rfl, rfl, trivial⟩ (fun _ h => h)
  ·
    refine Go_inrS ?_
    refine Go_blk 1 (pc' := 2520) (L' := [(0, .ref 1000000), (1, .ref 0), (2, .ref 47), (3, .ref 698), (4, .int i)]) (S' := [.int (0 : Int32)]) (h' := (hh X g w2.2)) (ab_blkD_ok rfl) ?_
    exact Go_ret (fun _ h => h) (ab_enD_ok rfl)
set_option maxRecDepth 1000000 in
set_option maxHeartbeats 4000000 in
theorem gl_c39 {X : XX} {i : Int32} {I : MJ} {g : GG} {d : Nat} (hd : 86 ≤ d + 1) : Go (d + 1) 386 2521 [(0, .ref 1000000), (1, .ref 0), (2, .ref 47), (3, .ref 698), (4, .int i)] [] (hh X g I)
  (
  (Option.bind (rds X (i + (1 : Int32))) fun v1 =>
  (Option.bind (f_x_status33 v1 I) fun v2 =>
  (Option.bind (rds X (i + (1 : Int32))) fun v3 =>
  (Option.bind (f_m_status384 v3 I) fun w4 =>
  (if v2 = w4.1 then
  some (.inl ((i + (7 : Int32)), w4.2, g))
  else
  some (.inr ((0 : Int32), w4.2, g))
  )
  )
  )
  )
  )
  )
  (TL (d + 1) X) := by
  refine Go_blk 5 (pc' := 2527) (L' := [(0, .ref 1000000), (1, .ref 0), (2, .ref 47), (3, .ref 698), (4, .int i)]) (S' := [.int (i + (1 : Int32)), .ref 1000000, .ref 0]) (h' := (hh X g I)) (ab_blkD_ok rfl) ?_
  refine Go_ialds (dl_ok rfl) fun v1 => ?_
  refine Go_cR (y' := 33) (As := [.ref 0, .int v1]) (r := []) (ab_clD_ok rfl) (g_x_status33 v1 (by omega)) fun v2 => ?_
  refine Go_blk 5 (pc' := 2537) (L' := [(0, .ref 1000000), (1, .ref 0), (2, .ref 47), (3, .ref 698), (4, .int i)]) (S' := [.int (i + (1 : Int32)), .ref 1000000, .ref 47, .int v2]) (h' := (hh X g I)) (ab_blkD_ok rfl) ?_
  refine Go_ialds (dl_ok rfl) fun v3 => ?_
  refine Go_cW (y' := 384) (As := [.ref 47, .int v3]) (r := [.int v2]) (ab_clD_ok rfl) (g_m_status384 v3 (by omega)) fun w4 => ?_
  refine Go_cmp (dl_ok rfl) rfl rfl ?_ ?_
  ·
    refine Go_blk 2 (pc' := 23) (L' := [(4, .int (i + (7 : Int32))), (0, .ref 1000000), (1, .ref 0), (2, .ref 47), (3, .ref 698)]) (S' := []) (h' := (hh X g w4.2)) (ab_blkD_ok rfl) ?_
    exact Go_jmp [(0, .ref 1000000), (1, .ref 0), (2, .ref 47), (3, .ref 698), (4, .int (i + (7 : Int32)))] rfl ⟨rfl, rfl, rfl, rfl, rfl, trivial⟩ (fun _ h => h)
  ·
    refine Go_inrS ?_
    refine Go_blk 1 (pc' := 2545) (L' := [(0, .ref 1000000), (1, .ref 0), (2, .ref 47), (3, .ref 698), (4, .int i)]) (S' := [.int (0 : Int32)]) (h' := (hh X g w4.2)) (ab_blkD_ok rfl) ?_
    exact Go_ret (fun _ h => h) (ab_enD_ok rfl)
set_option maxRecDepth 1000000 in
set_option maxHeartbeats 4000000 in
theorem gl_c40 {X : XX} {i : Int32} {I : MJ} {g : GG} {d : Nat} (hd : 86 ≤ d + 1) : Go (d + 1) 386 2546 [(0, .ref 1000000), (1, .ref 0), (2, .ref 47), (3, .ref 698), (4, .int i)] [] (hh X g I)
  (
  (Option.bind (rds X (i + (1 : Int32))) fun v1 =>
  (Option.bind (f_x_count34 v1 I) fun v2 =>
  (Option.bind (rds X (i + (1 : Int32))) fun v3 =>
  (Option.bind (f_m_count385 v3 I) fun w4 =>
  (if v2 = w4.1 then
  some (.inl ((i + (7 : Int32)), w4.2, g))
  else
  some (.inr ((0 : Int32), w4.2, g))
  )
  )
  )
  )
  )
  )
  (TL (d + 1) X) := by
  refine Go_blk 5 (pc' := 2552) (L' := [(0, .ref 1000000), (1, .ref 0), (2, .ref 47), (3, .ref 698), (4, .int i)]) (S' := [.int (i + (1 : Int32)), .ref 1000000, .ref 0]) (h' := (hh X g I)) (ab_blkD_ok rfl) ?_
  refine Go_ialds (dl_ok rfl) fun v1 => ?_
  refine Go_cR (y' := 34) (As := [.ref 0, .int v1]) (r := []) (ab_clD_ok rfl) (g_x_count34 v1 (by omega)) fun v2 => ?_
  refine Go_blk 5 (pc' := 2562) (L' := [(0, .ref 1000000), (1, .ref 0), (2, .ref 47), (3, .ref 698), (4, .int i)]) (S' := [.int (i + (1 : Int32)), .ref 1000000, .ref 47, .int v2]) (h' := (hh X g I)) (ab_blkD_ok rfl) ?_
  refine Go_ialds (dl_ok rfl) fun v3 => ?_
  refine Go_cW (y' := 385) (As := [.ref 47, .int v3]) (r := [.int v2]) (ab_clD_ok rfl) (g_m_count385 v3 (by omega)) fun w4 => ?_
  refine Go_cmp (dl_ok rfl) rfl rfl ?_ ?_
  ·
    refine Go_blk 2 (pc' := 23) (L' := [(4, .int (i + (7 : Int32))), (0, .ref 1000000), (1, .ref 0), (2, .ref 47), (3, .ref 698)]) (S' := []) (h' := (hh X g w4.2)) (ab_blkD_ok rfl) ?_
    exact Go_jmp [(0, .ref 1000000), (1, .ref 0), (2, .ref 47), (3, .ref 698), (4, .int (i + (7 : Int32)))] rfl ⟨rfl, rfl, rfl, rfl, rfl, trivial⟩ (fun _ h => h)
  ·
    refine Go_inrS ?_
    refine Go_blk 1 (pc' := 2570) (L' := [(0, .ref 1000000), (1, .ref 0), (2, .ref 47), (3, .ref 698), (4, .int i)]) (S' := [.int (0 : Int32)]) (h' := (hh X g w4.2)) (ab_blkD_ok rfl) ?_
    exact Go_ret (fun _ h => h) (ab_enD_ok rfl)
set_option maxRecDepth 1000000 in
set_option maxHeartbeats 4000000 in
theorem gl_cd {X : XX} {i : Int32} {I : MJ} {g : GG} {d : Nat} (hd : 86 ≤ d + 1) : Go (d + 1) 386 2571 [(0, .ref 1000000), (1, .ref 0), (2, .ref 47), (3, .ref 698), (4, .int i)] [] (hh X g I)
  (
  some (.inl ((i + (7 : Int32)), I, g))
  )
  (TL (d + 1) X) := by
  refine Go_blk 2 (pc' := 23) (L' := [(4, .int (i + (7 : Int32))), (0, .ref 1000000), (1, .ref 0), (2, .ref 47), (3, .ref 698)]) (S' := []) (h' := (hh X g I)) (ab_blkD_ok rfl) ?_
  exact Go_jmp [(0, .ref 1000000), (1, .ref 0), (2, .ref 47), (3, .ref 698), (4, .int (i + (7 : Int32)))] rfl ⟨rfl, rfl, rfl, rfl, rfl, trivial⟩ (fun _ h => h)
