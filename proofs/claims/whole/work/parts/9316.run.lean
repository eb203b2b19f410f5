/-! the machine runs them (written by wip/whole/dec.py) -/
set_option maxRecDepth 20000 in
set_option maxHeartbeats 4000000 in
theorem g_l_law386  {X : XX} {g : GG} {I : MJ} {d : Nat} (hd : 86 ≤ d) : Go d 386 23 [(0, .ref 1000000), (1, .ref 0), (2, .ref 47), (3, .ref 698), (4, .int (0 : Int32))] [] (hh X g I) (f_l_law386 X  I g) (pG X) := by
  obtain ⟨d, rfl⟩ : ∃ k, d = k + 1 := ⟨d - 1, by omega⟩
  unfold f_l_law386
  refine Go_lcs [(0, .ref 1000000), (1, .ref 0), (2, .ref 47), (3, .ref 698), (4, .int (0 : Int32))] rfl ⟨rfl, rfl, rfl, rfl, rfl, trivial⟩ ?_
  refine Go_wh (fun (s1 : Int32 × MJ × GG) => [(0, .ref 1000000), (1, .ref 0), (2, .ref 47), (3, .ref 698), (4, .int s1.1)]) (fun _ => []) (fun (s1 : Int32 × MJ × GG) => (hh X s1.2.2 s1.2.1)) (fun s1 => ?_) ((0 : Int32), I, g)
  refine Go_blk 2 (pc' := 26) (L' := [(0, .ref 1000000), (1, .ref 0), (2, .ref 47), (3, .ref 698), (4, .int s1.1)]) (S' := [.ref 1000000, .int s1.1]) (h' := (hh X s1.2.2 s1.2.1)) rfl ?_
  refine Go_alens rfl ?_
  refine Go_blk 2 (pc' := 30) (L' := [(0, .ref 1000000), (1, .ref 0), (2, .ref 47), (3, .ref 698), (4, .int s1.1)]) (S' := [.int ((Int32.ofNat X.1) - (7 : Int32)), .int s1.1]) (h' := (hh X s1.2.2 s1.2.1)) rfl ?_
  refine Go_cmp rfl rfl rfl ?_ ?_
  ·
    refine Go_inrS ?_
    refine Go_blk 1 (pc' := 2578) (L' := [(0, .ref 1000000), (1, .ref 0), (2, .ref 47), (3, .ref 698), (4, .int s1.1)]) (S' := [.int (1 : Int32)]) (h' := (hh X s1.2.2 s1.2.1)) rfl ?_
    exact Go_ret (fun _ h => h) rfl
  ·
    refine Go_blk 2 (pc' := 36) (L' := [(0, .ref 1000000), (1, .ref 0), (2, .ref 47), (3, .ref 698), (4, .int s1.1)]) (S' := [.int s1.1, .ref 1000000]) (h' := (hh X s1.2.2 s1.2.1)) rfl ?_
    refine Go_ialds rfl fun v2 => ?_
    refine Go_blk 2 (pc' := 40) (L' := [(0, .ref 1000000), (1, .ref 0), (2, .ref 47), (3, .ref 698), (4, .int s1.1)]) (S' := [.int (v2 &&& (63 : Int32))]) (h' := (hh X s1.2.2 s1.2.1)) rfl ?_
    refine Go_sw ?_ fun h0 => ?_
    ·
      refine Go_blk 1 (pc' := 220) (L' := [(0, .ref 1000000), (1, .ref 0), (2, .ref 47), (3, .ref 698), (4, .int s1.1)]) (S' := []) (h' := (hh X s1.2.2 s1.2.1)) rfl ?_
      refine Go_blk 5 (pc' := 226) (L' := [(0, .ref 1000000), (1, .ref 0), (2, .ref 47), (3, .ref 698), (4, .int s1.1)]) (S' := [.int (s1.1 + (1 : Int32)), .ref 1000000, .ref 0]) (h' := (hh X s1.2.2 s1.2.1)) rfl ?_
      refine Go_ialds rfl fun v3 => ?_
      refine Go_blk 4 (pc' := 232) (L' := [(0, .ref 1000000), (1, .ref 0), (2, .ref 47), (3, .ref 698), (4, .int s1.1)]) (S' := [.int (s1.1 + (2 : Int32)), .ref 1000000, .int v3, .ref 0]) (h' := (hh X s1.2.2 s1.2.1)) rfl ?_
      refine Go_ialds rfl fun v4 => ?_
      refine Go_blk 4 (pc' := 238) (L' := [(0, .ref 1000000), (1, .ref 0), (2, .ref 47), (3, .ref 698), (4, .int s1.1)]) (S' := [.int (s1.1 + (3 : Int32)), .ref 1000000, .int v4, .int v3, .ref 0]) (h' := (hh X s1.2.2 s1.2.1)) rfl ?_
      refine Go_ialds rfl fun v5 => ?_
      refine Go_blk 4 (pc' := 244) (L' := [(0, .ref 1000000), (1, .ref 0), (2, .ref 47), (3, .ref 698), (4, .int s1.1)]) (S' := [.int (s1.1 + (4 : Int32)), .ref 1000000, .int v5, .int v4, .int v3, .ref 0]) (h' := (hh X s1.2.2 s1.2.1)) rfl ?_
      refine Go_ialds rfl fun v6 => ?_
      refine Go_blk 4 (pc' := 250) (L' := [(0, .ref 1000000), (1, .ref 0), (2, .ref 47), (3, .ref 698), (4, .int s1.1)]) (S' := [.int (s1.1 + (5 : Int32)), .ref 1000000, .int v6, .int v5, .int v4, .int v3, .ref 0]) (h' := (hh X s1.2.2 s1.2.1)) rfl ?_
      refine Go_ialds rfl fun v7 => ?_
      refine Go_cW (y' := 17) (As := [.ref 0, .int v3, .int v4, .int v5, .int v6, .int v7]) (r := []) rfl (g_x_feed17 v3 v4 v5 v6 v7 (by omega)) fun w8 => ?_
      refine Go_blk 5 (pc' := 260) (L' := [(0, .ref 1000000), (1, .ref 0), (2, .ref 47), (3, .ref 698), (4, .int s1.1)]) (S' := [.int (s1.1 + (1 : Int32)), .ref 1000000, .ref 47, .int w8.1]) (h' := (hh X s1.2.2 w8.2)) rfl ?_
      refine Go_ialds rfl fun v9 => ?_
      refine Go_blk 4 (pc' := 266) (L' := [(0, .ref 1000000), (1, .ref 0), (2, .ref 47), (3, .ref 698), (4, .int s1.1)]) (S' := [.int (s1.1 + (2 : Int32)), .ref 1000000, .int v9, .ref 47, .int w8.1]) (h' := (hh X s1.2.2 w8.2)) rfl ?_
      refine Go_ialds rfl fun v10 => ?_
      refine Go_blk 4 (pc' := 272) (L' := [(0, .ref 1000000), (1, .ref 0), (2, .ref 47), (3, .ref 698), (4, .int s1.1)]) (S' := [.int (s1.1 + (3 : Int32)), .ref 1000000, .int v10, .int v9, .ref 47, .int w8.1]) (h' := (hh X s1.2.2 w8.2)) rfl ?_
      refine Go_ialds rfl fun v11 => ?_
      refine Go_blk 4 (pc' := 278) (L' := [(0, .ref 1000000), (1, .ref 0), (2, .ref 47), (3, .ref 698), (4, .int s1.1)]) (S' := [.int (s1.1 + (4 : Int32)), .ref 1000000, .int v11, .int v10, .int v9, .ref 47, .int w8.1]) (h' := (hh X s1.2.2 w8.2)) rfl ?_
      refine Go_ialds rfl fun v12 => ?_
      refine Go_blk 4 (pc' := 284) (L' := [(0, .ref 1000000), (1, .ref 0), (2, .ref 47), (3, .ref 698), (4, .int s1.1)]) (S' := [.int (s1.1 + (5 : Int32)), .ref 1000000, .int v12, .int v11, .int v10, .int v9, .ref 47, .int w8.1]) (h' := (hh X s1.2.2 w8.2)) rfl ?_
      refine Go_ialds rfl fun v13 => ?_
      refine Go_cW (y' := 266) (As := [.ref 47, .int v9, .int v10, .int v11, .int v12, .int v13]) (r := [.int w8.1]) rfl (g_m_feed266 v9 v10 v11 v12 v13 (by omega)) fun w14 => ?_
      refine Go_cmp rfl rfl rfl ?_ ?_
      ·
        refine Go_blk 2 (pc' := 23) (L' := [(4, .int (s1.1 + (7 : Int32))), (0, .ref 1000000), (1, .ref 0), (2, .ref 47), (3, .ref 698)]) (S' := []) (h' := (hh X s1.2.2 w14.2)) rfl ?_
        exact Go_jmp [(0, .ref 1000000), (1, .ref 0), (2, .ref 47), (3, .ref 698), (4, .int (s1.1 + (7 : Int32)))] rfl ⟨rfl, rfl, rfl, rfl, rfl, trivial⟩ (fun _ h => h)
      ·
        refine Go_inrS ?_
        refine Go_blk 1 (pc' := 292) (L' := [(0, .ref 1000000), (1, .ref 0), (2, .ref 47), (3, .ref 698), (4, .int s1.1)]) (S' := [.int (0 : Int32)]) (h' := (hh X s1.2.2 w14.2)) rfl ?_
        exact Go_ret (fun _ h => h) rfl
    refine Go_sw ?_ fun h1 => ?_
    ·
      refine Go_blk 1 (pc' := 293) (L' := [(0, .ref 1000000), (1, .ref 0), (2, .ref 47), (3, .ref 698), (4, .int s1.1)]) (S' := []) (h' := (hh X s1.2.2 s1.2.1)) rfl ?_
      refine Go_blk 5 (pc' := 299) (L' := [(0, .ref 1000000), (1, .ref 0), (2, .ref 47), (3, .ref 698), (4, .int s1.1)]) (S' := [.int (s1.1 + (1 : Int32)), .ref 1000000, .ref 0]) (h' := (hh X s1.2.2 s1.2.1)) rfl ?_
      refine Go_ialds rfl fun v15 => ?_
      refine Go_blk 1 (pc' := 301) (L' := [(0, .ref 1000000), (1, .ref 0), (2, .ref 47), (3, .ref 698), (4, .int s1.1)]) (S' := [.ref 698, .int v15, .ref 0]) (h' := (hh X s1.2.2 s1.2.1)) rfl ?_
      refine Go_cG (y' := 35) (As := [.ref 0, .int v15, .ref 698]) (r := []) rfl (g_l_shop35 v15 (by omega)) fun w16 => ?_
      refine Go_blk 6 (pc' := 312) (L' := [(5, .int w16.1), (0, .ref 1000000), (1, .ref 0), (2, .ref 47), (3, .ref 698), (4, .int s1.1)]) (S' := [.int (s1.1 + (1 : Int32)), .ref 1000000, .ref 47]) (h' := (hh X w16.2.2 w16.2.1)) rfl ?_
      refine Go_ialds rfl fun v17 => ?_
      refine Go_cW (y' := 267) (As := [.ref 47, .int v17]) (r := []) rfl (g_m_shop267 v17 (by omega)) fun w18 => ?_
      refine Go_blk 2 (pc' := 319) (L' := [(6, .int w18.1), (5, .int w16.1), (0, .ref 1000000), (1, .ref 0), (2, .ref 47), (3, .ref 698), (4, .int s1.1)]) (S' := [.ref 47]) (h' := (hh X w16.2.2 w18.2)) rfl ?_
      refine Go_cR (y' := 265) (As := [.ref 47]) (r := []) rfl (g_m_thrown265  (by omega)) fun v19 => ?_
      refine Go_blk 1 (pc' := 324) (L' := [(6, .int w18.1), (5, .int w16.1), (0, .ref 1000000), (1, .ref 0), (2, .ref 47), (3, .ref 698), (4, .int s1.1)]) (S' := [.int w16.1, .int v19]) (h' := (hh X w16.2.2 w18.2)) rfl ?_
      refine Go_cmp rfl rfl rfl ?_ ?_
      ·
        refine Go_blk 1 (pc' := 331) (L' := [(6, .int w18.1), (5, .int w16.1), (0, .ref 1000000), (1, .ref 0), (2, .ref 47), (3, .ref 698), (4, .int s1.1)]) (S' := [.int w16.1]) (h' := (hh X w16.2.2 w18.2)) rfl ?_
        refine Go_cmzn rfl rfl rfl ?_ ?_
        ·
          refine Go_blk 2 (pc' := 336) (L' := [(6, .int w18.1), (5, .int w16.1), (0, .ref 1000000), (1, .ref 0), (2, .ref 47), (3, .ref 698), (4, .int s1.1)]) (S' := [.int (0 : Int32), .ref 698]) (h' := (hh X w16.2.2 w18.2)) rfl ?_
          refine Go_lald rfl fun v20 => ?_
          refine Go_blk 3 (pc' := 341) (L' := [(6, .int w18.1), (5, .int w16.1), (0, .ref 1000000), (1, .ref 0), (2, .ref 47), (3, .ref 698), (4, .int s1.1)]) (S' := [.int (lg_cmp v20 (w18.1.toInt64))]) (h' := (hh X w16.2.2 w18.2)) rfl ?_
          refine Go_cmz rfl rfl rfl ?_ ?_
          ·
            refine Go_blk 3 (pc' := 23) (L' := [(4, .int (s1.1 + (7 : Int32))), (6, .int w18.1), (5, .int w16.1), (0, .ref 1000000), (1, .ref 0), (2, .ref 47), (3, .ref 698)]) (S' := []) (h' := (hh X w16.2.2 w18.2)) rfl ?_
            exact Go_jmp [(0, .ref 1000000), (1, .ref 0), (2, .ref 47), (3, .ref 698), (4, .int (s1.1 + (7 : Int32)))] rfl ⟨rfl, rfl, rfl, rfl, rfl, trivial⟩ (fun _ h => h)
          ·
            refine Go_inrS ?_
            refine Go_blk 1 (pc' := 345) (L' := [(6, .int w18.1), (5, .int w16.1), (0, .ref 1000000), (1, .ref 0), (2, .ref 47), (3, .ref 698), (4, .int s1.1)]) (S' := [.int (0 : Int32)]) (h' := (hh X w16.2.2 w18.2)) rfl ?_
            exact Go_ret (fun _ h => h) rfl
        ·
          refine Go_blk 3 (pc' := 23) (L' := [(4, .int (s1.1 + (7 : Int32))), (6, .int w18.1), (5, .int w16.1), (0, .ref 1000000), (1, .ref 0), (2, .ref 47), (3, .ref 698)]) (S' := []) (h' := (hh X w16.2.2 w18.2)) rfl ?_
          exact Go_jmp [(0, .ref 1000000), (1, .ref 0), (2, .ref 47), (3, .ref 698), (4, .int (s1.1 + (7 : Int32)))] rfl ⟨rfl, rfl, rfl, rfl, rfl, trivial⟩ (fun _ h => h)
      ·
        refine Go_inrS ?_
        refine Go_blk 1 (pc' := 328) (L' := [(6, .int w18.1), (5, .int w16.1), (0, .ref 1000000), (1, .ref 0), (2, .ref 47), (3, .ref 698), (4, .int s1.1)]) (S' := [.int (0 : Int32)]) (h' := (hh X w16.2.2 w18.2)) rfl ?_
        exact Go_ret (fun _ h => h) rfl
    refine Go_sw ?_ fun h2 => ?_
    ·
      refine Go_blk 1 (pc' := 349) (L' := [(0, .ref 1000000), (1, .ref 0), (2, .ref 47), (3, .ref 698), (4, .int s1.1)]) (S' := []) (h' := (hh X s1.2.2 s1.2.1)) rfl ?_
      refine Go_blk 5 (pc' := 355) (L' := [(0, .ref 1000000), (1, .ref 0), (2, .ref 47), (3, .ref 698), (4, .int s1.1)]) (S' := [.int (s1.1 + (1 : Int32)), .ref 1000000, .ref 0]) (h' := (hh X s1.2.2 s1.2.1)) rfl ?_
      refine Go_ialds rfl fun v21 => ?_
      refine Go_blk 4 (pc' := 361) (L' := [(0, .ref 1000000), (1, .ref 0), (2, .ref 47), (3, .ref 698), (4, .int s1.1)]) (S' := [.int (s1.1 + (2 : Int32)), .ref 1000000, .int v21, .ref 0]) (h' := (hh X s1.2.2 s1.2.1)) rfl ?_
      refine Go_ialds rfl fun v22 => ?_
      refine Go_blk 1 (pc' := 363) (L' := [(0, .ref 1000000), (1, .ref 0), (2, .ref 47), (3, .ref 698), (4, .int s1.1)]) (S' := [.ref 698, .int v22, .int v21, .ref 0]) (h' := (hh X s1.2.2 s1.2.1)) rfl ?_
      refine Go_cG (y' := 66) (As := [.ref 0, .int v21, .int v22, .ref 698]) (r := []) rfl (g_l_pattern66 v21 v22 (by omega)) fun w23 => ?_
      refine Go_blk 6 (pc' := 374) (L' := [(5, .int w23.1), (0, .ref 1000000), (1, .ref 0), (2, .ref 47), (3, .ref 698), (4, .int s1.1)]) (S' := [.int (s1.1 + (1 : Int32)), .ref 1000000, .ref 47]) (h' := (hh X w23.2.2 w23.2.1)) rfl ?_
      refine Go_ialds rfl fun v24 => ?_
      refine Go_blk 4 (pc' := 380) (L' := [(5, .int w23.1), (0, .ref 1000000), (1, .ref 0), (2, .ref 47), (3, .ref 698), (4, .int s1.1)]) (S' := [.int (s1.1 + (2 : Int32)), .ref 1000000, .int v24, .ref 47]) (h' := (hh X w23.2.2 w23.2.1)) rfl ?_
      refine Go_ialds rfl fun v25 => ?_
      refine Go_cW (y' := 287) (As := [.ref 47, .int v24, .int v25]) (r := []) rfl (g_m_pattern287 v24 v25 (by omega)) fun w26 => ?_
      refine Go_blk 2 (pc' := 387) (L' := [(6, .int w26.1), (5, .int w23.1), (0, .ref 1000000), (1, .ref 0), (2, .ref 47), (3, .ref 698), (4, .int s1.1)]) (S' := [.ref 47]) (h' := (hh X w23.2.2 w26.2)) rfl ?_
      refine Go_cR (y' := 265) (As := [.ref 47]) (r := []) rfl (g_m_thrown265  (by omega)) fun v27 => ?_
      refine Go_blk 1 (pc' := 392) (L' := [(6, .int w26.1), (5, .int w23.1), (0, .ref 1000000), (1, .ref 0), (2, .ref 47), (3, .ref 698), (4, .int s1.1)]) (S' := [.int w23.1, .int v27]) (h' := (hh X w23.2.2 w26.2)) rfl ?_
      refine Go_cmp rfl rfl rfl ?_ ?_
      ·
        refine Go_blk 1 (pc' := 399) (L' := [(6, .int w26.1), (5, .int w23.1), (0, .ref 1000000), (1, .ref 0), (2, .ref 47), (3, .ref 698), (4, .int s1.1)]) (S' := [.int w23.1]) (h' := (hh X w23.2.2 w26.2)) rfl ?_
        refine Go_cmzn rfl rfl rfl ?_ ?_
        ·
          refine Go_blk 2 (pc' := 404) (L' := [(6, .int w26.1), (5, .int w23.1), (0, .ref 1000000), (1, .ref 0), (2, .ref 47), (3, .ref 698), (4, .int s1.1)]) (S' := [.int (0 : Int32), .ref 698]) (h' := (hh X w23.2.2 w26.2)) rfl ?_
          refine Go_lald rfl fun v28 => ?_
          refine Go_blk 3 (pc' := 409) (L' := [(6, .int w26.1), (5, .int w23.1), (0, .ref 1000000), (1, .ref 0), (2, .ref 47), (3, .ref 698), (4, .int s1.1)]) (S' := [.int (lg_cmp v28 (w26.1.toInt64))]) (h' := (hh X w23.2.2 w26.2)) rfl ?_
          refine Go_cmz rfl rfl rfl ?_ ?_
          ·
            refine Go_blk 3 (pc' := 23) (L' := [(4, .int (s1.1 + (7 : Int32))), (6, .int w26.1), (5, .int w23.1), (0, .ref 1000000), (1, .ref 0), (2, .ref 47), (3, .ref 698)]) (S' := []) (h' := (hh X w23.2.2 w26.2)) rfl ?_
            exact Go_jmp [(0, .ref 1000000), (1, .ref 0), (2, .ref 47), (3, .ref 698), (4, .int (s1.1 + (7 : Int32)))] rfl ⟨rfl, rfl, rfl, rfl, rfl, trivial⟩ (fun _ h => h)
          ·
            refine Go_inrS ?_
            refine Go_blk 1 (pc' := 413) (L' := [(6, .int w26.1), (5, .int w23.1), (0, .ref 1000000), (1, .ref 0), (2, .ref 47), (3, .ref 698), (4, .int s1.1)]) (S' := [.int (0 : Int32)]) (h' := (hh X w23.2.2 w26.2)) rfl ?_
            exact Go_ret (fun _ h => h) rfl
        ·
          refine Go_blk 3 (pc' := 23) (L' := [(4, .int (s1.1 + (7 : Int32))), (6, .int w26.1), (5, .int w23.1), (0, .ref 1000000), (1, .ref 0), (2, .ref 47), (3, .ref 698)]) (S' := []) (h' := (hh X w23.2.2 w26.2)) rfl ?_
          exact Go_jmp [(0, .ref 1000000), (1, .ref 0), (2, .ref 47), (3, .ref 698), (4, .int (s1.1 + (7 : Int32)))] rfl ⟨rfl, rfl, rfl, rfl, rfl, trivial⟩ (fun _ h => h)
      ·
        refine Go_inrS ?_
        refine Go_blk 1 (pc' := 396) (L' := [(6, .int w26.1), (5, .int w23.1), (0, .ref 1000000), (1, .ref 0), (2, .ref 47), (3, .ref 698), (4, .int s1.1)]) (S' := [.int (0 : Int32)]) (h' := (hh X w23.2.2 w26.2)) rfl ?_
        exact Go_ret (fun _ h => h) rfl
    refine Go_sw ?_ fun h3 => ?_
    ·
      refine Go_blk 1 (pc' := 417) (L' := [(0, .ref 1000000), (1, .ref 0), (2, .ref 47), (3, .ref 698), (4, .int s1.1)]) (S' := []) (h' := (hh X s1.2.2 s1.2.1)) rfl ?_
      refine Go_blk 5 (pc' := 423) (L' := [(0, .ref 1000000), (1, .ref 0), (2, .ref 47), (3, .ref 698), (4, .int s1.1)]) (S' := [.int (s1.1 + (1 : Int32)), .ref 1000000, .ref 0]) (h' := (hh X s1.2.2 s1.2.1)) rfl ?_
      refine Go_ialds rfl fun v29 => ?_
      refine Go_blk 1 (pc' := 425) (L' := [(0, .ref 1000000), (1, .ref 0), (2, .ref 47), (3, .ref 698), (4, .int s1.1)]) (S' := [.ref 698, .int v29, .ref 0]) (h' := (hh X s1.2.2 s1.2.1)) rfl ?_
      refine Go_cG (y' := 80) (As := [.ref 0, .int v29, .ref 698]) (r := []) rfl (g_l_law80 v29 (by omega)) fun w30 => ?_
      refine Go_blk 6 (pc' := 436) (L' := [(5, .int w30.1), (0, .ref 1000000), (1, .ref 0), (2, .ref 47), (3, .ref 698), (4, .int s1.1)]) (S' := [.int (s1.1 + (1 : Int32)), .ref 1000000, .ref 47]) (h' := (hh X w30.2.2 w30.2.1)) rfl ?_
      refine Go_ialds rfl fun v31 => ?_
      refine Go_cW (y' := 292) (As := [.ref 47, .int v31]) (r := []) rfl (g_m_law292 v31 (by omega)) fun w32 => ?_
      refine Go_blk 2 (pc' := 443) (L' := [(6, .int w32.1), (5, .int w30.1), (0, .ref 1000000), (1, .ref 0), (2, .ref 47), (3, .ref 698), (4, .int s1.1)]) (S' := [.ref 47]) (h' := (hh X w30.2.2 w32.2)) rfl ?_
      refine Go_cR (y' := 265) (As := [.ref 47]) (r := []) rfl (g_m_thrown265  (by omega)) fun v33 => ?_
      refine Go_blk 1 (pc' := 448) (L' := [(6, .int w32.1), (5, .int w30.1), (0, .ref 1000000), (1, .ref 0), (2, .ref 47), (3, .ref 698), (4, .int s1.1)]) (S' := [.int w30.1, .int v33]) (h' := (hh X w30.2.2 w32.2)) rfl ?_
      refine Go_cmp rfl rfl rfl ?_ ?_
      ·
        refine Go_blk 1 (pc' := 455) (L' := [(6, .int w32.1), (5, .int w30.1), (0, .ref 1000000), (1, .ref 0), (2, .ref 47), (3, .ref 698), (4, .int s1.1)]) (S' := [.int w30.1]) (h' := (hh X w30.2.2 w32.2)) rfl ?_
        refine Go_cmzn rfl rfl rfl ?_ ?_
        ·
          refine Go_blk 2 (pc' := 460) (L' := [(6, .int w32.1), (5, .int w30.1), (0, .ref 1000000), (1, .ref 0), (2, .ref 47), (3, .ref 698), (4, .int s1.1)]) (S' := [.int (0 : Int32), .ref 698]) (h' := (hh X w30.2.2 w32.2)) rfl ?_
          refine Go_lald rfl fun v34 => ?_
          refine Go_blk 3 (pc' := 465) (L' := [(6, .int w32.1), (5, .int w30.1), (0, .ref 1000000), (1, .ref 0), (2, .ref 47), (3, .ref 698), (4, .int s1.1)]) (S' := [.int (lg_cmp v34 (w32.1.toInt64))]) (h' := (hh X w30.2.2 w32.2)) rfl ?_
          refine Go_cmz rfl rfl rfl ?_ ?_
          ·
            refine Go_blk 3 (pc' := 23) (L' := [(4, .int (s1.1 + (7 : Int32))), (6, .int w32.1), (5, .int w30.1), (0, .ref 1000000), (1, .ref 0), (2, .ref 47), (3, .ref 698)]) (S' := []) (h' := (hh X w30.2.2 w32.2)) rfl ?_
            exact Go_jmp [(0, .ref 1000000), (1, .ref 0), (2, .ref 47), (3, .ref 698), (4, .int (s1.1 + (7 : Int32)))] rfl ⟨rfl, rfl, rfl, rfl, rfl, trivial⟩ (fun _ h => h)
          ·
            refine Go_inrS ?_
            refine Go_blk 1 (pc' := 469) (L' := [(6, .int w32.1), (5, .int w30.1), (0, .ref 1000000), (1, .ref 0), (2, .ref 47), (3, .ref 698), (4, .int s1.1)]) (S' := [.int (0 : Int32)]) (h' := (hh X w30.2.2 w32.2)) rfl ?_
            exact Go_ret (fun _ h => h) rfl
        ·
          refine Go_blk 3 (pc' := 23) (L' := [(4, .int (s1.1 + (7 : Int32))), (6, .int w32.1), (5, .int w30.1), (0, .ref 1000000), (1, .ref 0), (2, .ref 47), (3, .ref 698)]) (S' := []) (h' := (hh X w30.2.2 w32.2)) rfl ?_
          exact Go_jmp [(0, .ref 1000000), (1, .ref 0), (2, .ref 47), (3, .ref 698), (4, .int (s1.1 + (7 : Int32)))] rfl ⟨rfl, rfl, rfl, rfl, rfl, trivial⟩ (fun _ h => h)
      ·
        refine Go_inrS ?_
        refine Go_blk 1 (pc' := 452) (L' := [(6, .int w32.1), (5, .int w30.1), (0, .ref 1000000), (1, .ref 0), (2, .ref 47), (3, .ref 698), (4, .int s1.1)]) (S' := [.int (0 : Int32)]) (h' := (hh X w30.2.2 w32.2)) rfl ?_
        exact Go_ret (fun _ h => h) rfl
    refine Go_sw ?_ fun h4 => ?_
    ·
      refine Go_blk 1 (pc' := 473) (L' := [(0, .ref 1000000), (1, .ref 0), (2, .ref 47), (3, .ref 698), (4, .int s1.1)]) (S' := []) (h' := (hh X s1.2.2 s1.2.1)) rfl ?_
      refine Go_blk 5 (pc' := 479) (L' := [(0, .ref 1000000), (1, .ref 0), (2, .ref 47), (3, .ref 698), (4, .int s1.1)]) (S' := [.int (s1.1 + (1 : Int32)), .ref 1000000, .ref 0]) (h' := (hh X s1.2.2 s1.2.1)) rfl ?_
      refine Go_ialds rfl fun v35 => ?_
      refine Go_blk 1 (pc' := 481) (L' := [(0, .ref 1000000), (1, .ref 0), (2, .ref 47), (3, .ref 698), (4, .int s1.1)]) (S' := [.ref 698, .int v35, .ref 0]) (h' := (hh X s1.2.2 s1.2.1)) rfl ?_
      refine Go_cG (y' := 91) (As := [.ref 0, .int v35, .ref 698]) (r := []) rfl (g_l_work91 v35 (by omega)) fun w36 => ?_
      refine Go_blk 6 (pc' := 492) (L' := [(5, .int w36.1), (0, .ref 1000000), (1, .ref 0), (2, .ref 47), (3, .ref 698), (4, .int s1.1)]) (S' := [.int (s1.1 + (1 : Int32)), .ref 1000000, .ref 47]) (h' := (hh X w36.2.2 w36.2.1)) rfl ?_
      refine Go_ialds rfl fun v37 => ?_
      refine Go_cW (y' := 299) (As := [.ref 47, .int v37]) (r := []) rfl (g_m_work299 v37 (by omega)) fun w38 => ?_
      refine Go_blk 2 (pc' := 499) (L' := [(6, .int w38.1), (5, .int w36.1), (0, .ref 1000000), (1, .ref 0), (2, .ref 47), (3, .ref 698), (4, .int s1.1)]) (S' := [.ref 47]) (h' := (hh X w36.2.2 w38.2)) rfl ?_
      refine Go_cR (y' := 265) (As := [.ref 47]) (r := []) rfl (g_m_thrown265  (by omega)) fun v39 => ?_
      refine Go_blk 1 (pc' := 504) (L' := [(6, .int w38.1), (5, .int w36.1), (0, .ref 1000000), (1, .ref 0), (2, .ref 47), (3, .ref 698), (4, .int s1.1)]) (S' := [.int w36.1, .int v39]) (h' := (hh X w36.2.2 w38.2)) rfl ?_
      refine Go_cmp rfl rfl rfl ?_ ?_
      ·
        refine Go_blk 1 (pc' := 511) (L' := [(6, .int w38.1), (5, .int w36.1), (0, .ref 1000000), (1, .ref 0), (2, .ref 47), (3, .ref 698), (4, .int s1.1)]) (S' := [.int w36.1]) (h' := (hh X w36.2.2 w38.2)) rfl ?_
        refine Go_cmzn rfl rfl rfl ?_ ?_
        ·
          refine Go_blk 2 (pc' := 516) (L' := [(6, .int w38.1), (5, .int w36.1), (0, .ref 1000000), (1, .ref 0), (2, .ref 47), (3, .ref 698), (4, .int s1.1)]) (S' := [.int (0 : Int32), .ref 698]) (h' := (hh X w36.2.2 w38.2)) rfl ?_
          refine Go_lald rfl fun v40 => ?_
          refine Go_blk 3 (pc' := 521) (L' := [(6, .int w38.1), (5, .int w36.1), (0, .ref 1000000), (1, .ref 0), (2, .ref 47), (3, .ref 698), (4, .int s1.1)]) (S' := [.int (lg_cmp v40 (w38.1.toInt64))]) (h' := (hh X w36.2.2 w38.2)) rfl ?_
          refine Go_cmz rfl rfl rfl ?_ ?_
          ·
            refine Go_blk 3 (pc' := 23) (L' := [(4, .int (s1.1 + (7 : Int32))), (6, .int w38.1), (5, .int w36.1), (0, .ref 1000000), (1, .ref 0), (2, .ref 47), (3, .ref 698)]) (S' := []) (h' := (hh X w36.2.2 w38.2)) rfl ?_
            exact Go_jmp [(0, .ref 1000000), (1, .ref 0), (2, .ref 47), (3, .ref 698), (4, .int (s1.1 + (7 : Int32)))] rfl ⟨rfl, rfl, rfl, rfl, rfl, trivial⟩ (fun _ h => h)
          ·
            refine Go_inrS ?_
            refine Go_blk 1 (pc' := 525) (L' := [(6, .int w38.1), (5, .int w36.1), (0, .ref 1000000), (1, .ref 0), (2, .ref 47), (3, .ref 698), (4, .int s1.1)]) (S' := [.int (0 : Int32)]) (h' := (hh X w36.2.2 w38.2)) rfl ?_
            exact Go_ret (fun _ h => h) rfl
        ·
          refine Go_blk 3 (pc' := 23) (L' := [(4, .int (s1.1 + (7 : Int32))), (6, .int w38.1), (5, .int w36.1), (0, .ref 1000000), (1, .ref 0), (2, .ref 47), (3, .ref 698)]) (S' := []) (h' := (hh X w36.2.2 w38.2)) rfl ?_
          exact Go_jmp [(0, .ref 1000000), (1, .ref 0), (2, .ref 47), (3, .ref 698), (4, .int (s1.1 + (7 : Int32)))] rfl ⟨rfl, rfl, rfl, rfl, rfl, trivial⟩ (fun _ h => h)
      ·
        refine Go_inrS ?_
        refine Go_blk 1 (pc' := 508) (L' := [(6, .int w38.1), (5, .int w36.1), (0, .ref 1000000), (1, .ref 0), (2, .ref 47), (3, .ref 698), (4, .int s1.1)]) (S' := [.int (0 : Int32)]) (h' := (hh X w36.2.2 w38.2)) rfl ?_
        exact Go_ret (fun _ h => h) rfl
    refine Go_sw ?_ fun h5 => ?_
    ·
      refine Go_blk 1 (pc' := 529) (L' := [(0, .ref 1000000), (1, .ref 0), (2, .ref 47), (3, .ref 698), (4, .int s1.1)]) (S' := []) (h' := (hh X s1.2.2 s1.2.1)) rfl ?_
      refine Go_blk 5 (pc' := 535) (L' := [(0, .ref 1000000), (1, .ref 0), (2, .ref 47), (3, .ref 698), (4, .int s1.1)]) (S' := [.int (s1.1 + (1 : Int32)), .ref 1000000, .ref 0]) (h' := (hh X s1.2.2 s1.2.1)) rfl ?_
      refine Go_ialds rfl fun v41 => ?_
      refine Go_blk 1 (pc' := 537) (L' := [(0, .ref 1000000), (1, .ref 0), (2, .ref 47), (3, .ref 698), (4, .int s1.1)]) (S' := [.ref 698, .int v41, .ref 0]) (h' := (hh X s1.2.2 s1.2.1)) rfl ?_
      refine Go_cG (y' := 136) (As := [.ref 0, .int v41, .ref 698]) (r := []) rfl (g_l_book136 v41 (by omega)) fun w42 => ?_
      refine Go_blk 6 (pc' := 548) (L' := [(5, .int w42.1), (0, .ref 1000000), (1, .ref 0), (2, .ref 47), (3, .ref 698), (4, .int s1.1)]) (S' := [.int (s1.1 + (1 : Int32)), .ref 1000000, .ref 47]) (h' := (hh X w42.2.2 w42.2.1)) rfl ?_
      refine Go_ialds rfl fun v43 => ?_
      refine Go_cW (y' := 322) (As := [.ref 47, .int v43]) (r := []) rfl (g_m_book322 v43 (by omega)) fun w44 => ?_
      refine Go_blk 2 (pc' := 555) (L' := [(6, .int w44.1), (5, .int w42.1), (0, .ref 1000000), (1, .ref 0), (2, .ref 47), (3, .ref 698), (4, .int s1.1)]) (S' := [.ref 47]) (h' := (hh X w42.2.2 w44.2)) rfl ?_
      refine Go_cR (y' := 265) (As := [.ref 47]) (r := []) rfl (g_m_thrown265  (by omega)) fun v45 => ?_
      refine Go_blk 1 (pc' := 560) (L' := [(6, .int w44.1), (5, .int w42.1), (0, .ref 1000000), (1, .ref 0), (2, .ref 47), (3, .ref 698), (4, .int s1.1)]) (S' := [.int w42.1, .int v45]) (h' := (hh X w42.2.2 w44.2)) rfl ?_
      refine Go_cmp rfl rfl rfl ?_ ?_
      ·
        refine Go_blk 1 (pc' := 567) (L' := [(6, .int w44.1), (5, .int w42.1), (0, .ref 1000000), (1, .ref 0), (2, .ref 47), (3, .ref 698), (4, .int s1.1)]) (S' := [.int w42.1]) (h' := (hh X w42.2.2 w44.2)) rfl ?_
        refine Go_cmzn rfl rfl rfl ?_ ?_
        ·
          refine Go_blk 2 (pc' := 572) (L' := [(6, .int w44.1), (5, .int w42.1), (0, .ref 1000000), (1, .ref 0), (2, .ref 47), (3, .ref 698), (4, .int s1.1)]) (S' := [.int (0 : Int32), .ref 698]) (h' := (hh X w42.2.2 w44.2)) rfl ?_
          refine Go_lald rfl fun v46 => ?_
          refine Go_blk 3 (pc' := 577) (L' := [(6, .int w44.1), (5, .int w42.1), (0, .ref 1000000), (1, .ref 0), (2, .ref 47), (3, .ref 698), (4, .int s1.1)]) (S' := [.int (lg_cmp v46 (w44.1.toInt64))]) (h' := (hh X w42.2.2 w44.2)) rfl ?_
          refine Go_cmz rfl rfl rfl ?_ ?_
          ·
            refine Go_blk 3 (pc' := 23) (L' := [(4, .int (s1.1 + (7 : Int32))), (6, .int w44.1), (5, .int w42.1), (0, .ref 1000000), (1, .ref 0), (2, .ref 47), (3, .ref 698)]) (S' := []) (h' := (hh X w42.2.2 w44.2)) rfl ?_
            exact Go_jmp [(0, .ref 1000000), (1, .ref 0), (2, .ref 47), (3, .ref 698), (4, .int (s1.1 + (7 : Int32)))] rfl ⟨rfl, rfl, rfl, rfl, rfl, trivial⟩ (fun _ h => h)
          ·
            refine Go_inrS ?_
            refine Go_blk 1 (pc' := 581) (L' := [(6, .int w44.1), (5, .int w42.1), (0, .ref 1000000), (1, .ref 0), (2, .ref 47), (3, .ref 698), (4, .int s1.1)]) (S' := [.int (0 : Int32)]) (h' := (hh X w42.2.2 w44.2)) rfl ?_
            exact Go_ret (fun _ h => h) rfl
        ·
          refine Go_blk 3 (pc' := 23) (L' := [(4, .int (s1.1 + (7 : Int32))), (6, .int w44.1), (5, .int w42.1), (0, .ref 1000000), (1, .ref 0), (2, .ref 47), (3, .ref 698)]) (S' := []) (h' := (hh X w42.2.2 w44.2)) rfl ?_
          exact Go_jmp [(0, .ref 1000000), (1, .ref 0), (2, .ref 47), (3, .ref 698), (4, .int (s1.1 + (7 : Int32)))] rfl ⟨rfl, rfl, rfl, rfl, rfl, trivial⟩ (fun _ h => h)
      ·
        refine Go_inrS ?_
        refine Go_blk 1 (pc' := 564) (L' := [(6, .int w44.1), (5, .int w42.1), (0, .ref 1000000), (1, .ref 0), (2, .ref 47), (3, .ref 698), (4, .int s1.1)]) (S' := [.int (0 : Int32)]) (h' := (hh X w42.2.2 w44.2)) rfl ?_
        exact Go_ret (fun _ h => h) rfl
    refine Go_sw ?_ fun h6 => ?_
    ·
      refine Go_blk 1 (pc' := 585) (L' := [(0, .ref 1000000), (1, .ref 0), (2, .ref 47), (3, .ref 698), (4, .int s1.1)]) (S' := []) (h' := (hh X s1.2.2 s1.2.1)) rfl ?_
      refine Go_blk 1 (pc' := 586) (L' := [(0, .ref 1000000), (1, .ref 0), (2, .ref 47), (3, .ref 698), (4, .int s1.1)]) (S' := [.ref 0]) (h' := (hh X s1.2.2 s1.2.1)) rfl ?_
      refine Go_cR (y' := 19) (As := [.ref 0]) (r := []) rfl (g_x_fault19  (by omega)) fun v47 => ?_
      refine Go_blk 1 (pc' := 590) (L' := [(0, .ref 1000000), (1, .ref 0), (2, .ref 47), (3, .ref 698), (4, .int s1.1)]) (S' := [.ref 47, .int v47]) (h' := (hh X s1.2.2 s1.2.1)) rfl ?_
      refine Go_cW (y' := 323) (As := [.ref 47]) (r := [.int v47]) rfl (g_m_fault323  (by omega)) fun w48 => ?_
      refine Go_cmp rfl rfl rfl ?_ ?_
      ·
        refine Go_blk 2 (pc' := 23) (L' := [(4, .int (s1.1 + (7 : Int32))), (0, .ref 1000000), (1, .ref 0), (2, .ref 47), (3, .ref 698)]) (S' := []) (h' := (hh X s1.2.2 w48.2)) rfl ?_
        exact Go_jmp [(0, .ref 1000000), (1, .ref 0), (2, .ref 47), (3, .ref 698), (4, .int (s1.1 + (7 : Int32)))] rfl ⟨rfl, rfl, rfl, rfl, rfl, trivial⟩ (fun _ h => h)
      ·
        refine Go_inrS ?_
        refine Go_blk 1 (pc' := 597) (L' := [(0, .ref 1000000), (1, .ref 0), (2, .ref 47), (3, .ref 698), (4, .int s1.1)]) (S' := [.int (0 : Int32)]) (h' := (hh X s1.2.2 w48.2)) rfl ?_
        exact Go_ret (fun _ h => h) rfl
    refine Go_sw ?_ fun h7 => ?_
    ·
      refine Go_blk 1 (pc' := 598) (L' := [(0, .ref 1000000), (1, .ref 0), (2, .ref 47), (3, .ref 698), (4, .int s1.1)]) (S' := []) (h' := (hh X s1.2.2 s1.2.1)) rfl ?_
      refine Go_blk 1 (pc' := 599) (L' := [(0, .ref 1000000), (1, .ref 0), (2, .ref 47), (3, .ref 698), (4, .int s1.1)]) (S' := [.ref 0]) (h' := (hh X s1.2.2 s1.2.1)) rfl ?_
      refine Go_cW (y' := 20) (As := [.ref 0]) (r := []) rfl (g_x_undo20  (by omega)) fun w49 => ?_
      refine Go_blk 1 (pc' := 603) (L' := [(0, .ref 1000000), (1, .ref 0), (2, .ref 47), (3, .ref 698), (4, .int s1.1)]) (S' := [.ref 47, .int w49.1]) (h' := (hh X s1.2.2 w49.2)) rfl ?_
      refine Go_cW (y' := 321) (As := [.ref 47]) (r := [.int w49.1]) rfl (g_m_undo321  (by omega)) fun w50 => ?_
      refine Go_cmp rfl rfl rfl ?_ ?_
      ·
        refine Go_blk 2 (pc' := 23) (L' := [(4, .int (s1.1 + (7 : Int32))), (0, .ref 1000000), (1, .ref 0), (2, .ref 47), (3, .ref 698)]) (S' := []) (h' := (hh X s1.2.2 w50.2)) rfl ?_
        exact Go_jmp [(0, .ref 1000000), (1, .ref 0), (2, .ref 47), (3, .ref 698), (4, .int (s1.1 + (7 : Int32)))] rfl ⟨rfl, rfl, rfl, rfl, rfl, trivial⟩ (fun _ h => h)
      ·
        refine Go_inrS ?_
        refine Go_blk 1 (pc' := 610) (L' := [(0, .ref 1000000), (1, .ref 0), (2, .ref 47), (3, .ref 698), (4, .int s1.1)]) (S' := [.int (0 : Int32)]) (h' := (hh X s1.2.2 w50.2)) rfl ?_
        exact Go_ret (fun _ h => h) rfl
    refine Go_sw ?_ fun h8 => ?_
    ·
      refine Go_blk 1 (pc' := 611) (L' := [(0, .ref 1000000), (1, .ref 0), (2, .ref 47), (3, .ref 698), (4, .int s1.1)]) (S' := []) (h' := (hh X s1.2.2 s1.2.1)) rfl ?_
      refine Go_blk 5 (pc' := 617) (L' := [(0, .ref 1000000), (1, .ref 0), (2, .ref 47), (3, .ref 698), (4, .int s1.1)]) (S' := [.int (s1.1 + (1 : Int32)), .ref 1000000, .ref 0]) (h' := (hh X s1.2.2 s1.2.1)) rfl ?_
      refine Go_ialds rfl fun v51 => ?_
      refine Go_blk 1 (pc' := 619) (L' := [(0, .ref 1000000), (1, .ref 0), (2, .ref 47), (3, .ref 698), (4, .int s1.1)]) (S' := [.ref 698, .int v51, .ref 0]) (h' := (hh X s1.2.2 s1.2.1)) rfl ?_
      refine Go_cG (y' := 140) (As := [.ref 0, .int v51, .ref 698]) (r := []) rfl (g_l_told140 v51 (by omega)) fun w52 => ?_
      refine Go_blk 6 (pc' := 630) (L' := [(5, .int w52.1), (0, .ref 1000000), (1, .ref 0), (2, .ref 47), (3, .ref 698), (4, .int s1.1)]) (S' := [.int (s1.1 + (1 : Int32)), .ref 1000000, .ref 47]) (h' := (hh X w52.2.2 w52.2.1)) rfl ?_
      refine Go_ialds rfl fun v53 => ?_
      refine Go_cW (y' := 324) (As := [.ref 47, .int v53]) (r := []) rfl (g_m_told324 v53 (by omega)) fun w54 => ?_
      refine Go_blk 2 (pc' := 637) (L' := [(6, .int w54.1), (5, .int w52.1), (0, .ref 1000000), (1, .ref 0), (2, .ref 47), (3, .ref 698), (4, .int s1.1)]) (S' := [.ref 47]) (h' := (hh X w52.2.2 w54.2)) rfl ?_
      refine Go_cR (y' := 265) (As := [.ref 47]) (r := []) rfl (g_m_thrown265  (by omega)) fun v55 => ?_
      refine Go_blk 1 (pc' := 642) (L' := [(6, .int w54.1), (5, .int w52.1), (0, .ref 1000000), (1, .ref 0), (2, .ref 47), (3, .ref 698), (4, .int s1.1)]) (S' := [.int w52.1, .int v55]) (h' := (hh X w52.2.2 w54.2)) rfl ?_
      refine Go_cmp rfl rfl rfl ?_ ?_
      ·
        refine Go_blk 1 (pc' := 649) (L' := [(6, .int w54.1), (5, .int w52.1), (0, .ref 1000000), (1, .ref 0), (2, .ref 47), (3, .ref 698), (4, .int s1.1)]) (S' := [.int w52.1]) (h' := (hh X w52.2.2 w54.2)) rfl ?_
        refine Go_cmzn rfl rfl rfl ?_ ?_
        ·
          refine Go_blk 2 (pc' := 654) (L' := [(6, .int w54.1), (5, .int w52.1), (0, .ref 1000000), (1, .ref 0), (2, .ref 47), (3, .ref 698), (4, .int s1.1)]) (S' := [.int (0 : Int32), .ref 698]) (h' := (hh X w52.2.2 w54.2)) rfl ?_
          refine Go_lald rfl fun v56 => ?_
          refine Go_blk 3 (pc' := 659) (L' := [(6, .int w54.1), (5, .int w52.1), (0, .ref 1000000), (1, .ref 0), (2, .ref 47), (3, .ref 698), (4, .int s1.1)]) (S' := [.int (lg_cmp v56 (w54.1.toInt64))]) (h' := (hh X w52.2.2 w54.2)) rfl ?_
          refine Go_cmz rfl rfl rfl ?_ ?_
          ·
            refine Go_blk 3 (pc' := 23) (L' := [(4, .int (s1.1 + (7 : Int32))), (6, .int w54.1), (5, .int w52.1), (0, .ref 1000000), (1, .ref 0), (2, .ref 47), (3, .ref 698)]) (S' := []) (h' := (hh X w52.2.2 w54.2)) rfl ?_
            exact Go_jmp [(0, .ref 1000000), (1, .ref 0), (2, .ref 47), (3, .ref 698), (4, .int (s1.1 + (7 : Int32)))] rfl ⟨rfl, rfl, rfl, rfl, rfl, trivial⟩ (fun _ h => h)
          ·
            refine Go_inrS ?_
            refine Go_blk 1 (pc' := 663) (L' := [(6, .int w54.1), (5, .int w52.1), (0, .ref 1000000), (1, .ref 0), (2, .ref 47), (3, .ref 698), (4, .int s1.1)]) (S' := [.int (0 : Int32)]) (h' := (hh X w52.2.2 w54.2)) rfl ?_
            exact Go_ret (fun _ h => h) rfl
        ·
          refine Go_blk 3 (pc' := 23) (L' := [(4, .int (s1.1 + (7 : Int32))), (6, .int w54.1), (5, .int w52.1), (0, .ref 1000000), (1, .ref 0), (2, .ref 47), (3, .ref 698)]) (S' := []) (h' := (hh X w52.2.2 w54.2)) rfl ?_
          exact Go_jmp [(0, .ref 1000000), (1, .ref 0), (2, .ref 47), (3, .ref 698), (4, .int (s1.1 + (7 : Int32)))] rfl ⟨rfl, rfl, rfl, rfl, rfl, trivial⟩ (fun _ h => h)
      ·
        refine Go_inrS ?_
        refine Go_blk 1 (pc' := 646) (L' := [(6, .int w54.1), (5, .int w52.1), (0, .ref 1000000), (1, .ref 0), (2, .ref 47), (3, .ref 698), (4, .int s1.1)]) (S' := [.int (0 : Int32)]) (h' := (hh X w52.2.2 w54.2)) rfl ?_
        exact Go_ret (fun _ h => h) rfl
    refine Go_sw ?_ fun h9 => ?_
    ·
      refine Go_blk 1 (pc' := 667) (L' := [(0, .ref 1000000), (1, .ref 0), (2, .ref 47), (3, .ref 698), (4, .int s1.1)]) (S' := []) (h' := (hh X s1.2.2 s1.2.1)) rfl ?_
      refine Go_blk 5 (pc' := 673) (L' := [(0, .ref 1000000), (1, .ref 0), (2, .ref 47), (3, .ref 698), (4, .int s1.1)]) (S' := [.int (s1.1 + (1 : Int32)), .ref 1000000, .ref 0]) (h' := (hh X s1.2.2 s1.2.1)) rfl ?_
      refine Go_ialds rfl fun v57 => ?_
      refine Go_blk 4 (pc' := 679) (L' := [(0, .ref 1000000), (1, .ref 0), (2, .ref 47), (3, .ref 698), (4, .int s1.1)]) (S' := [.int (s1.1 + (2 : Int32)), .ref 1000000, .int v57, .ref 0]) (h' := (hh X s1.2.2 s1.2.1)) rfl ?_
      refine Go_ialds rfl fun v58 => ?_
      refine Go_blk 1 (pc' := 681) (L' := [(0, .ref 1000000), (1, .ref 0), (2, .ref 47), (3, .ref 698), (4, .int s1.1)]) (S' := [.ref 698, .int v58, .int v57, .ref 0]) (h' := (hh X s1.2.2 s1.2.1)) rfl ?_
      refine Go_cG (y' := 145) (As := [.ref 0, .int v57, .int v58, .ref 698]) (r := []) rfl (g_l_bolt145 v57 v58 (by omega)) fun w59 => ?_
      refine Go_blk 6 (pc' := 692) (L' := [(5, .int w59.1), (0, .ref 1000000), (1, .ref 0), (2, .ref 47), (3, .ref 698), (4, .int s1.1)]) (S' := [.int (s1.1 + (1 : Int32)), .ref 1000000, .ref 47]) (h' := (hh X w59.2.2 w59.2.1)) rfl ?_
      refine Go_ialds rfl fun v60 => ?_
      refine Go_blk 4 (pc' := 698) (L' := [(5, .int w59.1), (0, .ref 1000000), (1, .ref 0), (2, .ref 47), (3, .ref 698), (4, .int s1.1)]) (S' := [.int (s1.1 + (2 : Int32)), .ref 1000000, .int v60, .ref 47]) (h' := (hh X w59.2.2 w59.2.1)) rfl ?_
      refine Go_ialds rfl fun v61 => ?_
      refine Go_cW (y' := 326) (As := [.ref 47, .int v60, .int v61]) (r := []) rfl (g_m_bolt326 v60 v61 (by omega)) fun w62 => ?_
      refine Go_blk 2 (pc' := 705) (L' := [(6, .int w62.1), (5, .int w59.1), (0, .ref 1000000), (1, .ref 0), (2, .ref 47), (3, .ref 698), (4, .int s1.1)]) (S' := [.ref 47]) (h' := (hh X w59.2.2 w62.2)) rfl ?_
      refine Go_cR (y' := 265) (As := [.ref 47]) (r := []) rfl (g_m_thrown265  (by omega)) fun v63 => ?_
      refine Go_blk 1 (pc' := 710) (L' := [(6, .int w62.1), (5, .int w59.1), (0, .ref 1000000), (1, .ref 0), (2, .ref 47), (3, .ref 698), (4, .int s1.1)]) (S' := [.int w59.1, .int v63]) (h' := (hh X w59.2.2 w62.2)) rfl ?_
      refine Go_cmp rfl rfl rfl ?_ ?_
      ·
        refine Go_blk 1 (pc' := 717) (L' := [(6, .int w62.1), (5, .int w59.1), (0, .ref 1000000), (1, .ref 0), (2, .ref 47), (3, .ref 698), (4, .int s1.1)]) (S' := [.int w59.1]) (h' := (hh X w59.2.2 w62.2)) rfl ?_
        refine Go_cmzn rfl rfl rfl ?_ ?_
        ·
          refine Go_blk 2 (pc' := 722) (L' := [(6, .int w62.1), (5, .int w59.1), (0, .ref 1000000), (1, .ref 0), (2, .ref 47), (3, .ref 698), (4, .int s1.1)]) (S' := [.int (0 : Int32), .ref 698]) (h' := (hh X w59.2.2 w62.2)) rfl ?_
          refine Go_lald rfl fun v64 => ?_
          refine Go_blk 3 (pc' := 727) (L' := [(6, .int w62.1), (5, .int w59.1), (0, .ref 1000000), (1, .ref 0), (2, .ref 47), (3, .ref 698), (4, .int s1.1)]) (S' := [.int (lg_cmp v64 (w62.1.toInt64))]) (h' := (hh X w59.2.2 w62.2)) rfl ?_
          refine Go_cmz rfl rfl rfl ?_ ?_
          ·
            refine Go_blk 3 (pc' := 23) (L' := [(4, .int (s1.1 + (7 : Int32))), (6, .int w62.1), (5, .int w59.1), (0, .ref 1000000), (1, .ref 0), (2, .ref 47), (3, .ref 698)]) (S' := []) (h' := (hh X w59.2.2 w62.2)) rfl ?_
            exact Go_jmp [(0, .ref 1000000), (1, .ref 0), (2, .ref 47), (3, .ref 698), (4, .int (s1.1 + (7 : Int32)))] rfl ⟨rfl, rfl, rfl, rfl, rfl, trivial⟩ (fun _ h => h)
          ·
            refine Go_inrS ?_
            refine Go_blk 1 (pc' := 731) (L' := [(6, .int w62.1), (5, .int w59.1), (0, .ref 1000000), (1, .ref 0), (2, .ref 47), (3, .ref 698), (4, .int s1.1)]) (S' := [.int (0 : Int32)]) (h' := (hh X w59.2.2 w62.2)) rfl ?_
            exact Go_ret (fun _ h => h) rfl
        ·
          refine Go_blk 3 (pc' := 23) (L' := [(4, .int (s1.1 + (7 : Int32))), (6, .int w62.1), (5, .int w59.1), (0, .ref 1000000), (1, .ref 0), (2, .ref 47), (3, .ref 698)]) (S' := []) (h' := (hh X w59.2.2 w62.2)) rfl ?_
          exact Go_jmp [(0, .ref 1000000), (1, .ref 0), (2, .ref 47), (3, .ref 698), (4, .int (s1.1 + (7 : Int32)))] rfl ⟨rfl, rfl, rfl, rfl, rfl, trivial⟩ (fun _ h => h)
      ·
        refine Go_inrS ?_
        refine Go_blk 1 (pc' := 714) (L' := [(6, .int w62.1), (5, .int w59.1), (0, .ref 1000000), (1, .ref 0), (2, .ref 47), (3, .ref 698), (4, .int s1.1)]) (S' := [.int (0 : Int32)]) (h' := (hh X w59.2.2 w62.2)) rfl ?_
        exact Go_ret (fun _ h => h) rfl
    refine Go_sw ?_ fun h10 => ?_
    ·
      refine Go_blk 1 (pc' := 735) (L' := [(0, .ref 1000000), (1, .ref 0), (2, .ref 47), (3, .ref 698), (4, .int s1.1)]) (S' := []) (h' := (hh X s1.2.2 s1.2.1)) rfl ?_
      refine Go_blk 5 (pc' := 741) (L' := [(0, .ref 1000000), (1, .ref 0), (2, .ref 47), (3, .ref 698), (4, .int s1.1)]) (S' := [.int (s1.1 + (1 : Int32)), .ref 1000000, .ref 0]) (h' := (hh X s1.2.2 s1.2.1)) rfl ?_
      refine Go_ialds rfl fun v65 => ?_
      refine Go_blk 4 (pc' := 747) (L' := [(0, .ref 1000000), (1, .ref 0), (2, .ref 47), (3, .ref 698), (4, .int s1.1)]) (S' := [.int (s1.1 + (2 : Int32)), .ref 1000000, .int v65, .ref 0]) (h' := (hh X s1.2.2 s1.2.1)) rfl ?_
      refine Go_ialds rfl fun v66 => ?_
      refine Go_blk 1 (pc' := 749) (L' := [(0, .ref 1000000), (1, .ref 0), (2, .ref 47), (3, .ref 698), (4, .int s1.1)]) (S' := [.ref 698, .int v66, .int v65, .ref 0]) (h' := (hh X s1.2.2 s1.2.1)) rfl ?_
      refine Go_cG (y' := 148) (As := [.ref 0, .int v65, .int v66, .ref 698]) (r := []) rfl (g_l_client148 v65 v66 (by omega)) fun w67 => ?_
      refine Go_blk 6 (pc' := 760) (L' := [(5, .int w67.1), (0, .ref 1000000), (1, .ref 0), (2, .ref 47), (3, .ref 698), (4, .int s1.1)]) (S' := [.int (s1.1 + (1 : Int32)), .ref 1000000, .ref 47]) (h' := (hh X w67.2.2 w67.2.1)) rfl ?_
      refine Go_ialds rfl fun v68 => ?_
      refine Go_blk 4 (pc' := 766) (L' := [(5, .int w67.1), (0, .ref 1000000), (1, .ref 0), (2, .ref 47), (3, .ref 698), (4, .int s1.1)]) (S' := [.int (s1.1 + (2 : Int32)), .ref 1000000, .int v68, .ref 47]) (h' := (hh X w67.2.2 w67.2.1)) rfl ?_
      refine Go_ialds rfl fun v69 => ?_
      refine Go_cW (y' := 327) (As := [.ref 47, .int v68, .int v69]) (r := []) rfl (g_m_client327 v68 v69 (by omega)) fun w70 => ?_
      refine Go_blk 2 (pc' := 773) (L' := [(6, .int w70.1), (5, .int w67.1), (0, .ref 1000000), (1, .ref 0), (2, .ref 47), (3, .ref 698), (4, .int s1.1)]) (S' := [.ref 47]) (h' := (hh X w67.2.2 w70.2)) rfl ?_
      refine Go_cR (y' := 265) (As := [.ref 47]) (r := []) rfl (g_m_thrown265  (by omega)) fun v71 => ?_
      refine Go_blk 1 (pc' := 778) (L' := [(6, .int w70.1), (5, .int w67.1), (0, .ref 1000000), (1, .ref 0), (2, .ref 47), (3, .ref 698), (4, .int s1.1)]) (S' := [.int w67.1, .int v71]) (h' := (hh X w67.2.2 w70.2)) rfl ?_
      refine Go_cmp rfl rfl rfl ?_ ?_
      ·
        refine Go_blk 1 (pc' := 785) (L' := [(6, .int w70.1), (5, .int w67.1), (0, .ref 1000000), (1, .ref 0), (2, .ref 47), (3, .ref 698), (4, .int s1.1)]) (S' := [.int w67.1]) (h' := (hh X w67.2.2 w70.2)) rfl ?_
        refine Go_cmzn rfl rfl rfl ?_ ?_
        ·
          refine Go_blk 2 (pc' := 790) (L' := [(6, .int w70.1), (5, .int w67.1), (0, .ref 1000000), (1, .ref 0), (2, .ref 47), (3, .ref 698), (4, .int s1.1)]) (S' := [.int (0 : Int32), .ref 698]) (h' := (hh X w67.2.2 w70.2)) rfl ?_
          refine Go_lald rfl fun v72 => ?_
          refine Go_blk 3 (pc' := 795) (L' := [(6, .int w70.1), (5, .int w67.1), (0, .ref 1000000), (1, .ref 0), (2, .ref 47), (3, .ref 698), (4, .int s1.1)]) (S' := [.int (lg_cmp v72 (w70.1.toInt64))]) (h' := (hh X w67.2.2 w70.2)) rfl ?_
          refine Go_cmz rfl rfl rfl ?_ ?_
          ·
            refine Go_blk 3 (pc' := 23) (L' := [(4, .int (s1.1 + (7 : Int32))), (6, .int w70.1), (5, .int w67.1), (0, .ref 1000000), (1, .ref 0), (2, .ref 47), (3, .ref 698)]) (S' := []) (h' := (hh X w67.2.2 w70.2)) rfl ?_
            exact Go_jmp [(0, .ref 1000000), (1, .ref 0), (2, .ref 47), (3, .ref 698), (4, .int (s1.1 + (7 : Int32)))] rfl ⟨rfl, rfl, rfl, rfl, rfl, trivial⟩ (fun _ h => h)
          ·
            refine Go_inrS ?_
            refine Go_blk 1 (pc' := 799) (L' := [(6, .int w70.1), (5, .int w67.1), (0, .ref 1000000), (1, .ref 0), (2, .ref 47), (3, .ref 698), (4, .int s1.1)]) (S' := [.int (0 : Int32)]) (h' := (hh X w67.2.2 w70.2)) rfl ?_
            exact Go_ret (fun _ h => h) rfl
        ·
          refine Go_blk 3 (pc' := 23) (L' := [(4, .int (s1.1 + (7 : Int32))), (6, .int w70.1), (5, .int w67.1), (0, .ref 1000000), (1, .ref 0), (2, .ref 47), (3, .ref 698)]) (S' := []) (h' := (hh X w67.2.2 w70.2)) rfl ?_
          exact Go_jmp [(0, .ref 1000000), (1, .ref 0), (2, .ref 47), (3, .ref 698), (4, .int (s1.1 + (7 : Int32)))] rfl ⟨rfl, rfl, rfl, rfl, rfl, trivial⟩ (fun _ h => h)
      ·
        refine Go_inrS ?_
        refine Go_blk 1 (pc' := 782) (L' := [(6, .int w70.1), (5, .int w67.1), (0, .ref 1000000), (1, .ref 0), (2, .ref 47), (3, .ref 698), (4, .int s1.1)]) (S' := [.int (0 : Int32)]) (h' := (hh X w67.2.2 w70.2)) rfl ?_
        exact Go_ret (fun _ h => h) rfl
    refine Go_sw ?_ fun h11 => ?_
    ·
      refine Go_blk 1 (pc' := 803) (L' := [(0, .ref 1000000), (1, .ref 0), (2, .ref 47), (3, .ref 698), (4, .int s1.1)]) (S' := []) (h' := (hh X s1.2.2 s1.2.1)) rfl ?_
      refine Go_blk 5 (pc' := 809) (L' := [(0, .ref 1000000), (1, .ref 0), (2, .ref 47), (3, .ref 698), (4, .int s1.1)]) (S' := [.int (s1.1 + (1 : Int32)), .ref 1000000, .ref 0]) (h' := (hh X s1.2.2 s1.2.1)) rfl ?_
      refine Go_ialds rfl fun v73 => ?_
      refine Go_blk 4 (pc' := 815) (L' := [(0, .ref 1000000), (1, .ref 0), (2, .ref 47), (3, .ref 698), (4, .int s1.1)]) (S' := [.int (s1.1 + (2 : Int32)), .ref 1000000, .int v73, .ref 0]) (h' := (hh X s1.2.2 s1.2.1)) rfl ?_
      refine Go_ialds rfl fun v74 => ?_
      refine Go_blk 1 (pc' := 817) (L' := [(0, .ref 1000000), (1, .ref 0), (2, .ref 47), (3, .ref 698), (4, .int s1.1)]) (S' := [.ref 698, .int v74, .int v73, .ref 0]) (h' := (hh X s1.2.2 s1.2.1)) rfl ?_
      refine Go_cG (y' := 156) (As := [.ref 0, .int v73, .int v74, .ref 698]) (r := []) rfl (g_l_want156 v73 v74 (by omega)) fun w75 => ?_
      refine Go_blk 6 (pc' := 828) (L' := [(5, .int w75.1), (0, .ref 1000000), (1, .ref 0), (2, .ref 47), (3, .ref 698), (4, .int s1.1)]) (S' := [.int (s1.1 + (1 : Int32)), .ref 1000000, .ref 47]) (h' := (hh X w75.2.2 w75.2.1)) rfl ?_
      refine Go_ialds rfl fun v76 => ?_
      refine Go_blk 4 (pc' := 834) (L' := [(5, .int w75.1), (0, .ref 1000000), (1, .ref 0), (2, .ref 47), (3, .ref 698), (4, .int s1.1)]) (S' := [.int (s1.1 + (2 : Int32)), .ref 1000000, .int v76, .ref 47]) (h' := (hh X w75.2.2 w75.2.1)) rfl ?_
      refine Go_ialds rfl fun v77 => ?_
      refine Go_cW (y' := 331) (As := [.ref 47, .int v76, .int v77]) (r := []) rfl (g_m_want331 v76 v77 (by omega)) fun w78 => ?_
      refine Go_blk 2 (pc' := 841) (L' := [(6, .int w78.1), (5, .int w75.1), (0, .ref 1000000), (1, .ref 0), (2, .ref 47), (3, .ref 698), (4, .int s1.1)]) (S' := [.ref 47]) (h' := (hh X w75.2.2 w78.2)) rfl ?_
      refine Go_cR (y' := 265) (As := [.ref 47]) (r := []) rfl (g_m_thrown265  (by omega)) fun v79 => ?_
      refine Go_blk 1 (pc' := 846) (L' := [(6, .int w78.1), (5, .int w75.1), (0, .ref 1000000), (1, .ref 0), (2, .ref 47), (3, .ref 698), (4, .int s1.1)]) (S' := [.int w75.1, .int v79]) (h' := (hh X w75.2.2 w78.2)) rfl ?_
      refine Go_cmp rfl rfl rfl ?_ ?_
      ·
        refine Go_blk 1 (pc' := 853) (L' := [(6, .int w78.1), (5, .int w75.1), (0, .ref 1000000), (1, .ref 0), (2, .ref 47), (3, .ref 698), (4, .int s1.1)]) (S' := [.int w75.1]) (h' := (hh X w75.2.2 w78.2)) rfl ?_
        refine Go_cmzn rfl rfl rfl ?_ ?_
        ·
          refine Go_blk 2 (pc' := 858) (L' := [(6, .int w78.1), (5, .int w75.1), (0, .ref 1000000), (1, .ref 0), (2, .ref 47), (3, .ref 698), (4, .int s1.1)]) (S' := [.int (0 : Int32), .ref 698]) (h' := (hh X w75.2.2 w78.2)) rfl ?_
          refine Go_lald rfl fun v80 => ?_
          refine Go_blk 3 (pc' := 863) (L' := [(6, .int w78.1), (5, .int w75.1), (0, .ref 1000000), (1, .ref 0), (2, .ref 47), (3, .ref 698), (4, .int s1.1)]) (S' := [.int (lg_cmp v80 (w78.1.toInt64))]) (h' := (hh X w75.2.2 w78.2)) rfl ?_
          refine Go_cmz rfl rfl rfl ?_ ?_
          ·
            refine Go_blk 3 (pc' := 23) (L' := [(4, .int (s1.1 + (7 : Int32))), (6, .int w78.1), (5, .int w75.1), (0, .ref 1000000), (1, .ref 0), (2, .ref 47), (3, .ref 698)]) (S' := []) (h' := (hh X w75.2.2 w78.2)) rfl ?_
            exact Go_jmp [(0, .ref 1000000), (1, .ref 0), (2, .ref 47), (3, .ref 698), (4, .int (s1.1 + (7 : Int32)))] rfl ⟨rfl, rfl, rfl, rfl, rfl, trivial⟩ (fun _ h => h)
          ·
            refine Go_inrS ?_
            refine Go_blk 1 (pc' := 867) (L' := [(6, .int w78.1), (5, .int w75.1), (0, .ref 1000000), (1, .ref 0), (2, .ref 47), (3, .ref 698), (4, .int s1.1)]) (S' := [.int (0 : Int32)]) (h' := (hh X w75.2.2 w78.2)) rfl ?_
            exact Go_ret (fun _ h => h) rfl
        ·
          refine Go_blk 3 (pc' := 23) (L' := [(4, .int (s1.1 + (7 : Int32))), (6, .int w78.1), (5, .int w75.1), (0, .ref 1000000), (1, .ref 0), (2, .ref 47), (3, .ref 698)]) (S' := []) (h' := (hh X w75.2.2 w78.2)) rfl ?_
          exact Go_jmp [(0, .ref 1000000), (1, .ref 0), (2, .ref 47), (3, .ref 698), (4, .int (s1.1 + (7 : Int32)))] rfl ⟨rfl, rfl, rfl, rfl, rfl, trivial⟩ (fun _ h => h)
      ·
        refine Go_inrS ?_
        refine Go_blk 1 (pc' := 850) (L' := [(6, .int w78.1), (5, .int w75.1), (0, .ref 1000000), (1, .ref 0), (2, .ref 47), (3, .ref 698), (4, .int s1.1)]) (S' := [.int (0 : Int32)]) (h' := (hh X w75.2.2 w78.2)) rfl ?_
        exact Go_ret (fun _ h => h) rfl
    refine Go_sw ?_ fun h12 => ?_
    ·
      refine Go_blk 1 (pc' := 871) (L' := [(0, .ref 1000000), (1, .ref 0), (2, .ref 47), (3, .ref 698), (4, .int s1.1)]) (S' := []) (h' := (hh X s1.2.2 s1.2.1)) rfl ?_
      refine Go_blk 5 (pc' := 877) (L' := [(0, .ref 1000000), (1, .ref 0), (2, .ref 47), (3, .ref 698), (4, .int s1.1)]) (S' := [.int (s1.1 + (1 : Int32)), .ref 1000000, .ref 0]) (h' := (hh X s1.2.2 s1.2.1)) rfl ?_
      refine Go_ialds rfl fun v81 => ?_
      refine Go_blk 4 (pc' := 883) (L' := [(0, .ref 1000000), (1, .ref 0), (2, .ref 47), (3, .ref 698), (4, .int s1.1)]) (S' := [.int (s1.1 + (2 : Int32)), .ref 1000000, .int v81, .ref 0]) (h' := (hh X s1.2.2 s1.2.1)) rfl ?_
      refine Go_ialds rfl fun v82 => ?_
      refine Go_blk 1 (pc' := 885) (L' := [(0, .ref 1000000), (1, .ref 0), (2, .ref 47), (3, .ref 698), (4, .int s1.1)]) (S' := [.ref 698, .int v82, .int v81, .ref 0]) (h' := (hh X s1.2.2 s1.2.1)) rfl ?_
      refine Go_cG (y' := 159) (As := [.ref 0, .int v81, .int v82, .ref 698]) (r := []) rfl (g_l_order159 v81 v82 (by omega)) fun w83 => ?_
      refine Go_blk 6 (pc' := 896) (L' := [(5, .int w83.1), (0, .ref 1000000), (1, .ref 0), (2, .ref 47), (3, .ref 698), (4, .int s1.1)]) (S' := [.int (s1.1 + (1 : Int32)), .ref 1000000, .ref 47]) (h' := (hh X w83.2.2 w83.2.1)) rfl ?_
      refine Go_ialds rfl fun v84 => ?_
      refine Go_blk 4 (pc' := 902) (L' := [(5, .int w83.1), (0, .ref 1000000), (1, .ref 0), (2, .ref 47), (3, .ref 698), (4, .int s1.1)]) (S' := [.int (s1.1 + (2 : Int32)), .ref 1000000, .int v84, .ref 47]) (h' := (hh X w83.2.2 w83.2.1)) rfl ?_
      refine Go_ialds rfl fun v85 => ?_
      refine Go_cW (y' := 333) (As := [.ref 47, .int v84, .int v85]) (r := []) rfl (g_m_order333 v84 v85 (by omega)) fun w86 => ?_
      refine Go_blk 2 (pc' := 909) (L' := [(6, .int w86.1), (5, .int w83.1), (0, .ref 1000000), (1, .ref 0), (2, .ref 47), (3, .ref 698), (4, .int s1.1)]) (S' := [.ref 47]) (h' := (hh X w83.2.2 w86.2)) rfl ?_
      refine Go_cR (y' := 265) (As := [.ref 47]) (r := []) rfl (g_m_thrown265  (by omega)) fun v87 => ?_
      refine Go_blk 1 (pc' := 914) (L' := [(6, .int w86.1), (5, .int w83.1), (0, .ref 1000000), (1, .ref 0), (2, .ref 47), (3, .ref 698), (4, .int s1.1)]) (S' := [.int w83.1, .int v87]) (h' := (hh X w83.2.2 w86.2)) rfl ?_
      refine Go_cmp rfl rfl rfl ?_ ?_
      ·
        refine Go_blk 1 (pc' := 921) (L' := [(6, .int w86.1), (5, .int w83.1), (0, .ref 1000000), (1, .ref 0), (2, .ref 47), (3, .ref 698), (4, .int s1.1)]) (S' := [.int w83.1]) (h' := (hh X w83.2.2 w86.2)) rfl ?_
        refine Go_cmzn rfl rfl rfl ?_ ?_
        ·
          refine Go_blk 2 (pc' := 926) (L' := [(6, .int w86.1), (5, .int w83.1), (0, .ref 1000000), (1, .ref 0), (2, .ref 47), (3, .ref 698), (4, .int s1.1)]) (S' := [.int (0 : Int32), .ref 698]) (h' := (hh X w83.2.2 w86.2)) rfl ?_
          refine Go_lald rfl fun v88 => ?_
          refine Go_blk 3 (pc' := 931) (L' := [(6, .int w86.1), (5, .int w83.1), (0, .ref 1000000), (1, .ref 0), (2, .ref 47), (3, .ref 698), (4, .int s1.1)]) (S' := [.int (lg_cmp v88 (w86.1.toInt64))]) (h' := (hh X w83.2.2 w86.2)) rfl ?_
          refine Go_cmz rfl rfl rfl ?_ ?_
          ·
            refine Go_blk 3 (pc' := 23) (L' := [(4, .int (s1.1 + (7 : Int32))), (6, .int w86.1), (5, .int w83.1), (0, .ref 1000000), (1, .ref 0), (2, .ref 47), (3, .ref 698)]) (S' := []) (h' := (hh X w83.2.2 w86.2)) rfl ?_
            exact Go_jmp [(0, .ref 1000000), (1, .ref 0), (2, .ref 47), (3, .ref 698), (4, .int (s1.1 + (7 : Int32)))] rfl ⟨rfl, rfl, rfl, rfl, rfl, trivial⟩ (fun _ h => h)
          ·
            refine Go_inrS ?_
            refine Go_blk 1 (pc' := 935) (L' := [(6, .int w86.1), (5, .int w83.1), (0, .ref 1000000), (1, .ref 0), (2, .ref 47), (3, .ref 698), (4, .int s1.1)]) (S' := [.int (0 : Int32)]) (h' := (hh X w83.2.2 w86.2)) rfl ?_
            exact Go_ret (fun _ h => h) rfl
        ·
          refine Go_blk 3 (pc' := 23) (L' := [(4, .int (s1.1 + (7 : Int32))), (6, .int w86.1), (5, .int w83.1), (0, .ref 1000000), (1, .ref 0), (2, .ref 47), (3, .ref 698)]) (S' := []) (h' := (hh X w83.2.2 w86.2)) rfl ?_
          exact Go_jmp [(0, .ref 1000000), (1, .ref 0), (2, .ref 47), (3, .ref 698), (4, .int (s1.1 + (7 : Int32)))] rfl ⟨rfl, rfl, rfl, rfl, rfl, trivial⟩ (fun _ h => h)
      ·
        refine Go_inrS ?_
        refine Go_blk 1 (pc' := 918) (L' := [(6, .int w86.1), (5, .int w83.1), (0, .ref 1000000), (1, .ref 0), (2, .ref 47), (3, .ref 698), (4, .int s1.1)]) (S' := [.int (0 : Int32)]) (h' := (hh X w83.2.2 w86.2)) rfl ?_
        exact Go_ret (fun _ h => h) rfl
    refine Go_sw ?_ fun h13 => ?_
    ·
      refine Go_blk 1 (pc' := 939) (L' := [(0, .ref 1000000), (1, .ref 0), (2, .ref 47), (3, .ref 698), (4, .int s1.1)]) (S' := []) (h' := (hh X s1.2.2 s1.2.1)) rfl ?_
      refine Go_blk 5 (pc' := 945) (L' := [(0, .ref 1000000), (1, .ref 0), (2, .ref 47), (3, .ref 698), (4, .int s1.1)]) (S' := [.int (s1.1 + (1 : Int32)), .ref 1000000, .ref 0]) (h' := (hh X s1.2.2 s1.2.1)) rfl ?_
      refine Go_ialds rfl fun v89 => ?_
      refine Go_blk 4 (pc' := 951) (L' := [(0, .ref 1000000), (1, .ref 0), (2, .ref 47), (3, .ref 698), (4, .int s1.1)]) (S' := [.int (s1.1 + (2 : Int32)), .ref 1000000, .int v89, .ref 0]) (h' := (hh X s1.2.2 s1.2.1)) rfl ?_
      refine Go_ialds rfl fun v90 => ?_
      refine Go_blk 1 (pc' := 953) (L' := [(0, .ref 1000000), (1, .ref 0), (2, .ref 47), (3, .ref 698), (4, .int s1.1)]) (S' := [.ref 698, .int v90, .int v89, .ref 0]) (h' := (hh X s1.2.2 s1.2.1)) rfl ?_
      refine Go_cG (y' := 161) (As := [.ref 0, .int v89, .int v90, .ref 698]) (r := []) rfl (g_l_wears161 v89 v90 (by omega)) fun w91 => ?_
      refine Go_blk 6 (pc' := 964) (L' := [(5, .int w91.1), (0, .ref 1000000), (1, .ref 0), (2, .ref 47), (3, .ref 698), (4, .int s1.1)]) (S' := [.int (s1.1 + (1 : Int32)), .ref 1000000, .ref 47]) (h' := (hh X w91.2.2 w91.2.1)) rfl ?_
      refine Go_ialds rfl fun v92 => ?_
      refine Go_blk 4 (pc' := 970) (L' := [(5, .int w91.1), (0, .ref 1000000), (1, .ref 0), (2, .ref 47), (3, .ref 698), (4, .int s1.1)]) (S' := [.int (s1.1 + (2 : Int32)), .ref 1000000, .int v92, .ref 47]) (h' := (hh X w91.2.2 w91.2.1)) rfl ?_
      refine Go_ialds rfl fun v93 => ?_
      refine Go_cW (y' := 335) (As := [.ref 47, .int v92, .int v93]) (r := []) rfl (g_m_wears335 v92 v93 (by omega)) fun w94 => ?_
      refine Go_blk 2 (pc' := 977) (L' := [(6, .int w94.1), (5, .int w91.1), (0, .ref 1000000), (1, .ref 0), (2, .ref 47), (3, .ref 698), (4, .int s1.1)]) (S' := [.ref 47]) (h' := (hh X w91.2.2 w94.2)) rfl ?_
      refine Go_cR (y' := 265) (As := [.ref 47]) (r := []) rfl (g_m_thrown265  (by omega)) fun v95 => ?_
      refine Go_blk 1 (pc' := 982) (L' := [(6, .int w94.1), (5, .int w91.1), (0, .ref 1000000), (1, .ref 0), (2, .ref 47), (3, .ref 698), (4, .int s1.1)]) (S' := [.int w91.1, .int v95]) (h' := (hh X w91.2.2 w94.2)) rfl ?_
      refine Go_cmp rfl rfl rfl ?_ ?_
      ·
        refine Go_blk 1 (pc' := 989) (L' := [(6, .int w94.1), (5, .int w91.1), (0, .ref 1000000), (1, .ref 0), (2, .ref 47), (3, .ref 698), (4, .int s1.1)]) (S' := [.int w91.1]) (h' := (hh X w91.2.2 w94.2)) rfl ?_
        refine Go_cmzn rfl rfl rfl ?_ ?_
        ·
          refine Go_blk 2 (pc' := 994) (L' := [(6, .int w94.1), (5, .int w91.1), (0, .ref 1000000), (1, .ref 0), (2, .ref 47), (3, .ref 698), (4, .int s1.1)]) (S' := [.int (0 : Int32), .ref 698]) (h' := (hh X w91.2.2 w94.2)) rfl ?_
          refine Go_lald rfl fun v96 => ?_
          refine Go_blk 3 (pc' := 999) (L' := [(6, .int w94.1), (5, .int w91.1), (0, .ref 1000000), (1, .ref 0), (2, .ref 47), (3, .ref 698), (4, .int s1.1)]) (S' := [.int (lg_cmp v96 (w94.1.toInt64))]) (h' := (hh X w91.2.2 w94.2)) rfl ?_
          refine Go_cmz rfl rfl rfl ?_ ?_
          ·
            refine Go_blk 3 (pc' := 23) (L' := [(4, .int (s1.1 + (7 : Int32))), (6, .int w94.1), (5, .int w91.1), (0, .ref 1000000), (1, .ref 0), (2, .ref 47), (3, .ref 698)]) (S' := []) (h' := (hh X w91.2.2 w94.2)) rfl ?_
            exact Go_jmp [(0, .ref 1000000), (1, .ref 0), (2, .ref 47), (3, .ref 698), (4, .int (s1.1 + (7 : Int32)))] rfl ⟨rfl, rfl, rfl, rfl, rfl, trivial⟩ (fun _ h => h)
          ·
            refine Go_inrS ?_
            refine Go_blk 1 (pc' := 1003) (L' := [(6, .int w94.1), (5, .int w91.1), (0, .ref 1000000), (1, .ref 0), (2, .ref 47), (3, .ref 698), (4, .int s1.1)]) (S' := [.int (0 : Int32)]) (h' := (hh X w91.2.2 w94.2)) rfl ?_
            exact Go_ret (fun _ h => h) rfl
        ·
          refine Go_blk 3 (pc' := 23) (L' := [(4, .int (s1.1 + (7 : Int32))), (6, .int w94.1), (5, .int w91.1), (0, .ref 1000000), (1, .ref 0), (2, .ref 47), (3, .ref 698)]) (S' := []) (h' := (hh X w91.2.2 w94.2)) rfl ?_
          exact Go_jmp [(0, .ref 1000000), (1, .ref 0), (2, .ref 47), (3, .ref 698), (4, .int (s1.1 + (7 : Int32)))] rfl ⟨rfl, rfl, rfl, rfl, rfl, trivial⟩ (fun _ h => h)
      ·
        refine Go_inrS ?_
        refine Go_blk 1 (pc' := 986) (L' := [(6, .int w94.1), (5, .int w91.1), (0, .ref 1000000), (1, .ref 0), (2, .ref 47), (3, .ref 698), (4, .int s1.1)]) (S' := [.int (0 : Int32)]) (h' := (hh X w91.2.2 w94.2)) rfl ?_
        exact Go_ret (fun _ h => h) rfl
    refine Go_sw ?_ fun h14 => ?_
    ·
      refine Go_blk 1 (pc' := 1007) (L' := [(0, .ref 1000000), (1, .ref 0), (2, .ref 47), (3, .ref 698), (4, .int s1.1)]) (S' := []) (h' := (hh X s1.2.2 s1.2.1)) rfl ?_
      refine Go_blk 5 (pc' := 1013) (L' := [(0, .ref 1000000), (1, .ref 0), (2, .ref 47), (3, .ref 698), (4, .int s1.1)]) (S' := [.int (s1.1 + (1 : Int32)), .ref 1000000, .ref 0]) (h' := (hh X s1.2.2 s1.2.1)) rfl ?_
      refine Go_ialds rfl fun v97 => ?_
      refine Go_blk 4 (pc' := 1019) (L' := [(0, .ref 1000000), (1, .ref 0), (2, .ref 47), (3, .ref 698), (4, .int s1.1)]) (S' := [.int (s1.1 + (2 : Int32)), .ref 1000000, .int v97, .ref 0]) (h' := (hh X s1.2.2 s1.2.1)) rfl ?_
      refine Go_ialds rfl fun v98 => ?_
      refine Go_blk 1 (pc' := 1021) (L' := [(0, .ref 1000000), (1, .ref 0), (2, .ref 47), (3, .ref 698), (4, .int s1.1)]) (S' := [.ref 698, .int v98, .int v97, .ref 0]) (h' := (hh X s1.2.2 s1.2.1)) rfl ?_
      refine Go_cG (y' := 163) (As := [.ref 0, .int v97, .int v98, .ref 698]) (r := []) rfl (g_l_sky163 v97 v98 (by omega)) fun w99 => ?_
      refine Go_blk 6 (pc' := 1032) (L' := [(5, .int w99.1), (0, .ref 1000000), (1, .ref 0), (2, .ref 47), (3, .ref 698), (4, .int s1.1)]) (S' := [.int (s1.1 + (1 : Int32)), .ref 1000000, .ref 47]) (h' := (hh X w99.2.2 w99.2.1)) rfl ?_
      refine Go_ialds rfl fun v100 => ?_
      refine Go_blk 4 (pc' := 1038) (L' := [(5, .int w99.1), (0, .ref 1000000), (1, .ref 0), (2, .ref 47), (3, .ref 698), (4, .int s1.1)]) (S' := [.int (s1.1 + (2 : Int32)), .ref 1000000, .int v100, .ref 47]) (h' := (hh X w99.2.2 w99.2.1)) rfl ?_
      refine Go_ialds rfl fun v101 => ?_
      refine Go_cW (y' := 337) (As := [.ref 47, .int v100, .int v101]) (r := []) rfl (g_m_sky337 v100 v101 (by omega)) fun w102 => ?_
      refine Go_blk 2 (pc' := 1045) (L' := [(6, .int w102.1), (5, .int w99.1), (0, .ref 1000000), (1, .ref 0), (2, .ref 47), (3, .ref 698), (4, .int s1.1)]) (S' := [.ref 47]) (h' := (hh X w99.2.2 w102.2)) rfl ?_
      refine Go_cR (y' := 265) (As := [.ref 47]) (r := []) rfl (g_m_thrown265  (by omega)) fun v103 => ?_
      refine Go_blk 1 (pc' := 1050) (L' := [(6, .int w102.1), (5, .int w99.1), (0, .ref 1000000), (1, .ref 0), (2, .ref 47), (3, .ref 698), (4, .int s1.1)]) (S' := [.int w99.1, .int v103]) (h' := (hh X w99.2.2 w102.2)) rfl ?_
      refine Go_cmp rfl rfl rfl ?_ ?_
      ·
        refine Go_blk 1 (pc' := 1057) (L' := [(6, .int w102.1), (5, .int w99.1), (0, .ref 1000000), (1, .ref 0), (2, .ref 47), (3, .ref 698), (4, .int s1.1)]) (S' := [.int w99.1]) (h' := (hh X w99.2.2 w102.2)) rfl ?_
        refine Go_cmzn rfl rfl rfl ?_ ?_
        ·
          refine Go_blk 2 (pc' := 1062) (L' := [(6, .int w102.1), (5, .int w99.1), (0, .ref 1000000), (1, .ref 0), (2, .ref 47), (3, .ref 698), (4, .int s1.1)]) (S' := [.int (0 : Int32), .ref 698]) (h' := (hh X w99.2.2 w102.2)) rfl ?_
          refine Go_lald rfl fun v104 => ?_
          refine Go_blk 3 (pc' := 1067) (L' := [(6, .int w102.1), (5, .int w99.1), (0, .ref 1000000), (1, .ref 0), (2, .ref 47), (3, .ref 698), (4, .int s1.1)]) (S' := [.int (lg_cmp v104 (w102.1.toInt64))]) (h' := (hh X w99.2.2 w102.2)) rfl ?_
          refine Go_cmz rfl rfl rfl ?_ ?_
          ·
            refine Go_blk 3 (pc' := 23) (L' := [(4, .int (s1.1 + (7 : Int32))), (6, .int w102.1), (5, .int w99.1), (0, .ref 1000000), (1, .ref 0), (2, .ref 47), (3, .ref 698)]) (S' := []) (h' := (hh X w99.2.2 w102.2)) rfl ?_
            exact Go_jmp [(0, .ref 1000000), (1, .ref 0), (2, .ref 47), (3, .ref 698), (4, .int (s1.1 + (7 : Int32)))] rfl ⟨rfl, rfl, rfl, rfl, rfl, trivial⟩ (fun _ h => h)
          ·
            refine Go_inrS ?_
            refine Go_blk 1 (pc' := 1071) (L' := [(6, .int w102.1), (5, .int w99.1), (0, .ref 1000000), (1, .ref 0), (2, .ref 47), (3, .ref 698), (4, .int s1.1)]) (S' := [.int (0 : Int32)]) (h' := (hh X w99.2.2 w102.2)) rfl ?_
            exact Go_ret (fun _ h => h) rfl
        ·
          refine Go_blk 3 (pc' := 23) (L' := [(4, .int (s1.1 + (7 : Int32))), (6, .int w102.1), (5, .int w99.1), (0, .ref 1000000), (1, .ref 0), (2, .ref 47), (3, .ref 698)]) (S' := []) (h' := (hh X w99.2.2 w102.2)) rfl ?_
          exact Go_jmp [(0, .ref 1000000), (1, .ref 0), (2, .ref 47), (3, .ref 698), (4, .int (s1.1 + (7 : Int32)))] rfl ⟨rfl, rfl, rfl, rfl, rfl, trivial⟩ (fun _ h => h)
      ·
        refine Go_inrS ?_
        refine Go_blk 1 (pc' := 1054) (L' := [(6, .int w102.1), (5, .int w99.1), (0, .ref 1000000), (1, .ref 0), (2, .ref 47), (3, .ref 698), (4, .int s1.1)]) (S' := [.int (0 : Int32)]) (h' := (hh X w99.2.2 w102.2)) rfl ?_
        exact Go_ret (fun _ h => h) rfl
    refine Go_sw ?_ fun h15 => ?_
    ·
      refine Go_blk 1 (pc' := 1075) (L' := [(0, .ref 1000000), (1, .ref 0), (2, .ref 47), (3, .ref 698), (4, .int s1.1)]) (S' := []) (h' := (hh X s1.2.2 s1.2.1)) rfl ?_
      refine Go_blk 5 (pc' := 1081) (L' := [(0, .ref 1000000), (1, .ref 0), (2, .ref 47), (3, .ref 698), (4, .int s1.1)]) (S' := [.int (s1.1 + (1 : Int32)), .ref 1000000, .ref 0]) (h' := (hh X s1.2.2 s1.2.1)) rfl ?_
      refine Go_ialds rfl fun v105 => ?_
      refine Go_blk 4 (pc' := 1087) (L' := [(0, .ref 1000000), (1, .ref 0), (2, .ref 47), (3, .ref 698), (4, .int s1.1)]) (S' := [.int (s1.1 + (2 : Int32)), .ref 1000000, .int v105, .ref 0]) (h' := (hh X s1.2.2 s1.2.1)) rfl ?_
      refine Go_ialds rfl fun v106 => ?_
      refine Go_blk 1 (pc' := 1089) (L' := [(0, .ref 1000000), (1, .ref 0), (2, .ref 47), (3, .ref 698), (4, .int s1.1)]) (S' := [.ref 698, .int v106, .int v105, .ref 0]) (h' := (hh X s1.2.2 s1.2.1)) rfl ?_
      refine Go_cG (y' := 165) (As := [.ref 0, .int v105, .int v106, .ref 698]) (r := []) rfl (g_l_cloth165 v105 v106 (by omega)) fun w107 => ?_
      refine Go_blk 6 (pc' := 1100) (L' := [(5, .int w107.1), (0, .ref 1000000), (1, .ref 0), (2, .ref 47), (3, .ref 698), (4, .int s1.1)]) (S' := [.int (s1.1 + (1 : Int32)), .ref 1000000, .ref 47]) (h' := (hh X w107.2.2 w107.2.1)) rfl ?_
      refine Go_ialds rfl fun v108 => ?_
      refine Go_blk 4 (pc' := 1106) (L' := [(5, .int w107.1), (0, .ref 1000000), (1, .ref 0), (2, .ref 47), (3, .ref 698), (4, .int s1.1)]) (S' := [.int (s1.1 + (2 : Int32)), .ref 1000000, .int v108, .ref 47]) (h' := (hh X w107.2.2 w107.2.1)) rfl ?_
      refine Go_ialds rfl fun v109 => ?_
      refine Go_cW (y' := 338) (As := [.ref 47, .int v108, .int v109]) (r := []) rfl (g_m_cloth338 v108 v109 (by omega)) fun w110 => ?_
      refine Go_blk 2 (pc' := 1113) (L' := [(6, .int w110.1), (5, .int w107.1), (0, .ref 1000000), (1, .ref 0), (2, .ref 47), (3, .ref 698), (4, .int s1.1)]) (S' := [.ref 47]) (h' := (hh X w107.2.2 w110.2)) rfl ?_
      refine Go_cR (y' := 265) (As := [.ref 47]) (r := []) rfl (g_m_thrown265  (by omega)) fun v111 => ?_
      refine Go_blk 1 (pc' := 1118) (L' := [(6, .int w110.1), (5, .int w107.1), (0, .ref 1000000), (1, .ref 0), (2, .ref 47), (3, .ref 698), (4, .int s1.1)]) (S' := [.int w107.1, .int v111]) (h' := (hh X w107.2.2 w110.2)) rfl ?_
      refine Go_cmp rfl rfl rfl ?_ ?_
      ·
        refine Go_blk 1 (pc' := 1125) (L' := [(6, .int w110.1), (5, .int w107.1), (0, .ref 1000000), (1, .ref 0), (2, .ref 47), (3, .ref 698), (4, .int s1.1)]) (S' := [.int w107.1]) (h' := (hh X w107.2.2 w110.2)) rfl ?_
        refine Go_cmzn rfl rfl rfl ?_ ?_
        ·
          refine Go_blk 2 (pc' := 1130) (L' := [(6, .int w110.1), (5, .int w107.1), (0, .ref 1000000), (1, .ref 0), (2, .ref 47), (3, .ref 698), (4, .int s1.1)]) (S' := [.int (0 : Int32), .ref 698]) (h' := (hh X w107.2.2 w110.2)) rfl ?_
          refine Go_lald rfl fun v112 => ?_
          refine Go_blk 3 (pc' := 1135) (L' := [(6, .int w110.1), (5, .int w107.1), (0, .ref 1000000), (1, .ref 0), (2, .ref 47), (3, .ref 698), (4, .int s1.1)]) (S' := [.int (lg_cmp v112 (w110.1.toInt64))]) (h' := (hh X w107.2.2 w110.2)) rfl ?_
          refine Go_cmz rfl rfl rfl ?_ ?_
          ·
            refine Go_blk 3 (pc' := 23) (L' := [(4, .int (s1.1 + (7 : Int32))), (6, .int w110.1), (5, .int w107.1), (0, .ref 1000000), (1, .ref 0), (2, .ref 47), (3, .ref 698)]) (S' := []) (h' := (hh X w107.2.2 w110.2)) rfl ?_
            exact Go_jmp [(0, .ref 1000000), (1, .ref 0), (2, .ref 47), (3, .ref 698), (4, .int (s1.1 + (7 : Int32)))] rfl ⟨rfl, rfl, rfl, rfl, rfl, trivial⟩ (fun _ h => h)
          ·
            refine Go_inrS ?_
            refine Go_blk 1 (pc' := 1139) (L' := [(6, .int w110.1), (5, .int w107.1), (0, .ref 1000000), (1, .ref 0), (2, .ref 47), (3, .ref 698), (4, .int s1.1)]) (S' := [.int (0 : Int32)]) (h' := (hh X w107.2.2 w110.2)) rfl ?_
            exact Go_ret (fun _ h => h) rfl
        ·
          refine Go_blk 3 (pc' := 23) (L' := [(4, .int (s1.1 + (7 : Int32))), (6, .int w110.1), (5, .int w107.1), (0, .ref 1000000), (1, .ref 0), (2, .ref 47), (3, .ref 698)]) (S' := []) (h' := (hh X w107.2.2 w110.2)) rfl ?_
          exact Go_jmp [(0, .ref 1000000), (1, .ref 0), (2, .ref 47), (3, .ref 698), (4, .int (s1.1 + (7 : Int32)))] rfl ⟨rfl, rfl, rfl, rfl, rfl, trivial⟩ (fun _ h => h)
      ·
        refine Go_inrS ?_
        refine Go_blk 1 (pc' := 1122) (L' := [(6, .int w110.1), (5, .int w107.1), (0, .ref 1000000), (1, .ref 0), (2, .ref 47), (3, .ref 698), (4, .int s1.1)]) (S' := [.int (0 : Int32)]) (h' := (hh X w107.2.2 w110.2)) rfl ?_
        exact Go_ret (fun _ h => h) rfl
    refine Go_sw ?_ fun h16 => ?_
    ·
      refine Go_blk 1 (pc' := 1143) (L' := [(0, .ref 1000000), (1, .ref 0), (2, .ref 47), (3, .ref 698), (4, .int s1.1)]) (S' := []) (h' := (hh X s1.2.2 s1.2.1)) rfl ?_
      refine Go_blk 5 (pc' := 1149) (L' := [(0, .ref 1000000), (1, .ref 0), (2, .ref 47), (3, .ref 698), (4, .int s1.1)]) (S' := [.int (s1.1 + (1 : Int32)), .ref 1000000, .ref 0]) (h' := (hh X s1.2.2 s1.2.1)) rfl ?_
      refine Go_ialds rfl fun v113 => ?_
      refine Go_blk 4 (pc' := 1155) (L' := [(0, .ref 1000000), (1, .ref 0), (2, .ref 47), (3, .ref 698), (4, .int s1.1)]) (S' := [.int (s1.1 + (2 : Int32)), .ref 1000000, .int v113, .ref 0]) (h' := (hh X s1.2.2 s1.2.1)) rfl ?_
      refine Go_ialds rfl fun v114 => ?_
      refine Go_blk 1 (pc' := 1157) (L' := [(0, .ref 1000000), (1, .ref 0), (2, .ref 47), (3, .ref 698), (4, .int s1.1)]) (S' := [.ref 698, .int v114, .int v113, .ref 0]) (h' := (hh X s1.2.2 s1.2.1)) rfl ?_
      refine Go_cG (y' := 170) (As := [.ref 0, .int v113, .int v114, .ref 698]) (r := []) rfl (g_l_can170 v113 v114 (by omega)) fun w115 => ?_
      refine Go_blk 6 (pc' := 1168) (L' := [(5, .int w115.1), (0, .ref 1000000), (1, .ref 0), (2, .ref 47), (3, .ref 698), (4, .int s1.1)]) (S' := [.int (s1.1 + (1 : Int32)), .ref 1000000, .ref 47]) (h' := (hh X w115.2.2 w115.2.1)) rfl ?_
      refine Go_ialds rfl fun v116 => ?_
      refine Go_blk 4 (pc' := 1174) (L' := [(5, .int w115.1), (0, .ref 1000000), (1, .ref 0), (2, .ref 47), (3, .ref 698), (4, .int s1.1)]) (S' := [.int (s1.1 + (2 : Int32)), .ref 1000000, .int v116, .ref 47]) (h' := (hh X w115.2.2 w115.2.1)) rfl ?_
      refine Go_ialds rfl fun v117 => ?_
      refine Go_cW (y' := 339) (As := [.ref 47, .int v116, .int v117]) (r := []) rfl (g_m_can339 v116 v117 (by omega)) fun w118 => ?_
      refine Go_blk 2 (pc' := 1181) (L' := [(6, .int w118.1), (5, .int w115.1), (0, .ref 1000000), (1, .ref 0), (2, .ref 47), (3, .ref 698), (4, .int s1.1)]) (S' := [.ref 47]) (h' := (hh X w115.2.2 w118.2)) rfl ?_
      refine Go_cR (y' := 265) (As := [.ref 47]) (r := []) rfl (g_m_thrown265  (by omega)) fun v119 => ?_
      refine Go_blk 1 (pc' := 1186) (L' := [(6, .int w118.1), (5, .int w115.1), (0, .ref 1000000), (1, .ref 0), (2, .ref 47), (3, .ref 698), (4, .int s1.1)]) (S' := [.int w115.1, .int v119]) (h' := (hh X w115.2.2 w118.2)) rfl ?_
      refine Go_cmp rfl rfl rfl ?_ ?_
      ·
        refine Go_blk 1 (pc' := 1193) (L' := [(6, .int w118.1), (5, .int w115.1), (0, .ref 1000000), (1, .ref 0), (2, .ref 47), (3, .ref 698), (4, .int s1.1)]) (S' := [.int w115.1]) (h' := (hh X w115.2.2 w118.2)) rfl ?_
        refine Go_cmzn rfl rfl rfl ?_ ?_
        ·
          refine Go_blk 2 (pc' := 1198) (L' := [(6, .int w118.1), (5, .int w115.1), (0, .ref 1000000), (1, .ref 0), (2, .ref 47), (3, .ref 698), (4, .int s1.1)]) (S' := [.int (0 : Int32), .ref 698]) (h' := (hh X w115.2.2 w118.2)) rfl ?_
          refine Go_lald rfl fun v120 => ?_
          refine Go_blk 1 (pc' := 1201) (L' := [(6, .int w118.1), (5, .int w115.1), (0, .ref 1000000), (1, .ref 0), (2, .ref 47), (3, .ref 698), (4, .int s1.1)]) (S' := [.int w118.1, .long v120]) (h' := (hh X w115.2.2 w118.2)) rfl ?_
          refine Go_seq (pcj := 1209) (fun (b121 : Int64) => [(0, .ref 1000000), (1, .ref 0), (2, .ref 47), (3, .ref 698), (4, .int s1.1)]) (fun (b121 : Int64) => [.long b121, .long v120]) (fun (b121 : Int64) => (hh X w115.2.2 w118.2)) (fun b121 => ?_) ?_
          ·
            refine Go_blk 1 (pc' := 1210) (L' := [(0, .ref 1000000), (1, .ref 0), (2, .ref 47), (3, .ref 698), (4, .int s1.1)]) (S' := [.int (lg_cmp v120 b121)]) (h' := (hh X w115.2.2 w118.2)) rfl ?_
            refine Go_cmz rfl rfl rfl ?_ ?_
            ·
              refine Go_blk 3 (pc' := 23) (L' := [(4, .int (s1.1 + (7 : Int32))), (0, .ref 1000000), (1, .ref 0), (2, .ref 47), (3, .ref 698)]) (S' := []) (h' := (hh X w115.2.2 w118.2)) rfl ?_
              exact Go_jmp [(0, .ref 1000000), (1, .ref 0), (2, .ref 47), (3, .ref 698), (4, .int (s1.1 + (7 : Int32)))] rfl ⟨rfl, rfl, rfl, rfl, rfl, trivial⟩ (fun _ h => h)
            ·
              refine Go_inrS ?_
              refine Go_blk 1 (pc' := 1214) (L' := [(0, .ref 1000000), (1, .ref 0), (2, .ref 47), (3, .ref 698), (4, .int s1.1)]) (S' := [.int (0 : Int32)]) (h' := (hh X w115.2.2 w118.2)) rfl ?_
              exact Go_ret (fun _ h => h) rfl
          ·
            refine Go_cmz rfl rfl rfl ?_ ?_
            ·
              refine Go_blk 1 (pc' := 1209) (L' := [(6, .int w118.1), (5, .int w115.1), (0, .ref 1000000), (1, .ref 0), (2, .ref 47), (3, .ref 698), (4, .int s1.1)]) (S' := [.long (0 : Int64), .long v120]) (h' := (hh X w115.2.2 w118.2)) rfl ?_
              exact Go_jmp [(0, .ref 1000000), (1, .ref 0), (2, .ref 47), (3, .ref 698), (4, .int s1.1)] rfl ⟨rfl, rfl, rfl, rfl, rfl, trivial⟩ (fun _ h => h)
            ·
              refine Go_blk 2 (pc' := 1209) (L' := [(6, .int w118.1), (5, .int w115.1), (0, .ref 1000000), (1, .ref 0), (2, .ref 47), (3, .ref 698), (4, .int s1.1)]) (S' := [.long (1 : Int64), .long v120]) (h' := (hh X w115.2.2 w118.2)) rfl ?_
              exact Go_jmp [(0, .ref 1000000), (1, .ref 0), (2, .ref 47), (3, .ref 698), (4, .int s1.1)] rfl ⟨rfl, rfl, rfl, rfl, rfl, trivial⟩ (fun _ h => h)
        ·
          refine Go_blk 3 (pc' := 23) (L' := [(4, .int (s1.1 + (7 : Int32))), (6, .int w118.1), (5, .int w115.1), (0, .ref 1000000), (1, .ref 0), (2, .ref 47), (3, .ref 698)]) (S' := []) (h' := (hh X w115.2.2 w118.2)) rfl ?_
          exact Go_jmp [(0, .ref 1000000), (1, .ref 0), (2, .ref 47), (3, .ref 698), (4, .int (s1.1 + (7 : Int32)))] rfl ⟨rfl, rfl, rfl, rfl, rfl, trivial⟩ (fun _ h => h)
      ·
        refine Go_inrS ?_
        refine Go_blk 1 (pc' := 1190) (L' := [(6, .int w118.1), (5, .int w115.1), (0, .ref 1000000), (1, .ref 0), (2, .ref 47), (3, .ref 698), (4, .int s1.1)]) (S' := [.int (0 : Int32)]) (h' := (hh X w115.2.2 w118.2)) rfl ?_
        exact Go_ret (fun _ h => h) rfl
    refine Go_sw ?_ fun h17 => ?_
    ·
      refine Go_blk 1 (pc' := 1218) (L' := [(0, .ref 1000000), (1, .ref 0), (2, .ref 47), (3, .ref 698), (4, .int s1.1)]) (S' := []) (h' := (hh X s1.2.2 s1.2.1)) rfl ?_
      refine Go_blk 5 (pc' := 1224) (L' := [(0, .ref 1000000), (1, .ref 0), (2, .ref 47), (3, .ref 698), (4, .int s1.1)]) (S' := [.int (s1.1 + (1 : Int32)), .ref 1000000, .ref 0]) (h' := (hh X s1.2.2 s1.2.1)) rfl ?_
      refine Go_ialds rfl fun v122 => ?_
      refine Go_blk 1 (pc' := 1226) (L' := [(0, .ref 1000000), (1, .ref 0), (2, .ref 47), (3, .ref 698), (4, .int s1.1)]) (S' := [.ref 698, .int v122, .ref 0]) (h' := (hh X s1.2.2 s1.2.1)) rfl ?_
      refine Go_cG (y' := 172) (As := [.ref 0, .int v122, .ref 698]) (r := []) rfl (g_l_ready172 v122 (by omega)) fun w123 => ?_
      refine Go_blk 6 (pc' := 1237) (L' := [(5, .int w123.1), (0, .ref 1000000), (1, .ref 0), (2, .ref 47), (3, .ref 698), (4, .int s1.1)]) (S' := [.int (s1.1 + (1 : Int32)), .ref 1000000, .ref 47]) (h' := (hh X w123.2.2 w123.2.1)) rfl ?_
      refine Go_ialds rfl fun v124 => ?_
      refine Go_cW (y' := 340) (As := [.ref 47, .int v124]) (r := []) rfl (g_m_ready340 v124 (by omega)) fun w125 => ?_
      refine Go_blk 2 (pc' := 1244) (L' := [(6, .int w125.1), (5, .int w123.1), (0, .ref 1000000), (1, .ref 0), (2, .ref 47), (3, .ref 698), (4, .int s1.1)]) (S' := [.ref 47]) (h' := (hh X w123.2.2 w125.2)) rfl ?_
      refine Go_cR (y' := 265) (As := [.ref 47]) (r := []) rfl (g_m_thrown265  (by omega)) fun v126 => ?_
      refine Go_blk 1 (pc' := 1249) (L' := [(6, .int w125.1), (5, .int w123.1), (0, .ref 1000000), (1, .ref 0), (2, .ref 47), (3, .ref 698), (4, .int s1.1)]) (S' := [.int w123.1, .int v126]) (h' := (hh X w123.2.2 w125.2)) rfl ?_
      refine Go_cmp rfl rfl rfl ?_ ?_
      ·
        refine Go_blk 1 (pc' := 1256) (L' := [(6, .int w125.1), (5, .int w123.1), (0, .ref 1000000), (1, .ref 0), (2, .ref 47), (3, .ref 698), (4, .int s1.1)]) (S' := [.int w123.1]) (h' := (hh X w123.2.2 w125.2)) rfl ?_
        refine Go_cmzn rfl rfl rfl ?_ ?_
        ·
          refine Go_blk 2 (pc' := 1261) (L' := [(6, .int w125.1), (5, .int w123.1), (0, .ref 1000000), (1, .ref 0), (2, .ref 47), (3, .ref 698), (4, .int s1.1)]) (S' := [.int (0 : Int32), .ref 698]) (h' := (hh X w123.2.2 w125.2)) rfl ?_
          refine Go_lald rfl fun v127 => ?_
          refine Go_blk 1 (pc' := 1264) (L' := [(6, .int w125.1), (5, .int w123.1), (0, .ref 1000000), (1, .ref 0), (2, .ref 47), (3, .ref 698), (4, .int s1.1)]) (S' := [.int w125.1, .long v127]) (h' := (hh X w123.2.2 w125.2)) rfl ?_
          refine Go_seq (pcj := 1272) (fun (b128 : Int64) => [(0, .ref 1000000), (1, .ref 0), (2, .ref 47), (3, .ref 698), (4, .int s1.1)]) (fun (b128 : Int64) => [.long b128, .long v127]) (fun (b128 : Int64) => (hh X w123.2.2 w125.2)) (fun b128 => ?_) ?_
          ·
            refine Go_blk 1 (pc' := 1273) (L' := [(0, .ref 1000000), (1, .ref 0), (2, .ref 47), (3, .ref 698), (4, .int s1.1)]) (S' := [.int (lg_cmp v127 b128)]) (h' := (hh X w123.2.2 w125.2)) rfl ?_
            refine Go_cmz rfl rfl rfl ?_ ?_
            ·
              refine Go_blk 3 (pc' := 23) (L' := [(4, .int (s1.1 + (7 : Int32))), (0, .ref 1000000), (1, .ref 0), (2, .ref 47), (3, .ref 698)]) (S' := []) (h' := (hh X w123.2.2 w125.2)) rfl ?_
              exact Go_jmp [(0, .ref 1000000), (1, .ref 0), (2, .ref 47), (3, .ref 698), (4, .int (s1.1 + (7 : Int32)))] rfl ⟨rfl, rfl, rfl, rfl, rfl, trivial⟩ (fun _ h => h)
            ·
              refine Go_inrS ?_
              refine Go_blk 1 (pc' := 1277) (L' := [(0, .ref 1000000), (1, .ref 0), (2, .ref 47), (3, .ref 698), (4, .int s1.1)]) (S' := [.int (0 : Int32)]) (h' := (hh X w123.2.2 w125.2)) rfl ?_
              exact Go_ret (fun _ h => h) rfl
          ·
            refine Go_cmz rfl rfl rfl ?_ ?_
            ·
              refine Go_blk 1 (pc' := 1272) (L' := [(6, .int w125.1), (5, .int w123.1), (0, .ref 1000000), (1, .ref 0), (2, .ref 47), (3, .ref 698), (4, .int s1.1)]) (S' := [.long (0 : Int64), .long v127]) (h' := (hh X w123.2.2 w125.2)) rfl ?_
              exact Go_jmp [(0, .ref 1000000), (1, .ref 0), (2, .ref 47), (3, .ref 698), (4, .int s1.1)] rfl ⟨rfl, rfl, rfl, rfl, rfl, trivial⟩ (fun _ h => h)
            ·
              refine Go_blk 2 (pc' := 1272) (L' := [(6, .int w125.1), (5, .int w123.1), (0, .ref 1000000), (1, .ref 0), (2, .ref 47), (3, .ref 698), (4, .int s1.1)]) (S' := [.long (1 : Int64), .long v127]) (h' := (hh X w123.2.2 w125.2)) rfl ?_
              exact Go_jmp [(0, .ref 1000000), (1, .ref 0), (2, .ref 47), (3, .ref 698), (4, .int s1.1)] rfl ⟨rfl, rfl, rfl, rfl, rfl, trivial⟩ (fun _ h => h)
        ·
          refine Go_blk 3 (pc' := 23) (L' := [(4, .int (s1.1 + (7 : Int32))), (6, .int w125.1), (5, .int w123.1), (0, .ref 1000000), (1, .ref 0), (2, .ref 47), (3, .ref 698)]) (S' := []) (h' := (hh X w123.2.2 w125.2)) rfl ?_
          exact Go_jmp [(0, .ref 1000000), (1, .ref 0), (2, .ref 47), (3, .ref 698), (4, .int (s1.1 + (7 : Int32)))] rfl ⟨rfl, rfl, rfl, rfl, rfl, trivial⟩ (fun _ h => h)
      ·
        refine Go_inrS ?_
        refine Go_blk 1 (pc' := 1253) (L' := [(6, .int w125.1), (5, .int w123.1), (0, .ref 1000000), (1, .ref 0), (2, .ref 47), (3, .ref 698), (4, .int s1.1)]) (S' := [.int (0 : Int32)]) (h' := (hh X w123.2.2 w125.2)) rfl ?_
        exact Go_ret (fun _ h => h) rfl
    refine Go_sw ?_ fun h18 => ?_
    ·
      refine Go_blk 1 (pc' := 1281) (L' := [(0, .ref 1000000), (1, .ref 0), (2, .ref 47), (3, .ref 698), (4, .int s1.1)]) (S' := []) (h' := (hh X s1.2.2 s1.2.1)) rfl ?_
      refine Go_blk 5 (pc' := 1287) (L' := [(0, .ref 1000000), (1, .ref 0), (2, .ref 47), (3, .ref 698), (4, .int s1.1)]) (S' := [.int (s1.1 + (1 : Int32)), .ref 1000000, .ref 0]) (h' := (hh X s1.2.2 s1.2.1)) rfl ?_
      refine Go_ialds rfl fun v129 => ?_
      refine Go_blk 1 (pc' := 1289) (L' := [(0, .ref 1000000), (1, .ref 0), (2, .ref 47), (3, .ref 698), (4, .int s1.1)]) (S' := [.ref 698, .int v129, .ref 0]) (h' := (hh X s1.2.2 s1.2.1)) rfl ?_
      refine Go_cG (y' := 174) (As := [.ref 0, .int v129, .ref 698]) (r := []) rfl (g_l_fit174 v129 (by omega)) fun w130 => ?_
      refine Go_blk 6 (pc' := 1300) (L' := [(5, .int w130.1), (0, .ref 1000000), (1, .ref 0), (2, .ref 47), (3, .ref 698), (4, .int s1.1)]) (S' := [.int (s1.1 + (1 : Int32)), .ref 1000000, .ref 47]) (h' := (hh X w130.2.2 w130.2.1)) rfl ?_
      refine Go_ialds rfl fun v131 => ?_
      refine Go_cW (y' := 341) (As := [.ref 47, .int v131]) (r := []) rfl (g_m_fit341 v131 (by omega)) fun w132 => ?_
      refine Go_blk 2 (pc' := 1307) (L' := [(6, .int w132.1), (5, .int w130.1), (0, .ref 1000000), (1, .ref 0), (2, .ref 47), (3, .ref 698), (4, .int s1.1)]) (S' := [.ref 47]) (h' := (hh X w130.2.2 w132.2)) rfl ?_
      refine Go_cR (y' := 265) (As := [.ref 47]) (r := []) rfl (g_m_thrown265  (by omega)) fun v133 => ?_
      refine Go_blk 1 (pc' := 1312) (L' := [(6, .int w132.1), (5, .int w130.1), (0, .ref 1000000), (1, .ref 0), (2, .ref 47), (3, .ref 698), (4, .int s1.1)]) (S' := [.int w130.1, .int v133]) (h' := (hh X w130.2.2 w132.2)) rfl ?_
      refine Go_cmp rfl rfl rfl ?_ ?_
      ·
        refine Go_blk 1 (pc' := 1319) (L' := [(6, .int w132.1), (5, .int w130.1), (0, .ref 1000000), (1, .ref 0), (2, .ref 47), (3, .ref 698), (4, .int s1.1)]) (S' := [.int w130.1]) (h' := (hh X w130.2.2 w132.2)) rfl ?_
        refine Go_cmzn rfl rfl rfl ?_ ?_
        ·
          refine Go_blk 2 (pc' := 1324) (L' := [(6, .int w132.1), (5, .int w130.1), (0, .ref 1000000), (1, .ref 0), (2, .ref 47), (3, .ref 698), (4, .int s1.1)]) (S' := [.int (0 : Int32), .ref 698]) (h' := (hh X w130.2.2 w132.2)) rfl ?_
          refine Go_lald rfl fun v134 => ?_
          refine Go_blk 3 (pc' := 1329) (L' := [(6, .int w132.1), (5, .int w130.1), (0, .ref 1000000), (1, .ref 0), (2, .ref 47), (3, .ref 698), (4, .int s1.1)]) (S' := [.int (lg_cmp v134 (w132.1.toInt64))]) (h' := (hh X w130.2.2 w132.2)) rfl ?_
          refine Go_cmz rfl rfl rfl ?_ ?_
          ·
            refine Go_blk 3 (pc' := 23) (L' := [(4, .int (s1.1 + (7 : Int32))), (6, .int w132.1), (5, .int w130.1), (0, .ref 1000000), (1, .ref 0), (2, .ref 47), (3, .ref 698)]) (S' := []) (h' := (hh X w130.2.2 w132.2)) rfl ?_
            exact Go_jmp [(0, .ref 1000000), (1, .ref 0), (2, .ref 47), (3, .ref 698), (4, .int (s1.1 + (7 : Int32)))] rfl ⟨rfl, rfl, rfl, rfl, rfl, trivial⟩ (fun _ h => h)
          ·
            refine Go_inrS ?_
            refine Go_blk 1 (pc' := 1333) (L' := [(6, .int w132.1), (5, .int w130.1), (0, .ref 1000000), (1, .ref 0), (2, .ref 47), (3, .ref 698), (4, .int s1.1)]) (S' := [.int (0 : Int32)]) (h' := (hh X w130.2.2 w132.2)) rfl ?_
            exact Go_ret (fun _ h => h) rfl
        ·
          refine Go_blk 3 (pc' := 23) (L' := [(4, .int (s1.1 + (7 : Int32))), (6, .int w132.1), (5, .int w130.1), (0, .ref 1000000), (1, .ref 0), (2, .ref 47), (3, .ref 698)]) (S' := []) (h' := (hh X w130.2.2 w132.2)) rfl ?_
          exact Go_jmp [(0, .ref 1000000), (1, .ref 0), (2, .ref 47), (3, .ref 698), (4, .int (s1.1 + (7 : Int32)))] rfl ⟨rfl, rfl, rfl, rfl, rfl, trivial⟩ (fun _ h => h)
      ·
        refine Go_inrS ?_
        refine Go_blk 1 (pc' := 1316) (L' := [(6, .int w132.1), (5, .int w130.1), (0, .ref 1000000), (1, .ref 0), (2, .ref 47), (3, .ref 698), (4, .int s1.1)]) (S' := [.int (0 : Int32)]) (h' := (hh X w130.2.2 w132.2)) rfl ?_
        exact Go_ret (fun _ h => h) rfl
    refine Go_sw ?_ fun h19 => ?_
    ·
      refine Go_blk 1 (pc' := 1337) (L' := [(0, .ref 1000000), (1, .ref 0), (2, .ref 47), (3, .ref 698), (4, .int s1.1)]) (S' := []) (h' := (hh X s1.2.2 s1.2.1)) rfl ?_
      refine Go_blk 5 (pc' := 1343) (L' := [(0, .ref 1000000), (1, .ref 0), (2, .ref 47), (3, .ref 698), (4, .int s1.1)]) (S' := [.int (s1.1 + (1 : Int32)), .ref 1000000, .ref 0]) (h' := (hh X s1.2.2 s1.2.1)) rfl ?_
      refine Go_ialds rfl fun v135 => ?_
      refine Go_blk 4 (pc' := 1349) (L' := [(0, .ref 1000000), (1, .ref 0), (2, .ref 47), (3, .ref 698), (4, .int s1.1)]) (S' := [.int (s1.1 + (2 : Int32)), .ref 1000000, .int v135, .ref 0]) (h' := (hh X s1.2.2 s1.2.1)) rfl ?_
      refine Go_ialds rfl fun v136 => ?_
      refine Go_blk 1 (pc' := 1351) (L' := [(0, .ref 1000000), (1, .ref 0), (2, .ref 47), (3, .ref 698), (4, .int s1.1)]) (S' := [.ref 698, .int v136, .int v135, .ref 0]) (h' := (hh X s1.2.2 s1.2.1)) rfl ?_
      refine Go_cG (y' := 178) (As := [.ref 0, .int v135, .int v136, .ref 698]) (r := []) rfl (g_l_tries178 v135 v136 (by omega)) fun w137 => ?_
      refine Go_blk 6 (pc' := 1362) (L' := [(5, .int w137.1), (0, .ref 1000000), (1, .ref 0), (2, .ref 47), (3, .ref 698), (4, .int s1.1)]) (S' := [.int (s1.1 + (1 : Int32)), .ref 1000000, .ref 47]) (h' := (hh X w137.2.2 w137.2.1)) rfl ?_
      refine Go_ialds rfl fun v138 => ?_
      refine Go_blk 4 (pc' := 1368) (L' := [(5, .int w137.1), (0, .ref 1000000), (1, .ref 0), (2, .ref 47), (3, .ref 698), (4, .int s1.1)]) (S' := [.int (s1.1 + (2 : Int32)), .ref 1000000, .int v138, .ref 47]) (h' := (hh X w137.2.2 w137.2.1)) rfl ?_
      refine Go_ialds rfl fun v139 => ?_
      refine Go_cW (y' := 343) (As := [.ref 47, .int v138, .int v139]) (r := []) rfl (g_m_tries343 v138 v139 (by omega)) fun w140 => ?_
      refine Go_blk 2 (pc' := 1375) (L' := [(6, .int w140.1), (5, .int w137.1), (0, .ref 1000000), (1, .ref 0), (2, .ref 47), (3, .ref 698), (4, .int s1.1)]) (S' := [.ref 47]) (h' := (hh X w137.2.2 w140.2)) rfl ?_
      refine Go_cR (y' := 265) (As := [.ref 47]) (r := []) rfl (g_m_thrown265  (by omega)) fun v141 => ?_
      refine Go_blk 1 (pc' := 1380) (L' := [(6, .int w140.1), (5, .int w137.1), (0, .ref 1000000), (1, .ref 0), (2, .ref 47), (3, .ref 698), (4, .int s1.1)]) (S' := [.int w137.1, .int v141]) (h' := (hh X w137.2.2 w140.2)) rfl ?_
      refine Go_cmp rfl rfl rfl ?_ ?_
      ·
        refine Go_blk 1 (pc' := 1387) (L' := [(6, .int w140.1), (5, .int w137.1), (0, .ref 1000000), (1, .ref 0), (2, .ref 47), (3, .ref 698), (4, .int s1.1)]) (S' := [.int w137.1]) (h' := (hh X w137.2.2 w140.2)) rfl ?_
        refine Go_cmzn rfl rfl rfl ?_ ?_
        ·
          refine Go_blk 2 (pc' := 1392) (L' := [(6, .int w140.1), (5, .int w137.1), (0, .ref 1000000), (1, .ref 0), (2, .ref 47), (3, .ref 698), (4, .int s1.1)]) (S' := [.int (0 : Int32), .ref 698]) (h' := (hh X w137.2.2 w140.2)) rfl ?_
          refine Go_lald rfl fun v142 => ?_
          refine Go_blk 3 (pc' := 1397) (L' := [(6, .int w140.1), (5, .int w137.1), (0, .ref 1000000), (1, .ref 0), (2, .ref 47), (3, .ref 698), (4, .int s1.1)]) (S' := [.int (lg_cmp v142 (w140.1.toInt64))]) (h' := (hh X w137.2.2 w140.2)) rfl ?_
          refine Go_cmz rfl rfl rfl ?_ ?_
          ·
            refine Go_blk 3 (pc' := 23) (L' := [(4, .int (s1.1 + (7 : Int32))), (6, .int w140.1), (5, .int w137.1), (0, .ref 1000000), (1, .ref 0), (2, .ref 47), (3, .ref 698)]) (S' := []) (h' := (hh X w137.2.2 w140.2)) rfl ?_
            exact Go_jmp [(0, .ref 1000000), (1, .ref 0), (2, .ref 47), (3, .ref 698), (4, .int (s1.1 + (7 : Int32)))] rfl ⟨rfl, rfl, rfl, rfl, rfl, trivial⟩ (fun _ h => h)
          ·
            refine Go_inrS ?_
            refine Go_blk 1 (pc' := 1401) (L' := [(6, .int w140.1), (5, .int w137.1), (0, .ref 1000000), (1, .ref 0), (2, .ref 47), (3, .ref 698), (4, .int s1.1)]) (S' := [.int (0 : Int32)]) (h' := (hh X w137.2.2 w140.2)) rfl ?_
            exact Go_ret (fun _ h => h) rfl
        ·
          refine Go_blk 3 (pc' := 23) (L' := [(4, .int (s1.1 + (7 : Int32))), (6, .int w140.1), (5, .int w137.1), (0, .ref 1000000), (1, .ref 0), (2, .ref 47), (3, .ref 698)]) (S' := []) (h' := (hh X w137.2.2 w140.2)) rfl ?_
          exact Go_jmp [(0, .ref 1000000), (1, .ref 0), (2, .ref 47), (3, .ref 698), (4, .int (s1.1 + (7 : Int32)))] rfl ⟨rfl, rfl, rfl, rfl, rfl, trivial⟩ (fun _ h => h)
      ·
        refine Go_inrS ?_
        refine Go_blk 1 (pc' := 1384) (L' := [(6, .int w140.1), (5, .int w137.1), (0, .ref 1000000), (1, .ref 0), (2, .ref 47), (3, .ref 698), (4, .int s1.1)]) (S' := [.int (0 : Int32)]) (h' := (hh X w137.2.2 w140.2)) rfl ?_
        exact Go_ret (fun _ h => h) rfl
    refine Go_sw ?_ fun h20 => ?_
    ·
      refine Go_blk 1 (pc' := 1405) (L' := [(0, .ref 1000000), (1, .ref 0), (2, .ref 47), (3, .ref 698), (4, .int s1.1)]) (S' := []) (h' := (hh X s1.2.2 s1.2.1)) rfl ?_
      refine Go_blk 5 (pc' := 1411) (L' := [(0, .ref 1000000), (1, .ref 0), (2, .ref 47), (3, .ref 698), (4, .int s1.1)]) (S' := [.int (s1.1 + (1 : Int32)), .ref 1000000, .ref 0]) (h' := (hh X s1.2.2 s1.2.1)) rfl ?_
      refine Go_ialds rfl fun v143 => ?_
      refine Go_blk 1 (pc' := 1413) (L' := [(0, .ref 1000000), (1, .ref 0), (2, .ref 47), (3, .ref 698), (4, .int s1.1)]) (S' := [.ref 698, .int v143, .ref 0]) (h' := (hh X s1.2.2 s1.2.1)) rfl ?_
      refine Go_cG (y' := 182) (As := [.ref 0, .int v143, .ref 698]) (r := []) rfl (g_l_best182 v143 (by omega)) fun w144 => ?_
      refine Go_blk 6 (pc' := 1424) (L' := [(5, .int w144.1), (0, .ref 1000000), (1, .ref 0), (2, .ref 47), (3, .ref 698), (4, .int s1.1)]) (S' := [.int (s1.1 + (1 : Int32)), .ref 1000000, .ref 47]) (h' := (hh X w144.2.2 w144.2.1)) rfl ?_
      refine Go_ialds rfl fun v145 => ?_
      refine Go_cW (y' := 344) (As := [.ref 47, .int v145]) (r := []) rfl (g_m_best344 v145 (by omega)) fun w146 => ?_
      refine Go_blk 2 (pc' := 1431) (L' := [(6, .int w146.1), (5, .int w144.1), (0, .ref 1000000), (1, .ref 0), (2, .ref 47), (3, .ref 698), (4, .int s1.1)]) (S' := [.ref 47]) (h' := (hh X w144.2.2 w146.2)) rfl ?_
      refine Go_cR (y' := 265) (As := [.ref 47]) (r := []) rfl (g_m_thrown265  (by omega)) fun v147 => ?_
      refine Go_blk 1 (pc' := 1436) (L' := [(6, .int w146.1), (5, .int w144.1), (0, .ref 1000000), (1, .ref 0), (2, .ref 47), (3, .ref 698), (4, .int s1.1)]) (S' := [.int w144.1, .int v147]) (h' := (hh X w144.2.2 w146.2)) rfl ?_
      refine Go_cmp rfl rfl rfl ?_ ?_
      ·
        refine Go_blk 1 (pc' := 1443) (L' := [(6, .int w146.1), (5, .int w144.1), (0, .ref 1000000), (1, .ref 0), (2, .ref 47), (3, .ref 698), (4, .int s1.1)]) (S' := [.int w144.1]) (h' := (hh X w144.2.2 w146.2)) rfl ?_
        refine Go_cmzn rfl rfl rfl ?_ ?_
        ·
          refine Go_blk 2 (pc' := 1448) (L' := [(6, .int w146.1), (5, .int w144.1), (0, .ref 1000000), (1, .ref 0), (2, .ref 47), (3, .ref 698), (4, .int s1.1)]) (S' := [.int (0 : Int32), .ref 698]) (h' := (hh X w144.2.2 w146.2)) rfl ?_
          refine Go_lald rfl fun v148 => ?_
          refine Go_blk 3 (pc' := 1453) (L' := [(6, .int w146.1), (5, .int w144.1), (0, .ref 1000000), (1, .ref 0), (2, .ref 47), (3, .ref 698), (4, .int s1.1)]) (S' := [.int (lg_cmp v148 (w146.1.toInt64))]) (h' := (hh X w144.2.2 w146.2)) rfl ?_
          refine Go_cmz rfl rfl rfl ?_ ?_
          ·
            refine Go_blk 3 (pc' := 23) (L' := [(4, .int (s1.1 + (7 : Int32))), (6, .int w146.1), (5, .int w144.1), (0, .ref 1000000), (1, .ref 0), (2, .ref 47), (3, .ref 698)]) (S' := []) (h' := (hh X w144.2.2 w146.2)) rfl ?_
            exact Go_jmp [(0, .ref 1000000), (1, .ref 0), (2, .ref 47), (3, .ref 698), (4, .int (s1.1 + (7 : Int32)))] rfl ⟨rfl, rfl, rfl, rfl, rfl, trivial⟩ (fun _ h => h)
          ·
            refine Go_inrS ?_
            refine Go_blk 1 (pc' := 1457) (L' := [(6, .int w146.1), (5, .int w144.1), (0, .ref 1000000), (1, .ref 0), (2, .ref 47), (3, .ref 698), (4, .int s1.1)]) (S' := [.int (0 : Int32)]) (h' := (hh X w144.2.2 w146.2)) rfl ?_
            exact Go_ret (fun _ h => h) rfl
        ·
          refine Go_blk 3 (pc' := 23) (L' := [(4, .int (s1.1 + (7 : Int32))), (6, .int w146.1), (5, .int w144.1), (0, .ref 1000000), (1, .ref 0), (2, .ref 47), (3, .ref 698)]) (S' := []) (h' := (hh X w144.2.2 w146.2)) rfl ?_
          exact Go_jmp [(0, .ref 1000000), (1, .ref 0), (2, .ref 47), (3, .ref 698), (4, .int (s1.1 + (7 : Int32)))] rfl ⟨rfl, rfl, rfl, rfl, rfl, trivial⟩ (fun _ h => h)
      ·
        refine Go_inrS ?_
        refine Go_blk 1 (pc' := 1440) (L' := [(6, .int w146.1), (5, .int w144.1), (0, .ref 1000000), (1, .ref 0), (2, .ref 47), (3, .ref 698), (4, .int s1.1)]) (S' := [.int (0 : Int32)]) (h' := (hh X w144.2.2 w146.2)) rfl ?_
        exact Go_ret (fun _ h => h) rfl
    refine Go_sw ?_ fun h21 => ?_
    ·
      refine Go_blk 1 (pc' := 1461) (L' := [(0, .ref 1000000), (1, .ref 0), (2, .ref 47), (3, .ref 698), (4, .int s1.1)]) (S' := []) (h' := (hh X s1.2.2 s1.2.1)) rfl ?_
      refine Go_blk 5 (pc' := 1467) (L' := [(0, .ref 1000000), (1, .ref 0), (2, .ref 47), (3, .ref 698), (4, .int s1.1)]) (S' := [.int (s1.1 + (1 : Int32)), .ref 1000000, .ref 0]) (h' := (hh X s1.2.2 s1.2.1)) rfl ?_
      refine Go_ialds rfl fun v149 => ?_
      refine Go_blk 4 (pc' := 1473) (L' := [(0, .ref 1000000), (1, .ref 0), (2, .ref 47), (3, .ref 698), (4, .int s1.1)]) (S' := [.int (s1.1 + (2 : Int32)), .ref 1000000, .int v149, .ref 0]) (h' := (hh X s1.2.2 s1.2.1)) rfl ?_
      refine Go_ialds rfl fun v150 => ?_
      refine Go_blk 1 (pc' := 1475) (L' := [(0, .ref 1000000), (1, .ref 0), (2, .ref 47), (3, .ref 698), (4, .int s1.1)]) (S' := [.ref 698, .int v150, .int v149, .ref 0]) (h' := (hh X s1.2.2 s1.2.1)) rfl ?_
      refine Go_cG (y' := 191) (As := [.ref 0, .int v149, .int v150, .ref 698]) (r := []) rfl (g_l_bestAt191 v149 v150 (by omega)) fun w151 => ?_
      refine Go_blk 6 (pc' := 1486) (L' := [(5, .int w151.1), (0, .ref 1000000), (1, .ref 0), (2, .ref 47), (3, .ref 698), (4, .int s1.1)]) (S' := [.int (s1.1 + (1 : Int32)), .ref 1000000, .ref 47]) (h' := (hh X w151.2.2 w151.2.1)) rfl ?_
      refine Go_ialds rfl fun v152 => ?_
      refine Go_blk 4 (pc' := 1492) (L' := [(5, .int w151.1), (0, .ref 1000000), (1, .ref 0), (2, .ref 47), (3, .ref 698), (4, .int s1.1)]) (S' := [.int (s1.1 + (2 : Int32)), .ref 1000000, .int v152, .ref 47]) (h' := (hh X w151.2.2 w151.2.1)) rfl ?_
      refine Go_ialds rfl fun v153 => ?_
      refine Go_cW (y' := 348) (As := [.ref 47, .int v152, .int v153]) (r := []) rfl (g_m_bestAt348 v152 v153 (by omega)) fun w154 => ?_
      refine Go_blk 2 (pc' := 1499) (L' := [(6, .int w154.1), (5, .int w151.1), (0, .ref 1000000), (1, .ref 0), (2, .ref 47), (3, .ref 698), (4, .int s1.1)]) (S' := [.ref 47]) (h' := (hh X w151.2.2 w154.2)) rfl ?_
      refine Go_cR (y' := 265) (As := [.ref 47]) (r := []) rfl (g_m_thrown265  (by omega)) fun v155 => ?_
      refine Go_blk 1 (pc' := 1504) (L' := [(6, .int w154.1), (5, .int w151.1), (0, .ref 1000000), (1, .ref 0), (2, .ref 47), (3, .ref 698), (4, .int s1.1)]) (S' := [.int w151.1, .int v155]) (h' := (hh X w151.2.2 w154.2)) rfl ?_
      refine Go_cmp rfl rfl rfl ?_ ?_
      ·
        refine Go_blk 1 (pc' := 1511) (L' := [(6, .int w154.1), (5, .int w151.1), (0, .ref 1000000), (1, .ref 0), (2, .ref 47), (3, .ref 698), (4, .int s1.1)]) (S' := [.int w151.1]) (h' := (hh X w151.2.2 w154.2)) rfl ?_
        refine Go_cmzn rfl rfl rfl ?_ ?_
        ·
          refine Go_blk 2 (pc' := 1516) (L' := [(6, .int w154.1), (5, .int w151.1), (0, .ref 1000000), (1, .ref 0), (2, .ref 47), (3, .ref 698), (4, .int s1.1)]) (S' := [.int (0 : Int32), .ref 698]) (h' := (hh X w151.2.2 w154.2)) rfl ?_
          refine Go_lald rfl fun v156 => ?_
          refine Go_blk 3 (pc' := 1521) (L' := [(6, .int w154.1), (5, .int w151.1), (0, .ref 1000000), (1, .ref 0), (2, .ref 47), (3, .ref 698), (4, .int s1.1)]) (S' := [.int (lg_cmp v156 (w154.1.toInt64))]) (h' := (hh X w151.2.2 w154.2)) rfl ?_
          refine Go_cmz rfl rfl rfl ?_ ?_
          ·
            refine Go_blk 3 (pc' := 23) (L' := [(4, .int (s1.1 + (7 : Int32))), (6, .int w154.1), (5, .int w151.1), (0, .ref 1000000), (1, .ref 0), (2, .ref 47), (3, .ref 698)]) (S' := []) (h' := (hh X w151.2.2 w154.2)) rfl ?_
            exact Go_jmp [(0, .ref 1000000), (1, .ref 0), (2, .ref 47), (3, .ref 698), (4, .int (s1.1 + (7 : Int32)))] rfl ⟨rfl, rfl, rfl, rfl, rfl, trivial⟩ (fun _ h => h)
          ·
            refine Go_inrS ?_
            refine Go_blk 1 (pc' := 1525) (L' := [(6, .int w154.1), (5, .int w151.1), (0, .ref 1000000), (1, .ref 0), (2, .ref 47), (3, .ref 698), (4, .int s1.1)]) (S' := [.int (0 : Int32)]) (h' := (hh X w151.2.2 w154.2)) rfl ?_
            exact Go_ret (fun _ h => h) rfl
        ·
          refine Go_blk 3 (pc' := 23) (L' := [(4, .int (s1.1 + (7 : Int32))), (6, .int w154.1), (5, .int w151.1), (0, .ref 1000000), (1, .ref 0), (2, .ref 47), (3, .ref 698)]) (S' := []) (h' := (hh X w151.2.2 w154.2)) rfl ?_
          exact Go_jmp [(0, .ref 1000000), (1, .ref 0), (2, .ref 47), (3, .ref 698), (4, .int (s1.1 + (7 : Int32)))] rfl ⟨rfl, rfl, rfl, rfl, rfl, trivial⟩ (fun _ h => h)
      ·
        refine Go_inrS ?_
        refine Go_blk 1 (pc' := 1508) (L' := [(6, .int w154.1), (5, .int w151.1), (0, .ref 1000000), (1, .ref 0), (2, .ref 47), (3, .ref 698), (4, .int s1.1)]) (S' := [.int (0 : Int32)]) (h' := (hh X w151.2.2 w154.2)) rfl ?_
        exact Go_ret (fun _ h => h) rfl
    refine Go_sw ?_ fun h22 => ?_
    ·
      refine Go_blk 1 (pc' := 1529) (L' := [(0, .ref 1000000), (1, .ref 0), (2, .ref 47), (3, .ref 698), (4, .int s1.1)]) (S' := []) (h' := (hh X s1.2.2 s1.2.1)) rfl ?_
      refine Go_blk 5 (pc' := 1535) (L' := [(0, .ref 1000000), (1, .ref 0), (2, .ref 47), (3, .ref 698), (4, .int s1.1)]) (S' := [.int (s1.1 + (1 : Int32)), .ref 1000000, .ref 0]) (h' := (hh X s1.2.2 s1.2.1)) rfl ?_
      refine Go_ialds rfl fun v157 => ?_
      refine Go_blk 1 (pc' := 1537) (L' := [(0, .ref 1000000), (1, .ref 0), (2, .ref 47), (3, .ref 698), (4, .int s1.1)]) (S' := [.ref 698, .int v157, .ref 0]) (h' := (hh X s1.2.2 s1.2.1)) rfl ?_
      refine Go_cG (y' := 193) (As := [.ref 0, .int v157, .ref 698]) (r := []) rfl (g_l_clashes193 v157 (by omega)) fun w158 => ?_
      refine Go_blk 6 (pc' := 1548) (L' := [(5, .int w158.1), (0, .ref 1000000), (1, .ref 0), (2, .ref 47), (3, .ref 698), (4, .int s1.1)]) (S' := [.int (s1.1 + (1 : Int32)), .ref 1000000, .ref 47]) (h' := (hh X w158.2.2 w158.2.1)) rfl ?_
      refine Go_ialds rfl fun v159 => ?_
      refine Go_cW (y' := 349) (As := [.ref 47, .int v159]) (r := []) rfl (g_m_clashes349 v159 (by omega)) fun w160 => ?_
      refine Go_blk 2 (pc' := 1555) (L' := [(6, .int w160.1), (5, .int w158.1), (0, .ref 1000000), (1, .ref 0), (2, .ref 47), (3, .ref 698), (4, .int s1.1)]) (S' := [.ref 47]) (h' := (hh X w158.2.2 w160.2)) rfl ?_
      refine Go_cR (y' := 265) (As := [.ref 47]) (r := []) rfl (g_m_thrown265  (by omega)) fun v161 => ?_
      refine Go_blk 1 (pc' := 1560) (L' := [(6, .int w160.1), (5, .int w158.1), (0, .ref 1000000), (1, .ref 0), (2, .ref 47), (3, .ref 698), (4, .int s1.1)]) (S' := [.int w158.1, .int v161]) (h' := (hh X w158.2.2 w160.2)) rfl ?_
      refine Go_cmp rfl rfl rfl ?_ ?_
      ·
        refine Go_blk 1 (pc' := 1567) (L' := [(6, .int w160.1), (5, .int w158.1), (0, .ref 1000000), (1, .ref 0), (2, .ref 47), (3, .ref 698), (4, .int s1.1)]) (S' := [.int w158.1]) (h' := (hh X w158.2.2 w160.2)) rfl ?_
        refine Go_cmzn rfl rfl rfl ?_ ?_
        ·
          refine Go_blk 2 (pc' := 1572) (L' := [(6, .int w160.1), (5, .int w158.1), (0, .ref 1000000), (1, .ref 0), (2, .ref 47), (3, .ref 698), (4, .int s1.1)]) (S' := [.int (0 : Int32), .ref 698]) (h' := (hh X w158.2.2 w160.2)) rfl ?_
          refine Go_lald rfl fun v162 => ?_
          refine Go_blk 3 (pc' := 1577) (L' := [(6, .int w160.1), (5, .int w158.1), (0, .ref 1000000), (1, .ref 0), (2, .ref 47), (3, .ref 698), (4, .int s1.1)]) (S' := [.int (lg_cmp v162 (w160.1.toInt64))]) (h' := (hh X w158.2.2 w160.2)) rfl ?_
          refine Go_cmz rfl rfl rfl ?_ ?_
          ·
            refine Go_blk 3 (pc' := 23) (L' := [(4, .int (s1.1 + (7 : Int32))), (6, .int w160.1), (5, .int w158.1), (0, .ref 1000000), (1, .ref 0), (2, .ref 47), (3, .ref 698)]) (S' := []) (h' := (hh X w158.2.2 w160.2)) rfl ?_
            exact Go_jmp [(0, .ref 1000000), (1, .ref 0), (2, .ref 47), (3, .ref 698), (4, .int (s1.1 + (7 : Int32)))] rfl ⟨rfl, rfl, rfl, rfl, rfl, trivial⟩ (fun _ h => h)
          ·
            refine Go_inrS ?_
            refine Go_blk 1 (pc' := 1581) (L' := [(6, .int w160.1), (5, .int w158.1), (0, .ref 1000000), (1, .ref 0), (2, .ref 47), (3, .ref 698), (4, .int s1.1)]) (S' := [.int (0 : Int32)]) (h' := (hh X w158.2.2 w160.2)) rfl ?_
            exact Go_ret (fun _ h => h) rfl
        ·
          refine Go_blk 3 (pc' := 23) (L' := [(4, .int (s1.1 + (7 : Int32))), (6, .int w160.1), (5, .int w158.1), (0, .ref 1000000), (1, .ref 0), (2, .ref 47), (3, .ref 698)]) (S' := []) (h' := (hh X w158.2.2 w160.2)) rfl ?_
          exact Go_jmp [(0, .ref 1000000), (1, .ref 0), (2, .ref 47), (3, .ref 698), (4, .int (s1.1 + (7 : Int32)))] rfl ⟨rfl, rfl, rfl, rfl, rfl, trivial⟩ (fun _ h => h)
      ·
        refine Go_inrS ?_
        refine Go_blk 1 (pc' := 1564) (L' := [(6, .int w160.1), (5, .int w158.1), (0, .ref 1000000), (1, .ref 0), (2, .ref 47), (3, .ref 698), (4, .int s1.1)]) (S' := [.int (0 : Int32)]) (h' := (hh X w158.2.2 w160.2)) rfl ?_
        exact Go_ret (fun _ h => h) rfl
    refine Go_sw ?_ fun h23 => ?_
    ·
      refine Go_blk 1 (pc' := 1585) (L' := [(0, .ref 1000000), (1, .ref 0), (2, .ref 47), (3, .ref 698), (4, .int s1.1)]) (S' := []) (h' := (hh X s1.2.2 s1.2.1)) rfl ?_
      refine Go_blk 5 (pc' := 1591) (L' := [(0, .ref 1000000), (1, .ref 0), (2, .ref 47), (3, .ref 698), (4, .int s1.1)]) (S' := [.int (s1.1 + (1 : Int32)), .ref 1000000, .ref 0]) (h' := (hh X s1.2.2 s1.2.1)) rfl ?_
      refine Go_ialds rfl fun v163 => ?_
      refine Go_blk 4 (pc' := 1597) (L' := [(0, .ref 1000000), (1, .ref 0), (2, .ref 47), (3, .ref 698), (4, .int s1.1)]) (S' := [.int (s1.1 + (2 : Int32)), .ref 1000000, .int v163, .ref 0]) (h' := (hh X s1.2.2 s1.2.1)) rfl ?_
      refine Go_ialds rfl fun v164 => ?_
      refine Go_blk 1 (pc' := 1599) (L' := [(0, .ref 1000000), (1, .ref 0), (2, .ref 47), (3, .ref 698), (4, .int s1.1)]) (S' := [.ref 698, .int v164, .int v163, .ref 0]) (h' := (hh X s1.2.2 s1.2.1)) rfl ?_
      refine Go_cG (y' := 197) (As := [.ref 0, .int v163, .int v164, .ref 698]) (r := []) rfl (g_l_mend197 v163 v164 (by omega)) fun w165 => ?_
      refine Go_blk 6 (pc' := 1610) (L' := [(5, .int w165.1), (0, .ref 1000000), (1, .ref 0), (2, .ref 47), (3, .ref 698), (4, .int s1.1)]) (S' := [.int (s1.1 + (1 : Int32)), .ref 1000000, .ref 47]) (h' := (hh X w165.2.2 w165.2.1)) rfl ?_
      refine Go_ialds rfl fun v166 => ?_
      refine Go_blk 4 (pc' := 1616) (L' := [(5, .int w165.1), (0, .ref 1000000), (1, .ref 0), (2, .ref 47), (3, .ref 698), (4, .int s1.1)]) (S' := [.int (s1.1 + (2 : Int32)), .ref 1000000, .int v166, .ref 47]) (h' := (hh X w165.2.2 w165.2.1)) rfl ?_
      refine Go_ialds rfl fun v167 => ?_
      refine Go_cW (y' := 351) (As := [.ref 47, .int v166, .int v167]) (r := []) rfl (g_m_mend351 v166 v167 (by omega)) fun w168 => ?_
      refine Go_blk 2 (pc' := 1623) (L' := [(6, .int w168.1), (5, .int w165.1), (0, .ref 1000000), (1, .ref 0), (2, .ref 47), (3, .ref 698), (4, .int s1.1)]) (S' := [.ref 47]) (h' := (hh X w165.2.2 w168.2)) rfl ?_
      refine Go_cR (y' := 265) (As := [.ref 47]) (r := []) rfl (g_m_thrown265  (by omega)) fun v169 => ?_
      refine Go_blk 1 (pc' := 1628) (L' := [(6, .int w168.1), (5, .int w165.1), (0, .ref 1000000), (1, .ref 0), (2, .ref 47), (3, .ref 698), (4, .int s1.1)]) (S' := [.int w165.1, .int v169]) (h' := (hh X w165.2.2 w168.2)) rfl ?_
      refine Go_cmp rfl rfl rfl ?_ ?_
      ·
        refine Go_blk 1 (pc' := 1635) (L' := [(6, .int w168.1), (5, .int w165.1), (0, .ref 1000000), (1, .ref 0), (2, .ref 47), (3, .ref 698), (4, .int s1.1)]) (S' := [.int w165.1]) (h' := (hh X w165.2.2 w168.2)) rfl ?_
        refine Go_cmzn rfl rfl rfl ?_ ?_
        ·
          refine Go_blk 2 (pc' := 1640) (L' := [(6, .int w168.1), (5, .int w165.1), (0, .ref 1000000), (1, .ref 0), (2, .ref 47), (3, .ref 698), (4, .int s1.1)]) (S' := [.int (0 : Int32), .ref 698]) (h' := (hh X w165.2.2 w168.2)) rfl ?_
          refine Go_lald rfl fun v170 => ?_
          refine Go_blk 3 (pc' := 1645) (L' := [(6, .int w168.1), (5, .int w165.1), (0, .ref 1000000), (1, .ref 0), (2, .ref 47), (3, .ref 698), (4, .int s1.1)]) (S' := [.int (lg_cmp v170 (w168.1.toInt64))]) (h' := (hh X w165.2.2 w168.2)) rfl ?_
          refine Go_cmz rfl rfl rfl ?_ ?_
          ·
            refine Go_blk 3 (pc' := 23) (L' := [(4, .int (s1.1 + (7 : Int32))), (6, .int w168.1), (5, .int w165.1), (0, .ref 1000000), (1, .ref 0), (2, .ref 47), (3, .ref 698)]) (S' := []) (h' := (hh X w165.2.2 w168.2)) rfl ?_
            exact Go_jmp [(0, .ref 1000000), (1, .ref 0), (2, .ref 47), (3, .ref 698), (4, .int (s1.1 + (7 : Int32)))] rfl ⟨rfl, rfl, rfl, rfl, rfl, trivial⟩ (fun _ h => h)
          ·
            refine Go_inrS ?_
            refine Go_blk 1 (pc' := 1649) (L' := [(6, .int w168.1), (5, .int w165.1), (0, .ref 1000000), (1, .ref 0), (2, .ref 47), (3, .ref 698), (4, .int s1.1)]) (S' := [.int (0 : Int32)]) (h' := (hh X w165.2.2 w168.2)) rfl ?_
            exact Go_ret (fun _ h => h) rfl
        ·
          refine Go_blk 3 (pc' := 23) (L' := [(4, .int (s1.1 + (7 : Int32))), (6, .int w168.1), (5, .int w165.1), (0, .ref 1000000), (1, .ref 0), (2, .ref 47), (3, .ref 698)]) (S' := []) (h' := (hh X w165.2.2 w168.2)) rfl ?_
          exact Go_jmp [(0, .ref 1000000), (1, .ref 0), (2, .ref 47), (3, .ref 698), (4, .int (s1.1 + (7 : Int32)))] rfl ⟨rfl, rfl, rfl, rfl, rfl, trivial⟩ (fun _ h => h)
      ·
        refine Go_inrS ?_
        refine Go_blk 1 (pc' := 1632) (L' := [(6, .int w168.1), (5, .int w165.1), (0, .ref 1000000), (1, .ref 0), (2, .ref 47), (3, .ref 698), (4, .int s1.1)]) (S' := [.int (0 : Int32)]) (h' := (hh X w165.2.2 w168.2)) rfl ?_
        exact Go_ret (fun _ h => h) rfl
    refine Go_sw ?_ fun h24 => ?_
    ·
      refine Go_blk 1 (pc' := 1653) (L' := [(0, .ref 1000000), (1, .ref 0), (2, .ref 47), (3, .ref 698), (4, .int s1.1)]) (S' := []) (h' := (hh X s1.2.2 s1.2.1)) rfl ?_
      refine Go_blk 5 (pc' := 1659) (L' := [(0, .ref 1000000), (1, .ref 0), (2, .ref 47), (3, .ref 698), (4, .int s1.1)]) (S' := [.int (s1.1 + (1 : Int32)), .ref 1000000, .ref 0]) (h' := (hh X s1.2.2 s1.2.1)) rfl ?_
      refine Go_ialds rfl fun v171 => ?_
      refine Go_blk 1 (pc' := 1661) (L' := [(0, .ref 1000000), (1, .ref 0), (2, .ref 47), (3, .ref 698), (4, .int s1.1)]) (S' := [.ref 698, .int v171, .ref 0]) (h' := (hh X s1.2.2 s1.2.1)) rfl ?_
      refine Go_cG (y' := 202) (As := [.ref 0, .int v171, .ref 698]) (r := []) rfl (g_l_pieces202 v171 (by omega)) fun w172 => ?_
      refine Go_blk 6 (pc' := 1672) (L' := [(5, .int w172.1), (0, .ref 1000000), (1, .ref 0), (2, .ref 47), (3, .ref 698), (4, .int s1.1)]) (S' := [.int (s1.1 + (1 : Int32)), .ref 1000000, .ref 47]) (h' := (hh X w172.2.2 w172.2.1)) rfl ?_
      refine Go_ialds rfl fun v173 => ?_
      refine Go_cW (y' := 352) (As := [.ref 47, .int v173]) (r := []) rfl (g_m_pieces352 v173 (by omega)) fun w174 => ?_
      refine Go_blk 2 (pc' := 1679) (L' := [(6, .int w174.1), (5, .int w172.1), (0, .ref 1000000), (1, .ref 0), (2, .ref 47), (3, .ref 698), (4, .int s1.1)]) (S' := [.ref 47]) (h' := (hh X w172.2.2 w174.2)) rfl ?_
      refine Go_cR (y' := 265) (As := [.ref 47]) (r := []) rfl (g_m_thrown265  (by omega)) fun v175 => ?_
      refine Go_blk 1 (pc' := 1684) (L' := [(6, .int w174.1), (5, .int w172.1), (0, .ref 1000000), (1, .ref 0), (2, .ref 47), (3, .ref 698), (4, .int s1.1)]) (S' := [.int w172.1, .int v175]) (h' := (hh X w172.2.2 w174.2)) rfl ?_
      refine Go_cmp rfl rfl rfl ?_ ?_
      ·
        refine Go_blk 1 (pc' := 1691) (L' := [(6, .int w174.1), (5, .int w172.1), (0, .ref 1000000), (1, .ref 0), (2, .ref 47), (3, .ref 698), (4, .int s1.1)]) (S' := [.int w172.1]) (h' := (hh X w172.2.2 w174.2)) rfl ?_
        refine Go_cmzn rfl rfl rfl ?_ ?_
        ·
          refine Go_blk 2 (pc' := 1696) (L' := [(6, .int w174.1), (5, .int w172.1), (0, .ref 1000000), (1, .ref 0), (2, .ref 47), (3, .ref 698), (4, .int s1.1)]) (S' := [.int (0 : Int32), .ref 698]) (h' := (hh X w172.2.2 w174.2)) rfl ?_
          refine Go_lald rfl fun v176 => ?_
          refine Go_blk 3 (pc' := 1701) (L' := [(6, .int w174.1), (5, .int w172.1), (0, .ref 1000000), (1, .ref 0), (2, .ref 47), (3, .ref 698), (4, .int s1.1)]) (S' := [.int (lg_cmp v176 (w174.1.toInt64))]) (h' := (hh X w172.2.2 w174.2)) rfl ?_
          refine Go_cmz rfl rfl rfl ?_ ?_
          ·
            refine Go_blk 3 (pc' := 23) (L' := [(4, .int (s1.1 + (7 : Int32))), (6, .int w174.1), (5, .int w172.1), (0, .ref 1000000), (1, .ref 0), (2, .ref 47), (3, .ref 698)]) (S' := []) (h' := (hh X w172.2.2 w174.2)) rfl ?_
            exact Go_jmp [(0, .ref 1000000), (1, .ref 0), (2, .ref 47), (3, .ref 698), (4, .int (s1.1 + (7 : Int32)))] rfl ⟨rfl, rfl, rfl, rfl, rfl, trivial⟩ (fun _ h => h)
          ·
            refine Go_inrS ?_
            refine Go_blk 1 (pc' := 1705) (L' := [(6, .int w174.1), (5, .int w172.1), (0, .ref 1000000), (1, .ref 0), (2, .ref 47), (3, .ref 698), (4, .int s1.1)]) (S' := [.int (0 : Int32)]) (h' := (hh X w172.2.2 w174.2)) rfl ?_
            exact Go_ret (fun _ h => h) rfl
        ·
          refine Go_blk 3 (pc' := 23) (L' := [(4, .int (s1.1 + (7 : Int32))), (6, .int w174.1), (5, .int w172.1), (0, .ref 1000000), (1, .ref 0), (2, .ref 47), (3, .ref 698)]) (S' := []) (h' := (hh X w172.2.2 w174.2)) rfl ?_
          exact Go_jmp [(0, .ref 1000000), (1, .ref 0), (2, .ref 47), (3, .ref 698), (4, .int (s1.1 + (7 : Int32)))] rfl ⟨rfl, rfl, rfl, rfl, rfl, trivial⟩ (fun _ h => h)
      ·
        refine Go_inrS ?_
        refine Go_blk 1 (pc' := 1688) (L' := [(6, .int w174.1), (5, .int w172.1), (0, .ref 1000000), (1, .ref 0), (2, .ref 47), (3, .ref 698), (4, .int s1.1)]) (S' := [.int (0 : Int32)]) (h' := (hh X w172.2.2 w174.2)) rfl ?_
        exact Go_ret (fun _ h => h) rfl
    refine Go_sw ?_ fun h25 => ?_
    ·
      refine Go_blk 1 (pc' := 1709) (L' := [(0, .ref 1000000), (1, .ref 0), (2, .ref 47), (3, .ref 698), (4, .int s1.1)]) (S' := []) (h' := (hh X s1.2.2 s1.2.1)) rfl ?_
      refine Go_blk 5 (pc' := 1715) (L' := [(0, .ref 1000000), (1, .ref 0), (2, .ref 47), (3, .ref 698), (4, .int s1.1)]) (S' := [.int (s1.1 + (1 : Int32)), .ref 1000000, .ref 0]) (h' := (hh X s1.2.2 s1.2.1)) rfl ?_
      refine Go_ialds rfl fun v177 => ?_
      refine Go_blk 4 (pc' := 1721) (L' := [(0, .ref 1000000), (1, .ref 0), (2, .ref 47), (3, .ref 698), (4, .int s1.1)]) (S' := [.int (s1.1 + (2 : Int32)), .ref 1000000, .int v177, .ref 0]) (h' := (hh X s1.2.2 s1.2.1)) rfl ?_
      refine Go_ialds rfl fun v178 => ?_
      refine Go_blk 1 (pc' := 1723) (L' := [(0, .ref 1000000), (1, .ref 0), (2, .ref 47), (3, .ref 698), (4, .int s1.1)]) (S' := [.ref 698, .int v178, .int v177, .ref 0]) (h' := (hh X s1.2.2 s1.2.1)) rfl ?_
      refine Go_cG (y' := 213) (As := [.ref 0, .int v177, .int v178, .ref 698]) (r := []) rfl (g_l_sewn213 v177 v178 (by omega)) fun w179 => ?_
      refine Go_blk 6 (pc' := 1734) (L' := [(5, .int w179.1), (0, .ref 1000000), (1, .ref 0), (2, .ref 47), (3, .ref 698), (4, .int s1.1)]) (S' := [.int (s1.1 + (1 : Int32)), .ref 1000000, .ref 47]) (h' := (hh X w179.2.2 w179.2.1)) rfl ?_
      refine Go_ialds rfl fun v180 => ?_
      refine Go_blk 4 (pc' := 1740) (L' := [(5, .int w179.1), (0, .ref 1000000), (1, .ref 0), (2, .ref 47), (3, .ref 698), (4, .int s1.1)]) (S' := [.int (s1.1 + (2 : Int32)), .ref 1000000, .int v180, .ref 47]) (h' := (hh X w179.2.2 w179.2.1)) rfl ?_
      refine Go_ialds rfl fun v181 => ?_
      refine Go_cW (y' := 357) (As := [.ref 47, .int v180, .int v181]) (r := []) rfl (g_m_sewn357 v180 v181 (by omega)) fun w182 => ?_
      refine Go_blk 2 (pc' := 1747) (L' := [(6, .int w182.1), (5, .int w179.1), (0, .ref 1000000), (1, .ref 0), (2, .ref 47), (3, .ref 698), (4, .int s1.1)]) (S' := [.ref 47]) (h' := (hh X w179.2.2 w182.2)) rfl ?_
      refine Go_cR (y' := 265) (As := [.ref 47]) (r := []) rfl (g_m_thrown265  (by omega)) fun v183 => ?_
      refine Go_blk 1 (pc' := 1752) (L' := [(6, .int w182.1), (5, .int w179.1), (0, .ref 1000000), (1, .ref 0), (2, .ref 47), (3, .ref 698), (4, .int s1.1)]) (S' := [.int w179.1, .int v183]) (h' := (hh X w179.2.2 w182.2)) rfl ?_
      refine Go_cmp rfl rfl rfl ?_ ?_
      ·
        refine Go_blk 1 (pc' := 1759) (L' := [(6, .int w182.1), (5, .int w179.1), (0, .ref 1000000), (1, .ref 0), (2, .ref 47), (3, .ref 698), (4, .int s1.1)]) (S' := [.int w179.1]) (h' := (hh X w179.2.2 w182.2)) rfl ?_
        refine Go_cmzn rfl rfl rfl ?_ ?_
        ·
          refine Go_blk 2 (pc' := 1764) (L' := [(6, .int w182.1), (5, .int w179.1), (0, .ref 1000000), (1, .ref 0), (2, .ref 47), (3, .ref 698), (4, .int s1.1)]) (S' := [.int (0 : Int32), .ref 698]) (h' := (hh X w179.2.2 w182.2)) rfl ?_
          refine Go_lald rfl fun v184 => ?_
          refine Go_blk 3 (pc' := 1769) (L' := [(6, .int w182.1), (5, .int w179.1), (0, .ref 1000000), (1, .ref 0), (2, .ref 47), (3, .ref 698), (4, .int s1.1)]) (S' := [.int (lg_cmp v184 (w182.1.toInt64))]) (h' := (hh X w179.2.2 w182.2)) rfl ?_
          refine Go_cmz rfl rfl rfl ?_ ?_
          ·
            refine Go_blk 3 (pc' := 23) (L' := [(4, .int (s1.1 + (7 : Int32))), (6, .int w182.1), (5, .int w179.1), (0, .ref 1000000), (1, .ref 0), (2, .ref 47), (3, .ref 698)]) (S' := []) (h' := (hh X w179.2.2 w182.2)) rfl ?_
            exact Go_jmp [(0, .ref 1000000), (1, .ref 0), (2, .ref 47), (3, .ref 698), (4, .int (s1.1 + (7 : Int32)))] rfl ⟨rfl, rfl, rfl, rfl, rfl, trivial⟩ (fun _ h => h)
          ·
            refine Go_inrS ?_
            refine Go_blk 1 (pc' := 1773) (L' := [(6, .int w182.1), (5, .int w179.1), (0, .ref 1000000), (1, .ref 0), (2, .ref 47), (3, .ref 698), (4, .int s1.1)]) (S' := [.int (0 : Int32)]) (h' := (hh X w179.2.2 w182.2)) rfl ?_
            exact Go_ret (fun _ h => h) rfl
        ·
          refine Go_blk 3 (pc' := 23) (L' := [(4, .int (s1.1 + (7 : Int32))), (6, .int w182.1), (5, .int w179.1), (0, .ref 1000000), (1, .ref 0), (2, .ref 47), (3, .ref 698)]) (S' := []) (h' := (hh X w179.2.2 w182.2)) rfl ?_
          exact Go_jmp [(0, .ref 1000000), (1, .ref 0), (2, .ref 47), (3, .ref 698), (4, .int (s1.1 + (7 : Int32)))] rfl ⟨rfl, rfl, rfl, rfl, rfl, trivial⟩ (fun _ h => h)
      ·
        refine Go_inrS ?_
        refine Go_blk 1 (pc' := 1756) (L' := [(6, .int w182.1), (5, .int w179.1), (0, .ref 1000000), (1, .ref 0), (2, .ref 47), (3, .ref 698), (4, .int s1.1)]) (S' := [.int (0 : Int32)]) (h' := (hh X w179.2.2 w182.2)) rfl ?_
        exact Go_ret (fun _ h => h) rfl
    refine Go_sw ?_ fun h26 => ?_
    ·
      refine Go_blk 1 (pc' := 1777) (L' := [(0, .ref 1000000), (1, .ref 0), (2, .ref 47), (3, .ref 698), (4, .int s1.1)]) (S' := []) (h' := (hh X s1.2.2 s1.2.1)) rfl ?_
      refine Go_blk 5 (pc' := 1783) (L' := [(0, .ref 1000000), (1, .ref 0), (2, .ref 47), (3, .ref 698), (4, .int s1.1)]) (S' := [.int (s1.1 + (1 : Int32)), .ref 1000000, .ref 0]) (h' := (hh X s1.2.2 s1.2.1)) rfl ?_
      refine Go_ialds rfl fun v185 => ?_
      refine Go_blk 1 (pc' := 1785) (L' := [(0, .ref 1000000), (1, .ref 0), (2, .ref 47), (3, .ref 698), (4, .int s1.1)]) (S' := [.ref 698, .int v185, .ref 0]) (h' := (hh X s1.2.2 s1.2.1)) rfl ?_
      refine Go_cG (y' := 219) (As := [.ref 0, .int v185, .ref 698]) (r := []) rfl (g_l_words219 v185 (by omega)) fun w186 => ?_
      refine Go_blk 6 (pc' := 1796) (L' := [(5, .int w186.1), (0, .ref 1000000), (1, .ref 0), (2, .ref 47), (3, .ref 698), (4, .int s1.1)]) (S' := [.int (s1.1 + (1 : Int32)), .ref 1000000, .ref 47]) (h' := (hh X w186.2.2 w186.2.1)) rfl ?_
      refine Go_ialds rfl fun v187 => ?_
      refine Go_cW (y' := 359) (As := [.ref 47, .int v187]) (r := []) rfl (g_m_words359 v187 (by omega)) fun w188 => ?_
      refine Go_blk 2 (pc' := 1803) (L' := [(6, .int w188.1), (5, .int w186.1), (0, .ref 1000000), (1, .ref 0), (2, .ref 47), (3, .ref 698), (4, .int s1.1)]) (S' := [.ref 47]) (h' := (hh X w186.2.2 w188.2)) rfl ?_
      refine Go_cR (y' := 265) (As := [.ref 47]) (r := []) rfl (g_m_thrown265  (by omega)) fun v189 => ?_
      refine Go_blk 1 (pc' := 1808) (L' := [(6, .int w188.1), (5, .int w186.1), (0, .ref 1000000), (1, .ref 0), (2, .ref 47), (3, .ref 698), (4, .int s1.1)]) (S' := [.int w186.1, .int v189]) (h' := (hh X w186.2.2 w188.2)) rfl ?_
      refine Go_cmp rfl rfl rfl ?_ ?_
      ·
        refine Go_blk 1 (pc' := 1815) (L' := [(6, .int w188.1), (5, .int w186.1), (0, .ref 1000000), (1, .ref 0), (2, .ref 47), (3, .ref 698), (4, .int s1.1)]) (S' := [.int w186.1]) (h' := (hh X w186.2.2 w188.2)) rfl ?_
        refine Go_cmzn rfl rfl rfl ?_ ?_
        ·
          refine Go_blk 2 (pc' := 1820) (L' := [(6, .int w188.1), (5, .int w186.1), (0, .ref 1000000), (1, .ref 0), (2, .ref 47), (3, .ref 698), (4, .int s1.1)]) (S' := [.int (0 : Int32), .ref 698]) (h' := (hh X w186.2.2 w188.2)) rfl ?_
          refine Go_lald rfl fun v190 => ?_
          refine Go_blk 3 (pc' := 1825) (L' := [(6, .int w188.1), (5, .int w186.1), (0, .ref 1000000), (1, .ref 0), (2, .ref 47), (3, .ref 698), (4, .int s1.1)]) (S' := [.int (lg_cmp v190 (w188.1.toInt64))]) (h' := (hh X w186.2.2 w188.2)) rfl ?_
          refine Go_cmz rfl rfl rfl ?_ ?_
          ·
            refine Go_blk 3 (pc' := 23) (L' := [(4, .int (s1.1 + (7 : Int32))), (6, .int w188.1), (5, .int w186.1), (0, .ref 1000000), (1, .ref 0), (2, .ref 47), (3, .ref 698)]) (S' := []) (h' := (hh X w186.2.2 w188.2)) rfl ?_
            exact Go_jmp [(0, .ref 1000000), (1, .ref 0), (2, .ref 47), (3, .ref 698), (4, .int (s1.1 + (7 : Int32)))] rfl ⟨rfl, rfl, rfl, rfl, rfl, trivial⟩ (fun _ h => h)
          ·
            refine Go_inrS ?_
            refine Go_blk 1 (pc' := 1829) (L' := [(6, .int w188.1), (5, .int w186.1), (0, .ref 1000000), (1, .ref 0), (2, .ref 47), (3, .ref 698), (4, .int s1.1)]) (S' := [.int (0 : Int32)]) (h' := (hh X w186.2.2 w188.2)) rfl ?_
            exact Go_ret (fun _ h => h) rfl
        ·
          refine Go_blk 3 (pc' := 23) (L' := [(4, .int (s1.1 + (7 : Int32))), (6, .int w188.1), (5, .int w186.1), (0, .ref 1000000), (1, .ref 0), (2, .ref 47), (3, .ref 698)]) (S' := []) (h' := (hh X w186.2.2 w188.2)) rfl ?_
          exact Go_jmp [(0, .ref 1000000), (1, .ref 0), (2, .ref 47), (3, .ref 698), (4, .int (s1.1 + (7 : Int32)))] rfl ⟨rfl, rfl, rfl, rfl, rfl, trivial⟩ (fun _ h => h)
      ·
        refine Go_inrS ?_
        refine Go_blk 1 (pc' := 1812) (L' := [(6, .int w188.1), (5, .int w186.1), (0, .ref 1000000), (1, .ref 0), (2, .ref 47), (3, .ref 698), (4, .int s1.1)]) (S' := [.int (0 : Int32)]) (h' := (hh X w186.2.2 w188.2)) rfl ?_
        exact Go_ret (fun _ h => h) rfl
    refine Go_sw ?_ fun h27 => ?_
    ·
      refine Go_blk 1 (pc' := 1833) (L' := [(0, .ref 1000000), (1, .ref 0), (2, .ref 47), (3, .ref 698), (4, .int s1.1)]) (S' := []) (h' := (hh X s1.2.2 s1.2.1)) rfl ?_
      refine Go_blk 5 (pc' := 1839) (L' := [(0, .ref 1000000), (1, .ref 0), (2, .ref 47), (3, .ref 698), (4, .int s1.1)]) (S' := [.int (s1.1 + (1 : Int32)), .ref 1000000, .ref 0]) (h' := (hh X s1.2.2 s1.2.1)) rfl ?_
      refine Go_ialds rfl fun v191 => ?_
      refine Go_blk 4 (pc' := 1845) (L' := [(0, .ref 1000000), (1, .ref 0), (2, .ref 47), (3, .ref 698), (4, .int s1.1)]) (S' := [.int (s1.1 + (2 : Int32)), .ref 1000000, .int v191, .ref 0]) (h' := (hh X s1.2.2 s1.2.1)) rfl ?_
      refine Go_ialds rfl fun v192 => ?_
      refine Go_blk 1 (pc' := 1847) (L' := [(0, .ref 1000000), (1, .ref 0), (2, .ref 47), (3, .ref 698), (4, .int s1.1)]) (S' := [.ref 698, .int v192, .int v191, .ref 0]) (h' := (hh X s1.2.2 s1.2.1)) rfl ?_
      refine Go_cG (y' := 222) (As := [.ref 0, .int v191, .int v192, .ref 698]) (r := []) rfl (g_l_offers222 v191 v192 (by omega)) fun w193 => ?_
      refine Go_blk 6 (pc' := 1858) (L' := [(5, .int w193.1), (0, .ref 1000000), (1, .ref 0), (2, .ref 47), (3, .ref 698), (4, .int s1.1)]) (S' := [.int (s1.1 + (1 : Int32)), .ref 1000000, .ref 47]) (h' := (hh X w193.2.2 w193.2.1)) rfl ?_
      refine Go_ialds rfl fun v194 => ?_
      refine Go_blk 4 (pc' := 1864) (L' := [(5, .int w193.1), (0, .ref 1000000), (1, .ref 0), (2, .ref 47), (3, .ref 698), (4, .int s1.1)]) (S' := [.int (s1.1 + (2 : Int32)), .ref 1000000, .int v194, .ref 47]) (h' := (hh X w193.2.2 w193.2.1)) rfl ?_
      refine Go_ialds rfl fun v195 => ?_
      refine Go_cWJ (y' := 360) (As := [.ref 47, .int v194, .int v195]) (r := []) rfl (g_m_offers360 v194 v195 (by omega)) fun w196 => ?_
      refine Go_blk 2 (pc' := 1871) (L' := [(6, .long w196.1), (5, .int w193.1), (0, .ref 1000000), (1, .ref 0), (2, .ref 47), (3, .ref 698), (4, .int s1.1)]) (S' := [.ref 47]) (h' := (hh X w193.2.2 w196.2)) rfl ?_
      refine Go_cR (y' := 265) (As := [.ref 47]) (r := []) rfl (g_m_thrown265  (by omega)) fun v197 => ?_
      refine Go_blk 1 (pc' := 1876) (L' := [(6, .long w196.1), (5, .int w193.1), (0, .ref 1000000), (1, .ref 0), (2, .ref 47), (3, .ref 698), (4, .int s1.1)]) (S' := [.int w193.1, .int v197]) (h' := (hh X w193.2.2 w196.2)) rfl ?_
      refine Go_cmp rfl rfl rfl ?_ ?_
      ·
        refine Go_blk 1 (pc' := 1883) (L' := [(6, .long w196.1), (5, .int w193.1), (0, .ref 1000000), (1, .ref 0), (2, .ref 47), (3, .ref 698), (4, .int s1.1)]) (S' := [.int w193.1]) (h' := (hh X w193.2.2 w196.2)) rfl ?_
        refine Go_cmzn rfl rfl rfl ?_ ?_
        ·
          refine Go_blk 2 (pc' := 1888) (L' := [(6, .long w196.1), (5, .int w193.1), (0, .ref 1000000), (1, .ref 0), (2, .ref 47), (3, .ref 698), (4, .int s1.1)]) (S' := [.int (0 : Int32), .ref 698]) (h' := (hh X w193.2.2 w196.2)) rfl ?_
          refine Go_lald rfl fun v198 => ?_
          refine Go_blk 2 (pc' := 1892) (L' := [(6, .long w196.1), (5, .int w193.1), (0, .ref 1000000), (1, .ref 0), (2, .ref 47), (3, .ref 698), (4, .int s1.1)]) (S' := [.int (lg_cmp v198 w196.1)]) (h' := (hh X w193.2.2 w196.2)) rfl ?_
          refine Go_cmz rfl rfl rfl ?_ ?_
          ·
            refine Go_blk 3 (pc' := 23) (L' := [(4, .int (s1.1 + (7 : Int32))), (6, .long w196.1), (5, .int w193.1), (0, .ref 1000000), (1, .ref 0), (2, .ref 47), (3, .ref 698)]) (S' := []) (h' := (hh X w193.2.2 w196.2)) rfl ?_
            exact Go_jmp [(0, .ref 1000000), (1, .ref 0), (2, .ref 47), (3, .ref 698), (4, .int (s1.1 + (7 : Int32)))] rfl ⟨rfl, rfl, rfl, rfl, rfl, trivial⟩ (fun _ h => h)
          ·
            refine Go_inrS ?_
            refine Go_blk 1 (pc' := 1896) (L' := [(6, .long w196.1), (5, .int w193.1), (0, .ref 1000000), (1, .ref 0), (2, .ref 47), (3, .ref 698), (4, .int s1.1)]) (S' := [.int (0 : Int32)]) (h' := (hh X w193.2.2 w196.2)) rfl ?_
            exact Go_ret (fun _ h => h) rfl
        ·
          refine Go_blk 3 (pc' := 23) (L' := [(4, .int (s1.1 + (7 : Int32))), (6, .long w196.1), (5, .int w193.1), (0, .ref 1000000), (1, .ref 0), (2, .ref 47), (3, .ref 698)]) (S' := []) (h' := (hh X w193.2.2 w196.2)) rfl ?_
          exact Go_jmp [(0, .ref 1000000), (1, .ref 0), (2, .ref 47), (3, .ref 698), (4, .int (s1.1 + (7 : Int32)))] rfl ⟨rfl, rfl, rfl, rfl, rfl, trivial⟩ (fun _ h => h)
      ·
        refine Go_inrS ?_
        refine Go_blk 1 (pc' := 1880) (L' := [(6, .long w196.1), (5, .int w193.1), (0, .ref 1000000), (1, .ref 0), (2, .ref 47), (3, .ref 698), (4, .int s1.1)]) (S' := [.int (0 : Int32)]) (h' := (hh X w193.2.2 w196.2)) rfl ?_
        exact Go_ret (fun _ h => h) rfl
    refine Go_sw ?_ fun h28 => ?_
    ·
      refine Go_blk 1 (pc' := 1900) (L' := [(0, .ref 1000000), (1, .ref 0), (2, .ref 47), (3, .ref 698), (4, .int s1.1)]) (S' := []) (h' := (hh X s1.2.2 s1.2.1)) rfl ?_
      refine Go_blk 5 (pc' := 1906) (L' := [(0, .ref 1000000), (1, .ref 0), (2, .ref 47), (3, .ref 698), (4, .int s1.1)]) (S' := [.int (s1.1 + (1 : Int32)), .ref 1000000, .ref 0]) (h' := (hh X s1.2.2 s1.2.1)) rfl ?_
      refine Go_ialds rfl fun v199 => ?_
      refine Go_blk 1 (pc' := 1908) (L' := [(0, .ref 1000000), (1, .ref 0), (2, .ref 47), (3, .ref 698), (4, .int s1.1)]) (S' := [.ref 698, .int v199, .ref 0]) (h' := (hh X s1.2.2 s1.2.1)) rfl ?_
      refine Go_cG (y' := 227) (As := [.ref 0, .int v199, .ref 698]) (r := []) rfl (g_l_line227 v199 (by omega)) fun w200 => ?_
      refine Go_blk 6 (pc' := 1919) (L' := [(5, .int w200.1), (0, .ref 1000000), (1, .ref 0), (2, .ref 47), (3, .ref 698), (4, .int s1.1)]) (S' := [.int (s1.1 + (1 : Int32)), .ref 1000000, .ref 47]) (h' := (hh X w200.2.2 w200.2.1)) rfl ?_
      refine Go_ialds rfl fun v201 => ?_
      refine Go_cW (y' := 363) (As := [.ref 47, .int v201]) (r := []) rfl (g_m_line363 v201 (by omega)) fun w202 => ?_
      refine Go_blk 2 (pc' := 1926) (L' := [(6, .int w202.1), (5, .int w200.1), (0, .ref 1000000), (1, .ref 0), (2, .ref 47), (3, .ref 698), (4, .int s1.1)]) (S' := [.ref 47]) (h' := (hh X w200.2.2 w202.2)) rfl ?_
      refine Go_cR (y' := 265) (As := [.ref 47]) (r := []) rfl (g_m_thrown265  (by omega)) fun v203 => ?_
      refine Go_blk 1 (pc' := 1931) (L' := [(6, .int w202.1), (5, .int w200.1), (0, .ref 1000000), (1, .ref 0), (2, .ref 47), (3, .ref 698), (4, .int s1.1)]) (S' := [.int w200.1, .int v203]) (h' := (hh X w200.2.2 w202.2)) rfl ?_
      refine Go_cmp rfl rfl rfl ?_ ?_
      ·
        refine Go_blk 1 (pc' := 1938) (L' := [(6, .int w202.1), (5, .int w200.1), (0, .ref 1000000), (1, .ref 0), (2, .ref 47), (3, .ref 698), (4, .int s1.1)]) (S' := [.int w200.1]) (h' := (hh X w200.2.2 w202.2)) rfl ?_
        refine Go_cmzn rfl rfl rfl ?_ ?_
        ·
          refine Go_blk 2 (pc' := 1943) (L' := [(6, .int w202.1), (5, .int w200.1), (0, .ref 1000000), (1, .ref 0), (2, .ref 47), (3, .ref 698), (4, .int s1.1)]) (S' := [.int (0 : Int32), .ref 698]) (h' := (hh X w200.2.2 w202.2)) rfl ?_
          refine Go_lald rfl fun v204 => ?_
          refine Go_blk 3 (pc' := 1948) (L' := [(6, .int w202.1), (5, .int w200.1), (0, .ref 1000000), (1, .ref 0), (2, .ref 47), (3, .ref 698), (4, .int s1.1)]) (S' := [.int (lg_cmp v204 (w202.1.toInt64))]) (h' := (hh X w200.2.2 w202.2)) rfl ?_
          refine Go_cmz rfl rfl rfl ?_ ?_
          ·
            refine Go_blk 3 (pc' := 23) (L' := [(4, .int (s1.1 + (7 : Int32))), (6, .int w202.1), (5, .int w200.1), (0, .ref 1000000), (1, .ref 0), (2, .ref 47), (3, .ref 698)]) (S' := []) (h' := (hh X w200.2.2 w202.2)) rfl ?_
            exact Go_jmp [(0, .ref 1000000), (1, .ref 0), (2, .ref 47), (3, .ref 698), (4, .int (s1.1 + (7 : Int32)))] rfl ⟨rfl, rfl, rfl, rfl, rfl, trivial⟩ (fun _ h => h)
          ·
            refine Go_inrS ?_
            refine Go_blk 1 (pc' := 1952) (L' := [(6, .int w202.1), (5, .int w200.1), (0, .ref 1000000), (1, .ref 0), (2, .ref 47), (3, .ref 698), (4, .int s1.1)]) (S' := [.int (0 : Int32)]) (h' := (hh X w200.2.2 w202.2)) rfl ?_
            exact Go_ret (fun _ h => h) rfl
        ·
          refine Go_blk 3 (pc' := 23) (L' := [(4, .int (s1.1 + (7 : Int32))), (6, .int w202.1), (5, .int w200.1), (0, .ref 1000000), (1, .ref 0), (2, .ref 47), (3, .ref 698)]) (S' := []) (h' := (hh X w200.2.2 w202.2)) rfl ?_
          exact Go_jmp [(0, .ref 1000000), (1, .ref 0), (2, .ref 47), (3, .ref 698), (4, .int (s1.1 + (7 : Int32)))] rfl ⟨rfl, rfl, rfl, rfl, rfl, trivial⟩ (fun _ h => h)
      ·
        refine Go_inrS ?_
        refine Go_blk 1 (pc' := 1935) (L' := [(6, .int w202.1), (5, .int w200.1), (0, .ref 1000000), (1, .ref 0), (2, .ref 47), (3, .ref 698), (4, .int s1.1)]) (S' := [.int (0 : Int32)]) (h' := (hh X w200.2.2 w202.2)) rfl ?_
        exact Go_ret (fun _ h => h) rfl
    refine Go_sw ?_ fun h29 => ?_
    ·
      refine Go_blk 1 (pc' := 1956) (L' := [(0, .ref 1000000), (1, .ref 0), (2, .ref 47), (3, .ref 698), (4, .int s1.1)]) (S' := []) (h' := (hh X s1.2.2 s1.2.1)) rfl ?_
      refine Go_blk 5 (pc' := 1962) (L' := [(0, .ref 1000000), (1, .ref 0), (2, .ref 47), (3, .ref 698), (4, .int s1.1)]) (S' := [.int (s1.1 + (1 : Int32)), .ref 1000000, .ref 0]) (h' := (hh X s1.2.2 s1.2.1)) rfl ?_
      refine Go_ialds rfl fun v205 => ?_
      refine Go_blk 1 (pc' := 1964) (L' := [(0, .ref 1000000), (1, .ref 0), (2, .ref 47), (3, .ref 698), (4, .int s1.1)]) (S' := [.ref 698, .int v205, .ref 0]) (h' := (hh X s1.2.2 s1.2.1)) rfl ?_
      refine Go_cG (y' := 229) (As := [.ref 0, .int v205, .ref 698]) (r := []) rfl (g_l_skies229 v205 (by omega)) fun w206 => ?_
      refine Go_blk 6 (pc' := 1975) (L' := [(5, .int w206.1), (0, .ref 1000000), (1, .ref 0), (2, .ref 47), (3, .ref 698), (4, .int s1.1)]) (S' := [.int (s1.1 + (1 : Int32)), .ref 1000000, .ref 47]) (h' := (hh X w206.2.2 w206.2.1)) rfl ?_
      refine Go_ialds rfl fun v207 => ?_
      refine Go_cW (y' := 364) (As := [.ref 47, .int v207]) (r := []) rfl (g_m_skies364 v207 (by omega)) fun w208 => ?_
      refine Go_blk 2 (pc' := 1982) (L' := [(6, .int w208.1), (5, .int w206.1), (0, .ref 1000000), (1, .ref 0), (2, .ref 47), (3, .ref 698), (4, .int s1.1)]) (S' := [.ref 47]) (h' := (hh X w206.2.2 w208.2)) rfl ?_
      refine Go_cR (y' := 265) (As := [.ref 47]) (r := []) rfl (g_m_thrown265  (by omega)) fun v209 => ?_
      refine Go_blk 1 (pc' := 1987) (L' := [(6, .int w208.1), (5, .int w206.1), (0, .ref 1000000), (1, .ref 0), (2, .ref 47), (3, .ref 698), (4, .int s1.1)]) (S' := [.int w206.1, .int v209]) (h' := (hh X w206.2.2 w208.2)) rfl ?_
      refine Go_cmp rfl rfl rfl ?_ ?_
      ·
        refine Go_blk 1 (pc' := 1994) (L' := [(6, .int w208.1), (5, .int w206.1), (0, .ref 1000000), (1, .ref 0), (2, .ref 47), (3, .ref 698), (4, .int s1.1)]) (S' := [.int w206.1]) (h' := (hh X w206.2.2 w208.2)) rfl ?_
        refine Go_cmzn rfl rfl rfl ?_ ?_
        ·
          refine Go_blk 2 (pc' := 1999) (L' := [(6, .int w208.1), (5, .int w206.1), (0, .ref 1000000), (1, .ref 0), (2, .ref 47), (3, .ref 698), (4, .int s1.1)]) (S' := [.int (0 : Int32), .ref 698]) (h' := (hh X w206.2.2 w208.2)) rfl ?_
          refine Go_lald rfl fun v210 => ?_
          refine Go_blk 3 (pc' := 2004) (L' := [(6, .int w208.1), (5, .int w206.1), (0, .ref 1000000), (1, .ref 0), (2, .ref 47), (3, .ref 698), (4, .int s1.1)]) (S' := [.int (lg_cmp v210 (w208.1.toInt64))]) (h' := (hh X w206.2.2 w208.2)) rfl ?_
          refine Go_cmz rfl rfl rfl ?_ ?_
          ·
            refine Go_blk 3 (pc' := 23) (L' := [(4, .int (s1.1 + (7 : Int32))), (6, .int w208.1), (5, .int w206.1), (0, .ref 1000000), (1, .ref 0), (2, .ref 47), (3, .ref 698)]) (S' := []) (h' := (hh X w206.2.2 w208.2)) rfl ?_
            exact Go_jmp [(0, .ref 1000000), (1, .ref 0), (2, .ref 47), (3, .ref 698), (4, .int (s1.1 + (7 : Int32)))] rfl ⟨rfl, rfl, rfl, rfl, rfl, trivial⟩ (fun _ h => h)
          ·
            refine Go_inrS ?_
            refine Go_blk 1 (pc' := 2008) (L' := [(6, .int w208.1), (5, .int w206.1), (0, .ref 1000000), (1, .ref 0), (2, .ref 47), (3, .ref 698), (4, .int s1.1)]) (S' := [.int (0 : Int32)]) (h' := (hh X w206.2.2 w208.2)) rfl ?_
            exact Go_ret (fun _ h => h) rfl
        ·
          refine Go_blk 3 (pc' := 23) (L' := [(4, .int (s1.1 + (7 : Int32))), (6, .int w208.1), (5, .int w206.1), (0, .ref 1000000), (1, .ref 0), (2, .ref 47), (3, .ref 698)]) (S' := []) (h' := (hh X w206.2.2 w208.2)) rfl ?_
          exact Go_jmp [(0, .ref 1000000), (1, .ref 0), (2, .ref 47), (3, .ref 698), (4, .int (s1.1 + (7 : Int32)))] rfl ⟨rfl, rfl, rfl, rfl, rfl, trivial⟩ (fun _ h => h)
      ·
        refine Go_inrS ?_
        refine Go_blk 1 (pc' := 1991) (L' := [(6, .int w208.1), (5, .int w206.1), (0, .ref 1000000), (1, .ref 0), (2, .ref 47), (3, .ref 698), (4, .int s1.1)]) (S' := [.int (0 : Int32)]) (h' := (hh X w206.2.2 w208.2)) rfl ?_
        exact Go_ret (fun _ h => h) rfl
    refine Go_sw ?_ fun h30 => ?_
    ·
      refine Go_blk 1 (pc' := 2012) (L' := [(0, .ref 1000000), (1, .ref 0), (2, .ref 47), (3, .ref 698), (4, .int s1.1)]) (S' := []) (h' := (hh X s1.2.2 s1.2.1)) rfl ?_
      refine Go_blk 1 (pc' := 2013) (L' := [(0, .ref 1000000), (1, .ref 0), (2, .ref 47), (3, .ref 698), (4, .int s1.1)]) (S' := [.ref 0]) (h' := (hh X s1.2.2 s1.2.1)) rfl ?_
      refine Go_cR (y' := 23) (As := [.ref 0]) (r := []) rfl (g_x_which23  (by omega)) fun v211 => ?_
      refine Go_blk 1 (pc' := 2017) (L' := [(0, .ref 1000000), (1, .ref 0), (2, .ref 47), (3, .ref 698), (4, .int s1.1)]) (S' := [.ref 47, .int v211]) (h' := (hh X s1.2.2 s1.2.1)) rfl ?_
      refine Go_cW (y' := 367) (As := [.ref 47]) (r := [.int v211]) rfl (g_m_which367  (by omega)) fun w212 => ?_
      refine Go_cmp rfl rfl rfl ?_ ?_
      ·
        refine Go_blk 2 (pc' := 23) (L' := [(4, .int (s1.1 + (7 : Int32))), (0, .ref 1000000), (1, .ref 0), (2, .ref 47), (3, .ref 698)]) (S' := []) (h' := (hh X s1.2.2 w212.2)) rfl ?_
        exact Go_jmp [(0, .ref 1000000), (1, .ref 0), (2, .ref 47), (3, .ref 698), (4, .int (s1.1 + (7 : Int32)))] rfl ⟨rfl, rfl, rfl, rfl, rfl, trivial⟩ (fun _ h => h)
      ·
        refine Go_inrS ?_
        refine Go_blk 1 (pc' := 2024) (L' := [(0, .ref 1000000), (1, .ref 0), (2, .ref 47), (3, .ref 698), (4, .int s1.1)]) (S' := [.int (0 : Int32)]) (h' := (hh X s1.2.2 w212.2)) rfl ?_
        exact Go_ret (fun _ h => h) rfl
    refine Go_sw ?_ fun h31 => ?_
    ·
      refine Go_blk 1 (pc' := 2025) (L' := [(0, .ref 1000000), (1, .ref 0), (2, .ref 47), (3, .ref 698), (4, .int s1.1)]) (S' := []) (h' := (hh X s1.2.2 s1.2.1)) rfl ?_
      refine Go_blk 5 (pc' := 2031) (L' := [(0, .ref 1000000), (1, .ref 0), (2, .ref 47), (3, .ref 698), (4, .int s1.1)]) (S' := [.int (s1.1 + (1 : Int32)), .ref 1000000, .ref 0]) (h' := (hh X s1.2.2 s1.2.1)) rfl ?_
      refine Go_ialds rfl fun v213 => ?_
      refine Go_blk 1 (pc' := 2033) (L' := [(0, .ref 1000000), (1, .ref 0), (2, .ref 47), (3, .ref 698), (4, .int s1.1)]) (S' := [.ref 698, .int v213, .ref 0]) (h' := (hh X s1.2.2 s1.2.1)) rfl ?_
      refine Go_cG (y' := 231) (As := [.ref 0, .int v213, .ref 698]) (r := []) rfl (g_l_look231 v213 (by omega)) fun w214 => ?_
      refine Go_blk 6 (pc' := 2044) (L' := [(5, .int w214.1), (0, .ref 1000000), (1, .ref 0), (2, .ref 47), (3, .ref 698), (4, .int s1.1)]) (S' := [.int (s1.1 + (1 : Int32)), .ref 1000000, .ref 47]) (h' := (hh X w214.2.2 w214.2.1)) rfl ?_
      refine Go_ialds rfl fun v215 => ?_
      refine Go_cW (y' := 368) (As := [.ref 47, .int v215]) (r := []) rfl (g_m_look368 v215 (by omega)) fun w216 => ?_
      refine Go_blk 2 (pc' := 2051) (L' := [(6, .int w216.1), (5, .int w214.1), (0, .ref 1000000), (1, .ref 0), (2, .ref 47), (3, .ref 698), (4, .int s1.1)]) (S' := [.ref 47]) (h' := (hh X w214.2.2 w216.2)) rfl ?_
      refine Go_cR (y' := 265) (As := [.ref 47]) (r := []) rfl (g_m_thrown265  (by omega)) fun v217 => ?_
      refine Go_blk 1 (pc' := 2056) (L' := [(6, .int w216.1), (5, .int w214.1), (0, .ref 1000000), (1, .ref 0), (2, .ref 47), (3, .ref 698), (4, .int s1.1)]) (S' := [.int w214.1, .int v217]) (h' := (hh X w214.2.2 w216.2)) rfl ?_
      refine Go_cmp rfl rfl rfl ?_ ?_
      ·
        refine Go_blk 1 (pc' := 2063) (L' := [(6, .int w216.1), (5, .int w214.1), (0, .ref 1000000), (1, .ref 0), (2, .ref 47), (3, .ref 698), (4, .int s1.1)]) (S' := [.int w214.1]) (h' := (hh X w214.2.2 w216.2)) rfl ?_
        refine Go_cmzn rfl rfl rfl ?_ ?_
        ·
          refine Go_blk 2 (pc' := 2068) (L' := [(6, .int w216.1), (5, .int w214.1), (0, .ref 1000000), (1, .ref 0), (2, .ref 47), (3, .ref 698), (4, .int s1.1)]) (S' := [.int (0 : Int32), .ref 698]) (h' := (hh X w214.2.2 w216.2)) rfl ?_
          refine Go_lald rfl fun v218 => ?_
          refine Go_blk 3 (pc' := 2073) (L' := [(6, .int w216.1), (5, .int w214.1), (0, .ref 1000000), (1, .ref 0), (2, .ref 47), (3, .ref 698), (4, .int s1.1)]) (S' := [.int (lg_cmp v218 (w216.1.toInt64))]) (h' := (hh X w214.2.2 w216.2)) rfl ?_
          refine Go_cmz rfl rfl rfl ?_ ?_
          ·
            refine Go_blk 3 (pc' := 23) (L' := [(4, .int (s1.1 + (7 : Int32))), (6, .int w216.1), (5, .int w214.1), (0, .ref 1000000), (1, .ref 0), (2, .ref 47), (3, .ref 698)]) (S' := []) (h' := (hh X w214.2.2 w216.2)) rfl ?_
            exact Go_jmp [(0, .ref 1000000), (1, .ref 0), (2, .ref 47), (3, .ref 698), (4, .int (s1.1 + (7 : Int32)))] rfl ⟨rfl, rfl, rfl, rfl, rfl, trivial⟩ (fun _ h => h)
          ·
            refine Go_inrS ?_
            refine Go_blk 1 (pc' := 2077) (L' := [(6, .int w216.1), (5, .int w214.1), (0, .ref 1000000), (1, .ref 0), (2, .ref 47), (3, .ref 698), (4, .int s1.1)]) (S' := [.int (0 : Int32)]) (h' := (hh X w214.2.2 w216.2)) rfl ?_
            exact Go_ret (fun _ h => h) rfl
        ·
          refine Go_blk 3 (pc' := 23) (L' := [(4, .int (s1.1 + (7 : Int32))), (6, .int w216.1), (5, .int w214.1), (0, .ref 1000000), (1, .ref 0), (2, .ref 47), (3, .ref 698)]) (S' := []) (h' := (hh X w214.2.2 w216.2)) rfl ?_
          exact Go_jmp [(0, .ref 1000000), (1, .ref 0), (2, .ref 47), (3, .ref 698), (4, .int (s1.1 + (7 : Int32)))] rfl ⟨rfl, rfl, rfl, rfl, rfl, trivial⟩ (fun _ h => h)
      ·
        refine Go_inrS ?_
        refine Go_blk 1 (pc' := 2060) (L' := [(6, .int w216.1), (5, .int w214.1), (0, .ref 1000000), (1, .ref 0), (2, .ref 47), (3, .ref 698), (4, .int s1.1)]) (S' := [.int (0 : Int32)]) (h' := (hh X w214.2.2 w216.2)) rfl ?_
        exact Go_ret (fun _ h => h) rfl
    refine Go_sw ?_ fun h32 => ?_
    ·
      refine Go_blk 1 (pc' := 2081) (L' := [(0, .ref 1000000), (1, .ref 0), (2, .ref 47), (3, .ref 698), (4, .int s1.1)]) (S' := []) (h' := (hh X s1.2.2 s1.2.1)) rfl ?_
      refine Go_blk 5 (pc' := 2087) (L' := [(0, .ref 1000000), (1, .ref 0), (2, .ref 47), (3, .ref 698), (4, .int s1.1)]) (S' := [.int (s1.1 + (1 : Int32)), .ref 1000000, .ref 0]) (h' := (hh X s1.2.2 s1.2.1)) rfl ?_
      refine Go_ialds rfl fun v219 => ?_
      refine Go_blk 1 (pc' := 2089) (L' := [(0, .ref 1000000), (1, .ref 0), (2, .ref 47), (3, .ref 698), (4, .int s1.1)]) (S' := [.ref 698, .int v219, .ref 0]) (h' := (hh X s1.2.2 s1.2.1)) rfl ?_
      refine Go_cG (y' := 237) (As := [.ref 0, .int v219, .ref 698]) (r := []) rfl (g_l_tailors237 v219 (by omega)) fun w220 => ?_
      refine Go_blk 6 (pc' := 2100) (L' := [(5, .int w220.1), (0, .ref 1000000), (1, .ref 0), (2, .ref 47), (3, .ref 698), (4, .int s1.1)]) (S' := [.int (s1.1 + (1 : Int32)), .ref 1000000, .ref 47]) (h' := (hh X w220.2.2 w220.2.1)) rfl ?_
      refine Go_ialds rfl fun v221 => ?_
      refine Go_cW (y' := 371) (As := [.ref 47, .int v221]) (r := []) rfl (g_m_tailors371 v221 (by omega)) fun w222 => ?_
      refine Go_blk 2 (pc' := 2107) (L' := [(6, .int w222.1), (5, .int w220.1), (0, .ref 1000000), (1, .ref 0), (2, .ref 47), (3, .ref 698), (4, .int s1.1)]) (S' := [.ref 47]) (h' := (hh X w220.2.2 w222.2)) rfl ?_
      refine Go_cR (y' := 265) (As := [.ref 47]) (r := []) rfl (g_m_thrown265  (by omega)) fun v223 => ?_
      refine Go_blk 1 (pc' := 2112) (L' := [(6, .int w222.1), (5, .int w220.1), (0, .ref 1000000), (1, .ref 0), (2, .ref 47), (3, .ref 698), (4, .int s1.1)]) (S' := [.int w220.1, .int v223]) (h' := (hh X w220.2.2 w222.2)) rfl ?_
      refine Go_cmp rfl rfl rfl ?_ ?_
      ·
        refine Go_blk 1 (pc' := 2119) (L' := [(6, .int w222.1), (5, .int w220.1), (0, .ref 1000000), (1, .ref 0), (2, .ref 47), (3, .ref 698), (4, .int s1.1)]) (S' := [.int w220.1]) (h' := (hh X w220.2.2 w222.2)) rfl ?_
        refine Go_cmzn rfl rfl rfl ?_ ?_
        ·
          refine Go_blk 2 (pc' := 2124) (L' := [(6, .int w222.1), (5, .int w220.1), (0, .ref 1000000), (1, .ref 0), (2, .ref 47), (3, .ref 698), (4, .int s1.1)]) (S' := [.int (0 : Int32), .ref 698]) (h' := (hh X w220.2.2 w222.2)) rfl ?_
          refine Go_lald rfl fun v224 => ?_
          refine Go_blk 3 (pc' := 2129) (L' := [(6, .int w222.1), (5, .int w220.1), (0, .ref 1000000), (1, .ref 0), (2, .ref 47), (3, .ref 698), (4, .int s1.1)]) (S' := [.int (lg_cmp v224 (w222.1.toInt64))]) (h' := (hh X w220.2.2 w222.2)) rfl ?_
          refine Go_cmz rfl rfl rfl ?_ ?_
          ·
            refine Go_blk 3 (pc' := 23) (L' := [(4, .int (s1.1 + (7 : Int32))), (6, .int w222.1), (5, .int w220.1), (0, .ref 1000000), (1, .ref 0), (2, .ref 47), (3, .ref 698)]) (S' := []) (h' := (hh X w220.2.2 w222.2)) rfl ?_
            exact Go_jmp [(0, .ref 1000000), (1, .ref 0), (2, .ref 47), (3, .ref 698), (4, .int (s1.1 + (7 : Int32)))] rfl ⟨rfl, rfl, rfl, rfl, rfl, trivial⟩ (fun _ h => h)
          ·
            refine Go_inrS ?_
            refine Go_blk 1 (pc' := 2133) (L' := [(6, .int w222.1), (5, .int w220.1), (0, .ref 1000000), (1, .ref 0), (2, .ref 47), (3, .ref 698), (4, .int s1.1)]) (S' := [.int (0 : Int32)]) (h' := (hh X w220.2.2 w222.2)) rfl ?_
            exact Go_ret (fun _ h => h) rfl
        ·
          refine Go_blk 3 (pc' := 23) (L' := [(4, .int (s1.1 + (7 : Int32))), (6, .int w222.1), (5, .int w220.1), (0, .ref 1000000), (1, .ref 0), (2, .ref 47), (3, .ref 698)]) (S' := []) (h' := (hh X w220.2.2 w222.2)) rfl ?_
          exact Go_jmp [(0, .ref 1000000), (1, .ref 0), (2, .ref 47), (3, .ref 698), (4, .int (s1.1 + (7 : Int32)))] rfl ⟨rfl, rfl, rfl, rfl, rfl, trivial⟩ (fun _ h => h)
      ·
        refine Go_inrS ?_
        refine Go_blk 1 (pc' := 2116) (L' := [(6, .int w222.1), (5, .int w220.1), (0, .ref 1000000), (1, .ref 0), (2, .ref 47), (3, .ref 698), (4, .int s1.1)]) (S' := [.int (0 : Int32)]) (h' := (hh X w220.2.2 w222.2)) rfl ?_
        exact Go_ret (fun _ h => h) rfl
    refine Go_sw ?_ fun h33 => ?_
    ·
      refine Go_blk 1 (pc' := 2137) (L' := [(0, .ref 1000000), (1, .ref 0), (2, .ref 47), (3, .ref 698), (4, .int s1.1)]) (S' := []) (h' := (hh X s1.2.2 s1.2.1)) rfl ?_
      refine Go_blk 5 (pc' := 2143) (L' := [(0, .ref 1000000), (1, .ref 0), (2, .ref 47), (3, .ref 698), (4, .int s1.1)]) (S' := [.int (s1.1 + (1 : Int32)), .ref 1000000, .ref 0]) (h' := (hh X s1.2.2 s1.2.1)) rfl ?_
      refine Go_ialds rfl fun v225 => ?_
      refine Go_blk 4 (pc' := 2149) (L' := [(0, .ref 1000000), (1, .ref 0), (2, .ref 47), (3, .ref 698), (4, .int s1.1)]) (S' := [.int (s1.1 + (2 : Int32)), .ref 1000000, .int v225, .ref 0]) (h' := (hh X s1.2.2 s1.2.1)) rfl ?_
      refine Go_ialds rfl fun v226 => ?_
      refine Go_blk 1 (pc' := 2151) (L' := [(0, .ref 1000000), (1, .ref 0), (2, .ref 47), (3, .ref 698), (4, .int s1.1)]) (S' := [.ref 698, .int v226, .int v225, .ref 0]) (h' := (hh X s1.2.2 s1.2.1)) rfl ?_
      refine Go_cG (y' := 245) (As := [.ref 0, .int v225, .int v226, .ref 698]) (r := []) rfl (g_l_gets245 v225 v226 (by omega)) fun w227 => ?_
      refine Go_blk 6 (pc' := 2162) (L' := [(5, .int w227.1), (0, .ref 1000000), (1, .ref 0), (2, .ref 47), (3, .ref 698), (4, .int s1.1)]) (S' := [.int (s1.1 + (1 : Int32)), .ref 1000000, .ref 47]) (h' := (hh X w227.2.2 w227.2.1)) rfl ?_
      refine Go_ialds rfl fun v228 => ?_
      refine Go_blk 4 (pc' := 2168) (L' := [(5, .int w227.1), (0, .ref 1000000), (1, .ref 0), (2, .ref 47), (3, .ref 698), (4, .int s1.1)]) (S' := [.int (s1.1 + (2 : Int32)), .ref 1000000, .int v228, .ref 47]) (h' := (hh X w227.2.2 w227.2.1)) rfl ?_
      refine Go_ialds rfl fun v229 => ?_
      refine Go_cW (y' := 374) (As := [.ref 47, .int v228, .int v229]) (r := []) rfl (g_m_gets374 v228 v229 (by omega)) fun w230 => ?_
      refine Go_blk 2 (pc' := 2175) (L' := [(6, .int w230.1), (5, .int w227.1), (0, .ref 1000000), (1, .ref 0), (2, .ref 47), (3, .ref 698), (4, .int s1.1)]) (S' := [.ref 47]) (h' := (hh X w227.2.2 w230.2)) rfl ?_
      refine Go_cR (y' := 265) (As := [.ref 47]) (r := []) rfl (g_m_thrown265  (by omega)) fun v231 => ?_
      refine Go_blk 1 (pc' := 2180) (L' := [(6, .int w230.1), (5, .int w227.1), (0, .ref 1000000), (1, .ref 0), (2, .ref 47), (3, .ref 698), (4, .int s1.1)]) (S' := [.int w227.1, .int v231]) (h' := (hh X w227.2.2 w230.2)) rfl ?_
      refine Go_cmp rfl rfl rfl ?_ ?_
      ·
        refine Go_blk 1 (pc' := 2187) (L' := [(6, .int w230.1), (5, .int w227.1), (0, .ref 1000000), (1, .ref 0), (2, .ref 47), (3, .ref 698), (4, .int s1.1)]) (S' := [.int w227.1]) (h' := (hh X w227.2.2 w230.2)) rfl ?_
        refine Go_cmzn rfl rfl rfl ?_ ?_
        ·
          refine Go_blk 2 (pc' := 2192) (L' := [(6, .int w230.1), (5, .int w227.1), (0, .ref 1000000), (1, .ref 0), (2, .ref 47), (3, .ref 698), (4, .int s1.1)]) (S' := [.int (0 : Int32), .ref 698]) (h' := (hh X w227.2.2 w230.2)) rfl ?_
          refine Go_lald rfl fun v232 => ?_
          refine Go_blk 3 (pc' := 2197) (L' := [(6, .int w230.1), (5, .int w227.1), (0, .ref 1000000), (1, .ref 0), (2, .ref 47), (3, .ref 698), (4, .int s1.1)]) (S' := [.int (lg_cmp v232 (w230.1.toInt64))]) (h' := (hh X w227.2.2 w230.2)) rfl ?_
          refine Go_cmz rfl rfl rfl ?_ ?_
          ·
            refine Go_blk 3 (pc' := 23) (L' := [(4, .int (s1.1 + (7 : Int32))), (6, .int w230.1), (5, .int w227.1), (0, .ref 1000000), (1, .ref 0), (2, .ref 47), (3, .ref 698)]) (S' := []) (h' := (hh X w227.2.2 w230.2)) rfl ?_
            exact Go_jmp [(0, .ref 1000000), (1, .ref 0), (2, .ref 47), (3, .ref 698), (4, .int (s1.1 + (7 : Int32)))] rfl ⟨rfl, rfl, rfl, rfl, rfl, trivial⟩ (fun _ h => h)
          ·
            refine Go_inrS ?_
            refine Go_blk 1 (pc' := 2201) (L' := [(6, .int w230.1), (5, .int w227.1), (0, .ref 1000000), (1, .ref 0), (2, .ref 47), (3, .ref 698), (4, .int s1.1)]) (S' := [.int (0 : Int32)]) (h' := (hh X w227.2.2 w230.2)) rfl ?_
            exact Go_ret (fun _ h => h) rfl
        ·
          refine Go_blk 3 (pc' := 23) (L' := [(4, .int (s1.1 + (7 : Int32))), (6, .int w230.1), (5, .int w227.1), (0, .ref 1000000), (1, .ref 0), (2, .ref 47), (3, .ref 698)]) (S' := []) (h' := (hh X w227.2.2 w230.2)) rfl ?_
          exact Go_jmp [(0, .ref 1000000), (1, .ref 0), (2, .ref 47), (3, .ref 698), (4, .int (s1.1 + (7 : Int32)))] rfl ⟨rfl, rfl, rfl, rfl, rfl, trivial⟩ (fun _ h => h)
      ·
        refine Go_inrS ?_
        refine Go_blk 1 (pc' := 2184) (L' := [(6, .int w230.1), (5, .int w227.1), (0, .ref 1000000), (1, .ref 0), (2, .ref 47), (3, .ref 698), (4, .int s1.1)]) (S' := [.int (0 : Int32)]) (h' := (hh X w227.2.2 w230.2)) rfl ?_
        exact Go_ret (fun _ h => h) rfl
    refine Go_sw ?_ fun h34 => ?_
    ·
      refine Go_blk 1 (pc' := 2205) (L' := [(0, .ref 1000000), (1, .ref 0), (2, .ref 47), (3, .ref 698), (4, .int s1.1)]) (S' := []) (h' := (hh X s1.2.2 s1.2.1)) rfl ?_
      refine Go_blk 5 (pc' := 2211) (L' := [(0, .ref 1000000), (1, .ref 0), (2, .ref 47), (3, .ref 698), (4, .int s1.1)]) (S' := [.int (s1.1 + (1 : Int32)), .ref 1000000, .ref 0]) (h' := (hh X s1.2.2 s1.2.1)) rfl ?_
      refine Go_ialds rfl fun v233 => ?_
      refine Go_blk 4 (pc' := 2217) (L' := [(0, .ref 1000000), (1, .ref 0), (2, .ref 47), (3, .ref 698), (4, .int s1.1)]) (S' := [.int (s1.1 + (2 : Int32)), .ref 1000000, .int v233, .ref 0]) (h' := (hh X s1.2.2 s1.2.1)) rfl ?_
      refine Go_ialds rfl fun v234 => ?_
      refine Go_blk 4 (pc' := 2223) (L' := [(0, .ref 1000000), (1, .ref 0), (2, .ref 47), (3, .ref 698), (4, .int s1.1)]) (S' := [.int (s1.1 + (3 : Int32)), .ref 1000000, .int v234, .int v233, .ref 0]) (h' := (hh X s1.2.2 s1.2.1)) rfl ?_
      refine Go_ialds rfl fun v235 => ?_
      refine Go_blk 1 (pc' := 2225) (L' := [(0, .ref 1000000), (1, .ref 0), (2, .ref 47), (3, .ref 698), (4, .int s1.1)]) (S' := [.ref 698, .int v235, .int v234, .int v233, .ref 0]) (h' := (hh X s1.2.2 s1.2.1)) rfl ?_
      refine Go_cG (y' := 247) (As := [.ref 0, .int v233, .int v234, .int v235, .ref 698]) (r := []) rfl (g_l_ahead247 v233 v234 v235 (by omega)) fun w236 => ?_
      refine Go_blk 6 (pc' := 2236) (L' := [(5, .int w236.1), (0, .ref 1000000), (1, .ref 0), (2, .ref 47), (3, .ref 698), (4, .int s1.1)]) (S' := [.int (s1.1 + (1 : Int32)), .ref 1000000, .ref 47]) (h' := (hh X w236.2.2 w236.2.1)) rfl ?_
      refine Go_ialds rfl fun v237 => ?_
      refine Go_blk 4 (pc' := 2242) (L' := [(5, .int w236.1), (0, .ref 1000000), (1, .ref 0), (2, .ref 47), (3, .ref 698), (4, .int s1.1)]) (S' := [.int (s1.1 + (2 : Int32)), .ref 1000000, .int v237, .ref 47]) (h' := (hh X w236.2.2 w236.2.1)) rfl ?_
      refine Go_ialds rfl fun v238 => ?_
      refine Go_blk 4 (pc' := 2248) (L' := [(5, .int w236.1), (0, .ref 1000000), (1, .ref 0), (2, .ref 47), (3, .ref 698), (4, .int s1.1)]) (S' := [.int (s1.1 + (3 : Int32)), .ref 1000000, .int v238, .int v237, .ref 47]) (h' := (hh X w236.2.2 w236.2.1)) rfl ?_
      refine Go_ialds rfl fun v239 => ?_
      refine Go_cW (y' := 375) (As := [.ref 47, .int v237, .int v238, .int v239]) (r := []) rfl (g_m_ahead375 v237 v238 v239 (by omega)) fun w240 => ?_
      refine Go_blk 2 (pc' := 2255) (L' := [(6, .int w240.1), (5, .int w236.1), (0, .ref 1000000), (1, .ref 0), (2, .ref 47), (3, .ref 698), (4, .int s1.1)]) (S' := [.ref 47]) (h' := (hh X w236.2.2 w240.2)) rfl ?_
      refine Go_cR (y' := 265) (As := [.ref 47]) (r := []) rfl (g_m_thrown265  (by omega)) fun v241 => ?_
      refine Go_blk 1 (pc' := 2260) (L' := [(6, .int w240.1), (5, .int w236.1), (0, .ref 1000000), (1, .ref 0), (2, .ref 47), (3, .ref 698), (4, .int s1.1)]) (S' := [.int w236.1, .int v241]) (h' := (hh X w236.2.2 w240.2)) rfl ?_
      refine Go_cmp rfl rfl rfl ?_ ?_
      ·
        refine Go_blk 1 (pc' := 2267) (L' := [(6, .int w240.1), (5, .int w236.1), (0, .ref 1000000), (1, .ref 0), (2, .ref 47), (3, .ref 698), (4, .int s1.1)]) (S' := [.int w236.1]) (h' := (hh X w236.2.2 w240.2)) rfl ?_
        refine Go_cmzn rfl rfl rfl ?_ ?_
        ·
          refine Go_blk 2 (pc' := 2272) (L' := [(6, .int w240.1), (5, .int w236.1), (0, .ref 1000000), (1, .ref 0), (2, .ref 47), (3, .ref 698), (4, .int s1.1)]) (S' := [.int (0 : Int32), .ref 698]) (h' := (hh X w236.2.2 w240.2)) rfl ?_
          refine Go_lald rfl fun v242 => ?_
          refine Go_blk 3 (pc' := 2277) (L' := [(6, .int w240.1), (5, .int w236.1), (0, .ref 1000000), (1, .ref 0), (2, .ref 47), (3, .ref 698), (4, .int s1.1)]) (S' := [.int (lg_cmp v242 (w240.1.toInt64))]) (h' := (hh X w236.2.2 w240.2)) rfl ?_
          refine Go_cmz rfl rfl rfl ?_ ?_
          ·
            refine Go_blk 3 (pc' := 23) (L' := [(4, .int (s1.1 + (7 : Int32))), (6, .int w240.1), (5, .int w236.1), (0, .ref 1000000), (1, .ref 0), (2, .ref 47), (3, .ref 698)]) (S' := []) (h' := (hh X w236.2.2 w240.2)) rfl ?_
            exact Go_jmp [(0, .ref 1000000), (1, .ref 0), (2, .ref 47), (3, .ref 698), (4, .int (s1.1 + (7 : Int32)))] rfl ⟨rfl, rfl, rfl, rfl, rfl, trivial⟩ (fun _ h => h)
          ·
            refine Go_inrS ?_
            refine Go_blk 1 (pc' := 2281) (L' := [(6, .int w240.1), (5, .int w236.1), (0, .ref 1000000), (1, .ref 0), (2, .ref 47), (3, .ref 698), (4, .int s1.1)]) (S' := [.int (0 : Int32)]) (h' := (hh X w236.2.2 w240.2)) rfl ?_
            exact Go_ret (fun _ h => h) rfl
        ·
          refine Go_blk 3 (pc' := 23) (L' := [(4, .int (s1.1 + (7 : Int32))), (6, .int w240.1), (5, .int w236.1), (0, .ref 1000000), (1, .ref 0), (2, .ref 47), (3, .ref 698)]) (S' := []) (h' := (hh X w236.2.2 w240.2)) rfl ?_
          exact Go_jmp [(0, .ref 1000000), (1, .ref 0), (2, .ref 47), (3, .ref 698), (4, .int (s1.1 + (7 : Int32)))] rfl ⟨rfl, rfl, rfl, rfl, rfl, trivial⟩ (fun _ h => h)
      ·
        refine Go_inrS ?_
        refine Go_blk 1 (pc' := 2264) (L' := [(6, .int w240.1), (5, .int w236.1), (0, .ref 1000000), (1, .ref 0), (2, .ref 47), (3, .ref 698), (4, .int s1.1)]) (S' := [.int (0 : Int32)]) (h' := (hh X w236.2.2 w240.2)) rfl ?_
        exact Go_ret (fun _ h => h) rfl
    refine Go_sw ?_ fun h35 => ?_
    ·
      refine Go_blk 1 (pc' := 2285) (L' := [(0, .ref 1000000), (1, .ref 0), (2, .ref 47), (3, .ref 698), (4, .int s1.1)]) (S' := []) (h' := (hh X s1.2.2 s1.2.1)) rfl ?_
      refine Go_blk 5 (pc' := 2291) (L' := [(0, .ref 1000000), (1, .ref 0), (2, .ref 47), (3, .ref 698), (4, .int s1.1)]) (S' := [.int (s1.1 + (1 : Int32)), .ref 1000000, .ref 0]) (h' := (hh X s1.2.2 s1.2.1)) rfl ?_
      refine Go_ialds rfl fun v243 => ?_
      refine Go_blk 4 (pc' := 2297) (L' := [(0, .ref 1000000), (1, .ref 0), (2, .ref 47), (3, .ref 698), (4, .int s1.1)]) (S' := [.int (s1.1 + (2 : Int32)), .ref 1000000, .int v243, .ref 0]) (h' := (hh X s1.2.2 s1.2.1)) rfl ?_
      refine Go_ialds rfl fun v244 => ?_
      refine Go_blk 4 (pc' := 2303) (L' := [(0, .ref 1000000), (1, .ref 0), (2, .ref 47), (3, .ref 698), (4, .int s1.1)]) (S' := [.int (s1.1 + (3 : Int32)), .ref 1000000, .int v244, .int v243, .ref 0]) (h' := (hh X s1.2.2 s1.2.1)) rfl ?_
      refine Go_ialds rfl fun v245 => ?_
      refine Go_blk 4 (pc' := 2309) (L' := [(0, .ref 1000000), (1, .ref 0), (2, .ref 47), (3, .ref 698), (4, .int s1.1)]) (S' := [.int (s1.1 + (4 : Int32)), .ref 1000000, .int v245, .int v244, .int v243, .ref 0]) (h' := (hh X s1.2.2 s1.2.1)) rfl ?_
      refine Go_ialds rfl fun v246 => ?_
      refine Go_blk 1 (pc' := 2311) (L' := [(0, .ref 1000000), (1, .ref 0), (2, .ref 47), (3, .ref 698), (4, .int s1.1)]) (S' := [.ref 698, .int v246, .int v245, .int v244, .int v243, .ref 0]) (h' := (hh X s1.2.2 s1.2.1)) rfl ?_
      refine Go_cG (y' := 250) (As := [.ref 0, .int v243, .int v244, .int v245, .int v246, .ref 698]) (r := []) rfl (g_l_years250 v243 v244 v245 v246 (by omega)) fun w247 => ?_
      refine Go_blk 6 (pc' := 2322) (L' := [(5, .int w247.1), (0, .ref 1000000), (1, .ref 0), (2, .ref 47), (3, .ref 698), (4, .int s1.1)]) (S' := [.int (s1.1 + (1 : Int32)), .ref 1000000, .ref 47]) (h' := (hh X w247.2.2 w247.2.1)) rfl ?_
      refine Go_ialds rfl fun v248 => ?_
      refine Go_blk 4 (pc' := 2328) (L' := [(5, .int w247.1), (0, .ref 1000000), (1, .ref 0), (2, .ref 47), (3, .ref 698), (4, .int s1.1)]) (S' := [.int (s1.1 + (2 : Int32)), .ref 1000000, .int v248, .ref 47]) (h' := (hh X w247.2.2 w247.2.1)) rfl ?_
      refine Go_ialds rfl fun v249 => ?_
      refine Go_blk 4 (pc' := 2334) (L' := [(5, .int w247.1), (0, .ref 1000000), (1, .ref 0), (2, .ref 47), (3, .ref 698), (4, .int s1.1)]) (S' := [.int (s1.1 + (3 : Int32)), .ref 1000000, .int v249, .int v248, .ref 47]) (h' := (hh X w247.2.2 w247.2.1)) rfl ?_
      refine Go_ialds rfl fun v250 => ?_
      refine Go_blk 4 (pc' := 2340) (L' := [(5, .int w247.1), (0, .ref 1000000), (1, .ref 0), (2, .ref 47), (3, .ref 698), (4, .int s1.1)]) (S' := [.int (s1.1 + (4 : Int32)), .ref 1000000, .int v250, .int v249, .int v248, .ref 47]) (h' := (hh X w247.2.2 w247.2.1)) rfl ?_
      refine Go_ialds rfl fun v251 => ?_
      refine Go_cW (y' := 376) (As := [.ref 47, .int v248, .int v249, .int v250, .int v251]) (r := []) rfl (g_m_years376 v248 v249 v250 v251 (by omega)) fun w252 => ?_
      refine Go_blk 2 (pc' := 2347) (L' := [(6, .int w252.1), (5, .int w247.1), (0, .ref 1000000), (1, .ref 0), (2, .ref 47), (3, .ref 698), (4, .int s1.1)]) (S' := [.ref 47]) (h' := (hh X w247.2.2 w252.2)) rfl ?_
      refine Go_cR (y' := 265) (As := [.ref 47]) (r := []) rfl (g_m_thrown265  (by omega)) fun v253 => ?_
      refine Go_blk 1 (pc' := 2352) (L' := [(6, .int w252.1), (5, .int w247.1), (0, .ref 1000000), (1, .ref 0), (2, .ref 47), (3, .ref 698), (4, .int s1.1)]) (S' := [.int w247.1, .int v253]) (h' := (hh X w247.2.2 w252.2)) rfl ?_
      refine Go_cmp rfl rfl rfl ?_ ?_
      ·
        refine Go_blk 1 (pc' := 2359) (L' := [(6, .int w252.1), (5, .int w247.1), (0, .ref 1000000), (1, .ref 0), (2, .ref 47), (3, .ref 698), (4, .int s1.1)]) (S' := [.int w247.1]) (h' := (hh X w247.2.2 w252.2)) rfl ?_
        refine Go_cmzn rfl rfl rfl ?_ ?_
        ·
          refine Go_blk 2 (pc' := 2364) (L' := [(6, .int w252.1), (5, .int w247.1), (0, .ref 1000000), (1, .ref 0), (2, .ref 47), (3, .ref 698), (4, .int s1.1)]) (S' := [.int (0 : Int32), .ref 698]) (h' := (hh X w247.2.2 w252.2)) rfl ?_
          refine Go_lald rfl fun v254 => ?_
          refine Go_blk 3 (pc' := 2369) (L' := [(6, .int w252.1), (5, .int w247.1), (0, .ref 1000000), (1, .ref 0), (2, .ref 47), (3, .ref 698), (4, .int s1.1)]) (S' := [.int (lg_cmp v254 (w252.1.toInt64))]) (h' := (hh X w247.2.2 w252.2)) rfl ?_
          refine Go_cmz rfl rfl rfl ?_ ?_
          ·
            refine Go_blk 3 (pc' := 23) (L' := [(4, .int (s1.1 + (7 : Int32))), (6, .int w252.1), (5, .int w247.1), (0, .ref 1000000), (1, .ref 0), (2, .ref 47), (3, .ref 698)]) (S' := []) (h' := (hh X w247.2.2 w252.2)) rfl ?_
            exact Go_jmp [(0, .ref 1000000), (1, .ref 0), (2, .ref 47), (3, .ref 698), (4, .int (s1.1 + (7 : Int32)))] rfl ⟨rfl, rfl, rfl, rfl, rfl, trivial⟩ (fun _ h => h)
          ·
            refine Go_inrS ?_
            refine Go_blk 1 (pc' := 2373) (L' := [(6, .int w252.1), (5, .int w247.1), (0, .ref 1000000), (1, .ref 0), (2, .ref 47), (3, .ref 698), (4, .int s1.1)]) (S' := [.int (0 : Int32)]) (h' := (hh X w247.2.2 w252.2)) rfl ?_
            exact Go_ret (fun _ h => h) rfl
        ·
          refine Go_blk 3 (pc' := 23) (L' := [(4, .int (s1.1 + (7 : Int32))), (6, .int w252.1), (5, .int w247.1), (0, .ref 1000000), (1, .ref 0), (2, .ref 47), (3, .ref 698)]) (S' := []) (h' := (hh X w247.2.2 w252.2)) rfl ?_
          exact Go_jmp [(0, .ref 1000000), (1, .ref 0), (2, .ref 47), (3, .ref 698), (4, .int (s1.1 + (7 : Int32)))] rfl ⟨rfl, rfl, rfl, rfl, rfl, trivial⟩ (fun _ h => h)
      ·
        refine Go_inrS ?_
        refine Go_blk 1 (pc' := 2356) (L' := [(6, .int w252.1), (5, .int w247.1), (0, .ref 1000000), (1, .ref 0), (2, .ref 47), (3, .ref 698), (4, .int s1.1)]) (S' := [.int (0 : Int32)]) (h' := (hh X w247.2.2 w252.2)) rfl ?_
        exact Go_ret (fun _ h => h) rfl
    refine Go_sw ?_ fun h36 => ?_
    ·
      refine Go_blk 1 (pc' := 2377) (L' := [(0, .ref 1000000), (1, .ref 0), (2, .ref 47), (3, .ref 698), (4, .int s1.1)]) (S' := []) (h' := (hh X s1.2.2 s1.2.1)) rfl ?_
      refine Go_blk 5 (pc' := 2383) (L' := [(0, .ref 1000000), (1, .ref 0), (2, .ref 47), (3, .ref 698), (4, .int s1.1)]) (S' := [.int (s1.1 + (1 : Int32)), .ref 1000000, .ref 0]) (h' := (hh X s1.2.2 s1.2.1)) rfl ?_
      refine Go_ialds rfl fun v255 => ?_
      refine Go_blk 4 (pc' := 2389) (L' := [(0, .ref 1000000), (1, .ref 0), (2, .ref 47), (3, .ref 698), (4, .int s1.1)]) (S' := [.int (s1.1 + (2 : Int32)), .ref 1000000, .int v255, .ref 0]) (h' := (hh X s1.2.2 s1.2.1)) rfl ?_
      refine Go_ialds rfl fun v256 => ?_
      refine Go_blk 4 (pc' := 2395) (L' := [(0, .ref 1000000), (1, .ref 0), (2, .ref 47), (3, .ref 698), (4, .int s1.1)]) (S' := [.int (s1.1 + (3 : Int32)), .ref 1000000, .int v256, .int v255, .ref 0]) (h' := (hh X s1.2.2 s1.2.1)) rfl ?_
      refine Go_ialds rfl fun v257 => ?_
      refine Go_blk 4 (pc' := 2401) (L' := [(0, .ref 1000000), (1, .ref 0), (2, .ref 47), (3, .ref 698), (4, .int s1.1)]) (S' := [.int (s1.1 + (4 : Int32)), .ref 1000000, .int v257, .int v256, .int v255, .ref 0]) (h' := (hh X s1.2.2 s1.2.1)) rfl ?_
      refine Go_ialds rfl fun v258 => ?_
      refine Go_blk 4 (pc' := 2407) (L' := [(0, .ref 1000000), (1, .ref 0), (2, .ref 47), (3, .ref 698), (4, .int s1.1)]) (S' := [.int (s1.1 + (5 : Int32)), .ref 1000000, .int v258, .int v257, .int v256, .int v255, .ref 0]) (h' := (hh X s1.2.2 s1.2.1)) rfl ?_
      refine Go_ialds rfl fun v259 => ?_
      refine Go_blk 4 (pc' := 2414) (L' := [(0, .ref 1000000), (1, .ref 0), (2, .ref 47), (3, .ref 698), (4, .int s1.1)]) (S' := [.int (s1.1 + (6 : Int32)), .ref 1000000, .int v259, .int v258, .int v257, .int v256, .int v255, .ref 0]) (h' := (hh X s1.2.2 s1.2.1)) rfl ?_
      refine Go_ialds rfl fun v260 => ?_
      refine Go_blk 1 (pc' := 2416) (L' := [(0, .ref 1000000), (1, .ref 0), (2, .ref 47), (3, .ref 698), (4, .int s1.1)]) (S' := [.ref 698, .int v260, .int v259, .int v258, .int v257, .int v256, .int v255, .ref 0]) (h' := (hh X s1.2.2 s1.2.1)) rfl ?_
      refine Go_cG (y' := 258) (As := [.ref 0, .int v255, .int v256, .int v257, .int v258, .int v259, .int v260, .ref 698]) (r := []) rfl (g_l_span258 v255 v256 v257 v258 v259 v260 (by omega)) fun w261 => ?_
      refine Go_blk 6 (pc' := 2427) (L' := [(5, .int w261.1), (0, .ref 1000000), (1, .ref 0), (2, .ref 47), (3, .ref 698), (4, .int s1.1)]) (S' := [.int (s1.1 + (1 : Int32)), .ref 1000000, .ref 47]) (h' := (hh X w261.2.2 w261.2.1)) rfl ?_
      refine Go_ialds rfl fun v262 => ?_
      refine Go_blk 4 (pc' := 2433) (L' := [(5, .int w261.1), (0, .ref 1000000), (1, .ref 0), (2, .ref 47), (3, .ref 698), (4, .int s1.1)]) (S' := [.int (s1.1 + (2 : Int32)), .ref 1000000, .int v262, .ref 47]) (h' := (hh X w261.2.2 w261.2.1)) rfl ?_
      refine Go_ialds rfl fun v263 => ?_
      refine Go_blk 4 (pc' := 2439) (L' := [(5, .int w261.1), (0, .ref 1000000), (1, .ref 0), (2, .ref 47), (3, .ref 698), (4, .int s1.1)]) (S' := [.int (s1.1 + (3 : Int32)), .ref 1000000, .int v263, .int v262, .ref 47]) (h' := (hh X w261.2.2 w261.2.1)) rfl ?_
      refine Go_ialds rfl fun v264 => ?_
      refine Go_blk 4 (pc' := 2445) (L' := [(5, .int w261.1), (0, .ref 1000000), (1, .ref 0), (2, .ref 47), (3, .ref 698), (4, .int s1.1)]) (S' := [.int (s1.1 + (4 : Int32)), .ref 1000000, .int v264, .int v263, .int v262, .ref 47]) (h' := (hh X w261.2.2 w261.2.1)) rfl ?_
      refine Go_ialds rfl fun v265 => ?_
      refine Go_blk 4 (pc' := 2451) (L' := [(5, .int w261.1), (0, .ref 1000000), (1, .ref 0), (2, .ref 47), (3, .ref 698), (4, .int s1.1)]) (S' := [.int (s1.1 + (5 : Int32)), .ref 1000000, .int v265, .int v264, .int v263, .int v262, .ref 47]) (h' := (hh X w261.2.2 w261.2.1)) rfl ?_
      refine Go_ialds rfl fun v266 => ?_
      refine Go_blk 4 (pc' := 2458) (L' := [(5, .int w261.1), (0, .ref 1000000), (1, .ref 0), (2, .ref 47), (3, .ref 698), (4, .int s1.1)]) (S' := [.int (s1.1 + (6 : Int32)), .ref 1000000, .int v266, .int v265, .int v264, .int v263, .int v262, .ref 47]) (h' := (hh X w261.2.2 w261.2.1)) rfl ?_
      refine Go_ialds rfl fun v267 => ?_
      refine Go_cW (y' := 379) (As := [.ref 47, .int v262, .int v263, .int v264, .int v265, .int v266, .int v267]) (r := []) rfl (g_m_span379 v262 v263 v264 v265 v266 v267 (by omega)) fun w268 => ?_
      refine Go_blk 2 (pc' := 2465) (L' := [(6, .int w268.1), (5, .int w261.1), (0, .ref 1000000), (1, .ref 0), (2, .ref 47), (3, .ref 698), (4, .int s1.1)]) (S' := [.ref 47]) (h' := (hh X w261.2.2 w268.2)) rfl ?_
      refine Go_cR (y' := 265) (As := [.ref 47]) (r := []) rfl (g_m_thrown265  (by omega)) fun v269 => ?_
      refine Go_blk 1 (pc' := 2470) (L' := [(6, .int w268.1), (5, .int w261.1), (0, .ref 1000000), (1, .ref 0), (2, .ref 47), (3, .ref 698), (4, .int s1.1)]) (S' := [.int w261.1, .int v269]) (h' := (hh X w261.2.2 w268.2)) rfl ?_
      refine Go_cmp rfl rfl rfl ?_ ?_
      ·
        refine Go_blk 1 (pc' := 2477) (L' := [(6, .int w268.1), (5, .int w261.1), (0, .ref 1000000), (1, .ref 0), (2, .ref 47), (3, .ref 698), (4, .int s1.1)]) (S' := [.int w261.1]) (h' := (hh X w261.2.2 w268.2)) rfl ?_
        refine Go_cmzn rfl rfl rfl ?_ ?_
        ·
          refine Go_blk 2 (pc' := 2482) (L' := [(6, .int w268.1), (5, .int w261.1), (0, .ref 1000000), (1, .ref 0), (2, .ref 47), (3, .ref 698), (4, .int s1.1)]) (S' := [.int (0 : Int32), .ref 698]) (h' := (hh X w261.2.2 w268.2)) rfl ?_
          refine Go_lald rfl fun v270 => ?_
          refine Go_blk 3 (pc' := 2487) (L' := [(6, .int w268.1), (5, .int w261.1), (0, .ref 1000000), (1, .ref 0), (2, .ref 47), (3, .ref 698), (4, .int s1.1)]) (S' := [.int (lg_cmp v270 (w268.1.toInt64))]) (h' := (hh X w261.2.2 w268.2)) rfl ?_
          refine Go_cmz rfl rfl rfl ?_ ?_
          ·
            refine Go_blk 3 (pc' := 23) (L' := [(4, .int (s1.1 + (7 : Int32))), (6, .int w268.1), (5, .int w261.1), (0, .ref 1000000), (1, .ref 0), (2, .ref 47), (3, .ref 698)]) (S' := []) (h' := (hh X w261.2.2 w268.2)) rfl ?_
            exact Go_jmp [(0, .ref 1000000), (1, .ref 0), (2, .ref 47), (3, .ref 698), (4, .int (s1.1 + (7 : Int32)))] rfl ⟨rfl, rfl, rfl, rfl, rfl, trivial⟩ (fun _ h => h)
          ·
            refine Go_inrS ?_
            refine Go_blk 1 (pc' := 2491) (L' := [(6, .int w268.1), (5, .int w261.1), (0, .ref 1000000), (1, .ref 0), (2, .ref 47), (3, .ref 698), (4, .int s1.1)]) (S' := [.int (0 : Int32)]) (h' := (hh X w261.2.2 w268.2)) rfl ?_
            exact Go_ret (fun _ h => h) rfl
        ·
          refine Go_blk 3 (pc' := 23) (L' := [(4, .int (s1.1 + (7 : Int32))), (6, .int w268.1), (5, .int w261.1), (0, .ref 1000000), (1, .ref 0), (2, .ref 47), (3, .ref 698)]) (S' := []) (h' := (hh X w261.2.2 w268.2)) rfl ?_
          exact Go_jmp [(0, .ref 1000000), (1, .ref 0), (2, .ref 47), (3, .ref 698), (4, .int (s1.1 + (7 : Int32)))] rfl ⟨rfl, rfl, rfl, rfl, rfl, trivial⟩ (fun _ h => h)
      ·
        refine Go_inrS ?_
        refine Go_blk 1 (pc' := 2474) (L' := [(6, .int w268.1), (5, .int w261.1), (0, .ref 1000000), (1, .ref 0), (2, .ref 47), (3, .ref 698), (4, .int s1.1)]) (S' := [.int (0 : Int32)]) (h' := (hh X w261.2.2 w268.2)) rfl ?_
        exact Go_ret (fun _ h => h) rfl
    refine Go_sw ?_ fun h37 => ?_
    ·
      refine Go_blk 1 (pc' := 2495) (L' := [(0, .ref 1000000), (1, .ref 0), (2, .ref 47), (3, .ref 698), (4, .int s1.1)]) (S' := []) (h' := (hh X s1.2.2 s1.2.1)) rfl ?_
      refine Go_blk 1 (pc' := 2496) (L' := [(0, .ref 1000000), (1, .ref 0), (2, .ref 47), (3, .ref 698), (4, .int s1.1)]) (S' := [.ref 0]) (h' := (hh X s1.2.2 s1.2.1)) rfl ?_
      refine Go_cW (y' := 29) (As := [.ref 0]) (r := []) rfl (g_x_image29  (by omega)) fun w271 => ?_
      refine Go_blk 1 (pc' := 2500) (L' := [(0, .ref 1000000), (1, .ref 0), (2, .ref 47), (3, .ref 698), (4, .int s1.1)]) (S' := [.ref 47, .int w271.1]) (h' := (hh X s1.2.2 w271.2)) rfl ?_
      refine Go_cW (y' := 380) (As := [.ref 47]) (r := [.int w271.1]) rfl (g_m_image380  (by omega)) fun w272 => ?_
      refine Go_cmp rfl rfl rfl ?_ ?_
      ·
        refine Go_blk 2 (pc' := 23) (L' := [(4, .int (s1.1 + (7 : Int32))), (0, .ref 1000000), (1, .ref 0), (2, .ref 47), (3, .ref 698)]) (S' := []) (h' := (hh X s1.2.2 w272.2)) rfl ?_
        exact Go_jmp [(0, .ref 1000000), (1, .ref 0), (2, .ref 47), (3, .ref 698), (4, .int (s1.1 + (7 : Int32)))] rfl ⟨rfl, rfl, rfl, rfl, rfl, trivial⟩ (fun _ h => h)
      ·
        refine Go_inrS ?_
        refine Go_blk 1 (pc' := 2507) (L' := [(0, .ref 1000000), (1, .ref 0), (2, .ref 47), (3, .ref 698), (4, .int s1.1)]) (S' := [.int (0 : Int32)]) (h' := (hh X s1.2.2 w272.2)) rfl ?_
        exact Go_ret (fun _ h => h) rfl
    refine Go_sw ?_ fun h38 => ?_
    ·
      refine Go_blk 1 (pc' := 2508) (L' := [(0, .ref 1000000), (1, .ref 0), (2, .ref 47), (3, .ref 698), (4, .int s1.1)]) (S' := []) (h' := (hh X s1.2.2 s1.2.1)) rfl ?_
      refine Go_blk 1 (pc' := 2509) (L' := [(0, .ref 1000000), (1, .ref 0), (2, .ref 47), (3, .ref 698), (4, .int s1.1)]) (S' := [.ref 0]) (h' := (hh X s1.2.2 s1.2.1)) rfl ?_
      refine Go_cW (y' := 31) (As := [.ref 0]) (r := []) rfl (g_x_restore31  (by omega)) fun w273 => ?_
      refine Go_blk 1 (pc' := 2513) (L' := [(0, .ref 1000000), (1, .ref 0), (2, .ref 47), (3, .ref 698), (4, .int s1.1)]) (S' := [.ref 47, .int w273.1]) (h' := (hh X s1.2.2 w273.2)) rfl ?_
      refine Go_cW (y' := 383) (As := [.ref 47]) (r := [.int w273.1]) rfl (g_m_restore383  (by omega)) fun w274 => ?_
      refine Go_cmp rfl rfl rfl ?_ ?_
      ·
        refine Go_blk 2 (pc' := 23) (L' := [(4, .int (s1.1 + (7 : Int32))), (0, .ref 1000000), (1, .ref 0), (2, .ref 47), (3, .ref 698)]) (S' := []) (h' := (hh X s1.2.2 w274.2)) rfl ?_
        exact Go_jmp [(0, .ref 1000000), (1, .ref 0), (2, .ref 47), (3, .ref 698), (4, .int (s1.1 + (7 : Int32)))] rfl ⟨rfl, rfl, rfl, rfl, rfl, trivial⟩ (fun _ h => h)
      ·
        refine Go_inrS ?_
        refine Go_blk 1 (pc' := 2520) (L' := [(0, .ref 1000000), (1, .ref 0), (2, .ref 47), (3, .ref 698), (4, .int s1.1)]) (S' := [.int (0 : Int32)]) (h' := (hh X s1.2.2 w274.2)) rfl ?_
        exact Go_ret (fun _ h => h) rfl
    refine Go_sw ?_ fun h39 => ?_
    ·
      refine Go_blk 1 (pc' := 2521) (L' := [(0, .ref 1000000), (1, .ref 0), (2, .ref 47), (3, .ref 698), (4, .int s1.1)]) (S' := []) (h' := (hh X s1.2.2 s1.2.1)) rfl ?_
      refine Go_blk 5 (pc' := 2527) (L' := [(0, .ref 1000000), (1, .ref 0), (2, .ref 47), (3, .ref 698), (4, .int s1.1)]) (S' := [.int (s1.1 + (1 : Int32)), .ref 1000000, .ref 0]) (h' := (hh X s1.2.2 s1.2.1)) rfl ?_
      refine Go_ialds rfl fun v275 => ?_
      refine Go_cR (y' := 33) (As := [.ref 0, .int v275]) (r := []) rfl (g_x_status33 v275 (by omega)) fun v276 => ?_
      refine Go_blk 5 (pc' := 2537) (L' := [(0, .ref 1000000), (1, .ref 0), (2, .ref 47), (3, .ref 698), (4, .int s1.1)]) (S' := [.int (s1.1 + (1 : Int32)), .ref 1000000, .ref 47, .int v276]) (h' := (hh X s1.2.2 s1.2.1)) rfl ?_
      refine Go_ialds rfl fun v277 => ?_
      refine Go_cW (y' := 384) (As := [.ref 47, .int v277]) (r := [.int v276]) rfl (g_m_status384 v277 (by omega)) fun w278 => ?_
      refine Go_cmp rfl rfl rfl ?_ ?_
      ·
        refine Go_blk 2 (pc' := 23) (L' := [(4, .int (s1.1 + (7 : Int32))), (0, .ref 1000000), (1, .ref 0), (2, .ref 47), (3, .ref 698)]) (S' := []) (h' := (hh X s1.2.2 w278.2)) rfl ?_
        exact Go_jmp [(0, .ref 1000000), (1, .ref 0), (2, .ref 47), (3, .ref 698), (4, .int (s1.1 + (7 : Int32)))] rfl ⟨rfl, rfl, rfl, rfl, rfl, trivial⟩ (fun _ h => h)
      ·
        refine Go_inrS ?_
        refine Go_blk 1 (pc' := 2545) (L' := [(0, .ref 1000000), (1, .ref 0), (2, .ref 47), (3, .ref 698), (4, .int s1.1)]) (S' := [.int (0 : Int32)]) (h' := (hh X s1.2.2 w278.2)) rfl ?_
        exact Go_ret (fun _ h => h) rfl
    refine Go_sw ?_ fun h40 => ?_
    ·
      refine Go_blk 1 (pc' := 2546) (L' := [(0, .ref 1000000), (1, .ref 0), (2, .ref 47), (3, .ref 698), (4, .int s1.1)]) (S' := []) (h' := (hh X s1.2.2 s1.2.1)) rfl ?_
      refine Go_blk 5 (pc' := 2552) (L' := [(0, .ref 1000000), (1, .ref 0), (2, .ref 47), (3, .ref 698), (4, .int s1.1)]) (S' := [.int (s1.1 + (1 : Int32)), .ref 1000000, .ref 0]) (h' := (hh X s1.2.2 s1.2.1)) rfl ?_
      refine Go_ialds rfl fun v279 => ?_
      refine Go_cR (y' := 34) (As := [.ref 0, .int v279]) (r := []) rfl (g_x_count34 v279 (by omega)) fun v280 => ?_
      refine Go_blk 5 (pc' := 2562) (L' := [(0, .ref 1000000), (1, .ref 0), (2, .ref 47), (3, .ref 698), (4, .int s1.1)]) (S' := [.int (s1.1 + (1 : Int32)), .ref 1000000, .ref 47, .int v280]) (h' := (hh X s1.2.2 s1.2.1)) rfl ?_
      refine Go_ialds rfl fun v281 => ?_
      refine Go_cW (y' := 385) (As := [.ref 47, .int v281]) (r := [.int v280]) rfl (g_m_count385 v281 (by omega)) fun w282 => ?_
      refine Go_cmp rfl rfl rfl ?_ ?_
      ·
        refine Go_blk 2 (pc' := 23) (L' := [(4, .int (s1.1 + (7 : Int32))), (0, .ref 1000000), (1, .ref 0), (2, .ref 47), (3, .ref 698)]) (S' := []) (h' := (hh X s1.2.2 w282.2)) rfl ?_
        exact Go_jmp [(0, .ref 1000000), (1, .ref 0), (2, .ref 47), (3, .ref 698), (4, .int (s1.1 + (7 : Int32)))] rfl ⟨rfl, rfl, rfl, rfl, rfl, trivial⟩ (fun _ h => h)
      ·
        refine Go_inrS ?_
        refine Go_blk 1 (pc' := 2570) (L' := [(0, .ref 1000000), (1, .ref 0), (2, .ref 47), (3, .ref 698), (4, .int s1.1)]) (S' := [.int (0 : Int32)]) (h' := (hh X s1.2.2 w282.2)) rfl ?_
        exact Go_ret (fun _ h => h) rfl
    refine Go_swd (t := 2571) 41 rfl (by decide) (by decide) (by decide) ⟨⟨⟨⟨⟨⟨⟨⟨⟨⟨⟨⟨⟨⟨⟨⟨⟨⟨⟨⟨⟨⟨⟨⟨⟨⟨⟨⟨⟨⟨⟨⟨⟨⟨⟨⟨⟨⟨⟨⟨⟨trivial, h0⟩, h1⟩, h2⟩, h3⟩, h4⟩, h5⟩, h6⟩, h7⟩, h8⟩, h9⟩, h10⟩, h11⟩, h12⟩, h13⟩, h14⟩, h15⟩, h16⟩, h17⟩, h18⟩, h19⟩, h20⟩, h21⟩, h22⟩, h23⟩, h24⟩, h25⟩, h26⟩, h27⟩, h28⟩, h29⟩, h30⟩, h31⟩, h32⟩, h33⟩, h34⟩, h35⟩, h36⟩, h37⟩, h38⟩, h39⟩, h40⟩ rfl ?_
    refine Go_blk 2 (pc' := 23) (L' := [(4, .int (s1.1 + (7 : Int32))), (0, .ref 1000000), (1, .ref 0), (2, .ref 47), (3, .ref 698)]) (S' := []) (h' := (hh X s1.2.2 s1.2.1)) rfl ?_
    exact Go_jmp [(0, .ref 1000000), (1, .ref 0), (2, .ref 47), (3, .ref 698), (4, .int (s1.1 + (7 : Int32)))] rfl ⟨rfl, rfl, rfl, rfl, rfl, trivial⟩ (fun _ h => h)
