/-! the law's loop (written by wip/whole/dec_law.py) -/
set_option maxRecDepth 1000000 in
set_option maxHeartbeats 4000000 in
theorem g_l_law386  {X : XX} {g : GG} {I : MJ} {d : Nat} (hd : 86 ≤ d) : Go d 386 23 [(0, .ref 1000000), (1, .ref 0), (2, .ref 47), (3, .ref 698), (4, .int (0 : Int32))] [] (hh X g I) (f_l_law386 X  I g) (pG X) := by
  obtain ⟨d, rfl⟩ : ∃ k, d = k + 1 := ⟨d - 1, by omega⟩
  unfold f_l_law386
  refine Go_lcs [(0, .ref 1000000), (1, .ref 0), (2, .ref 47), (3, .ref 698), (4, .int (0 : Int32))] rfl ⟨rfl, rfl, rfl, rfl, rfl, trivial⟩ ?_
  refine Go_wh (fun (s1 : Int32 × MJ × GG) => [(0, .ref 1000000), (1, .ref 0), (2, .ref 47), (3, .ref 698), (4, .int s1.1)]) (fun _ => []) (fun (s1 : Int32 × MJ × GG) => (hh X s1.2.2 s1.2.1)) (fun s1 => ?_) ((0 : Int32), I, g)
  refine Go_blk 2 (pc' := 26) (L' := [(0, .ref 1000000), (1, .ref 0), (2, .ref 47), (3, .ref 698), (4, .int s1.1)]) (S' := [.ref 1000000, .int s1.1]) (h' := (hh X s1.2.2 s1.2.1)) (ab_blkD_ok rfl) ?_
  refine Go_alens (dl_ok rfl) ?_
  refine Go_blk 2 (pc' := 30) (L' := [(0, .ref 1000000), (1, .ref 0), (2, .ref 47), (3, .ref 698), (4, .int s1.1)]) (S' := [.int ((Int32.ofNat X.1) - (7 : Int32)), .int s1.1]) (h' := (hh X s1.2.2 s1.2.1)) (ab_blkD_ok rfl) ?_
  refine Go_cmp (dl_ok rfl) rfl rfl ?_ ?_
  ·
    refine Go_inrS ?_
    refine Go_blk 1 (pc' := 2578) (L' := [(0, .ref 1000000), (1, .ref 0), (2, .ref 47), (3, .ref 698), (4, .int s1.1)]) (S' := [.int (1 : Int32)]) (h' := (hh X s1.2.2 s1.2.1)) (ab_blkD_ok rfl) ?_
    exact Go_ret (fun _ h => h) (ab_enD_ok rfl)
  ·
    refine Go_blk 2 (pc' := 36) (L' := [(0, .ref 1000000), (1, .ref 0), (2, .ref 47), (3, .ref 698), (4, .int s1.1)]) (S' := [.int s1.1, .ref 1000000]) (h' := (hh X s1.2.2 s1.2.1)) (ab_blkD_ok rfl) ?_
    refine Go_ialds (dl_ok rfl) fun v2 => ?_
    refine Go_blk 2 (pc' := 40) (L' := [(0, .ref 1000000), (1, .ref 0), (2, .ref 47), (3, .ref 698), (4, .int s1.1)]) (S' := [.int (v2 &&& (63 : Int32))]) (h' := (hh X s1.2.2 s1.2.1)) (ab_blkD_ok rfl) ?_
    refine Go_sw ?_ fun h0 => ?_
    · exact Go_blk 1 (pc' := 220) (L' := [(0, .ref 1000000), (1, .ref 0), (2, .ref 47), (3, .ref 698), (4, .int s1.1)]) (S' := []) (h' := (hh X s1.2.2 s1.2.1)) (ab_blkD_ok rfl) (Go_mono (gl_c0 (X := X) (i := s1.1) (I := s1.2.1) (g := s1.2.2) hd) (fun b x h => by cases b <;> exact h))
    refine Go_sw ?_ fun h1 => ?_
    · exact Go_blk 1 (pc' := 293) (L' := [(0, .ref 1000000), (1, .ref 0), (2, .ref 47), (3, .ref 698), (4, .int s1.1)]) (S' := []) (h' := (hh X s1.2.2 s1.2.1)) (ab_blkD_ok rfl) (Go_mono (gl_c1 (X := X) (i := s1.1) (I := s1.2.1) (g := s1.2.2) hd) (fun b x h => by cases b <;> exact h))
    refine Go_sw ?_ fun h2 => ?_
    · exact Go_blk 1 (pc' := 349) (L' := [(0, .ref 1000000), (1, .ref 0), (2, .ref 47), (3, .ref 698), (4, .int s1.1)]) (S' := []) (h' := (hh X s1.2.2 s1.2.1)) (ab_blkD_ok rfl) (Go_mono (gl_c2 (X := X) (i := s1.1) (I := s1.2.1) (g := s1.2.2) hd) (fun b x h => by cases b <;> exact h))
    refine Go_sw ?_ fun h3 => ?_
    · exact Go_blk 1 (pc' := 417) (L' := [(0, .ref 1000000), (1, .ref 0), (2, .ref 47), (3, .ref 698), (4, .int s1.1)]) (S' := []) (h' := (hh X s1.2.2 s1.2.1)) (ab_blkD_ok rfl) (Go_mono (gl_c3 (X := X) (i := s1.1) (I := s1.2.1) (g := s1.2.2) hd) (fun b x h => by cases b <;> exact h))
    refine Go_sw ?_ fun h4 => ?_
    · exact Go_blk 1 (pc' := 473) (L' := [(0, .ref 1000000), (1, .ref 0), (2, .ref 47), (3, .ref 698), (4, .int s1.1)]) (S' := []) (h' := (hh X s1.2.2 s1.2.1)) (ab_blkD_ok rfl) (Go_mono (gl_c4 (X := X) (i := s1.1) (I := s1.2.1) (g := s1.2.2) hd) (fun b x h => by cases b <;> exact h))
    refine Go_sw ?_ fun h5 => ?_
    · exact Go_blk 1 (pc' := 529) (L' := [(0, .ref 1000000), (1, .ref 0), (2, .ref 47), (3, .ref 698), (4, .int s1.1)]) (S' := []) (h' := (hh X s1.2.2 s1.2.1)) (ab_blkD_ok rfl) (Go_mono (gl_c5 (X := X) (i := s1.1) (I := s1.2.1) (g := s1.2.2) hd) (fun b x h => by cases b <;> exact h))
    refine Go_sw ?_ fun h6 => ?_
    · exact Go_blk 1 (pc' := 585) (L' := [(0, .ref 1000000), (1, .ref 0), (2, .ref 47), (3, .ref 698), (4, .int s1.1)]) (S' := []) (h' := (hh X s1.2.2 s1.2.1)) (ab_blkD_ok rfl) (Go_mono (gl_c6 (X := X) (i := s1.1) (I := s1.2.1) (g := s1.2.2) hd) (fun b x h => by cases b <;> exact h))
    refine Go_sw ?_ fun h7 => ?_
    · exact Go_blk 1 (pc' := 598) (L' := [(0, .ref 1000000), (1, .ref 0), (2, .ref 47), (3, .ref 698), (4, .int s1.1)]) (S' := []) (h' := (hh X s1.2.2 s1.2.1)) (ab_blkD_ok rfl) (Go_mono (gl_c7 (X := X) (i := s1.1) (I := s1.2.1) (g := s1.2.2) hd) (fun b x h => by cases b <;> exact h))
    refine Go_sw ?_ fun h8 => ?_
    · exact Go_blk 1 (pc' := 611) (L' := [(0, .ref 1000000), (1, .ref 0), (2, .ref 47), (3, .ref 698), (4, .int s1.1)]) (S' := []) (h' := (hh X s1.2.2 s1.2.1)) (ab_blkD_ok rfl) (Go_mono (gl_c8 (X := X) (i := s1.1) (I := s1.2.1) (g := s1.2.2) hd) (fun b x h => by cases b <;> exact h))
    refine Go_sw ?_ fun h9 => ?_
    · exact Go_blk 1 (pc' := 667) (L' := [(0, .ref 1000000), (1, .ref 0), (2, .ref 47), (3, .ref 698), (4, .int s1.1)]) (S' := []) (h' := (hh X s1.2.2 s1.2.1)) (ab_blkD_ok rfl) (Go_mono (gl_c9 (X := X) (i := s1.1) (I := s1.2.1) (g := s1.2.2) hd) (fun b x h => by cases b <;> exact h))
    refine Go_sw ?_ fun h10 => ?_
    · exact Go_blk 1 (pc' := 735) (L' := [(0, .ref 1000000), (1, .ref 0), (2, .ref 47), (3, .ref 698), (4, .int s1.1)]) (S' := []) (h' := (hh X s1.2.2 s1.2.1)) (ab_blkD_ok rfl) (Go_mono (gl_c10 (X := X) (i := s1.1) (I := s1.2.1) (g := s1.2.2) hd) (fun b x h => by cases b <;> exact h))
    refine Go_sw ?_ fun h11 => ?_
    · exact Go_blk 1 (pc' := 803) (L' := [(0, .ref 1000000), (1, .ref 0), (2, .ref 47), (3, .ref 698), (4, .int s1.1)]) (S' := []) (h' := (hh X s1.2.2 s1.2.1)) (ab_blkD_ok rfl) (Go_mono (gl_c11 (X := X) (i := s1.1) (I := s1.2.1) (g := s1.2.2) hd) (fun b x h => by cases b <;> exact h))
    refine Go_sw ?_ fun h12 => ?_
    · exact Go_blk 1 (pc' := 871) (L' := [(0, .ref 1000000), (1, .ref 0), (2, .ref 47), (3, .ref 698), (4, .int s1.1)]) (S' := []) (h' := (hh X s1.2.2 s1.2.1)) (ab_blkD_ok rfl) (Go_mono (gl_c12 (X := X) (i := s1.1) (I := s1.2.1) (g := s1.2.2) hd) (fun b x h => by cases b <;> exact h))
    refine Go_sw ?_ fun h13 => ?_
    · exact Go_blk 1 (pc' := 939) (L' := [(0, .ref 1000000), (1, .ref 0), (2, .ref 47), (3, .ref 698), (4, .int s1.1)]) (S' := []) (h' := (hh X s1.2.2 s1.2.1)) (ab_blkD_ok rfl) (Go_mono (gl_c13 (X := X) (i := s1.1) (I := s1.2.1) (g := s1.2.2) hd) (fun b x h => by cases b <;> exact h))
    refine Go_sw ?_ fun h14 => ?_
    · exact Go_blk 1 (pc' := 1007) (L' := [(0, .ref 1000000), (1, .ref 0), (2, .ref 47), (3, .ref 698), (4, .int s1.1)]) (S' := []) (h' := (hh X s1.2.2 s1.2.1)) (ab_blkD_ok rfl) (Go_mono (gl_c14 (X := X) (i := s1.1) (I := s1.2.1) (g := s1.2.2) hd) (fun b x h => by cases b <;> exact h))
    refine Go_sw ?_ fun h15 => ?_
    · exact Go_blk 1 (pc' := 1075) (L' := [(0, .ref 1000000), (1, .ref 0), (2, .ref 47), (3, .ref 698), (4, .int s1.1)]) (S' := []) (h' := (hh X s1.2.2 s1.2.1)) (ab_blkD_ok rfl) (Go_mono (gl_c15 (X := X) (i := s1.1) (I := s1.2.1) (g := s1.2.2) hd) (fun b x h => by cases b <;> exact h))
    refine Go_sw ?_ fun h16 => ?_
    · exact Go_blk 1 (pc' := 1143) (L' := [(0, .ref 1000000), (1, .ref 0), (2, .ref 47), (3, .ref 698), (4, .int s1.1)]) (S' := []) (h' := (hh X s1.2.2 s1.2.1)) (ab_blkD_ok rfl) (Go_mono (gl_c16 (X := X) (i := s1.1) (I := s1.2.1) (g := s1.2.2) hd) (fun b x h => by cases b <;> exact h))
    refine Go_sw ?_ fun h17 => ?_
    · exact Go_blk 1 (pc' := 1218) (L' := [(0, .ref 1000000), (1, .ref 0), (2, .ref 47), (3, .ref 698), (4, .int s1.1)]) (S' := []) (h' := (hh X s1.2.2 s1.2.1)) (ab_blkD_ok rfl) (Go_mono (gl_c17 (X := X) (i := s1.1) (I := s1.2.1) (g := s1.2.2) hd) (fun b x h => by cases b <;> exact h))
    refine Go_sw ?_ fun h18 => ?_
    · exact Go_blk 1 (pc' := 1281) (L' := [(0, .ref 1000000), (1, .ref 0), (2, .ref 47), (3, .ref 698), (4, .int s1.1)]) (S' := []) (h' := (hh X s1.2.2 s1.2.1)) (ab_blkD_ok rfl) (Go_mono (gl_c18 (X := X) (i := s1.1) (I := s1.2.1) (g := s1.2.2) hd) (fun b x h => by cases b <;> exact h))
    refine Go_sw ?_ fun h19 => ?_
    · exact Go_blk 1 (pc' := 1337) (L' := [(0, .ref 1000000), (1, .ref 0), (2, .ref 47), (3, .ref 698), (4, .int s1.1)]) (S' := []) (h' := (hh X s1.2.2 s1.2.1)) (ab_blkD_ok rfl) (Go_mono (gl_c19 (X := X) (i := s1.1) (I := s1.2.1) (g := s1.2.2) hd) (fun b x h => by cases b <;> exact h))
    refine Go_sw ?_ fun h20 => ?_
    · exact Go_blk 1 (pc' := 1405) (L' := [(0, .ref 1000000), (1, .ref 0), (2, .ref 47), (3, .ref 698), (4, .int s1.1)]) (S' := []) (h' := (hh X s1.2.2 s1.2.1)) (ab_blkD_ok rfl) (Go_mono (gl_c20 (X := X) (i := s1.1) (I := s1.2.1) (g := s1.2.2) hd) (fun b x h => by cases b <;> exact h))
    refine Go_sw ?_ fun h21 => ?_
    · exact Go_blk 1 (pc' := 1461) (L' := [(0, .ref 1000000), (1, .ref 0), (2, .ref 47), (3, .ref 698), (4, .int s1.1)]) (S' := []) (h' := (hh X s1.2.2 s1.2.1)) (ab_blkD_ok rfl) (Go_mono (gl_c21 (X := X) (i := s1.1) (I := s1.2.1) (g := s1.2.2) hd) (fun b x h => by cases b <;> exact h))
    refine Go_sw ?_ fun h22 => ?_
    · exact Go_blk 1 (pc' := 1529) (L' := [(0, .ref 1000000), (1, .ref 0), (2, .ref 47), (3, .ref 698), (4, .int s1.1)]) (S' := []) (h' := (hh X s1.2.2 s1.2.1)) (ab_blkD_ok rfl) (Go_mono (gl_c22 (X := X) (i := s1.1) (I := s1.2.1) (g := s1.2.2) hd) (fun b x h => by cases b <;> exact h))
    refine Go_sw ?_ fun h23 => ?_
    · exact Go_blk 1 (pc' := 1585) (L' := [(0, .ref 1000000), (1, .ref 0), (2, .ref 47), (3, .ref 698), (4, .int s1.1)]) (S' := []) (h' := (hh X s1.2.2 s1.2.1)) (ab_blkD_ok rfl) (Go_mono (gl_c23 (X := X) (i := s1.1) (I := s1.2.1) (g := s1.2.2) hd) (fun b x h => by cases b <;> exact h))
    refine Go_sw ?_ fun h24 => ?_
    · exact Go_blk 1 (pc' := 1653) (L' := [(0, .ref 1000000), (1, .ref 0), (2, .ref 47), (3, .ref 698), (4, .int s1.1)]) (S' := []) (h' := (hh X s1.2.2 s1.2.1)) (ab_blkD_ok rfl) (Go_mono (gl_c24 (X := X) (i := s1.1) (I := s1.2.1) (g := s1.2.2) hd) (fun b x h => by cases b <;> exact h))
    refine Go_sw ?_ fun h25 => ?_
    · exact Go_blk 1 (pc' := 1709) (L' := [(0, .ref 1000000), (1, .ref 0), (2, .ref 47), (3, .ref 698), (4, .int s1.1)]) (S' := []) (h' := (hh X s1.2.2 s1.2.1)) (ab_blkD_ok rfl) (Go_mono (gl_c25 (X := X) (i := s1.1) (I := s1.2.1) (g := s1.2.2) hd) (fun b x h => by cases b <;> exact h))
    refine Go_sw ?_ fun h26 => ?_
    · exact Go_blk 1 (pc' := 1777) (L' := [(0, .ref 1000000), (1, .ref 0), (2, .ref 47), (3, .ref 698), (4, .int s1.1)]) (S' := []) (h' := (hh X s1.2.2 s1.2.1)) (ab_blkD_ok rfl) (Go_mono (gl_c26 (X := X) (i := s1.1) (I := s1.2.1) (g := s1.2.2) hd) (fun b x h => by cases b <;> exact h))
    refine Go_sw ?_ fun h27 => ?_
    · exact Go_blk 1 (pc' := 1833) (L' := [(0, .ref 1000000), (1, .ref 0), (2, .ref 47), (3, .ref 698), (4, .int s1.1)]) (S' := []) (h' := (hh X s1.2.2 s1.2.1)) (ab_blkD_ok rfl) (Go_mono (gl_c27 (X := X) (i := s1.1) (I := s1.2.1) (g := s1.2.2) hd) (fun b x h => by cases b <;> exact h))
    refine Go_sw ?_ fun h28 => ?_
    · exact Go_blk 1 (pc' := 1900) (L' := [(0, .ref 1000000), (1, .ref 0), (2, .ref 47), (3, .ref 698), (4, .int s1.1)]) (S' := []) (h' := (hh X s1.2.2 s1.2.1)) (ab_blkD_ok rfl) (Go_mono (gl_c28 (X := X) (i := s1.1) (I := s1.2.1) (g := s1.2.2) hd) (fun b x h => by cases b <;> exact h))
    refine Go_sw ?_ fun h29 => ?_
    · exact Go_blk 1 (pc' := 1956) (L' := [(0, .ref 1000000), (1, .ref 0), (2, .ref 47), (3, .ref 698), (4, .int s1.1)]) (S' := []) (h' := (hh X s1.2.2 s1.2.1)) (ab_blkD_ok rfl) (Go_mono (gl_c29 (X := X) (i := s1.1) (I := s1.2.1) (g := s1.2.2) hd) (fun b x h => by cases b <;> exact h))
    refine Go_sw ?_ fun h30 => ?_
    · exact Go_blk 1 (pc' := 2012) (L' := [(0, .ref 1000000), (1, .ref 0), (2, .ref 47), (3, .ref 698), (4, .int s1.1)]) (S' := []) (h' := (hh X s1.2.2 s1.2.1)) (ab_blkD_ok rfl) (Go_mono (gl_c30 (X := X) (i := s1.1) (I := s1.2.1) (g := s1.2.2) hd) (fun b x h => by cases b <;> exact h))
    refine Go_sw ?_ fun h31 => ?_
    · exact Go_blk 1 (pc' := 2025) (L' := [(0, .ref 1000000), (1, .ref 0), (2, .ref 47), (3, .ref 698), (4, .int s1.1)]) (S' := []) (h' := (hh X s1.2.2 s1.2.1)) (ab_blkD_ok rfl) (Go_mono (gl_c31 (X := X) (i := s1.1) (I := s1.2.1) (g := s1.2.2) hd) (fun b x h => by cases b <;> exact h))
    refine Go_sw ?_ fun h32 => ?_
    · exact Go_blk 1 (pc' := 2081) (L' := [(0, .ref 1000000), (1, .ref 0), (2, .ref 47), (3, .ref 698), (4, .int s1.1)]) (S' := []) (h' := (hh X s1.2.2 s1.2.1)) (ab_blkD_ok rfl) (Go_mono (gl_c32 (X := X) (i := s1.1) (I := s1.2.1) (g := s1.2.2) hd) (fun b x h => by cases b <;> exact h))
    refine Go_sw ?_ fun h33 => ?_
    · exact Go_blk 1 (pc' := 2137) (L' := [(0, .ref 1000000), (1, .ref 0), (2, .ref 47), (3, .ref 698), (4, .int s1.1)]) (S' := []) (h' := (hh X s1.2.2 s1.2.1)) (ab_blkD_ok rfl) (Go_mono (gl_c33 (X := X) (i := s1.1) (I := s1.2.1) (g := s1.2.2) hd) (fun b x h => by cases b <;> exact h))
    refine Go_sw ?_ fun h34 => ?_
    · exact Go_blk 1 (pc' := 2205) (L' := [(0, .ref 1000000), (1, .ref 0), (2, .ref 47), (3, .ref 698), (4, .int s1.1)]) (S' := []) (h' := (hh X s1.2.2 s1.2.1)) (ab_blkD_ok rfl) (Go_mono (gl_c34 (X := X) (i := s1.1) (I := s1.2.1) (g := s1.2.2) hd) (fun b x h => by cases b <;> exact h))
    refine Go_sw ?_ fun h35 => ?_
    · exact Go_blk 1 (pc' := 2285) (L' := [(0, .ref 1000000), (1, .ref 0), (2, .ref 47), (3, .ref 698), (4, .int s1.1)]) (S' := []) (h' := (hh X s1.2.2 s1.2.1)) (ab_blkD_ok rfl) (Go_mono (gl_c35 (X := X) (i := s1.1) (I := s1.2.1) (g := s1.2.2) hd) (fun b x h => by cases b <;> exact h))
    refine Go_sw ?_ fun h36 => ?_
    · exact Go_blk 1 (pc' := 2377) (L' := [(0, .ref 1000000), (1, .ref 0), (2, .ref 47), (3, .ref 698), (4, .int s1.1)]) (S' := []) (h' := (hh X s1.2.2 s1.2.1)) (ab_blkD_ok rfl) (Go_mono (gl_c36 (X := X) (i := s1.1) (I := s1.2.1) (g := s1.2.2) hd) (fun b x h => by cases b <;> exact h))
    refine Go_sw ?_ fun h37 => ?_
    · exact Go_blk 1 (pc' := 2495) (L' := [(0, .ref 1000000), (1, .ref 0), (2, .ref 47), (3, .ref 698), (4, .int s1.1)]) (S' := []) (h' := (hh X s1.2.2 s1.2.1)) (ab_blkD_ok rfl) (Go_mono (gl_c37 (X := X) (i := s1.1) (I := s1.2.1) (g := s1.2.2) hd) (fun b x h => by cases b <;> exact h))
    refine Go_sw ?_ fun h38 => ?_
    · exact Go_blk 1 (pc' := 2508) (L' := [(0, .ref 1000000), (1, .ref 0), (2, .ref 47), (3, .ref 698), (4, .int s1.1)]) (S' := []) (h' := (hh X s1.2.2 s1.2.1)) (ab_blkD_ok rfl) (Go_mono (gl_c38 (X := X) (i := s1.1) (I := s1.2.1) (g := s1.2.2) hd) (fun b x h => by cases b <;> exact h))
    refine Go_sw ?_ fun h39 => ?_
    · exact Go_blk 1 (pc' := 2521) (L' := [(0, .ref 1000000), (1, .ref 0), (2, .ref 47), (3, .ref 698), (4, .int s1.1)]) (S' := []) (h' := (hh X s1.2.2 s1.2.1)) (ab_blkD_ok rfl) (Go_mono (gl_c39 (X := X) (i := s1.1) (I := s1.2.1) (g := s1.2.2) hd) (fun b x h => by cases b <;> exact h))
    refine Go_sw ?_ fun h40 => ?_
    · exact Go_blk 1 (pc' := 2546) (L' := [(0, .ref 1000000), (1, .ref 0), (2, .ref 47), (3, .ref 698), (4, .int s1.1)]) (S' := []) (h' := (hh X s1.2.2 s1.2.1)) (ab_blkD_ok rfl) (Go_mono (gl_c40 (X := X) (i := s1.1) (I := s1.2.1) (g := s1.2.2) hd) (fun b x h => by cases b <;> exact h))
    exact Go_swd (t := 2571) 41 (dl_ok rfl) (by decide) (by decide) (by decide) ⟨⟨⟨⟨⟨⟨⟨⟨⟨⟨⟨⟨⟨⟨⟨⟨⟨⟨⟨⟨⟨⟨⟨⟨⟨⟨⟨⟨⟨⟨⟨⟨⟨⟨⟨⟨⟨⟨⟨⟨⟨trivial, h0⟩, h1⟩, h2⟩, h3⟩, h4⟩, h5⟩, h6⟩, h7⟩, h8⟩, h9⟩, h10⟩, h11⟩, h12⟩, h13⟩, h14⟩, h15⟩, h16⟩, h17⟩, h18⟩, h19⟩, h20⟩, h21⟩, h22⟩, h23⟩, h24⟩, h25⟩, h26⟩, h27⟩, h28⟩, h29⟩, h30⟩, h31⟩, h32⟩, h33⟩, h34⟩, h35⟩, h36⟩, h37⟩, h38⟩, h39⟩, h40⟩ rfl (Go_mono (gl_cd (X := X) (i := s1.1) (I := s1.2.1) (g := s1.2.2) hd) (fun b x h => by cases b <;> exact h))
