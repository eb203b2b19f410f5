/-! the machine runs them (written by wip/whole/dec.py) -/
set_option maxRecDepth 1000000 in
set_option maxHeartbeats 4000000 in
theorem g_m_years376 (p1 : Int32) (p2 : Int32) (p3 : Int32) (p4 : Int32) {X : XX} {g : GG} {I : MJ} {d : Nat} (hd : 6 ≤ d) : Go d 376 0 (lv_args 0 [.ref 47, .int p1, .int p2, .int p3, .int p4]) [] (hh X g I) (f_m_years376 p1 p2 p3 p4 I) (pW X g) := by
  obtain ⟨d, rfl⟩ : ∃ k, d = k + 1 := ⟨d - 1, by omega⟩
  unfold f_m_years376
  refine Go_blk 7 (pc' := 10) (L' := [(0, .ref 47), (1, .int p1), (2, .int p2), (3, .int p3), (4, .int p4)]) (S' := [.int (16 : Int32), .int (0 : Int32), .int p2, .ref 47]) (h' := (hh X g (ab_up1 I 47 0 (0 : Int32)))) rfl ?_
  refine Go_cR (y' := 264) (As := [.int p2, .int (0 : Int32), .int (16 : Int32)]) (r := [.ref 47]) rfl (g_m_in264 p2 (0 : Int32) (16 : Int32) (by omega)) fun v1 => ?_
  refine Go_seq (pcj := 41) (fun (b2 : Int32) => [(0, .ref 47), (1, .int p1), (2, .int p2), (3, .int p3), (4, .int p4)]) (fun (b2 : Int32) => [.int b2, .ref 47]) (fun (b2 : Int32) => (hh X g (ab_up1 I 47 0 (0 : Int32)))) (fun b2 => ?_) ?_
  ·
    refine Go_blk 2 (pc' := 43) (L' := [(0, .ref 47), (1, .int p1), (2, .int p2), (3, .int p3), (4, .int p4)]) (S' := [.int (1 : Int32), .int (1 : Int32), .int b2, .ref 47]) (h' := (hh X g (ab_up1 I 47 0 (0 : Int32)))) rfl ?_
    refine Go_cW (y' := 268) (As := [.ref 47, .int b2, .int (1 : Int32), .int (1 : Int32)]) (r := []) rfl (g_m_bad268 b2 (1 : Int32) (1 : Int32) (by omega)) fun w3 => ?_
    refine Go_cmz rfl rfl rfl ?_ ?_
    ·
      refine Go_blk 4 (pc' := 55) (L' := [(0, .ref 47), (1, .int p1), (2, .int p2), (3, .int p3), (4, .int p4)]) (S' := [.int p3, .int p2, .int p1, .ref 47]) (h' := (hh X g w3.2)) rfl ?_
      refine Go_cV (y' := 377) (As := [.ref 47, .int p1, .int p2, .int p3]) (r := []) rfl (g_m_shortens377 p1 p2 p3 (by omega)) fun I4 => ?_
      refine Go_blk 1 (pc' := 60) (L' := [(0, .ref 47), (1, .int p1), (2, .int p2), (3, .int p3), (4, .int p4)]) (S' := [.int p4]) (h' := (hh X g I4)) rfl ?_
      refine Go_cmzn rfl rfl rfl ?_ ?_
      ·
        refine Go_blk 3 (pc' := 68) (L' := [(0, .ref 47), (1, .int p1), (2, .int p2), (3, .int p3), (4, .int p4)]) (S' := [.ref 577, .ref 47]) (h' := (hh X g I4)) rfl ?_
        refine Go_cR (y' := 325) (As := [.ref 47, .ref 577]) (r := []) rfl (g_m_onBolts325 577 (by omega)) fun v5 => ?_
        exact Go_ret (fun _ h => h) rfl
      ·
        refine Go_blk 4 (pc' := 78) (L' := [(6, .int (0 : Int32)), (5, .int (0 : Int32)), (0, .ref 47), (1, .int p1), (2, .int p2), (3, .int p3), (4, .int p4)]) (S' := []) (h' := (hh X g I4)) rfl ?_
        refine Go_lcs [(0, .ref 47), (4, .int p4), (5, .int (0 : Int32)), (6, .int (0 : Int32))] rfl ⟨rfl, rfl, rfl, rfl, trivial⟩ ?_
        refine Go_seq (pcj := 131) (fun (b7 : Int32) => [(0, .ref 47), (4, .int p4), (5, .int b7)]) (fun (b7 : Int32) => []) (fun (b7 : Int32) => (hh X g I4)) (fun b7 => ?_) ?_
        ·
          refine Go_blk 2 (pc' := 134) (L' := [(6, .int (0 : Int32)), (0, .ref 47), (4, .int p4), (5, .int b7)]) (S' := []) (h' := (hh X g I4)) rfl ?_
          refine Go_lcs [(0, .ref 47), (4, .int p4), (5, .int b7), (6, .int (0 : Int32))] rfl ⟨rfl, rfl, rfl, rfl, trivial⟩ ?_
          refine Go_seq (pcj := 179) (fun (b9 : Int32) => [(5, .int b9)]) (fun (b9 : Int32) => []) (fun (b9 : Int32) => (hh X g I4)) (fun b9 => ?_) ?_
          ·
            refine Go_blk 1 (pc' := 181) (L' := [(5, .int b9)]) (S' := [.int b9]) (h' := (hh X g I4)) rfl ?_
            exact Go_ret (fun _ h => h) rfl
          ·
            refine Go_wh (fun (s8 : Int32 × Int32) => [(0, .ref 47), (4, .int p4), (5, .int s8.1), (6, .int s8.2)]) (fun _ => []) (fun (s8 : Int32 × Int32) => (hh X g I4)) (fun s8 => ?_) (b7, (0 : Int32))
            refine Go_blk 5 (pc' := 142) (L' := [(0, .ref 47), (4, .int p4), (5, .int s8.1), (6, .int s8.2)]) (S' := [.int (I4 51 0), .int s8.2]) (h' := (hh X g I4)) rfl ?_
            refine Go_cmpn rfl rfl (ab_cge _ _) ?_ ?_
            ·
              refine Go_blk 2 (pc' := 148) (L' := [(0, .ref 47), (4, .int p4), (5, .int s8.1), (6, .int s8.2)]) (S' := [.int (2 : Int32), .int p4]) (h' := (hh X g I4)) rfl ?_
              refine Go_cmpn rfl rfl rfl ?_ ?_
              ·
                refine Go_blk 6 (pc' := 161) (L' := [(0, .ref 47), (4, .int p4), (5, .int s8.1), (6, .int s8.2)]) (S' := [.int ((0 : Int32) + s8.2), .ref 577, .int s8.1]) (h' := (hh X g I4)) rfl ?_
                refine Go_iald rfl fun v10 => ?_
                refine Go_seq (pcj := 170) (fun (b11 : Int32) => [(0, .ref 47), (4, .int p4), (6, .int s8.2)]) (fun (b11 : Int32) => [.int b11, .int s8.1]) (fun (b11 : Int32) => (hh X g I4)) (fun b11 => ?_) ?_
                ·
                  refine Go_blk 4 (pc' := 134) (L' := [(6, .int (s8.2 + (1 : Int32))), (5, .int (s8.1 + b11)), (0, .ref 47), (4, .int p4)]) (S' := []) (h' := (hh X g I4)) rfl ?_
                  exact Go_jmp [(0, .ref 47), (4, .int p4), (5, .int (s8.1 + b11)), (6, .int (s8.2 + (1 : Int32)))] rfl ⟨rfl, rfl, rfl, rfl, trivial⟩ (fun _ h => h)
                ·
                  refine Go_cmzn rfl rfl rfl ?_ ?_
                  ·
                    refine Go_blk 2 (pc' := 170) (L' := [(0, .ref 47), (4, .int p4), (5, .int s8.1), (6, .int s8.2)]) (S' := [.int (1 : Int32), .int s8.1]) (h' := (hh X g I4)) rfl ?_
                    exact Go_jmp [(0, .ref 47), (4, .int p4), (6, .int s8.2)] rfl ⟨rfl, rfl, rfl, trivial⟩ (fun _ h => h)
                  ·
                    refine Go_blk 1 (pc' := 170) (L' := [(0, .ref 47), (4, .int p4), (5, .int s8.1), (6, .int s8.2)]) (S' := [.int (0 : Int32), .int s8.1]) (h' := (hh X g I4)) rfl ?_
                    exact Go_jmp [(0, .ref 47), (4, .int p4), (6, .int s8.2)] rfl ⟨rfl, rfl, rfl, trivial⟩ (fun _ h => h)
              ·
                exact Go_jmp [(5, .int s8.1)] rfl ⟨rfl, trivial⟩ (fun _ h => h)
            ·
              exact Go_jmp [(5, .int s8.1)] rfl ⟨rfl, trivial⟩ (fun _ h => h)
        ·
          refine Go_wh (fun (s6 : Int32 × Int32) => [(0, .ref 47), (4, .int p4), (5, .int s6.1), (6, .int s6.2)]) (fun _ => []) (fun (s6 : Int32 × Int32) => (hh X g I4)) (fun s6 => ?_) ((0 : Int32), (0 : Int32))
          refine Go_blk 5 (pc' := 86) (L' := [(0, .ref 47), (4, .int p4), (5, .int s6.1), (6, .int s6.2)]) (S' := [.int (I4 51 1), .int s6.2]) (h' := (hh X g I4)) rfl ?_
          refine Go_cmpn rfl rfl (ab_cge _ _) ?_ ?_
          ·
            refine Go_blk 2 (pc' := 92) (L' := [(0, .ref 47), (4, .int p4), (5, .int s6.1), (6, .int s6.2)]) (S' := [.int (1 : Int32), .int p4]) (h' := (hh X g I4)) rfl ?_
            refine Go_cmpn rfl rfl rfl ?_ ?_
            ·
              refine Go_blk 4 (pc' := 103) (L' := [(0, .ref 47), (4, .int p4), (5, .int s6.1), (6, .int s6.2)]) (S' := [.int s6.2, .ref 577, .int s6.1]) (h' := (hh X g I4)) rfl ?_
              refine Go_cR (y' := 305) (As := [.ref 577, .int s6.2]) (r := [.int s6.1]) rfl (g_m_hasSuit305 577 s6.2 (by omega)) fun v12 => ?_
              refine Go_seq (pcj := 122) (fun (b13 : Int32) => [(0, .ref 47), (4, .int p4), (6, .int s6.2)]) (fun (b13 : Int32) => [.int b13, .int s6.1]) (fun (b13 : Int32) => (hh X g I4)) (fun b13 => ?_) ?_
              ·
                refine Go_blk 4 (pc' := 78) (L' := [(6, .int (s6.2 + (1 : Int32))), (5, .int (s6.1 + b13)), (0, .ref 47), (4, .int p4)]) (S' := []) (h' := (hh X g I4)) rfl ?_
                exact Go_jmp [(0, .ref 47), (4, .int p4), (5, .int (s6.1 + b13)), (6, .int (s6.2 + (1 : Int32)))] rfl ⟨rfl, rfl, rfl, rfl, trivial⟩ (fun _ h => h)
              ·
                refine Go_cmz rfl rfl rfl ?_ ?_
                ·
                  refine Go_blk 1 (pc' := 122) (L' := [(0, .ref 47), (4, .int p4), (5, .int s6.1), (6, .int s6.2)]) (S' := [.int (0 : Int32), .int s6.1]) (h' := (hh X g I4)) rfl ?_
                  exact Go_jmp [(0, .ref 47), (4, .int p4), (6, .int s6.2)] rfl ⟨rfl, rfl, rfl, trivial⟩ (fun _ h => h)
                ·
                  refine Go_blk 3 (pc' := 115) (L' := [(0, .ref 47), (4, .int p4), (5, .int s6.1), (6, .int s6.2)]) (S' := [.int s6.2, .ref 577, .int s6.1]) (h' := (hh X g I4)) rfl ?_
                  refine Go_cR (y' := 330) (As := [.ref 577, .int s6.2]) (r := [.int s6.1]) rfl (g_m_bareOf330 577 s6.2 (by omega)) fun v14 => ?_
                  refine Go_blk 1 (pc' := 122) (L' := [(0, .ref 47), (4, .int p4), (5, .int s6.1), (6, .int s6.2)]) (S' := [.int v14, .int s6.1]) (h' := (hh X g I4)) rfl ?_
                  exact Go_jmp [(0, .ref 47), (4, .int p4), (6, .int s6.2)] rfl ⟨rfl, rfl, rfl, trivial⟩ (fun _ h => h)
            ·
              exact Go_jmp [(0, .ref 47), (4, .int p4), (5, .int s6.1)] rfl ⟨rfl, rfl, rfl, trivial⟩ (fun _ h => h)
          ·
            exact Go_jmp [(0, .ref 47), (4, .int p4), (5, .int s6.1)] rfl ⟨rfl, rfl, rfl, trivial⟩ (fun _ h => h)
    ·
      refine Go_blk 1 (pc' := 50) (L' := [(0, .ref 47), (1, .int p1), (2, .int p2), (3, .int p3), (4, .int p4)]) (S' := [.int (0 : Int32)]) (h' := (hh X g w3.2)) rfl ?_
      exact Go_ret (fun _ h => h) rfl
  ·
    refine Go_cmz rfl rfl rfl ?_ ?_
    ·
      refine Go_blk 2 (pc' := 41) (L' := [(0, .ref 47), (1, .int p1), (2, .int p2), (3, .int p3), (4, .int p4)]) (S' := [.int (1 : Int32), .ref 47]) (h' := (hh X g (ab_up1 I 47 0 (0 : Int32)))) rfl ?_
      exact Go_jmp [(0, .ref 47), (1, .int p1), (2, .int p2), (3, .int p3), (4, .int p4)] rfl ⟨rfl, rfl, rfl, rfl, rfl, trivial⟩ (fun _ h => h)
    ·
      refine Go_blk 3 (pc' := 20) (L' := [(0, .ref 47), (1, .int p1), (2, .int p2), (3, .int p3), (4, .int p4)]) (S' := [.int (60 : Int32), .int (1 : Int32), .int p3, .ref 47]) (h' := (hh X g (ab_up1 I 47 0 (0 : Int32)))) rfl ?_
      refine Go_cR (y' := 264) (As := [.int p3, .int (1 : Int32), .int (60 : Int32)]) (r := [.ref 47]) rfl (g_m_in264 p3 (1 : Int32) (60 : Int32) (by omega)) fun v15 => ?_
      refine Go_cmz rfl rfl rfl ?_ ?_
      ·
        refine Go_blk 2 (pc' := 41) (L' := [(0, .ref 47), (1, .int p1), (2, .int p2), (3, .int p3), (4, .int p4)]) (S' := [.int (1 : Int32), .ref 47]) (h' := (hh X g (ab_up1 I 47 0 (0 : Int32)))) rfl ?_
        exact Go_jmp [(0, .ref 47), (1, .int p1), (2, .int p2), (3, .int p3), (4, .int p4)] rfl ⟨rfl, rfl, rfl, rfl, rfl, trivial⟩ (fun _ h => h)
      ·
        refine Go_blk 3 (pc' := 30) (L' := [(0, .ref 47), (1, .int p1), (2, .int p2), (3, .int p3), (4, .int p4)]) (S' := [.int (2 : Int32), .int (0 : Int32), .int p4, .ref 47]) (h' := (hh X g (ab_up1 I 47 0 (0 : Int32)))) rfl ?_
        refine Go_cR (y' := 264) (As := [.int p4, .int (0 : Int32), .int (2 : Int32)]) (r := [.ref 47]) rfl (g_m_in264 p4 (0 : Int32) (2 : Int32) (by omega)) fun v16 => ?_
        refine Go_cmzn rfl rfl rfl ?_ ?_
        ·
          refine Go_blk 2 (pc' := 41) (L' := [(0, .ref 47), (1, .int p1), (2, .int p2), (3, .int p3), (4, .int p4)]) (S' := [.int (1 : Int32), .ref 47]) (h' := (hh X g (ab_up1 I 47 0 (0 : Int32)))) rfl ?_
          exact Go_jmp [(0, .ref 47), (1, .int p1), (2, .int p2), (3, .int p3), (4, .int p4)] rfl ⟨rfl, rfl, rfl, rfl, rfl, trivial⟩ (fun _ h => h)
        ·
          refine Go_blk 1 (pc' := 41) (L' := [(0, .ref 47), (1, .int p1), (2, .int p2), (3, .int p3), (4, .int p4)]) (S' := [.int (0 : Int32), .ref 47]) (h' := (hh X g (ab_up1 I 47 0 (0 : Int32)))) rfl ?_
          exact Go_jmp [(0, .ref 47), (1, .int p1), (2, .int p2), (3, .int p3), (4, .int p4)] rfl ⟨rfl, rfl, rfl, rfl, rfl, trivial⟩ (fun _ h => h)
set_option maxRecDepth 1000000 in
set_option maxHeartbeats 4000000 in
theorem g_x_span259 (p1 : Int32) (p2 : Int32) (p3 : Int32) (p4 : Int32) (p5 : Int32) (p6 : Int32) {X : XX} {g : GG} {I : MJ} {d : Nat} (hd : 4 ≤ d) : Go d 259 0 (lv_args 0 [.ref 0, .int p1, .int p2, .int p3, .int p4, .int p5, .int p6]) [] (hh X g I) (f_x_span259 p1 p2 p3 p4 p5 p6 I) (pT vI X g) := by
  obtain ⟨d, rfl⟩ : ∃ k, d = k + 1 := ⟨d - 1, by omega⟩
  unfold f_x_span259
  refine Go_blk 4 (pc' := 5) (L' := [(0, .ref 0), (1, .int p1), (2, .int p2), (3, .int p3), (4, .int p4), (5, .int p5), (6, .int p6)]) (S' := [.int (20 : Int32), .int (1 : Int32), .int p2, .ref 0]) (h' := (hh X g I)) rfl ?_
  refine Go_cT (y' := 38) (As := [.ref 0, .int p2, .int (1 : Int32), .int (20 : Int32)]) (r := []) rfl rfl (g_x_needWithin38 p2 (1 : Int32) (20 : Int32) (by omega)) fun v1 I2 => ?_
  refine Go_blk 4 (pc' := 14) (L' := [(0, .ref 0), (1, .int p1), (2, .int p2), (3, .int p3), (4, .int p4), (5, .int p5), (6, .int p6)]) (S' := [.int p5, .int p4, .int p3, .ref 0]) (h' := (hh X g I2)) rfl ?_
  refine Go_cT (y' := 252) (As := [.ref 0, .int p3, .int p4, .int p5]) (r := []) rfl rfl (g_x_needYears252 p3 p4 p5 (by omega)) fun v3 I4 => ?_
  refine Go_blk 8 (pc' := 30) (L' := [(0, .ref 0), (1, .int p1), (2, .int p2), (3, .int p3), (4, .int p4), (5, .int p5), (6, .int p6)]) (S' := [.int ((I4 3 8) - (1 : Int32)), .int (0 : Int32), .int p6, .ref 0]) (h' := (hh X g I4)) rfl ?_
  refine Go_cT (y' := 38) (As := [.ref 0, .int p6, .int (0 : Int32), .int ((I4 3 8) - (1 : Int32))]) (r := []) rfl rfl (g_x_needWithin38 p6 (0 : Int32) ((I4 3 8) - (1 : Int32)) (by omega)) fun v5 I6 => ?_
  refine Go_blk 8 (pc' := 47) (L' := [(10, .int (0 : Int32)), (9, .int (0 : Int32)), (8, .int (0 : Int32)), (7, .int (1000000 : Int32)), (0, .ref 0), (1, .int p1), (2, .int p2), (3, .int p3), (4, .int p4), (5, .int p5), (6, .int p6)]) (S' := []) (h' := (hh X g I6)) rfl ?_
  refine Go_lcs [(0, .ref 0), (1, .int p1), (2, .int p2), (3, .int p3), (4, .int p4), (5, .int p5), (6, .int p6), (7, .int (1000000 : Int32)), (8, .int (0 : Int32)), (9, .int (0 : Int32)), (10, .int (0 : Int32))] rfl ⟨rfl, rfl, rfl, rfl, rfl, rfl, rfl, rfl, rfl, rfl, rfl, trivial⟩ ?_
  refine Go_seq (pcj := 154) (fun (b8 : Int32 × Int32 × Int32 × MJ) => [(5, .int p5), (7, .int b8.1), (8, .int b8.2.1), (9, .int b8.2.2.1)]) (fun (b8 : Int32 × Int32 × Int32 × MJ) => []) (fun (b8 : Int32 × Int32 × Int32 × MJ) => (hh X g b8.2.2.2)) (fun b8 => ?_) ?_
  ·
    refine Go_blk 2 (pc' := 157) (L' := [(5, .int p5), (7, .int b8.1), (8, .int b8.2.1), (9, .int b8.2.2.1)]) (S' := [.int (2 : Int32), .int p5]) (h' := (hh X g b8.2.2.2)) rfl ?_
    refine Go_cmpn rfl rfl rfl ?_ ?_
    ·
      refine Go_blk 1 (pc' := 162) (L' := [(5, .int p5), (7, .int b8.1), (8, .int b8.2.1), (9, .int b8.2.2.1)]) (S' := [.int b8.2.2.1]) (h' := (hh X g b8.2.2.2)) rfl ?_
      exact Go_ret (fun _ h => h) rfl
    ·
      refine Go_blk 1 (pc' := 165) (L' := [(5, .int p5), (7, .int b8.1), (8, .int b8.2.1), (9, .int b8.2.2.1)]) (S' := [.int p5]) (h' := (hh X g b8.2.2.2)) rfl ?_
      refine Go_seq (pcj := 175) (fun (b9 : Int32) => []) (fun (b9 : Int32) => [.int b9]) (fun (b9 : Int32) => (hh X g b8.2.2.2)) (fun b9 => ?_) ?_
      ·
        exact Go_ret (fun _ h => h) rfl
      ·
        refine Go_cmzn rfl rfl rfl ?_ ?_
        ·
          refine Go_blk 2 (pc' := 175) (L' := [(5, .int p5), (7, .int b8.1), (8, .int b8.2.1), (9, .int b8.2.2.1)]) (S' := [.int b8.1]) (h' := (hh X g b8.2.2.2)) rfl ?_
          exact Go_jmp [] rfl trivial (fun _ h => h)
        ·
          refine Go_blk 1 (pc' := 175) (L' := [(5, .int p5), (7, .int b8.1), (8, .int b8.2.1), (9, .int b8.2.2.1)]) (S' := [.int b8.2.1]) (h' := (hh X g b8.2.2.2)) rfl ?_
          exact Go_jmp [] rfl trivial (fun _ h => h)
  ·
    refine Go_wh (fun (s7 : Int32 × Int32 × Int32 × Int32 × MJ) => [(0, .ref 0), (1, .int p1), (2, .int p2), (3, .int p3), (4, .int p4), (5, .int p5), (6, .int p6), (7, .int s7.1), (8, .int s7.2.1), (9, .int s7.2.2.1), (10, .int s7.2.2.2.1)]) (fun _ => []) (fun (s7 : Int32 × Int32 × Int32 × Int32 × MJ) => (hh X g s7.2.2.2.2)) (fun s7 => ?_) ((1000000 : Int32), (0 : Int32), (0 : Int32), (0 : Int32), I6)
    refine Go_blk 2 (pc' := 50) (L' := [(0, .ref 0), (1, .int p1), (2, .int p2), (3, .int p3), (4, .int p4), (5, .int p5), (6, .int p6), (7, .int s7.1), (8, .int s7.2.1), (9, .int s7.2.2.1), (10, .int s7.2.2.2.1)]) (S' := [.int p2, .int s7.2.2.2.1]) (h' := (hh X g s7.2.2.2.2)) rfl ?_
    refine Go_cmpn rfl rfl (ab_cge _ _) ?_ ?_
    ·
      refine Go_blk 4 (pc' := 61) (L' := [(0, .ref 0), (1, .int p1), (2, .int p2), (3, .int p3), (4, .int p4), (5, .int p5), (6, .int p6), (7, .int s7.1), (8, .int s7.2.1), (9, .int s7.2.2.1), (10, .int s7.2.2.2.1)]) (S' := [.ref 15, .ref 17]) (h' := (hh X g s7.2.2.2.2)) rfl ?_
      refine Go_cV (y' := 107) (As := [.ref 17, .ref 15]) (r := []) rfl (g_sta_copyFrom107_17_15  (by omega)) fun I10 => ?_
      refine Go_blk 9 (pc' := 79) (L' := [(0, .ref 0), (1, .int p1), (2, .int p2), (3, .int p3), (4, .int p4), (5, .int p5), (6, .int p6), (7, .int s7.1), (8, .int s7.2.1), (9, .int s7.2.2.1), (10, .int s7.2.2.2.1)]) (S' := [.int p4, .int p3, .int (p1 + s7.2.2.2.1), .ref 17, .ref 28]) (h' := (hh X g I10)) rfl ?_
      refine Go_cV (y' := 254) (As := [.ref 28, .ref 17, .int (p1 + s7.2.2.2.1), .int p3, .int p4]) (r := []) rfl (g_tra_shorten254 (p1 + s7.2.2.2.1) p3 p4 (by omega)) fun I11 => ?_
      refine Go_blk 3 (pc' := 88) (L' := [(0, .ref 0), (1, .int p1), (2, .int p2), (3, .int p3), (4, .int p4), (5, .int p5), (6, .int p6), (7, .int s7.1), (8, .int s7.2.1), (9, .int s7.2.2.1), (10, .int s7.2.2.2.1)]) (S' := [.ref 17, .int s7.1]) (h' := (hh X g I11)) rfl ?_
      refine Go_cR (y' := 142) (As := [.ref 17]) (r := [.int s7.1]) rfl (g_sta_hoursLeft142_17  (by omega)) fun v12 => ?_
      refine Go_blk 5 (pc' := 102) (L' := [(7, .int (if v12 < s7.1 then v12 else s7.1)), (0, .ref 0), (1, .int p1), (2, .int p2), (3, .int p3), (4, .int p4), (5, .int p5), (6, .int p6), (8, .int s7.2.1), (9, .int s7.2.2.1), (10, .int s7.2.2.2.1)]) (S' := [.ref 17, .int s7.2.1]) (h' := (hh X g I11)) rfl ?_
      refine Go_cR (y' := 142) (As := [.ref 17]) (r := [.int s7.2.1]) rfl (g_sta_hoursLeft142_17  (by omega)) fun v13 => ?_
      refine Go_blk 13 (pc' := 131) (L' := [(8, .int (if s7.2.1 < v13 then v13 else s7.2.1)), (7, .int (if v12 < s7.1 then v12 else s7.1)), (0, .ref 0), (1, .int p1), (2, .int p2), (3, .int p3), (4, .int p4), (5, .int p5), (6, .int p6), (9, .int s7.2.2.1), (10, .int s7.2.2.2.1)]) (S' := [.int (1 : Int32), .int p6, .ref 3, .ref 19, .ref 3, .ref 17, .int s7.2.2.1]) (h' := (hh X g I11)) rfl ?_
      refine Go_cR (y' := 123) (As := [.ref 3, .int p6, .int (1 : Int32)]) (r := [.ref 19, .ref 3, .ref 17, .int s7.2.2.1]) rfl (g_sho_orderPart123 p6 (1 : Int32) (by omega)) fun v14 => ?_
      refine Go_cW (y' := 109) (As := [.ref 17, .ref 3, .ref 19, .int v14]) (r := [.int s7.2.2.1]) rfl (g_sta_takePattern109 v14 (by omega)) fun w15 => ?_
      refine Go_seq (pcj := 145) (fun (b16 : Int32) => [(0, .ref 0), (1, .int p1), (2, .int p2), (3, .int p3), (4, .int p4), (5, .int p5), (6, .int p6), (7, .int (if v12 < s7.1 then v12 else s7.1)), (8, .int (if s7.2.1 < v13 then v13 else s7.2.1)), (10, .int s7.2.2.2.1)]) (fun (b16 : Int32) => [.int b16, .int s7.2.2.1]) (fun (b16 : Int32) => (hh X g w15.2)) (fun b16 => ?_) ?_
      ·
        refine Go_blk 4 (pc' := 47) (L' := [(10, .int (s7.2.2.2.1 + (1 : Int32))), (9, .int (s7.2.2.1 + b16)), (0, .ref 0), (1, .int p1), (2, .int p2), (3, .int p3), (4, .int p4), (5, .int p5), (6, .int p6), (7, .int (if v12 < s7.1 then v12 else s7.1)), (8, .int (if s7.2.1 < v13 then v13 else s7.2.1))]) (S' := []) (h' := (hh X g w15.2)) rfl ?_
        exact Go_jmp [(0, .ref 0), (1, .int p1), (2, .int p2), (3, .int p3), (4, .int p4), (5, .int p5), (6, .int p6), (7, .int (if v12 < s7.1 then v12 else s7.1)), (8, .int (if s7.2.1 < v13 then v13 else s7.2.1)), (9, .int (s7.2.2.1 + b16)), (10, .int (s7.2.2.2.1 + (1 : Int32)))] rfl ⟨rfl, rfl, rfl, rfl, rfl, rfl, rfl, rfl, rfl, rfl, rfl, trivial⟩ (fun _ h => h)
      ·
        refine Go_cmz rfl rfl rfl ?_ ?_
        ·
          refine Go_blk 1 (pc' := 145) (L' := [(8, .int (if s7.2.1 < v13 then v13 else s7.2.1)), (7, .int (if v12 < s7.1 then v12 else s7.1)), (0, .ref 0), (1, .int p1), (2, .int p2), (3, .int p3), (4, .int p4), (5, .int p5), (6, .int p6), (9, .int s7.2.2.1), (10, .int s7.2.2.2.1)]) (S' := [.int (0 : Int32), .int s7.2.2.1]) (h' := (hh X g w15.2)) rfl ?_
          exact Go_jmp [(0, .ref 0), (1, .int p1), (2, .int p2), (3, .int p3), (4, .int p4), (5, .int p5), (6, .int p6), (7, .int (if v12 < s7.1 then v12 else s7.1)), (8, .int (if s7.2.1 < v13 then v13 else s7.2.1)), (10, .int s7.2.2.2.1)] rfl ⟨rfl, rfl, rfl, rfl, rfl, rfl, rfl, rfl, rfl, rfl, trivial⟩ (fun _ h => h)
        ·
          refine Go_blk 2 (pc' := 145) (L' := [(8, .int (if s7.2.1 < v13 then v13 else s7.2.1)), (7, .int (if v12 < s7.1 then v12 else s7.1)), (0, .ref 0), (1, .int p1), (2, .int p2), (3, .int p3), (4, .int p4), (5, .int p5), (6, .int p6), (9, .int s7.2.2.1), (10, .int s7.2.2.2.1)]) (S' := [.int (1 : Int32), .int s7.2.2.1]) (h' := (hh X g w15.2)) rfl ?_
          exact Go_jmp [(0, .ref 0), (1, .int p1), (2, .int p2), (3, .int p3), (4, .int p4), (5, .int p5), (6, .int p6), (7, .int (if v12 < s7.1 then v12 else s7.1)), (8, .int (if s7.2.1 < v13 then v13 else s7.2.1)), (10, .int s7.2.2.2.1)] rfl ⟨rfl, rfl, rfl, rfl, rfl, rfl, rfl, rfl, rfl, rfl, trivial⟩ (fun _ h => h)
    ·
      exact Go_jmp [(5, .int p5), (7, .int s7.1), (8, .int s7.2.1), (9, .int s7.2.2.1)] rfl ⟨rfl, rfl, rfl, rfl, trivial⟩ (fun _ h => h)
set_option maxRecDepth 1000000 in
set_option maxHeartbeats 4000000 in
theorem g_l_span258 (p1 : Int32) (p2 : Int32) (p3 : Int32) (p4 : Int32) (p5 : Int32) (p6 : Int32) {X : XX} {g : GG} {I : MJ} {d : Nat} (hd : 5 ≤ d) : Go d 258 0 (lv_args 0 [.ref 0, .int p1, .int p2, .int p3, .int p4, .int p5, .int p6, .ref 698]) [] (hh X g I) (f_l_span258 p1 p2 p3 p4 p5 p6 I g) (pG X) := by
  obtain ⟨d, rfl⟩ : ∃ k, d = k + 1 := ⟨d - 1, by omega⟩
  unfold f_l_span258
  refine Go_blk 9 (pc' := 13) (L' := [(0, .ref 0), (1, .int p1), (2, .int p2), (3, .int p3), (4, .int p4), (5, .int p5), (6, .int p6), (7, .ref 698)]) (S' := [.int p6, .int p5, .int p4, .int p3, .int p2, .int p1, .ref 0, .int (0 : Int32), .ref 698]) (h' := (hh X g I)) rfl ?_
  refine Go_try (y' := 259) (As := [.ref 0, .int p1, .int p2, .int p3, .int p4, .int p5, .int p6]) (r := [.int (0 : Int32), .ref 698]) rfl (g_x_span259 p1 p2 p3 p4 p5 p6 (by omega)) (fun v1 I2 => ?_) (fun E2 I2 => ?_)
  ·
    refine Go_blk 1 (pc' := 17) (L' := [(0, .ref 0), (1, .int p1), (2, .int p2), (3, .int p3), (4, .int p4), (5, .int p5), (6, .int p6), (7, .ref 698)]) (S' := [.long (v1.toInt64), .int (0 : Int32), .ref 698]) (h' := (hh X g I2)) rfl ?_
    refine Go_last rfl fun g3 => ?_
    refine Go_blk 2 (pc' := 26) (L' := [(0, .ref 0), (1, .int p1), (2, .int p2), (3, .int p3), (4, .int p4), (5, .int p5), (6, .int p6), (7, .ref 698)]) (S' := [.int (0 : Int32)]) (h' := (hh X g3 I2)) rfl ?_
    exact Go_ret (fun _ h => h) rfl
  ·
    refine GX_ite ?_ ?_
    ·
      refine GX_go rfl (t := 23) (k := 8) rfl ?_
      refine Go_blk 1 (pc' := 24) (L' := [(0, .ref 0), (1, .int p1), (2, .int p2), (3, .int p3), (4, .int p4), (5, .int p5), (6, .int p6), (7, .ref 698)]) (S' := [.int (1 : Int32)]) (h' := (hh X (thr g) I2)) rfl ?_
      exact Go_ret (fun _ h => h) rfl
    exact GX_none
set_option maxRecDepth 1000000 in
set_option maxHeartbeats 4000000 in
theorem g_m_span379 (p1 : Int32) (p2 : Int32) (p3 : Int32) (p4 : Int32) (p5 : Int32) (p6 : Int32) {X : XX} {g : GG} {I : MJ} {d : Nat} (hd : 6 ≤ d) : Go d 379 0 (lv_args 0 [.ref 47, .int p1, .int p2, .int p3, .int p4, .int p5, .int p6]) [] (hh X g I) (f_m_span379 p1 p2 p3 p4 p5 p6 I) (pW X g) := by
  obtain ⟨d, rfl⟩ : ∃ k, d = k + 1 := ⟨d - 1, by omega⟩
  unfold f_m_span379
  refine Go_blk 7 (pc' := 10) (L' := [(0, .ref 47), (1, .int p1), (2, .int p2), (3, .int p3), (4, .int p4), (5, .int p5), (6, .int p6)]) (S' := [.int (20 : Int32), .int (1 : Int32), .int p2, .ref 47]) (h' := (hh X g (ab_up1 I 47 0 (0 : Int32)))) rfl ?_
  refine Go_cR (y' := 264) (As := [.int p2, .int (1 : Int32), .int (20 : Int32)]) (r := [.ref 47]) rfl (g_m_in264 p2 (1 : Int32) (20 : Int32) (by omega)) fun v1 => ?_
  refine Go_seq (pcj := 61) (fun (b2 : Int32) => [(0, .ref 47), (1, .int p1), (2, .int p2), (3, .int p3), (4, .int p4), (5, .int p5), (6, .int p6)]) (fun (b2 : Int32) => [.int b2, .ref 47]) (fun (b2 : Int32) => (hh X g (ab_up1 I 47 0 (0 : Int32)))) (fun b2 => ?_) ?_
  ·
    refine Go_blk 2 (pc' := 63) (L' := [(0, .ref 47), (1, .int p1), (2, .int p2), (3, .int p3), (4, .int p4), (5, .int p5), (6, .int p6)]) (S' := [.int (1 : Int32), .int (1 : Int32), .int b2, .ref 47]) (h' := (hh X g (ab_up1 I 47 0 (0 : Int32)))) rfl ?_
    refine Go_cW (y' := 268) (As := [.ref 47, .int b2, .int (1 : Int32), .int (1 : Int32)]) (r := []) rfl (g_m_bad268 b2 (1 : Int32) (1 : Int32) (by omega)) fun w3 => ?_
    refine Go_cmz rfl rfl rfl ?_ ?_
    ·
      refine Go_blk 8 (pc' := 83) (L' := [(10, .int (0 : Int32)), (9, .int (0 : Int32)), (8, .int (0 : Int32)), (7, .int (-1 : Int32)), (0, .ref 47), (1, .int p1), (2, .int p2), (3, .int p3), (4, .int p4), (5, .int p5), (6, .int p6)]) (S' := []) (h' := (hh X g w3.2)) rfl ?_
      refine Go_lcs [(0, .ref 47), (1, .int p1), (2, .int p2), (3, .int p3), (4, .int p4), (5, .int p5), (6, .int p6), (7, .int (-1 : Int32)), (8, .int (0 : Int32)), (9, .int (0 : Int32)), (10, .int (0 : Int32))] rfl ⟨rfl, rfl, rfl, rfl, rfl, rfl, rfl, rfl, rfl, rfl, rfl, trivial⟩ ?_
      refine Go_seq (pcj := 175) (fun (b5 : Int32 × Int32 × Int32 × MJ) => [(5, .int p5), (7, .int b5.1), (8, .int b5.2.1), (9, .int b5.2.2.1)]) (fun (b5 : Int32 × Int32 × Int32 × MJ) => []) (fun (b5 : Int32 × Int32 × Int32 × MJ) => (hh X g b5.2.2.2)) (fun b5 => ?_) ?_
      ·
        refine Go_blk 1 (pc' := 177) (L' := [(5, .int p5), (7, .int b5.1), (8, .int b5.2.1), (9, .int b5.2.2.1)]) (S' := [.int p5]) (h' := (hh X g b5.2.2.2)) rfl ?_
        refine Go_seq (pcj := 198) (fun (b6 : Int32) => []) (fun (b6 : Int32) => [.int b6]) (fun (b6 : Int32) => (hh X g b5.2.2.2)) (fun b6 => ?_) ?_
        ·
          exact Go_ret (fun _ h => h) rfl
        ·
          refine Go_cmzn rfl rfl rfl ?_ ?_
          ·
            refine Go_blk 2 (pc' := 198) (L' := [(5, .int p5), (7, .int b5.1), (8, .int b5.2.1), (9, .int b5.2.2.1)]) (S' := [.int b5.1]) (h' := (hh X g b5.2.2.2)) rfl ?_
            exact Go_jmp [] rfl trivial (fun _ h => h)
          ·
            refine Go_blk 2 (pc' := 188) (L' := [(5, .int p5), (7, .int b5.1), (8, .int b5.2.1), (9, .int b5.2.2.1)]) (S' := [.int (1 : Int32), .int p5]) (h' := (hh X g b5.2.2.2)) rfl ?_
            refine Go_cmpn rfl rfl rfl ?_ ?_
            ·
              refine Go_blk 2 (pc' := 198) (L' := [(5, .int p5), (7, .int b5.1), (8, .int b5.2.1), (9, .int b5.2.2.1)]) (S' := [.int b5.2.1]) (h' := (hh X g b5.2.2.2)) rfl ?_
              exact Go_jmp [] rfl trivial (fun _ h => h)
            ·
              refine Go_blk 1 (pc' := 198) (L' := [(5, .int p5), (7, .int b5.1), (8, .int b5.2.1), (9, .int b5.2.2.1)]) (S' := [.int b5.2.2.1]) (h' := (hh X g b5.2.2.2)) rfl ?_
              exact Go_jmp [] rfl trivial (fun _ h => h)
      ·
        refine Go_wh (fun (s4 : Int32 × Int32 × Int32 × Int32 × MJ) => [(0, .ref 47), (1, .int p1), (2, .int p2), (3, .int p3), (4, .int p4), (5, .int p5), (6, .int p6), (7, .int s4.1), (8, .int s4.2.1), (9, .int s4.2.2.1), (10, .int s4.2.2.2.1)]) (fun _ => []) (fun (s4 : Int32 × Int32 × Int32 × Int32 × MJ) => (hh X g s4.2.2.2.2)) (fun s4 => ?_) ((-1 : Int32), (0 : Int32), (0 : Int32), (0 : Int32), w3.2)
        refine Go_blk 2 (pc' := 86) (L' := [(0, .ref 47), (1, .int p1), (2, .int p2), (3, .int p3), (4, .int p4), (5, .int p5), (6, .int p6), (7, .int s4.1), (8, .int s4.2.1), (9, .int s4.2.2.1), (10, .int s4.2.2.2.1)]) (S' := [.int p2, .int s4.2.2.2.1]) (h' := (hh X g s4.2.2.2.2)) rfl ?_
        refine Go_cmpn rfl rfl (ab_cge _ _) ?_ ?_
        ·
          refine Go_blk 6 (pc' := 97) (L' := [(0, .ref 47), (1, .int p1), (2, .int p2), (3, .int p3), (4, .int p4), (5, .int p5), (6, .int p6), (7, .int s4.1), (8, .int s4.2.1), (9, .int s4.2.2.1), (10, .int s4.2.2.2.1)]) (S' := [.int p4, .int p3, .int (p1 + s4.2.2.2.1), .ref 47]) (h' := (hh X g s4.2.2.2.2)) rfl ?_
          refine Go_cV (y' := 377) (As := [.ref 47, .int (p1 + s4.2.2.2.1), .int p3, .int p4]) (r := []) rfl (g_m_shortens377 (p1 + s4.2.2.2.1) p3 p4 (by omega)) fun I7 => ?_
          refine Go_blk 3 (pc' := 105) (L' := [(0, .ref 47), (1, .int p1), (2, .int p2), (3, .int p3), (4, .int p4), (5, .int p5), (6, .int p6), (7, .int s4.1), (8, .int s4.2.1), (9, .int s4.2.2.1), (10, .int s4.2.2.2.1)]) (S' := [.ref 577, .ref 47]) (h' := (hh X g I7)) rfl ?_
          refine Go_cR (y' := 325) (As := [.ref 47, .ref 577]) (r := []) rfl (g_m_onBolts325 577 (by omega)) fun v8 => ?_
          refine Go_blk 3 (pc' := 113) (L' := [(11, .int v8), (0, .ref 47), (1, .int p1), (2, .int p2), (3, .int p3), (4, .int p4), (5, .int p5), (6, .int p6), (7, .int s4.1), (8, .int s4.2.1), (9, .int s4.2.2.1), (10, .int s4.2.2.2.1)]) (S' := [.int (-1 : Int32), .int s4.1]) (h' := (hh X g I7)) rfl ?_
          refine Go_seq (pcj := 128) (fun (b9 : Int32) => [(0, .ref 47), (1, .int p1), (2, .int p2), (3, .int p3), (4, .int p4), (5, .int p5), (6, .int p6), (8, .int s4.2.1), (9, .int s4.2.2.1), (10, .int s4.2.2.2.1), (11, .int v8)]) (fun (b9 : Int32) => [.int b9]) (fun (b9 : Int32) => (hh X g I7)) (fun b9 => ?_) ?_
          ·
            refine Go_blk 3 (pc' := 134) (L' := [(7, .int b9), (0, .ref 47), (1, .int p1), (2, .int p2), (3, .int p3), (4, .int p4), (5, .int p5), (6, .int p6), (8, .int s4.2.1), (9, .int s4.2.2.1), (10, .int s4.2.2.2.1), (11, .int v8)]) (S' := [.int v8, .int s4.2.1]) (h' := (hh X g I7)) rfl ?_
            refine Go_cR (y' := 320) (As := [.int s4.2.1, .int v8]) (r := []) rfl (g_m_more320 s4.2.1 v8 (by omega)) fun v10 => ?_
            refine Go_blk 8 (pc' := 152) (L' := [(8, .int v10), (7, .int b9), (0, .ref 47), (1, .int p1), (2, .int p2), (3, .int p3), (4, .int p4), (5, .int p5), (6, .int p6), (9, .int s4.2.2.1), (10, .int s4.2.2.2.1), (11, .int v8)]) (S' := [.int p6, .ref 119, .ref 577, .ref 47, .int s4.2.2.1]) (h' := (hh X g I7)) rfl ?_
            refine Go_aald rfl fun r11 => ?_
            refine Go_blk 1 (pc' := 154) (L' := [(8, .int v10), (7, .int b9), (0, .ref 47), (1, .int p1), (2, .int p2), (3, .int p3), (4, .int p4), (5, .int p5), (6, .int p6), (9, .int s4.2.2.1), (10, .int s4.2.2.2.1), (11, .int v8)]) (S' := [.int (1 : Int32), .ref r11, .ref 577, .ref 47, .int s4.2.2.1]) (h' := (hh X g I7)) rfl ?_
            refine Go_iald rfl fun v12 => ?_
            refine Go_cW (y' := 307) (As := [.ref 47, .ref 577, .int v12]) (r := [.int s4.2.2.1]) rfl (g_m_cuts307 577 v12 (by omega)) fun w13 => ?_
            refine Go_seq (pcj := 166) (fun (b14 : Int32) => [(0, .ref 47), (1, .int p1), (2, .int p2), (3, .int p3), (4, .int p4), (5, .int p5), (6, .int p6), (7, .int b9), (8, .int v10), (10, .int s4.2.2.2.1)]) (fun (b14 : Int32) => [.int b14, .int s4.2.2.1]) (fun (b14 : Int32) => (hh X g w13.2)) (fun b14 => ?_) ?_
            ·
              refine Go_blk 4 (pc' := 83) (L' := [(10, .int (s4.2.2.2.1 + (1 : Int32))), (9, .int (s4.2.2.1 + b14)), (0, .ref 47), (1, .int p1), (2, .int p2), (3, .int p3), (4, .int p4), (5, .int p5), (6, .int p6), (7, .int b9), (8, .int v10)]) (S' := []) (h' := (hh X g w13.2)) rfl ?_
              exact Go_jmp [(0, .ref 47), (1, .int p1), (2, .int p2), (3, .int p3), (4, .int p4), (5, .int p5), (6, .int p6), (7, .int b9), (8, .int v10), (9, .int (s4.2.2.1 + b14)), (10, .int (s4.2.2.2.1 + (1 : Int32)))] rfl ⟨rfl, rfl, rfl, rfl, rfl, rfl, rfl, rfl, rfl, rfl, rfl, trivial⟩ (fun _ h => h)
            ·
              refine Go_cmz rfl rfl rfl ?_ ?_
              ·
                refine Go_blk 1 (pc' := 166) (L' := [(8, .int v10), (7, .int b9), (0, .ref 47), (1, .int p1), (2, .int p2), (3, .int p3), (4, .int p4), (5, .int p5), (6, .int p6), (9, .int s4.2.2.1), (10, .int s4.2.2.2.1), (11, .int v8)]) (S' := [.int (0 : Int32), .int s4.2.2.1]) (h' := (hh X g w13.2)) rfl ?_
                exact Go_jmp [(0, .ref 47), (1, .int p1), (2, .int p2), (3, .int p3), (4, .int p4), (5, .int p5), (6, .int p6), (7, .int b9), (8, .int v10), (10, .int s4.2.2.2.1)] rfl ⟨rfl, rfl, rfl, rfl, rfl, rfl, rfl, rfl, rfl, rfl, trivial⟩ (fun _ h => h)
              ·
                refine Go_blk 2 (pc' := 166) (L' := [(8, .int v10), (7, .int b9), (0, .ref 47), (1, .int p1), (2, .int p2), (3, .int p3), (4, .int p4), (5, .int p5), (6, .int p6), (9, .int s4.2.2.1), (10, .int s4.2.2.2.1), (11, .int v8)]) (S' := [.int (1 : Int32), .int s4.2.2.1]) (h' := (hh X g w13.2)) rfl ?_
                exact Go_jmp [(0, .ref 47), (1, .int p1), (2, .int p2), (3, .int p3), (4, .int p4), (5, .int p5), (6, .int p6), (7, .int b9), (8, .int v10), (10, .int s4.2.2.2.1)] rfl ⟨rfl, rfl, rfl, rfl, rfl, rfl, rfl, rfl, rfl, rfl, trivial⟩ (fun _ h => h)
          ·
            refine Go_cmpn rfl rfl rfl ?_ ?_
            ·
              refine Go_blk 2 (pc' := 128) (L' := [(11, .int v8), (0, .ref 47), (1, .int p1), (2, .int p2), (3, .int p3), (4, .int p4), (5, .int p5), (6, .int p6), (7, .int s4.1), (8, .int s4.2.1), (9, .int s4.2.2.1), (10, .int s4.2.2.2.1)]) (S' := [.int v8]) (h' := (hh X g I7)) rfl ?_
              exact Go_jmp [(0, .ref 47), (1, .int p1), (2, .int p2), (3, .int p3), (4, .int p4), (5, .int p5), (6, .int p6), (8, .int s4.2.1), (9, .int s4.2.2.1), (10, .int s4.2.2.2.1), (11, .int v8)] rfl ⟨rfl, rfl, rfl, rfl, rfl, rfl, rfl, rfl, rfl, rfl, rfl, trivial⟩ (fun _ h => h)
            ·
              refine Go_blk 2 (pc' := 125) (L' := [(11, .int v8), (0, .ref 47), (1, .int p1), (2, .int p2), (3, .int p3), (4, .int p4), (5, .int p5), (6, .int p6), (7, .int s4.1), (8, .int s4.2.1), (9, .int s4.2.2.1), (10, .int s4.2.2.2.1)]) (S' := [.int v8, .int s4.1]) (h' := (hh X g I7)) rfl ?_
              refine Go_cR (y' := 319) (As := [.int s4.1, .int v8]) (r := []) rfl (g_m_less319 s4.1 v8 (by omega)) fun v15 => ?_
              exact Go_jmp [(0, .ref 47), (1, .int p1), (2, .int p2), (3, .int p3), (4, .int p4), (5, .int p5), (6, .int p6), (8, .int s4.2.1), (9, .int s4.2.2.1), (10, .int s4.2.2.2.1), (11, .int v8)] rfl ⟨rfl, rfl, rfl, rfl, rfl, rfl, rfl, rfl, rfl, rfl, rfl, trivial⟩ (fun _ h => h)
        ·
          exact Go_jmp [(5, .int p5), (7, .int s4.1), (8, .int s4.2.1), (9, .int s4.2.2.1)] rfl ⟨rfl, rfl, rfl, rfl, trivial⟩ (fun _ h => h)
    ·
      refine Go_blk 1 (pc' := 70) (L' := [(0, .ref 47), (1, .int p1), (2, .int p2), (3, .int p3), (4, .int p4), (5, .int p5), (6, .int p6)]) (S' := [.int (0 : Int32)]) (h' := (hh X g w3.2)) rfl ?_
      exact Go_ret (fun _ h => h) rfl
  ·
    refine Go_cmz rfl rfl rfl ?_ ?_
    ·
      refine Go_blk 2 (pc' := 61) (L' := [(0, .ref 47), (1, .int p1), (2, .int p2), (3, .int p3), (4, .int p4), (5, .int p5), (6, .int p6)]) (S' := [.int (1 : Int32), .ref 47]) (h' := (hh X g (ab_up1 I 47 0 (0 : Int32)))) rfl ?_
      exact Go_jmp [(0, .ref 47), (1, .int p1), (2, .int p2), (3, .int p3), (4, .int p4), (5, .int p5), (6, .int p6)] rfl ⟨rfl, rfl, rfl, rfl, rfl, rfl, rfl, trivial⟩ (fun _ h => h)
    ·
      refine Go_blk 3 (pc' := 20) (L' := [(0, .ref 47), (1, .int p1), (2, .int p2), (3, .int p3), (4, .int p4), (5, .int p5), (6, .int p6)]) (S' := [.int (16 : Int32), .int (0 : Int32), .int p3, .ref 47]) (h' := (hh X g (ab_up1 I 47 0 (0 : Int32)))) rfl ?_
      refine Go_cR (y' := 264) (As := [.int p3, .int (0 : Int32), .int (16 : Int32)]) (r := [.ref 47]) rfl (g_m_in264 p3 (0 : Int32) (16 : Int32) (by omega)) fun v16 => ?_
      refine Go_cmz rfl rfl rfl ?_ ?_
      ·
        refine Go_blk 2 (pc' := 61) (L' := [(0, .ref 47), (1, .int p1), (2, .int p2), (3, .int p3), (4, .int p4), (5, .int p5), (6, .int p6)]) (S' := [.int (1 : Int32), .ref 47]) (h' := (hh X g (ab_up1 I 47 0 (0 : Int32)))) rfl ?_
        exact Go_jmp [(0, .ref 47), (1, .int p1), (2, .int p2), (3, .int p3), (4, .int p4), (5, .int p5), (6, .int p6)] rfl ⟨rfl, rfl, rfl, rfl, rfl, rfl, rfl, trivial⟩ (fun _ h => h)
      ·
        refine Go_blk 3 (pc' := 31) (L' := [(0, .ref 47), (1, .int p1), (2, .int p2), (3, .int p3), (4, .int p4), (5, .int p5), (6, .int p6)]) (S' := [.int (60 : Int32), .int (1 : Int32), .int p4, .ref 47]) (h' := (hh X g (ab_up1 I 47 0 (0 : Int32)))) rfl ?_
        refine Go_cR (y' := 264) (As := [.int p4, .int (1 : Int32), .int (60 : Int32)]) (r := [.ref 47]) rfl (g_m_in264 p4 (1 : Int32) (60 : Int32) (by omega)) fun v17 => ?_
        refine Go_cmz rfl rfl rfl ?_ ?_
        ·
          refine Go_blk 2 (pc' := 61) (L' := [(0, .ref 47), (1, .int p1), (2, .int p2), (3, .int p3), (4, .int p4), (5, .int p5), (6, .int p6)]) (S' := [.int (1 : Int32), .ref 47]) (h' := (hh X g (ab_up1 I 47 0 (0 : Int32)))) rfl ?_
          exact Go_jmp [(0, .ref 47), (1, .int p1), (2, .int p2), (3, .int p3), (4, .int p4), (5, .int p5), (6, .int p6)] rfl ⟨rfl, rfl, rfl, rfl, rfl, rfl, rfl, trivial⟩ (fun _ h => h)
        ·
          refine Go_blk 3 (pc' := 41) (L' := [(0, .ref 47), (1, .int p1), (2, .int p2), (3, .int p3), (4, .int p4), (5, .int p5), (6, .int p6)]) (S' := [.int (2 : Int32), .int (0 : Int32), .int p5, .ref 47]) (h' := (hh X g (ab_up1 I 47 0 (0 : Int32)))) rfl ?_
          refine Go_cR (y' := 264) (As := [.int p5, .int (0 : Int32), .int (2 : Int32)]) (r := [.ref 47]) rfl (g_m_in264 p5 (0 : Int32) (2 : Int32) (by omega)) fun v18 => ?_
          refine Go_cmz rfl rfl rfl ?_ ?_
          ·
            refine Go_blk 2 (pc' := 61) (L' := [(0, .ref 47), (1, .int p1), (2, .int p2), (3, .int p3), (4, .int p4), (5, .int p5), (6, .int p6)]) (S' := [.int (1 : Int32), .ref 47]) (h' := (hh X g (ab_up1 I 47 0 (0 : Int32)))) rfl ?_
            exact Go_jmp [(0, .ref 47), (1, .int p1), (2, .int p2), (3, .int p3), (4, .int p4), (5, .int p5), (6, .int p6)] rfl ⟨rfl, rfl, rfl, rfl, rfl, rfl, rfl, trivial⟩ (fun _ h => h)
          ·
            refine Go_blk 2 (pc' := 50) (L' := [(0, .ref 47), (1, .int p1), (2, .int p2), (3, .int p3), (4, .int p4), (5, .int p5), (6, .int p6)]) (S' := [.int p6, .ref 47, .ref 47]) (h' := (hh X g (ab_up1 I 47 0 (0 : Int32)))) rfl ?_
            refine Go_cR (y' := 334) (As := [.ref 47, .int p6]) (r := [.ref 47]) rfl (g_m_isOrder334 p6 (by omega)) fun v19 => ?_
            refine Go_cmzn rfl rfl rfl ?_ ?_
            ·
              refine Go_blk 2 (pc' := 61) (L' := [(0, .ref 47), (1, .int p1), (2, .int p2), (3, .int p3), (4, .int p4), (5, .int p5), (6, .int p6)]) (S' := [.int (1 : Int32), .ref 47]) (h' := (hh X g (ab_up1 I 47 0 (0 : Int32)))) rfl ?_
              exact Go_jmp [(0, .ref 47), (1, .int p1), (2, .int p2), (3, .int p3), (4, .int p4), (5, .int p5), (6, .int p6)] rfl ⟨rfl, rfl, rfl, rfl, rfl, rfl, rfl, trivial⟩ (fun _ h => h)
            ·
              refine Go_blk 1 (pc' := 61) (L' := [(0, .ref 47), (1, .int p1), (2, .int p2), (3, .int p3), (4, .int p4), (5, .int p5), (6, .int p6)]) (S' := [.int (0 : Int32), .ref 47]) (h' := (hh X g (ab_up1 I 47 0 (0 : Int32)))) rfl ?_
              exact Go_jmp [(0, .ref 47), (1, .int p1), (2, .int p2), (3, .int p3), (4, .int p4), (5, .int p5), (6, .int p6)] rfl ⟨rfl, rfl, rfl, rfl, rfl, rfl, rfl, trivial⟩ (fun _ h => h)
set_option maxRecDepth 1000000 in
set_option maxHeartbeats 4000000 in
theorem g_pas_keepImage30  {X : XX} {g : GG} {I : MJ} {d : Nat} (hd : 1 ≤ d) : Go d 30 0 (lv_args 0 [.ref 31, .ref 15]) [] (hh X g I) (f_pas_keepImage30  I) (pW X g) := by
  obtain ⟨d, rfl⟩ : ∃ k, d = k + 1 := ⟨d - 1, by omega⟩
  unfold f_pas_keepImage30
  refine Go_blk 3 (pc' := 5) (L' := [(0, .ref 31), (1, .ref 15)]) (S' := [.int (3 : Int32), .int (I 31 4)]) (h' := (hh X g I)) rfl ?_
  refine Go_cmp rfl rfl rfl ?_ ?_
  ·
    refine Go_blk 12 (pc' := 31) (L' := [(2, .int ((I 31 4) * (1547 : Int32))), (0, .ref 31), (1, .ref 15)]) (S' := [.int (91 : Int32), .int ((I 31 4) * (1547 : Int32)), .ref 33, .int (0 : Int32), .ref 16]) (h' := (hh X g I)) rfl ?_
    refine Go_cV (y' := 22) (As := [.ref 16, .int (0 : Int32), .ref 33, .int ((I 31 4) * (1547 : Int32)), .int (91 : Int32)]) (r := []) rfl (g_x_copy22 16 (0 : Int32) 33 ((I 31 4) * (1547 : Int32)) (91 : Int32) (by omega)) fun I1 => ?_
    refine Go_blk 12 (pc' := 54) (L' := [(2, .int ((I 31 4) * (1547 : Int32))), (0, .ref 31), (1, .ref 15)]) (S' := [.int ((I1 31 3) * (91 : Int32)), .int (((I 31 4) * (1547 : Int32)) + (91 : Int32)), .ref 33, .int (0 : Int32), .ref 32]) (h' := (hh X g I1)) rfl ?_
    refine Go_cV (y' := 22) (As := [.ref 32, .int (0 : Int32), .ref 33, .int (((I 31 4) * (1547 : Int32)) + (91 : Int32)), .int ((I1 31 3) * (91 : Int32))]) (r := []) rfl (g_x_copy22 32 (0 : Int32) 33 (((I 31 4) * (1547 : Int32)) + (91 : Int32)) ((I1 31 3) * (91 : Int32)) (by omega)) fun I2 => ?_
    refine Go_blk 6 (pc' := 69) (L' := [(2, .int ((I 31 4) * (1547 : Int32))), (0, .ref 31), (1, .ref 15)]) (S' := [.int (I2 31 3), .int (I2 31 4), .ref 34]) (h' := (hh X g I2)) rfl ?_
    refine Go_cV (y' := 15) (As := [.ref 34, .int (I2 31 4), .int (I2 31 3)]) (r := []) rfl (g_x_put15 34 (I2 31 4) (I2 31 3) (by omega)) fun I3 => ?_
    refine Go_blk 7 (pc' := 83) (L' := [(2, .int ((I 31 4) * (1547 : Int32))), (0, .ref 31), (1, .ref 15)]) (S' := [.int (1 : Int32)]) (h' := (hh X g (ab_up1 I3 31 4 ((I3 31 4) + (1 : Int32))))) rfl ?_
    exact Go_ret (fun _ h => h) rfl
  ·
    refine Go_blk 1 (pc' := 9) (L' := [(0, .ref 31), (1, .ref 15)]) (S' := [.int (0 : Int32)]) (h' := (hh X g I)) rfl ?_
    exact Go_ret (fun _ h => h) rfl
set_option maxRecDepth 1000000 in
set_option maxHeartbeats 4000000 in
theorem g_x_image29  {X : XX} {g : GG} {I : MJ} {d : Nat} (hd : 2 ≤ d) : Go d 29 0 (lv_args 0 [.ref 0]) [] (hh X g I) (f_x_image29  I) (pW X g) := by
  obtain ⟨d, rfl⟩ : ∃ k, d = k + 1 := ⟨d - 1, by omega⟩
  unfold f_x_image29
  refine Go_blk 4 (pc' := 8) (L' := [(0, .ref 0)]) (S' := [.ref 15, .ref 31]) (h' := (hh X g I)) rfl ?_
  refine Go_cW (y' := 30) (As := [.ref 31, .ref 15]) (r := []) rfl (g_pas_keepImage30  (by omega)) fun w1 => ?_
  refine Go_seq (pcj := 25) (fun (b2 : Int32) => []) (fun (b2 : Int32) => [.int b2]) (fun (b2 : Int32) => (hh X g w1.2)) (fun b2 => ?_) ?_
  ·
    exact Go_ret (fun _ h => h) rfl
  ·
    refine Go_cmz rfl rfl rfl ?_ ?_
    ·
      refine Go_blk 1 (pc' := 25) (L' := [(0, .ref 0)]) (S' := [.int (-1 : Int32)]) (h' := (hh X g w1.2)) rfl ?_
      exact Go_jmp [] rfl trivial (fun _ h => h)
    ·
      refine Go_blk 4 (pc' := 25) (L' := [(0, .ref 0)]) (S' := [.int (w1.2 31 4)]) (h' := (hh X g w1.2)) rfl ?_
      exact Go_jmp [] rfl trivial (fun _ h => h)
set_option maxRecDepth 1000000 in
set_option maxHeartbeats 4000000 in
theorem g_m_puts382 (p1 : Nat) (p2 : Int32) (p3 : Int32) {X : XX} {g : GG} {I : MJ} {d : Nat} (hd : 0 ≤ d) : Go d 382 0 (lv_args 0 [.ref 47, .ref p1, .int p2, .int p3]) [] (hh X g I) (f_m_puts382 p1 p2 p3 I) (pW X g) := by
  unfold f_m_puts382
  refine Go_blk 1 (pc' := 1) (L' := [(0, .ref 47), (1, .ref p1), (2, .int p2), (3, .int p3)]) (S' := [.int p3]) (h' := (hh X g I)) rfl ?_
  refine Go_seq (pcj := 11) (fun (b1 : MJ) => [(0, .ref 47), (1, .ref p1)]) (fun (b1 : MJ) => []) (fun (b1 : MJ) => (hh X g b1)) (fun b1 => ?_) ?_
  ·
    refine Go_blk 11 (pc' := 28) (L' := [(0, .ref 47), (1, .ref p1)]) (S' := [.int (((b1 47 43) + (1 : Int32)) - (1 : Int32)), .ref p1]) (h' := (hh X g (ab_up1 b1 47 43 ((b1 47 43) + (1 : Int32))))) rfl ?_
    refine Go_iald rfl fun v2 => ?_
    exact Go_ret (fun _ h => h) rfl
  ·
    refine Go_cmzn rfl rfl rfl ?_ ?_
    ·
      refine Go_blk 4 (pc' := 10) (L' := [(0, .ref 47), (1, .ref p1), (2, .int p2), (3, .int p3)]) (S' := [.int p2, .int (I 47 43), .ref p1]) (h' := (hh X g I)) rfl ?_
      refine Go_iast rfl fun I3 => ?_
      exact Go_jmp [(0, .ref 47), (1, .ref p1)] rfl ⟨rfl, rfl, trivial⟩ (fun _ h => h)
    ·
      exact Go_jmp [(0, .ref 47), (1, .ref p1)] rfl ⟨rfl, rfl, trivial⟩ (fun _ h => h)
set_option maxRecDepth 1000000 in
set_option maxHeartbeats 4000000 in
theorem g_m_putsAll381 (p1 : Nat) (p2 : Int32) {X : XX} {g : GG} {I : MJ} {d : Nat} (hd : 1 ≤ d) : Go d 381 0 (lv_args 0 [.ref 47, .ref p1, .int p2]) [] (hh X g I) (f_m_putsAll381 p1 p2 I) (pV X g) := by
  obtain ⟨d, rfl⟩ : ∃ k, d = k + 1 := ⟨d - 1, by omega⟩
  unfold f_m_putsAll381
  refine Go_blk 9 (pc' := 13) (L' := [(0, .ref 47), (1, .ref p1), (2, .int p2)]) (S' := [.int p2, .int (I 47 40), .ref p1, .ref 47, .ref 47]) (h' := (hh X g (ab_up1 I 47 43 (0 : Int32)))) rfl ?_
  refine Go_cW (y' := 382) (As := [.ref 47, .ref p1, .int (I 47 40), .int p2]) (r := [.ref 47]) rfl (g_m_puts382 p1 (I 47 40) p2 (by omega)) fun w1 => ?_
  refine Go_blk 3 (pc' := 21) (L' := [(3, .int (0 : Int32)), (0, .ref 47), (1, .ref p1), (2, .int p2)]) (S' := []) (h' := (hh X g (ab_up1 w1.2 47 40 w1.1))) rfl ?_
  refine Go_lcs [(0, .ref 47), (1, .ref p1), (2, .int p2), (3, .int (0 : Int32))] rfl ⟨rfl, rfl, rfl, rfl, trivial⟩ ?_
  refine Go_seq (pcj := 51) (fun (b3 : MJ) => [(0, .ref 47), (1, .ref p1), (2, .int p2)]) (fun (b3 : MJ) => []) (fun (b3 : MJ) => (hh X g b3)) (fun b3 => ?_) ?_
  ·
    refine Go_blk 2 (pc' := 53) (L' := [(3, .int (0 : Int32)), (0, .ref 47), (1, .ref p1), (2, .int p2)]) (S' := []) (h' := (hh X g b3)) rfl ?_
    refine Go_lcs [(0, .ref 47), (1, .ref p1), (2, .int p2), (3, .int (0 : Int32))] rfl ⟨rfl, rfl, rfl, rfl, trivial⟩ ?_
    refine Go_seq (pcj := 105) (fun (b5 : MJ) => []) (fun (b5 : MJ) => []) (fun (b5 : MJ) => (hh X g b5)) (fun b5 => ?_) ?_
    ·
      exact Go_ret (fun _ h => h) rfl
    ·
      refine Go_wh (fun (s4 : Int32 × MJ) => [(0, .ref 47), (1, .ref p1), (2, .int p2), (3, .int s4.1)]) (fun _ => []) (fun (s4 : Int32 × MJ) => (hh X g s4.2)) (fun s4 => ?_) ((0 : Int32), b3)
      refine Go_blk 2 (pc' := 56) (L' := [(0, .ref 47), (1, .ref p1), (2, .int p2), (3, .int s4.1)]) (S' := [.int (16 : Int32), .int s4.1]) (h' := (hh X g s4.2)) rfl ?_
      refine Go_cmpn rfl rfl (ab_cge _ _) ?_ ?_
      ·
        refine Go_blk 2 (pc' := 62) (L' := [(4, .int (0 : Int32)), (0, .ref 47), (1, .ref p1), (2, .int p2), (3, .int s4.1)]) (S' := []) (h' := (hh X g s4.2)) rfl ?_
        refine Go_lcs [(0, .ref 47), (1, .ref p1), (2, .int p2), (3, .int s4.1), (4, .int (0 : Int32))] rfl ⟨rfl, rfl, rfl, rfl, rfl, trivial⟩ ?_
        refine Go_seq (pcj := 99) (fun (b7 : MJ) => [(0, .ref 47), (1, .ref p1), (2, .int p2), (3, .int s4.1)]) (fun (b7 : MJ) => []) (fun (b7 : MJ) => (hh X g b7)) (fun b7 => ?_) ?_
        ·
          refine Go_blk 2 (pc' := 53) (L' := [(3, .int (s4.1 + (1 : Int32))), (0, .ref 47), (1, .ref p1), (2, .int p2)]) (S' := []) (h' := (hh X g b7)) rfl ?_
          exact Go_jmp [(0, .ref 47), (1, .ref p1), (2, .int p2), (3, .int (s4.1 + (1 : Int32)))] rfl ⟨rfl, rfl, rfl, rfl, trivial⟩ (fun _ h => h)
        ·
          refine Go_wh (fun (s6 : Int32 × MJ) => [(0, .ref 47), (1, .ref p1), (2, .int p2), (3, .int s4.1), (4, .int s6.1)]) (fun _ => []) (fun (s6 : Int32 × MJ) => (hh X g s6.2)) (fun s6 => ?_) ((0 : Int32), s4.2)
          refine Go_blk 2 (pc' := 66) (L' := [(0, .ref 47), (1, .ref p1), (2, .int p2), (3, .int s4.1), (4, .int s6.1)]) (S' := [.int (91 : Int32), .int s6.1]) (h' := (hh X g s6.2)) rfl ?_
          refine Go_cmpn rfl rfl (ab_cge _ _) ?_ ?_
          ·
            refine Go_blk 3 (pc' := 74) (L' := [(0, .ref 47), (1, .ref p1), (2, .int p2), (3, .int s4.1), (4, .int s6.1)]) (S' := [.int s4.1, .ref 578]) (h' := (hh X g s6.2)) rfl ?_
            refine Go_aald rfl fun r8 => ?_
            refine Go_blk 6 (pc' := 84) (L' := [(0, .ref 47), (1, .ref p1), (2, .int p2), (3, .int s4.1), (4, .int s6.1)]) (S' := [.int s4.1, .ref 578, .ref p1, .ref 47, .int s6.1, .ref r8]) (h' := (hh X g s6.2)) rfl ?_
            refine Go_aald rfl fun r9 => ?_
            refine Go_blk 1 (pc' := 87) (L' := [(0, .ref 47), (1, .ref p1), (2, .int p2), (3, .int s4.1), (4, .int s6.1)]) (S' := [.int s6.1, .ref r9, .ref p1, .ref 47, .int s6.1, .ref r8]) (h' := (hh X g s6.2)) rfl ?_
            refine Go_iald rfl fun v10 => ?_
            refine Go_blk 1 (pc' := 89) (L' := [(0, .ref 47), (1, .ref p1), (2, .int p2), (3, .int s4.1), (4, .int s6.1)]) (S' := [.int p2, .int v10, .ref p1, .ref 47, .int s6.1, .ref r8]) (h' := (hh X g s6.2)) rfl ?_
            refine Go_cW (y' := 382) (As := [.ref 47, .ref p1, .int v10, .int p2]) (r := [.int s6.1, .ref r8]) rfl (g_m_puts382 p1 v10 p2 (by omega)) fun w11 => ?_
            refine Go_iast rfl fun I12 => ?_
            refine Go_blk 2 (pc' := 62) (L' := [(4, .int (s6.1 + (1 : Int32))), (0, .ref 47), (1, .ref p1), (2, .int p2), (3, .int s4.1)]) (S' := []) (h' := (hh X g I12)) rfl ?_
            exact Go_jmp [(0, .ref 47), (1, .ref p1), (2, .int p2), (3, .int s4.1), (4, .int (s6.1 + (1 : Int32)))] rfl ⟨rfl, rfl, rfl, rfl, rfl, trivial⟩ (fun _ h => h)
          ·
            exact Go_jmp [(0, .ref 47), (1, .ref p1), (2, .int p2), (3, .int s4.1)] rfl ⟨rfl, rfl, rfl, rfl, trivial⟩ (fun _ h => h)
      ·
        exact Go_jmp [] rfl trivial (fun _ h => h)
  ·
    refine Go_wh (fun (s2 : Int32 × MJ) => [(0, .ref 47), (1, .ref p1), (2, .int p2), (3, .int s2.1)]) (fun _ => []) (fun (s2 : Int32 × MJ) => (hh X g s2.2)) (fun s2 => ?_) ((0 : Int32), (ab_up1 w1.2 47 40 w1.1))
    refine Go_blk 2 (pc' := 24) (L' := [(0, .ref 47), (1, .ref p1), (2, .int p2), (3, .int s2.1)]) (S' := [.int (91 : Int32), .int s2.1]) (h' := (hh X g s2.2)) rfl ?_
    refine Go_cmpn rfl rfl (ab_cge _ _) ?_ ?_
    ·
      refine Go_blk 8 (pc' := 39) (L' := [(0, .ref 47), (1, .ref p1), (2, .int p2), (3, .int s2.1)]) (S' := [.int s2.1, .ref 576, .ref p1, .ref 47, .int s2.1, .ref 576]) (h' := (hh X g s2.2)) rfl ?_
      refine Go_iald rfl fun v13 => ?_
      refine Go_blk 1 (pc' := 41) (L' := [(0, .ref 47), (1, .ref p1), (2, .int p2), (3, .int s2.1)]) (S' := [.int p2, .int v13, .ref p1, .ref 47, .int s2.1, .ref 576]) (h' := (hh X g s2.2)) rfl ?_
      refine Go_cW (y' := 382) (As := [.ref 47, .ref p1, .int v13, .int p2]) (r := [.int s2.1, .ref 576]) rfl (g_m_puts382 p1 v13 p2 (by omega)) fun w14 => ?_
      refine Go_iast rfl fun I15 => ?_
      refine Go_blk 2 (pc' := 21) (L' := [(3, .int (s2.1 + (1 : Int32))), (0, .ref 47), (1, .ref p1), (2, .int p2)]) (S' := []) (h' := (hh X g I15)) rfl ?_
      exact Go_jmp [(0, .ref 47), (1, .ref p1), (2, .int p2), (3, .int (s2.1 + (1 : Int32)))] rfl ⟨rfl, rfl, rfl, rfl, trivial⟩ (fun _ h => h)
    ·
      exact Go_jmp [(0, .ref 47), (1, .ref p1), (2, .int p2)] rfl ⟨rfl, rfl, rfl, trivial⟩ (fun _ h => h)
set_option maxRecDepth 1000000 in
set_option maxHeartbeats 4000000 in
theorem g_m_image380  {X : XX} {g : GG} {I : MJ} {d : Nat} (hd : 2 ≤ d) : Go d 380 0 (lv_args 0 [.ref 47]) [] (hh X g I) (f_m_image380  I) (pW X g) := by
  obtain ⟨d, rfl⟩ : ∃ k, d = k + 1 := ⟨d - 1, by omega⟩
  unfold f_m_image380
  refine Go_blk 6 (pc' := 10) (L' := [(0, .ref 47)]) (S' := [.int (3 : Int32), .int (I 47 42)]) (h' := (hh X g (ab_up1 I 47 0 (0 : Int32)))) rfl ?_
  refine Go_cmpn rfl rfl rfl ?_ ?_
  ·
    refine Go_blk 1 (pc' := 14) (L' := [(0, .ref 47)]) (S' := [.int (-1 : Int32)]) (h' := (hh X g (ab_up1 I 47 0 (0 : Int32)))) rfl ?_
    exact Go_ret (fun _ h => h) rfl
  ·
    refine Go_blk 5 (pc' := 24) (L' := [(0, .ref 47)]) (S' := [.int (I 47 42), .ref 595, .ref 47]) (h' := (hh X g (ab_up1 I 47 0 (0 : Int32)))) rfl ?_
    refine Go_aald rfl fun r1 => ?_
    refine Go_blk 1 (pc' := 26) (L' := [(0, .ref 47)]) (S' := [.int (0 : Int32), .ref r1, .ref 47]) (h' := (hh X g (ab_up1 I 47 0 (0 : Int32)))) rfl ?_
    refine Go_cV (y' := 381) (As := [.ref 47, .ref r1, .int (0 : Int32)]) (r := []) rfl (g_m_putsAll381 r1 (0 : Int32) (by omega)) fun I2 => ?_
    refine Go_blk 8 (pc' := 43) (L' := [(0, .ref 47)]) (S' := [.int ((I2 47 42) + (1 : Int32))]) (h' := (hh X g (ab_up1 I2 47 42 ((I2 47 42) + (1 : Int32))))) rfl ?_
    exact Go_ret (fun _ h => h) rfl
set_option maxRecDepth 1000000 in
set_option maxHeartbeats 4000000 in
theorem g_pas_takeImage32  {X : XX} {g : GG} {I : MJ} {d : Nat} (hd : 1 ≤ d) : Go d 32 0 (lv_args 0 [.ref 31, .ref 15]) [] (hh X g I) (f_pas_takeImage32  I) (pV X g) := by
  obtain ⟨d, rfl⟩ : ∃ k, d = k + 1 := ⟨d - 1, by omega⟩
  unfold f_pas_takeImage32
  refine Go_blk 16 (pc' := 28) (L' := [(2, .int (((I 31 4) - (1 : Int32)) * (1547 : Int32))), (0, .ref 31), (1, .ref 15)]) (S' := [.int ((I 31 4) - (1 : Int32)), .ref 34, .ref 31]) (h' := (hh X g (ab_up1 I 31 4 ((I 31 4) - (1 : Int32))))) rfl ?_
  refine Go_cR (y' := 16) (As := [.ref 34, .int ((I 31 4) - (1 : Int32))]) (r := [.ref 31]) rfl (g_x_at16 34 ((I 31 4) - (1 : Int32)) (by omega)) fun v1 => ?_
  refine Go_blk 8 (pc' := 46) (L' := [(2, .int (((I 31 4) - (1 : Int32)) * (1547 : Int32))), (0, .ref 31), (1, .ref 15)]) (S' := [.int (91 : Int32), .int (0 : Int32), .ref 16, .int (((I 31 4) - (1 : Int32)) * (1547 : Int32)), .ref 33]) (h' := (hh X g (ab_up1 (ab_up1 I 31 4 ((I 31 4) - (1 : Int32))) 31 3 v1))) rfl ?_
  refine Go_cV (y' := 22) (As := [.ref 33, .int (((I 31 4) - (1 : Int32)) * (1547 : Int32)), .ref 16, .int (0 : Int32), .int (91 : Int32)]) (r := []) rfl (g_x_copy22 33 (((I 31 4) - (1 : Int32)) * (1547 : Int32)) 16 (0 : Int32) (91 : Int32) (by omega)) fun I2 => ?_
  refine Go_blk 12 (pc' := 69) (L' := [(2, .int (((I 31 4) - (1 : Int32)) * (1547 : Int32))), (0, .ref 31), (1, .ref 15)]) (S' := [.int ((I2 31 3) * (91 : Int32)), .int (0 : Int32), .ref 32, .int ((((I 31 4) - (1 : Int32)) * (1547 : Int32)) + (91 : Int32)), .ref 33]) (h' := (hh X g I2)) rfl ?_
  refine Go_cV (y' := 22) (As := [.ref 33, .int ((((I 31 4) - (1 : Int32)) * (1547 : Int32)) + (91 : Int32)), .ref 32, .int (0 : Int32), .int ((I2 31 3) * (91 : Int32))]) (r := []) rfl (g_x_copy22 33 ((((I 31 4) - (1 : Int32)) * (1547 : Int32)) + (91 : Int32)) 32 (0 : Int32) ((I2 31 3) * (91 : Int32)) (by omega)) fun I3 => ?_
  exact Go_ret (fun _ h => h) rfl
set_option maxRecDepth 1000000 in
set_option maxHeartbeats 4000000 in
theorem g_x_restore31  {X : XX} {g : GG} {I : MJ} {d : Nat} (hd : 2 ≤ d) : Go d 31 0 (lv_args 0 [.ref 0]) [] (hh X g I) (f_x_restore31  I) (pW X g) := by
  obtain ⟨d, rfl⟩ : ∃ k, d = k + 1 := ⟨d - 1, by omega⟩
  unfold f_x_restore31
  refine Go_blk 3 (pc' := 7) (L' := [(0, .ref 0)]) (S' := [.int (I 31 4)]) (h' := (hh X g I)) rfl ?_
  refine Go_cmzn rfl rfl rfl ?_ ?_
  ·
    refine Go_blk 1 (pc' := 11) (L' := [(0, .ref 0)]) (S' := [.int (-1 : Int32)]) (h' := (hh X g I)) rfl ?_
    exact Go_ret (fun _ h => h) rfl
  ·
    refine Go_blk 4 (pc' := 20) (L' := [(0, .ref 0)]) (S' := [.ref 15, .ref 31]) (h' := (hh X g I)) rfl ?_
    refine Go_cV (y' := 32) (As := [.ref 31, .ref 15]) (r := []) rfl (g_pas_takeImage32  (by omega)) fun I1 => ?_
    refine Go_blk 6 (pc' := 35) (L' := [(0, .ref 0)]) (S' := [.int (I1 31 4)]) (h' := (hh X g (ab_up1 I1 0 13 (0 : Int32)))) rfl ?_
    exact Go_ret (fun _ h => h) rfl
set_option maxRecDepth 1000000 in
set_option maxHeartbeats 4000000 in
theorem g_m_restore383  {X : XX} {g : GG} {I : MJ} {d : Nat} (hd : 2 ≤ d) : Go d 383 0 (lv_args 0 [.ref 47]) [] (hh X g I) (f_m_restore383  I) (pW X g) := by
  obtain ⟨d, rfl⟩ : ∃ k, d = k + 1 := ⟨d - 1, by omega⟩
  unfold f_m_restore383
  refine Go_blk 5 (pc' := 9) (L' := [(0, .ref 47)]) (S' := [.int (I 47 42)]) (h' := (hh X g (ab_up1 I 47 0 (0 : Int32)))) rfl ?_
  refine Go_cmzn rfl rfl rfl ?_ ?_
  ·
    refine Go_blk 1 (pc' := 13) (L' := [(0, .ref 47)]) (S' := [.int (-1 : Int32)]) (h' := (hh X g (ab_up1 I 47 0 (0 : Int32)))) rfl ?_
    exact Go_ret (fun _ h => h) rfl
  ·
    refine Go_blk 11 (pc' := 33) (L' := [(0, .ref 47)]) (S' := [.int ((I 47 42) - (1 : Int32)), .ref 595, .ref 47]) (h' := (hh X g (ab_up1 (ab_up1 I 47 0 (0 : Int32)) 47 42 ((I 47 42) - (1 : Int32))))) rfl ?_
    refine Go_aald rfl fun r1 => ?_
    refine Go_blk 1 (pc' := 35) (L' := [(0, .ref 47)]) (S' := [.int (1 : Int32), .ref r1, .ref 47]) (h' := (hh X g (ab_up1 (ab_up1 I 47 0 (0 : Int32)) 47 42 ((I 47 42) - (1 : Int32))))) rfl ?_
    refine Go_cV (y' := 381) (As := [.ref 47, .ref r1, .int (1 : Int32)]) (r := []) rfl (g_m_putsAll381 r1 (1 : Int32) (by omega)) fun I2 => ?_
    refine Go_blk 5 (pc' := 47) (L' := [(0, .ref 47)]) (S' := [.int (I2 47 42)]) (h' := (hh X g (ab_up1 I2 47 41 (0 : Int32)))) rfl ?_
    exact Go_ret (fun _ h => h) rfl
set_option maxRecDepth 1000000 in
set_option maxHeartbeats 4000000 in
theorem g_x_status33 (p1 : Int32) {X : XX} {g : GG} {I : MJ} {d : Nat} (hd : 0 ≤ d) : Go d 33 0 (lv_args 0 [.ref 0, .int p1]) [] (hh X g I) (f_x_status33 p1 I) (pR X g I) := by
  unfold f_x_status33
  refine Go_blk 1 (pc' := 1) (L' := [(0, .ref 0), (1, .int p1)]) (S' := [.int p1]) (h' := (hh X g I)) rfl ?_
  refine Go_sw ?_ fun h0 => ?_
  ·
    refine Go_blk 1 (pc' := 28) (L' := [(0, .ref 0), (1, .int p1)]) (S' := []) (h' := (hh X g I)) rfl ?_
    refine Go_blk 2 (pc' := 32) (L' := [(0, .ref 0), (1, .int p1)]) (S' := [.int (I 0 14)]) (h' := (hh X g I)) rfl ?_
    exact Go_ret (fun _ h => h) rfl
  refine Go_sw ?_ fun h1 => ?_
  ·
    refine Go_blk 1 (pc' := 33) (L' := [(0, .ref 0), (1, .int p1)]) (S' := []) (h' := (hh X g I)) rfl ?_
    refine Go_blk 2 (pc' := 37) (L' := [(0, .ref 0), (1, .int p1)]) (S' := [.int (I 0 15)]) (h' := (hh X g I)) rfl ?_
    exact Go_ret (fun _ h => h) rfl
  refine Go_sw ?_ fun h2 => ?_
  ·
    refine Go_blk 1 (pc' := 38) (L' := [(0, .ref 0), (1, .int p1)]) (S' := []) (h' := (hh X g I)) rfl ?_
    refine Go_blk 2 (pc' := 42) (L' := [(0, .ref 0), (1, .int p1)]) (S' := [.int (I 0 16)]) (h' := (hh X g I)) rfl ?_
    exact Go_ret (fun _ h => h) rfl
  refine Go_swd (t := 43) 3 rfl (by decide) (by decide) (by decide) ⟨⟨⟨trivial, h0⟩, h1⟩, h2⟩ rfl ?_
  refine Go_blk 1 (pc' := 44) (L' := [(0, .ref 0), (1, .int p1)]) (S' := [.int (-1 : Int32)]) (h' := (hh X g I)) rfl ?_
  exact Go_ret (fun _ h => h) rfl
set_option maxRecDepth 1000000 in
set_option maxHeartbeats 4000000 in
theorem g_m_status384 (p1 : Int32) {X : XX} {g : GG} {I : MJ} {d : Nat} (hd : 1 ≤ d) : Go d 384 0 (lv_args 0 [.ref 47, .int p1]) [] (hh X g I) (f_m_status384 p1 I) (pW X g) := by
  obtain ⟨d, rfl⟩ : ∃ k, d = k + 1 := ⟨d - 1, by omega⟩
  unfold f_m_status384
  refine Go_blk 6 (pc' := 8) (L' := [(0, .ref 47), (1, .int p1)]) (S' := [.int (2 : Int32), .int (0 : Int32), .int p1]) (h' := (hh X g (ab_up1 I 47 0 (0 : Int32)))) rfl ?_
  refine Go_cR (y' := 264) (As := [.int p1, .int (0 : Int32), .int (2 : Int32)]) (r := []) rfl (g_m_in264 p1 (0 : Int32) (2 : Int32) (by omega)) fun v1 => ?_
  refine Go_seq (pcj := 24) (fun (b2 : Int32) => []) (fun (b2 : Int32) => [.int b2]) (fun (b2 : Int32) => (hh X g (ab_up1 I 47 0 (0 : Int32)))) (fun b2 => ?_) ?_
  ·
    exact Go_ret (fun _ h => h) rfl
  ·
    refine Go_cmz rfl rfl rfl ?_ ?_
    ·
      refine Go_blk 1 (pc' := 24) (L' := [(0, .ref 47), (1, .int p1)]) (S' := [.int (-1 : Int32)]) (h' := (hh X g (ab_up1 I 47 0 (0 : Int32)))) rfl ?_
      exact Go_jmp [] rfl trivial (fun _ h => h)
    ·
      refine Go_blk 3 (pc' := 19) (L' := [(0, .ref 47), (1, .int p1)]) (S' := [.int p1, .ref 49]) (h' := (hh X g (ab_up1 I 47 0 (0 : Int32)))) rfl ?_
      refine Go_iald rfl fun v3 => ?_
      refine Go_blk 1 (pc' := 24) (L' := [(0, .ref 47), (1, .int p1)]) (S' := [.int v3]) (h' := (hh X g (ab_up1 I 47 0 (0 : Int32)))) rfl ?_
      exact Go_jmp [] rfl trivial (fun _ h => h)
set_option maxRecDepth 1000000 in
set_option maxHeartbeats 4000000 in
theorem g_x_count34 (p1 : Int32) {X : XX} {g : GG} {I : MJ} {d : Nat} (hd : 0 ≤ d) : Go d 34 0 (lv_args 0 [.ref 0, .int p1]) [] (hh X g I) (f_x_count34 p1 I) (pR X g I) := by
  unfold f_x_count34
  refine Go_blk 1 (pc' := 1) (L' := [(0, .ref 0), (1, .int p1)]) (S' := [.int p1]) (h' := (hh X g I)) rfl ?_
  refine Go_sw ?_ fun h0 => ?_
  ·
    refine Go_blk 1 (pc' := 28) (L' := [(0, .ref 0), (1, .int p1)]) (S' := []) (h' := (hh X g I)) rfl ?_
    refine Go_blk 3 (pc' := 35) (L' := [(0, .ref 0), (1, .int p1)]) (S' := [.int (I 31 4)]) (h' := (hh X g I)) rfl ?_
    exact Go_ret (fun _ h => h) rfl
  refine Go_sw ?_ fun h1 => ?_
  ·
    refine Go_blk 1 (pc' := 36) (L' := [(0, .ref 0), (1, .int p1)]) (S' := []) (h' := (hh X g I)) rfl ?_
    refine Go_blk 3 (pc' := 43) (L' := [(0, .ref 0), (1, .int p1)]) (S' := [.int (I 1 1)]) (h' := (hh X g I)) rfl ?_
    exact Go_ret (fun _ h => h) rfl
  refine Go_sw ?_ fun h2 => ?_
  ·
    refine Go_blk 1 (pc' := 44) (L' := [(0, .ref 0), (1, .int p1)]) (S' := []) (h' := (hh X g I)) rfl ?_
    refine Go_blk 3 (pc' := 51) (L' := [(0, .ref 0), (1, .int p1)]) (S' := [.int (I 31 3)]) (h' := (hh X g I)) rfl ?_
    exact Go_ret (fun _ h => h) rfl
  refine Go_swd (t := 52) 3 rfl (by decide) (by decide) (by decide) ⟨⟨⟨trivial, h0⟩, h1⟩, h2⟩ rfl ?_
  refine Go_blk 1 (pc' := 53) (L' := [(0, .ref 0), (1, .int p1)]) (S' := [.int (-1 : Int32)]) (h' := (hh X g I)) rfl ?_
  exact Go_ret (fun _ h => h) rfl
set_option maxRecDepth 1000000 in
set_option maxHeartbeats 4000000 in
theorem g_m_count385 (p1 : Int32) {X : XX} {g : GG} {I : MJ} {d : Nat} (hd : 0 ≤ d) : Go d 385 0 (lv_args 0 [.ref 47, .int p1]) [] (hh X g I) (f_m_count385 p1 I) (pW X g) := by
  unfold f_m_count385
  refine Go_blk 4 (pc' := 6) (L' := [(0, .ref 47), (1, .int p1)]) (S' := [.int p1]) (h' := (hh X g (ab_up1 I 47 0 (0 : Int32)))) rfl ?_
  refine Go_seq (pcj := 41) (fun (b1 : Int32) => []) (fun (b1 : Int32) => [.int b1]) (fun (b1 : Int32) => (hh X g (ab_up1 I 47 0 (0 : Int32)))) (fun b1 => ?_) ?_
  ·
    exact Go_ret (fun _ h => h) rfl
  ·
    refine Go_cmzn rfl rfl rfl ?_ ?_
    ·
      refine Go_blk 3 (pc' := 41) (L' := [(0, .ref 47), (1, .int p1)]) (S' := [.int (I 47 42)]) (h' := (hh X g (ab_up1 I 47 0 (0 : Int32)))) rfl ?_
      exact Go_jmp [] rfl trivial (fun _ h => h)
    ·
      refine Go_blk 2 (pc' := 18) (L' := [(0, .ref 47), (1, .int p1)]) (S' := [.int (1 : Int32), .int p1]) (h' := (hh X g (ab_up1 I 47 0 (0 : Int32)))) rfl ?_
      refine Go_cmpn rfl rfl rfl ?_ ?_
      ·
        refine Go_blk 3 (pc' := 41) (L' := [(0, .ref 47), (1, .int p1)]) (S' := [.int (I 47 1)]) (h' := (hh X g (ab_up1 I 47 0 (0 : Int32)))) rfl ?_
        exact Go_jmp [] rfl trivial (fun _ h => h)
      ·
        refine Go_blk 2 (pc' := 30) (L' := [(0, .ref 47), (1, .int p1)]) (S' := [.int (2 : Int32), .int p1]) (h' := (hh X g (ab_up1 I 47 0 (0 : Int32)))) rfl ?_
        refine Go_cmpn rfl rfl rfl ?_ ?_
        ·
          refine Go_blk 3 (pc' := 41) (L' := [(0, .ref 47), (1, .int p1)]) (S' := [.int (I 47 40)]) (h' := (hh X g (ab_up1 I 47 0 (0 : Int32)))) rfl ?_
          exact Go_jmp [] rfl trivial (fun _ h => h)
        ·
          refine Go_blk 1 (pc' := 41) (L' := [(0, .ref 47), (1, .int p1)]) (S' := [.int (-1 : Int32)]) (h' := (hh X g (ab_up1 I 47 0 (0 : Int32)))) rfl ?_
          exact Go_jmp [] rfl trivial (fun _ h => h)
