/-! the machine runs them (written by wip/whole/dec.py) -/
set_option maxRecDepth 1000000 in
set_option maxHeartbeats 4000000 in
theorem g_m_cloth338 (p1 : Int32) (p2 : Int32) {X : XX} {g : GG} {I : MJ} {d : Nat} (hd : 2 ≤ d) : Go d 338 0 (lv_args 0 [.ref 47, .int p1, .int p2]) [] (hh X g I) (f_m_cloth338 p1 p2 I) (pW X g) := by
  obtain ⟨d, rfl⟩ : ∃ k, d = k + 1 := ⟨d - 1, by omega⟩
  unfold f_m_cloth338
  refine Go_blk 7 (pc' := 9) (L' := [(0, .ref 47), (1, .int p1), (2, .int p2)]) (S' := [.int (5 : Int32), .int (0 : Int32), .int p1, .ref 47]) (h' := (hh X g (ab_up1 I 47 0 (0 : Int32)))) rfl ?_
  refine Go_cR (y' := 264) (As := [.int p1, .int (0 : Int32), .int (5 : Int32)]) (r := [.ref 47]) rfl (g_m_in264 p1 (0 : Int32) (5 : Int32) (by omega)) fun v1 => ?_
  refine Go_seq (pcj := 29) (fun (b2 : Int32) => [(0, .ref 47), (1, .int p1), (2, .int p2)]) (fun (b2 : Int32) => [.int b2, .ref 47]) (fun (b2 : Int32) => (hh X g (ab_up1 I 47 0 (0 : Int32)))) (fun b2 => ?_) ?_
  ·
    refine Go_blk 2 (pc' := 31) (L' := [(0, .ref 47), (1, .int p1), (2, .int p2)]) (S' := [.int (1 : Int32), .int (1 : Int32), .int b2, .ref 47]) (h' := (hh X g (ab_up1 I 47 0 (0 : Int32)))) rfl ?_
    refine Go_cW (y' := 268) (As := [.ref 47, .int b2, .int (1 : Int32), .int (1 : Int32)]) (r := []) rfl (g_m_bad268 b2 (1 : Int32) (1 : Int32) (by omega)) fun w3 => ?_
    refine Go_cmz rfl rfl rfl ?_ ?_
    ·
      refine Go_blk 4 (pc' := 44) (L' := [(4, .int (0 : Int32)), (3, .int (0 : Int32)), (0, .ref 47), (1, .int p1), (2, .int p2)]) (S' := []) (h' := (hh X g w3.2)) rfl ?_
      refine Go_lcs [(0, .ref 47), (1, .int p1), (2, .int p2), (3, .int (0 : Int32)), (4, .int (0 : Int32))] rfl ⟨rfl, rfl, rfl, rfl, rfl, trivial⟩ ?_
      refine Go_seq (pcj := 94) (fun (b5 : Int32) => [(0, .ref 47), (1, .int p1), (2, .int p2), (3, .int b5)]) (fun (b5 : Int32) => []) (fun (b5 : Int32) => (hh X g w3.2)) (fun b5 => ?_) ?_
      ·
        refine Go_blk 2 (pc' := 97) (L' := [(4, .int (0 : Int32)), (0, .ref 47), (1, .int p1), (2, .int p2), (3, .int b5)]) (S' := []) (h' := (hh X g w3.2)) rfl ?_
        refine Go_lcs [(0, .ref 47), (1, .int p1), (2, .int p2), (3, .int b5), (4, .int (0 : Int32))] rfl ⟨rfl, rfl, rfl, rfl, rfl, trivial⟩ ?_
        refine Go_seq (pcj := 172) (fun (b7 : Int32) => [(0, .ref 47), (1, .int p1), (2, .int p2), (3, .int b7)]) (fun (b7 : Int32) => []) (fun (b7 : Int32) => (hh X g w3.2)) (fun b7 => ?_) ?_
        ·
          refine Go_blk 2 (pc' := 175) (L' := [(4, .int (0 : Int32)), (0, .ref 47), (1, .int p1), (2, .int p2), (3, .int b7)]) (S' := []) (h' := (hh X g w3.2)) rfl ?_
          refine Go_lcs [(0, .ref 47), (1, .int p1), (2, .int p2), (3, .int b7), (4, .int (0 : Int32))] rfl ⟨rfl, rfl, rfl, rfl, rfl, trivial⟩ ?_
          refine Go_seq (pcj := 272) (fun (b9 : Int32) => [(3, .int b9)]) (fun (b9 : Int32) => []) (fun (b9 : Int32) => (hh X g w3.2)) (fun b9 => ?_) ?_
          ·
            refine Go_blk 1 (pc' := 273) (L' := [(3, .int b9)]) (S' := [.int b9]) (h' := (hh X g w3.2)) rfl ?_
            exact Go_ret (fun _ h => h) rfl
          ·
            refine Go_wh (fun (s8 : Int32 × Int32) => [(0, .ref 47), (1, .int p1), (2, .int p2), (3, .int s8.1), (4, .int s8.2)]) (fun _ => []) (fun (s8 : Int32 × Int32) => (hh X g w3.2)) (fun s8 => ?_) (b7, (0 : Int32))
            refine Go_blk 5 (pc' := 183) (L' := [(0, .ref 47), (1, .int p1), (2, .int p2), (3, .int s8.1), (4, .int s8.2)]) (S' := [.int (w3.2 51 3), .int s8.2]) (h' := (hh X g w3.2)) rfl ?_
            refine Go_cmpn rfl rfl (ab_cge _ _) ?_ ?_
            ·
              refine Go_blk 2 (pc' := 188) (L' := [(0, .ref 47), (1, .int p1), (2, .int p2), (3, .int s8.1), (4, .int s8.2)]) (S' := [.int (2 : Int32), .int p2]) (h' := (hh X g w3.2)) rfl ?_
              refine Go_cmpn rfl rfl rfl ?_ ?_
              ·
                refine Go_blk 2 (pc' := 194) (L' := [(5, .int (0 : Int32)), (0, .ref 47), (1, .int p1), (2, .int p2), (3, .int s8.1), (4, .int s8.2)]) (S' := []) (h' := (hh X g w3.2)) rfl ?_
                refine Go_lcs [(0, .ref 47), (1, .int p1), (2, .int p2), (3, .int s8.1), (4, .int s8.2), (5, .int (0 : Int32))] rfl ⟨rfl, rfl, rfl, rfl, rfl, rfl, trivial⟩ ?_
                refine Go_seq (pcj := 266) (fun (b11 : Int32) => [(0, .ref 47), (1, .int p1), (2, .int p2), (3, .int b11), (4, .int s8.2)]) (fun (b11 : Int32) => []) (fun (b11 : Int32) => (hh X g w3.2)) (fun b11 => ?_) ?_
                ·
                  refine Go_blk 2 (pc' := 175) (L' := [(4, .int (s8.2 + (1 : Int32))), (0, .ref 47), (1, .int p1), (2, .int p2), (3, .int b11)]) (S' := []) (h' := (hh X g w3.2)) rfl ?_
                  exact Go_jmp [(0, .ref 47), (1, .int p1), (2, .int p2), (3, .int b11), (4, .int (s8.2 + (1 : Int32)))] rfl ⟨rfl, rfl, rfl, rfl, rfl, trivial⟩ (fun _ h => h)
                ·
                  refine Go_wh (fun (s10 : Int32 × Int32) => [(0, .ref 47), (1, .int p1), (2, .int p2), (3, .int s10.1), (4, .int s8.2), (5, .int s10.2)]) (fun _ => []) (fun (s10 : Int32 × Int32) => (hh X g w3.2)) (fun s10 => ?_) (s8.1, (0 : Int32))
                  refine Go_blk 2 (pc' := 198) (L' := [(0, .ref 47), (1, .int p1), (2, .int p2), (3, .int s10.1), (4, .int s8.2), (5, .int s10.2)]) (S' := [.int (12 : Int32), .int s10.2]) (h' := (hh X g w3.2)) rfl ?_
                  refine Go_cmpn rfl rfl (ab_cge _ _) ?_ ?_
                  ·
                    refine Go_blk 5 (pc' := 209) (L' := [(0, .ref 47), (1, .int p1), (2, .int p2), (3, .int s10.1), (4, .int s8.2), (5, .int s10.2)]) (S' := [.int s8.2, .ref 576, .ref 47, .int s10.1]) (h' := (hh X g w3.2)) rfl ?_
                    refine Go_cR (y' := 312) (As := [.ref 47, .ref 576, .int s8.2]) (r := [.int s10.1]) rfl (g_m_stateOf312 576 s8.2 (by omega)) fun v12 => ?_
                    refine Go_seq (pcj := 258) (fun (b13 : Int32) => [(0, .ref 47), (1, .int p1), (2, .int p2), (4, .int s8.2), (5, .int s10.2)]) (fun (b13 : Int32) => [.int b13, .int s10.1]) (fun (b13 : Int32) => (hh X g w3.2)) (fun b13 => ?_) ?_
                    ·
                      refine Go_blk 4 (pc' := 194) (L' := [(5, .int (s10.2 + (1 : Int32))), (3, .int (s10.1 + b13)), (0, .ref 47), (1, .int p1), (2, .int p2), (4, .int s8.2)]) (S' := []) (h' := (hh X g w3.2)) rfl ?_
                      exact Go_jmp [(0, .ref 47), (1, .int p1), (2, .int p2), (3, .int (s10.1 + b13)), (4, .int s8.2), (5, .int (s10.2 + (1 : Int32)))] rfl ⟨rfl, rfl, rfl, rfl, rfl, rfl, trivial⟩ (fun _ h => h)
                    ·
                      refine Go_cmzn rfl rfl rfl ?_ ?_
                      ·
                        refine Go_blk 5 (pc' := 225) (L' := [(0, .ref 47), (1, .int p1), (2, .int p2), (3, .int s10.1), (4, .int s8.2), (5, .int s10.2)]) (S' := [.int s8.2, .ref 119, .ref 135, .int s10.1]) (h' := (hh X g w3.2)) rfl ?_
                        refine Go_aald rfl fun r14 => ?_
                        refine Go_blk 1 (pc' := 227) (L' := [(0, .ref 47), (1, .int p1), (2, .int p2), (3, .int s10.1), (4, .int s8.2), (5, .int s10.2)]) (S' := [.int (1 : Int32), .ref r14, .ref 135, .int s10.1]) (h' := (hh X g w3.2)) rfl ?_
                        refine Go_iald rfl fun v15 => ?_
                        refine Go_bald rfl fun v16 => ?_
                        refine Go_cmz rfl rfl rfl ?_ ?_
                        ·
                          refine Go_blk 1 (pc' := 258) (L' := [(0, .ref 47), (1, .int p1), (2, .int p2), (3, .int s10.1), (4, .int s8.2), (5, .int s10.2)]) (S' := [.int (0 : Int32), .int s10.1]) (h' := (hh X g w3.2)) rfl ?_
                          exact Go_jmp [(0, .ref 47), (1, .int p1), (2, .int p2), (4, .int s8.2), (5, .int s10.2)] rfl ⟨rfl, rfl, rfl, rfl, rfl, trivial⟩ (fun _ h => h)
                        ·
                          refine Go_blk 5 (pc' := 242) (L' := [(0, .ref 47), (1, .int p1), (2, .int p2), (3, .int s10.1), (4, .int s8.2), (5, .int s10.2)]) (S' := [.int s8.2, .ref 119, .ref 128, .int s10.1]) (h' := (hh X g w3.2)) rfl ?_
                          refine Go_aald rfl fun r17 => ?_
                          refine Go_blk 1 (pc' := 244) (L' := [(0, .ref 47), (1, .int p1), (2, .int p2), (3, .int s10.1), (4, .int s8.2), (5, .int s10.2)]) (S' := [.int (1 : Int32), .ref r17, .ref 128, .int s10.1]) (h' := (hh X g w3.2)) rfl ?_
                          refine Go_iald rfl fun v18 => ?_
                          refine Go_aald rfl fun r19 => ?_
                          refine Go_blk 1 (pc' := 248) (L' := [(0, .ref 47), (1, .int p1), (2, .int p2), (3, .int s10.1), (4, .int s8.2), (5, .int s10.2)]) (S' := [.int s10.2, .ref r19, .int s10.1]) (h' := (hh X g w3.2)) rfl ?_
                          refine Go_iald rfl fun v20 => ?_
                          refine Go_blk 1 (pc' := 250) (L' := [(0, .ref 47), (1, .int p1), (2, .int p2), (3, .int s10.1), (4, .int s8.2), (5, .int s10.2)]) (S' := [.int p1, .int v20, .int s10.1]) (h' := (hh X g w3.2)) rfl ?_
                          refine Go_cmpn rfl rfl rfl ?_ ?_
                          ·
                            refine Go_blk 2 (pc' := 258) (L' := [(0, .ref 47), (1, .int p1), (2, .int p2), (3, .int s10.1), (4, .int s8.2), (5, .int s10.2)]) (S' := [.int (1 : Int32), .int s10.1]) (h' := (hh X g w3.2)) rfl ?_
                            exact Go_jmp [(0, .ref 47), (1, .int p1), (2, .int p2), (4, .int s8.2), (5, .int s10.2)] rfl ⟨rfl, rfl, rfl, rfl, rfl, trivial⟩ (fun _ h => h)
                          ·
                            refine Go_blk 1 (pc' := 258) (L' := [(0, .ref 47), (1, .int p1), (2, .int p2), (3, .int s10.1), (4, .int s8.2), (5, .int s10.2)]) (S' := [.int (0 : Int32), .int s10.1]) (h' := (hh X g w3.2)) rfl ?_
                            exact Go_jmp [(0, .ref 47), (1, .int p1), (2, .int p2), (4, .int s8.2), (5, .int s10.2)] rfl ⟨rfl, rfl, rfl, rfl, rfl, trivial⟩ (fun _ h => h)
                      ·
                        refine Go_blk 1 (pc' := 258) (L' := [(0, .ref 47), (1, .int p1), (2, .int p2), (3, .int s10.1), (4, .int s8.2), (5, .int s10.2)]) (S' := [.int (0 : Int32), .int s10.1]) (h' := (hh X g w3.2)) rfl ?_
                        exact Go_jmp [(0, .ref 47), (1, .int p1), (2, .int p2), (4, .int s8.2), (5, .int s10.2)] rfl ⟨rfl, rfl, rfl, rfl, rfl, trivial⟩ (fun _ h => h)
                  ·
                    exact Go_jmp [(0, .ref 47), (1, .int p1), (2, .int p2), (3, .int s10.1), (4, .int s8.2)] rfl ⟨rfl, rfl, rfl, rfl, rfl, trivial⟩ (fun _ h => h)
              ·
                exact Go_jmp [(3, .int s8.1)] rfl ⟨rfl, trivial⟩ (fun _ h => h)
            ·
              exact Go_jmp [(3, .int s8.1)] rfl ⟨rfl, trivial⟩ (fun _ h => h)
        ·
          refine Go_wh (fun (s6 : Int32 × Int32) => [(0, .ref 47), (1, .int p1), (2, .int p2), (3, .int s6.1), (4, .int s6.2)]) (fun _ => []) (fun (s6 : Int32 × Int32) => (hh X g w3.2)) (fun s6 => ?_) (b5, (0 : Int32))
          refine Go_blk 5 (pc' := 105) (L' := [(0, .ref 47), (1, .int p1), (2, .int p2), (3, .int s6.1), (4, .int s6.2)]) (S' := [.int (w3.2 51 1), .int s6.2]) (h' := (hh X g w3.2)) rfl ?_
          refine Go_cmpn rfl rfl (ab_cge _ _) ?_ ?_
          ·
            refine Go_blk 2 (pc' := 110) (L' := [(0, .ref 47), (1, .int p1), (2, .int p2), (3, .int s6.1), (4, .int s6.2)]) (S' := [.int (1 : Int32), .int p2]) (h' := (hh X g w3.2)) rfl ?_
            refine Go_cmpn rfl rfl rfl ?_ ?_
            ·
              refine Go_blk 2 (pc' := 116) (L' := [(5, .int (0 : Int32)), (0, .ref 47), (1, .int p1), (2, .int p2), (3, .int s6.1), (4, .int s6.2)]) (S' := []) (h' := (hh X g w3.2)) rfl ?_
              refine Go_lcs [(0, .ref 47), (1, .int p1), (2, .int p2), (3, .int s6.1), (4, .int s6.2), (5, .int (0 : Int32))] rfl ⟨rfl, rfl, rfl, rfl, rfl, rfl, trivial⟩ ?_
              refine Go_seq (pcj := 166) (fun (b22 : Int32) => [(0, .ref 47), (1, .int p1), (2, .int p2), (3, .int b22), (4, .int s6.2)]) (fun (b22 : Int32) => []) (fun (b22 : Int32) => (hh X g w3.2)) (fun b22 => ?_) ?_
              ·
                refine Go_blk 2 (pc' := 97) (L' := [(4, .int (s6.2 + (1 : Int32))), (0, .ref 47), (1, .int p1), (2, .int p2), (3, .int b22)]) (S' := []) (h' := (hh X g w3.2)) rfl ?_
                exact Go_jmp [(0, .ref 47), (1, .int p1), (2, .int p2), (3, .int b22), (4, .int (s6.2 + (1 : Int32)))] rfl ⟨rfl, rfl, rfl, rfl, rfl, trivial⟩ (fun _ h => h)
              ·
                refine Go_wh (fun (s21 : Int32 × Int32) => [(0, .ref 47), (1, .int p1), (2, .int p2), (3, .int s21.1), (4, .int s6.2), (5, .int s21.2)]) (fun _ => []) (fun (s21 : Int32 × Int32) => (hh X g w3.2)) (fun s21 => ?_) (s6.1, (0 : Int32))
                refine Go_blk 2 (pc' := 120) (L' := [(0, .ref 47), (1, .int p1), (2, .int p2), (3, .int s21.1), (4, .int s6.2), (5, .int s21.2)]) (S' := [.int (12 : Int32), .int s21.2]) (h' := (hh X g w3.2)) rfl ?_
                refine Go_cmpn rfl rfl (ab_cge _ _) ?_ ?_
                ·
                  refine Go_blk 4 (pc' := 130) (L' := [(0, .ref 47), (1, .int p1), (2, .int p2), (3, .int s21.1), (4, .int s6.2), (5, .int s21.2)]) (S' := [.int s6.2, .ref 576, .int s21.1]) (h' := (hh X g w3.2)) rfl ?_
                  refine Go_cR (y' := 305) (As := [.ref 576, .int s6.2]) (r := [.int s21.1]) rfl (g_m_hasSuit305 576 s6.2 (by omega)) fun v23 => ?_
                  refine Go_seq (pcj := 158) (fun (b24 : Int32) => [(0, .ref 47), (1, .int p1), (2, .int p2), (4, .int s6.2), (5, .int s21.2)]) (fun (b24 : Int32) => [.int b24, .int s21.1]) (fun (b24 : Int32) => (hh X g w3.2)) (fun b24 => ?_) ?_
                  ·
                    refine Go_blk 4 (pc' := 116) (L' := [(5, .int (s21.2 + (1 : Int32))), (3, .int (s21.1 + b24)), (0, .ref 47), (1, .int p1), (2, .int p2), (4, .int s6.2)]) (S' := []) (h' := (hh X g w3.2)) rfl ?_
                    exact Go_jmp [(0, .ref 47), (1, .int p1), (2, .int p2), (3, .int (s21.1 + b24)), (4, .int s6.2), (5, .int (s21.2 + (1 : Int32)))] rfl ⟨rfl, rfl, rfl, rfl, rfl, rfl, trivial⟩ (fun _ h => h)
                  ·
                    refine Go_cmz rfl rfl rfl ?_ ?_
                    ·
                      refine Go_blk 1 (pc' := 158) (L' := [(0, .ref 47), (1, .int p1), (2, .int p2), (3, .int s21.1), (4, .int s6.2), (5, .int s21.2)]) (S' := [.int (0 : Int32), .int s21.1]) (h' := (hh X g w3.2)) rfl ?_
                      exact Go_jmp [(0, .ref 47), (1, .int p1), (2, .int p2), (4, .int s6.2), (5, .int s21.2)] rfl ⟨rfl, rfl, rfl, rfl, rfl, trivial⟩ (fun _ h => h)
                    ·
                      refine Go_blk 3 (pc' := 142) (L' := [(0, .ref 47), (1, .int p1), (2, .int p2), (3, .int s21.1), (4, .int s6.2), (5, .int s21.2)]) (S' := [.int s6.2, .ref 576, .int s21.1]) (h' := (hh X g w3.2)) rfl ?_
                      refine Go_cR (y' := 310) (As := [.int s6.2]) (r := [.ref 576, .int s21.1]) rfl (g_m_suitOf310 s6.2 (by omega)) fun v25 => ?_
                      refine Go_blk 2 (pc' := 148) (L' := [(0, .ref 47), (1, .int p1), (2, .int p2), (3, .int s21.1), (4, .int s6.2), (5, .int s21.2)]) (S' := [.int (v25 + s21.2), .ref 576, .int s21.1]) (h' := (hh X g w3.2)) rfl ?_
                      refine Go_iald rfl fun v26 => ?_
                      refine Go_blk 1 (pc' := 150) (L' := [(0, .ref 47), (1, .int p1), (2, .int p2), (3, .int s21.1), (4, .int s6.2), (5, .int s21.2)]) (S' := [.int p1, .int v26, .int s21.1]) (h' := (hh X g w3.2)) rfl ?_
                      refine Go_cmpn rfl rfl rfl ?_ ?_
                      ·
                        refine Go_blk 2 (pc' := 158) (L' := [(0, .ref 47), (1, .int p1), (2, .int p2), (3, .int s21.1), (4, .int s6.2), (5, .int s21.2)]) (S' := [.int (1 : Int32), .int s21.1]) (h' := (hh X g w3.2)) rfl ?_
                        exact Go_jmp [(0, .ref 47), (1, .int p1), (2, .int p2), (4, .int s6.2), (5, .int s21.2)] rfl ⟨rfl, rfl, rfl, rfl, rfl, trivial⟩ (fun _ h => h)
                      ·
                        refine Go_blk 1 (pc' := 158) (L' := [(0, .ref 47), (1, .int p1), (2, .int p2), (3, .int s21.1), (4, .int s6.2), (5, .int s21.2)]) (S' := [.int (0 : Int32), .int s21.1]) (h' := (hh X g w3.2)) rfl ?_
                        exact Go_jmp [(0, .ref 47), (1, .int p1), (2, .int p2), (4, .int s6.2), (5, .int s21.2)] rfl ⟨rfl, rfl, rfl, rfl, rfl, trivial⟩ (fun _ h => h)
                ·
                  exact Go_jmp [(0, .ref 47), (1, .int p1), (2, .int p2), (3, .int s21.1), (4, .int s6.2)] rfl ⟨rfl, rfl, rfl, rfl, rfl, trivial⟩ (fun _ h => h)
            ·
              exact Go_jmp [(0, .ref 47), (1, .int p1), (2, .int p2), (3, .int s6.1)] rfl ⟨rfl, rfl, rfl, rfl, trivial⟩ (fun _ h => h)
          ·
            exact Go_jmp [(0, .ref 47), (1, .int p1), (2, .int p2), (3, .int s6.1)] rfl ⟨rfl, rfl, rfl, rfl, trivial⟩ (fun _ h => h)
      ·
        refine Go_wh (fun (s4 : Int32 × Int32) => [(0, .ref 47), (1, .int p1), (2, .int p2), (3, .int s4.1), (4, .int s4.2)]) (fun _ => []) (fun (s4 : Int32 × Int32) => (hh X g w3.2)) (fun s4 => ?_) ((0 : Int32), (0 : Int32))
        refine Go_blk 5 (pc' := 52) (L' := [(0, .ref 47), (1, .int p1), (2, .int p2), (3, .int s4.1), (4, .int s4.2)]) (S' := [.int (w3.2 51 0), .int s4.2]) (h' := (hh X g w3.2)) rfl ?_
        refine Go_cmpn rfl rfl (ab_cge _ _) ?_ ?_
        ·
          refine Go_blk 1 (pc' := 56) (L' := [(0, .ref 47), (1, .int p1), (2, .int p2), (3, .int s4.1), (4, .int s4.2)]) (S' := [.int p2]) (h' := (hh X g w3.2)) rfl ?_
          refine Go_cmzn rfl rfl rfl ?_ ?_
          ·
            refine Go_blk 4 (pc' := 66) (L' := [(0, .ref 47), (1, .int p1), (2, .int p2), (3, .int s4.1), (4, .int s4.2)]) (S' := [.int s4.2, .ref 65, .int s4.1]) (h' := (hh X g w3.2)) rfl ?_
            refine Go_aald rfl fun r27 => ?_
            refine Go_blk 1 (pc' := 68) (L' := [(0, .ref 47), (1, .int p1), (2, .int p2), (3, .int s4.1), (4, .int s4.2)]) (S' := [.int (0 : Int32), .ref r27, .int s4.1]) (h' := (hh X g w3.2)) rfl ?_
            refine Go_iald rfl fun v28 => ?_
            refine Go_blk 1 (pc' := 70) (L' := [(0, .ref 47), (1, .int p1), (2, .int p2), (3, .int s4.1), (4, .int s4.2)]) (S' := [.int p1, .int v28, .int s4.1]) (h' := (hh X g w3.2)) rfl ?_
            refine Go_seq (pcj := 86) (fun (b29 : Int32) => [(0, .ref 47), (1, .int p1), (2, .int p2), (4, .int s4.2)]) (fun (b29 : Int32) => [.int b29, .int s4.1]) (fun (b29 : Int32) => (hh X g w3.2)) (fun b29 => ?_) ?_
            ·
              refine Go_blk 4 (pc' := 44) (L' := [(4, .int (s4.2 + (1 : Int32))), (3, .int (s4.1 + b29)), (0, .ref 47), (1, .int p1), (2, .int p2)]) (S' := []) (h' := (hh X g w3.2)) rfl ?_
              exact Go_jmp [(0, .ref 47), (1, .int p1), (2, .int p2), (3, .int (s4.1 + b29)), (4, .int (s4.2 + (1 : Int32)))] rfl ⟨rfl, rfl, rfl, rfl, rfl, trivial⟩ (fun _ h => h)
            ·
              refine Go_cmpn rfl rfl rfl ?_ ?_
              ·
                refine Go_blk 5 (pc' := 81) (L' := [(0, .ref 47), (1, .int p1), (2, .int p2), (3, .int s4.1), (4, .int s4.2)]) (S' := [.int ((0 : Int32) + s4.2), .ref 576, .int s4.1]) (h' := (hh X g w3.2)) rfl ?_
                refine Go_iald rfl fun v30 => ?_
                refine Go_blk 1 (pc' := 86) (L' := [(0, .ref 47), (1, .int p1), (2, .int p2), (3, .int s4.1), (4, .int s4.2)]) (S' := [.int v30, .int s4.1]) (h' := (hh X g w3.2)) rfl ?_
                exact Go_jmp [(0, .ref 47), (1, .int p1), (2, .int p2), (4, .int s4.2)] rfl ⟨rfl, rfl, rfl, rfl, trivial⟩ (fun _ h => h)
              ·
                refine Go_blk 1 (pc' := 86) (L' := [(0, .ref 47), (1, .int p1), (2, .int p2), (3, .int s4.1), (4, .int s4.2)]) (S' := [.int (0 : Int32), .int s4.1]) (h' := (hh X g w3.2)) rfl ?_
                exact Go_jmp [(0, .ref 47), (1, .int p1), (2, .int p2), (4, .int s4.2)] rfl ⟨rfl, rfl, rfl, rfl, trivial⟩ (fun _ h => h)
          ·
            exact Go_jmp [(0, .ref 47), (1, .int p1), (2, .int p2), (3, .int s4.1)] rfl ⟨rfl, rfl, rfl, rfl, trivial⟩ (fun _ h => h)
        ·
          exact Go_jmp [(0, .ref 47), (1, .int p1), (2, .int p2), (3, .int s4.1)] rfl ⟨rfl, rfl, rfl, rfl, trivial⟩ (fun _ h => h)
    ·
      refine Go_blk 1 (pc' := 38) (L' := [(0, .ref 47), (1, .int p1), (2, .int p2)]) (S' := [.int (0 : Int32)]) (h' := (hh X g w3.2)) rfl ?_
      exact Go_ret (fun _ h => h) rfl
  ·
    refine Go_cmz rfl rfl rfl ?_ ?_
    ·
      refine Go_blk 2 (pc' := 29) (L' := [(0, .ref 47), (1, .int p1), (2, .int p2)]) (S' := [.int (1 : Int32), .ref 47]) (h' := (hh X g (ab_up1 I 47 0 (0 : Int32)))) rfl ?_
      exact Go_jmp [(0, .ref 47), (1, .int p1), (2, .int p2)] rfl ⟨rfl, rfl, rfl, trivial⟩ (fun _ h => h)
    ·
      refine Go_blk 3 (pc' := 18) (L' := [(0, .ref 47), (1, .int p1), (2, .int p2)]) (S' := [.int (2 : Int32), .int (0 : Int32), .int p2, .ref 47]) (h' := (hh X g (ab_up1 I 47 0 (0 : Int32)))) rfl ?_
      refine Go_cR (y' := 264) (As := [.int p2, .int (0 : Int32), .int (2 : Int32)]) (r := [.ref 47]) rfl (g_m_in264 p2 (0 : Int32) (2 : Int32) (by omega)) fun v31 => ?_
      refine Go_cmzn rfl rfl rfl ?_ ?_
      ·
        refine Go_blk 2 (pc' := 29) (L' := [(0, .ref 47), (1, .int p1), (2, .int p2)]) (S' := [.int (1 : Int32), .ref 47]) (h' := (hh X g (ab_up1 I 47 0 (0 : Int32)))) rfl ?_
        exact Go_jmp [(0, .ref 47), (1, .int p1), (2, .int p2)] rfl ⟨rfl, rfl, rfl, trivial⟩ (fun _ h => h)
      ·
        refine Go_blk 1 (pc' := 29) (L' := [(0, .ref 47), (1, .int p1), (2, .int p2)]) (S' := [.int (0 : Int32), .ref 47]) (h' := (hh X g (ab_up1 I 47 0 (0 : Int32)))) rfl ?_
        exact Go_jmp [(0, .ref 47), (1, .int p1), (2, .int p2)] rfl ⟨rfl, rfl, rfl, trivial⟩ (fun _ h => h)
set_option maxRecDepth 1000000 in
set_option maxHeartbeats 4000000 in
theorem g_x_can171 (p1 : Int32) (p2 : Int32) {X : XX} {g : GG} {I : MJ} {d : Nat} (hd : 4 ≤ d) : Go d 171 0 (lv_args 0 [.ref 0, .int p1, .int p2]) [] (hh X g I) (f_x_can171 p1 p2 I) (pT vI X g) := by
  obtain ⟨d, rfl⟩ : ∃ k, d = k + 1 := ⟨d - 1, by omega⟩
  unfold f_x_can171
  refine Go_blk 5 (pc' := 9) (L' := [(0, .ref 0), (1, .int p1), (2, .int p2)]) (S' := [.int (I 3 6), .int p1, .ref 0]) (h' := (hh X g I)) rfl ?_
  refine Go_cT (y' := 69) (As := [.ref 0, .int p1, .int (I 3 6)]) (r := []) rfl rfl (g_x_needElement69 p1 (I 3 6) (by omega)) fun v1 I2 => ?_
  refine Go_blk 2 (pc' := 14) (L' := [(0, .ref 0), (1, .int p1), (2, .int p2)]) (S' := [.int p2, .ref 0]) (h' := (hh X g I2)) rfl ?_
  refine Go_cT (y' := 68) (As := [.ref 0, .int p2]) (r := []) rfl rfl (g_x_needPattern68 p2 (by omega)) fun v3 I4 => ?_
  refine Go_blk 4 (pc' := 23) (L' := [(0, .ref 0), (1, .int p1), (2, .int p2)]) (S' := [.int p2, .int p1, .ref 28]) (h' := (hh X g I4)) rfl ?_
  refine Go_cW (y' := 106) (As := [.ref 28, .int p1, .int p2]) (r := []) rfl (g_tra_allowsCut106 p1 p2 (by omega)) fun w5 => ?_
  exact Go_ret (fun _ h => h) rfl
set_option maxRecDepth 1000000 in
set_option maxHeartbeats 4000000 in
theorem g_l_can170 (p1 : Int32) (p2 : Int32) {X : XX} {g : GG} {I : MJ} {d : Nat} (hd : 5 ≤ d) : Go d 170 0 (lv_args 0 [.ref 0, .int p1, .int p2, .ref 698]) [] (hh X g I) (f_l_can170 p1 p2 I g) (pG X) := by
  obtain ⟨d, rfl⟩ : ∃ k, d = k + 1 := ⟨d - 1, by omega⟩
  unfold f_l_can170
  refine Go_blk 5 (pc' := 5) (L' := [(0, .ref 0), (1, .int p1), (2, .int p2), (3, .ref 698)]) (S' := [.int p2, .int p1, .ref 0, .int (0 : Int32), .ref 698]) (h' := (hh X g I)) rfl ?_
  refine Go_try (y' := 171) (As := [.ref 0, .int p1, .int p2]) (r := [.int (0 : Int32), .ref 698]) rfl (g_x_can171 p1 p2 (by omega)) (fun v1 I2 => ?_) (fun E2 I2 => ?_)
  ·
    refine Go_seq (pcj := 16) (fun (b3 : Int64) => []) (fun (b3 : Int64) => [.long b3, .int (0 : Int32), .ref 698]) (fun (b3 : Int64) => (hh X g I2)) (fun b3 => ?_) ?_
    ·
      refine Go_last rfl fun g4 => ?_
      refine Go_blk 2 (pc' := 25) (L' := []) (S' := [.int (0 : Int32)]) (h' := (hh X g4 I2)) rfl ?_
      exact Go_ret (fun _ h => h) rfl
    ·
      refine Go_cmz rfl rfl rfl ?_ ?_
      ·
        refine Go_blk 1 (pc' := 16) (L' := [(0, .ref 0), (1, .int p1), (2, .int p2), (3, .ref 698)]) (S' := [.long (0 : Int64), .int (0 : Int32), .ref 698]) (h' := (hh X g I2)) rfl ?_
        exact Go_jmp [] rfl trivial (fun _ h => h)
      ·
        refine Go_blk 2 (pc' := 16) (L' := [(0, .ref 0), (1, .int p1), (2, .int p2), (3, .ref 698)]) (S' := [.long (1 : Int64), .int (0 : Int32), .ref 698]) (h' := (hh X g I2)) rfl ?_
        exact Go_jmp [] rfl trivial (fun _ h => h)
  ·
    refine GX_ite ?_ ?_
    ·
      refine GX_go rfl (t := 22) (k := 4) rfl ?_
      refine Go_blk 1 (pc' := 23) (L' := [(0, .ref 0), (1, .int p1), (2, .int p2), (3, .ref 698)]) (S' := [.int (1 : Int32)]) (h' := (hh X (thr g) I2)) rfl ?_
      exact Go_ret (fun _ h => h) rfl
    exact GX_none
set_option maxRecDepth 1000000 in
set_option maxHeartbeats 4000000 in
theorem g_m_can339 (p1 : Int32) (p2 : Int32) {X : XX} {g : GG} {I : MJ} {d : Nat} (hd : 3 ≤ d) : Go d 339 0 (lv_args 0 [.ref 47, .int p1, .int p2]) [] (hh X g I) (f_m_can339 p1 p2 I) (pW X g) := by
  obtain ⟨d, rfl⟩ : ∃ k, d = k + 1 := ⟨d - 1, by omega⟩
  unfold f_m_can339
  refine Go_blk 6 (pc' := 8) (L' := [(0, .ref 47), (1, .int p1), (2, .int p2)]) (S' := [.int p1, .ref 47, .ref 47]) (h' := (hh X g (ab_up1 I 47 0 (0 : Int32)))) rfl ?_
  refine Go_cR (y' := 328) (As := [.ref 47, .int p1]) (r := [.ref 47]) rfl (g_m_isClient328 p1 (by omega)) fun v1 => ?_
  refine Go_seq (pcj := 27) (fun (b2 : Int32) => [(0, .ref 47), (1, .int p1), (2, .int p2)]) (fun (b2 : Int32) => [.int b2, .ref 47]) (fun (b2 : Int32) => (hh X g (ab_up1 I 47 0 (0 : Int32)))) (fun b2 => ?_) ?_
  ·
    refine Go_blk 2 (pc' := 29) (L' := [(0, .ref 47), (1, .int p1), (2, .int p2)]) (S' := [.int (0 : Int32), .int (1 : Int32), .int b2, .ref 47]) (h' := (hh X g (ab_up1 I 47 0 (0 : Int32)))) rfl ?_
    refine Go_cW (y' := 268) (As := [.ref 47, .int b2, .int (1 : Int32), .int (0 : Int32)]) (r := []) rfl (g_m_bad268 b2 (1 : Int32) (0 : Int32) (by omega)) fun w3 => ?_
    refine Go_cmz rfl rfl rfl ?_ ?_
    ·
      refine Go_blk 5 (pc' := 44) (L' := [(0, .ref 47), (1, .int p1), (2, .int p2)]) (S' := [.int p2, .int p1, .ref 576, .ref 47]) (h' := (hh X g w3.2)) rfl ?_
      refine Go_cW (y' := 306) (As := [.ref 47, .ref 576, .int p1, .int p2]) (r := []) rfl (g_m_canCut306 576 p1 p2 (by omega)) fun w4 => ?_
      exact Go_ret (fun _ h => h) rfl
    ·
      refine Go_blk 1 (pc' := 36) (L' := [(0, .ref 47), (1, .int p1), (2, .int p2)]) (S' := [.int (0 : Int32)]) (h' := (hh X g w3.2)) rfl ?_
      exact Go_ret (fun _ h => h) rfl
  ·
    refine Go_cmz rfl rfl rfl ?_ ?_
    ·
      refine Go_blk 2 (pc' := 27) (L' := [(0, .ref 47), (1, .int p1), (2, .int p2)]) (S' := [.int (1 : Int32), .ref 47]) (h' := (hh X g (ab_up1 I 47 0 (0 : Int32)))) rfl ?_
      exact Go_jmp [(0, .ref 47), (1, .int p1), (2, .int p2)] rfl ⟨rfl, rfl, rfl, trivial⟩ (fun _ h => h)
    ·
      refine Go_blk 2 (pc' := 16) (L' := [(0, .ref 47), (1, .int p1), (2, .int p2)]) (S' := [.int p2, .ref 47, .ref 47]) (h' := (hh X g (ab_up1 I 47 0 (0 : Int32)))) rfl ?_
      refine Go_cR (y' := 288) (As := [.ref 47, .int p2]) (r := [.ref 47]) rfl (g_m_isPattern288 p2 (by omega)) fun v5 => ?_
      refine Go_cmzn rfl rfl rfl ?_ ?_
      ·
        refine Go_blk 2 (pc' := 27) (L' := [(0, .ref 47), (1, .int p1), (2, .int p2)]) (S' := [.int (1 : Int32), .ref 47]) (h' := (hh X g (ab_up1 I 47 0 (0 : Int32)))) rfl ?_
        exact Go_jmp [(0, .ref 47), (1, .int p1), (2, .int p2)] rfl ⟨rfl, rfl, rfl, trivial⟩ (fun _ h => h)
      ·
        refine Go_blk 1 (pc' := 27) (L' := [(0, .ref 47), (1, .int p1), (2, .int p2)]) (S' := [.int (0 : Int32), .ref 47]) (h' := (hh X g (ab_up1 I 47 0 (0 : Int32)))) rfl ?_
        exact Go_jmp [(0, .ref 47), (1, .int p1), (2, .int p2)] rfl ⟨rfl, rfl, rfl, trivial⟩ (fun _ h => h)
set_option maxRecDepth 1000000 in
set_option maxHeartbeats 4000000 in
theorem g_x_ready173 (p1 : Int32) {X : XX} {g : GG} {I : MJ} {d : Nat} (hd : 4 ≤ d) : Go d 173 0 (lv_args 0 [.ref 0, .int p1]) [] (hh X g I) (f_x_ready173 p1 I) (pT vI X g) := by
  obtain ⟨d, rfl⟩ : ∃ k, d = k + 1 := ⟨d - 1, by omega⟩
  unfold f_x_ready173
  refine Go_blk 5 (pc' := 9) (L' := [(0, .ref 0), (1, .int p1)]) (S' := [.int (I 3 8), .int p1, .ref 0]) (h' := (hh X g I)) rfl ?_
  refine Go_cT (y' := 69) (As := [.ref 0, .int p1, .int (I 3 8)]) (r := []) rfl rfl (g_x_needElement69 p1 (I 3 8) (by omega)) fun v1 I2 => ?_
  refine Go_blk 3 (pc' := 17) (L' := [(0, .ref 0), (1, .int p1)]) (S' := [.int p1, .ref 28]) (h' := (hh X g I2)) rfl ?_
  refine Go_cR (y' := 122) (As := [.ref 28, .int p1]) (r := []) rfl (g_tra_allowsSale122 p1 (by omega)) fun v3 => ?_
  exact Go_ret (fun _ h => h) rfl
set_option maxRecDepth 1000000 in
set_option maxHeartbeats 4000000 in
theorem g_l_ready172 (p1 : Int32) {X : XX} {g : GG} {I : MJ} {d : Nat} (hd : 5 ≤ d) : Go d 172 0 (lv_args 0 [.ref 0, .int p1, .ref 698]) [] (hh X g I) (f_l_ready172 p1 I g) (pG X) := by
  obtain ⟨d, rfl⟩ : ∃ k, d = k + 1 := ⟨d - 1, by omega⟩
  unfold f_l_ready172
  refine Go_blk 4 (pc' := 4) (L' := [(0, .ref 0), (1, .int p1), (2, .ref 698)]) (S' := [.int p1, .ref 0, .int (0 : Int32), .ref 698]) (h' := (hh X g I)) rfl ?_
  refine Go_try (y' := 173) (As := [.ref 0, .int p1]) (r := [.int (0 : Int32), .ref 698]) rfl (g_x_ready173 p1 (by omega)) (fun v1 I2 => ?_) (fun E2 I2 => ?_)
  ·
    refine Go_seq (pcj := 15) (fun (b3 : Int64) => []) (fun (b3 : Int64) => [.long b3, .int (0 : Int32), .ref 698]) (fun (b3 : Int64) => (hh X g I2)) (fun b3 => ?_) ?_
    ·
      refine Go_last rfl fun g4 => ?_
      refine Go_blk 2 (pc' := 23) (L' := []) (S' := [.int (0 : Int32)]) (h' := (hh X g4 I2)) rfl ?_
      exact Go_ret (fun _ h => h) rfl
    ·
      refine Go_cmz rfl rfl rfl ?_ ?_
      ·
        refine Go_blk 1 (pc' := 15) (L' := [(0, .ref 0), (1, .int p1), (2, .ref 698)]) (S' := [.long (0 : Int64), .int (0 : Int32), .ref 698]) (h' := (hh X g I2)) rfl ?_
        exact Go_jmp [] rfl trivial (fun _ h => h)
      ·
        refine Go_blk 2 (pc' := 15) (L' := [(0, .ref 0), (1, .int p1), (2, .ref 698)]) (S' := [.long (1 : Int64), .int (0 : Int32), .ref 698]) (h' := (hh X g I2)) rfl ?_
        exact Go_jmp [] rfl trivial (fun _ h => h)
  ·
    refine GX_ite ?_ ?_
    ·
      refine GX_go rfl (t := 20) (k := 3) rfl ?_
      refine Go_blk 1 (pc' := 21) (L' := [(0, .ref 0), (1, .int p1), (2, .ref 698)]) (S' := [.int (1 : Int32)]) (h' := (hh X (thr g) I2)) rfl ?_
      exact Go_ret (fun _ h => h) rfl
    exact GX_none
set_option maxRecDepth 1000000 in
set_option maxHeartbeats 4000000 in
theorem g_m_ready340 (p1 : Int32) {X : XX} {g : GG} {I : MJ} {d : Nat} (hd : 3 ≤ d) : Go d 340 0 (lv_args 0 [.ref 47, .int p1]) [] (hh X g I) (f_m_ready340 p1 I) (pW X g) := by
  obtain ⟨d, rfl⟩ : ∃ k, d = k + 1 := ⟨d - 1, by omega⟩
  unfold f_m_ready340
  refine Go_blk 6 (pc' := 8) (L' := [(0, .ref 47), (1, .int p1)]) (S' := [.int p1, .ref 47, .ref 47]) (h' := (hh X g (ab_up1 I 47 0 (0 : Int32)))) rfl ?_
  refine Go_cR (y' := 334) (As := [.ref 47, .int p1]) (r := [.ref 47]) rfl (g_m_isOrder334 p1 (by omega)) fun v1 => ?_
  refine Go_seq (pcj := 19) (fun (b2 : Int32) => [(0, .ref 47), (1, .int p1)]) (fun (b2 : Int32) => [.int b2, .ref 47]) (fun (b2 : Int32) => (hh X g (ab_up1 I 47 0 (0 : Int32)))) (fun b2 => ?_) ?_
  ·
    refine Go_blk 2 (pc' := 21) (L' := [(0, .ref 47), (1, .int p1)]) (S' := [.int (0 : Int32), .int (1 : Int32), .int b2, .ref 47]) (h' := (hh X g (ab_up1 I 47 0 (0 : Int32)))) rfl ?_
    refine Go_cW (y' := 268) (As := [.ref 47, .int b2, .int (1 : Int32), .int (0 : Int32)]) (r := []) rfl (g_m_bad268 b2 (1 : Int32) (0 : Int32) (by omega)) fun w3 => ?_
    refine Go_cmz rfl rfl rfl ?_ ?_
    ·
      refine Go_blk 4 (pc' := 35) (L' := [(0, .ref 47), (1, .int p1)]) (S' := [.int p1, .ref 576, .ref 47]) (h' := (hh X g w3.2)) rfl ?_
      refine Go_cR (y' := 311) (As := [.ref 47, .ref 576, .int p1]) (r := []) rfl (g_m_isReady311 576 p1 (by omega)) fun v4 => ?_
      exact Go_ret (fun _ h => h) rfl
    ·
      refine Go_blk 1 (pc' := 28) (L' := [(0, .ref 47), (1, .int p1)]) (S' := [.int (0 : Int32)]) (h' := (hh X g w3.2)) rfl ?_
      exact Go_ret (fun _ h => h) rfl
  ·
    refine Go_cmzn rfl rfl rfl ?_ ?_
    ·
      refine Go_blk 2 (pc' := 19) (L' := [(0, .ref 47), (1, .int p1)]) (S' := [.int (1 : Int32), .ref 47]) (h' := (hh X g (ab_up1 I 47 0 (0 : Int32)))) rfl ?_
      exact Go_jmp [(0, .ref 47), (1, .int p1)] rfl ⟨rfl, rfl, trivial⟩ (fun _ h => h)
    ·
      refine Go_blk 1 (pc' := 19) (L' := [(0, .ref 47), (1, .int p1)]) (S' := [.int (0 : Int32), .ref 47]) (h' := (hh X g (ab_up1 I 47 0 (0 : Int32)))) rfl ?_
      exact Go_jmp [(0, .ref 47), (1, .int p1)] rfl ⟨rfl, rfl, trivial⟩ (fun _ h => h)
set_option maxRecDepth 1000000 in
set_option maxHeartbeats 4000000 in
theorem g_sho_fitOf177 (p1 : Int32) (p2 : Nat) (p3 : Int32) {X : XX} {g : GG} {I : MJ} {d : Nat} (hd : 3 ≤ d) : Go d 177 0 (lv_args 0 [.ref 3, .int p1, .ref p2, .int p3]) [] (hh X g I) (f_sho_fitOf177 p1 p2 p3 I) (pR X g I) := by
  obtain ⟨d, rfl⟩ : ∃ k, d = k + 1 := ⟨d - 1, by omega⟩
  unfold f_sho_fitOf177
  refine Go_blk 5 (pc' := 7) (L' := [(0, .ref 3), (1, .int p1), (2, .ref p2), (3, .int p3)]) (S' := [.int p3, .ref p2, .int (-(I 3 9))]) (h' := (hh X g I)) rfl ?_
  refine Go_cR (y' := 133) (As := [.ref p2, .int p3]) (r := [.int (-(I 3 9))]) rfl (g_x_seamsOf133 p2 p3 (by omega)) fun v1 => ?_
  refine Go_blk 4 (pc' := 16) (L' := [(5, .int (0 : Int32)), (4, .int ((-(I 3 9)) * v1)), (0, .ref 3), (1, .int p1), (2, .ref p2), (3, .int p3)]) (S' := []) (h' := (hh X g I)) rfl ?_
  refine Go_lcs [(0, .ref 3), (1, .int p1), (2, .ref p2), (3, .int p3), (4, .int ((-(I 3 9)) * v1)), (5, .int (0 : Int32))] rfl ⟨rfl, rfl, rfl, rfl, rfl, rfl, trivial⟩ ?_
  refine Go_seq (pcj := 65) (fun (b3 : Int32) => [(4, .int b3)]) (fun (b3 : Int32) => []) (fun (b3 : Int32) => (hh X g I)) (fun b3 => ?_) ?_
  ·
    refine Go_blk 1 (pc' := 67) (L' := [(4, .int b3)]) (S' := [.int b3]) (h' := (hh X g I)) rfl ?_
    exact Go_ret (fun _ h => h) rfl
  ·
    refine Go_wh (fun (s2 : Int32 × Int32) => [(0, .ref 3), (1, .int p1), (2, .ref p2), (3, .int p3), (4, .int s2.1), (5, .int s2.2)]) (fun _ => []) (fun (s2 : Int32 × Int32) => (hh X g I)) (fun s2 => ?_) (((-(I 3 9)) * v1), (0 : Int32))
    refine Go_blk 3 (pc' := 22) (L' := [(0, .ref 3), (1, .int p1), (2, .ref p2), (3, .int p3), (4, .int s2.1), (5, .int s2.2)]) (S' := [.int (I 3 7), .int s2.2]) (h' := (hh X g I)) rfl ?_
    refine Go_cmpn rfl rfl (ab_cge _ _) ?_ ?_
    ·
      refine Go_blk 3 (pc' := 29) (L' := [(0, .ref 3), (1, .int p1), (2, .ref p2), (3, .int p3), (4, .int s2.1), (5, .int s2.2)]) (S' := [.int (0 : Int32), .int s2.2, .ref 3]) (h' := (hh X g I)) rfl ?_
      refine Go_cR (y' := 152) (As := [.ref 3, .int s2.2, .int (0 : Int32)]) (r := []) rfl (g_sho_wantPart152 s2.2 (0 : Int32) (by omega)) fun v4 => ?_
      refine Go_blk 1 (pc' := 33) (L' := [(0, .ref 3), (1, .int p1), (2, .ref p2), (3, .int p3), (4, .int s2.1), (5, .int s2.2)]) (S' := [.int p1, .int v4]) (h' := (hh X g I)) rfl ?_
      refine Go_seq (pcj := 59) (fun (b5 : Int32) => [(0, .ref 3), (1, .int p1), (2, .ref p2), (3, .int p3), (4, .int b5), (5, .int s2.2)]) (fun (b5 : Int32) => []) (fun (b5 : Int32) => (hh X g I)) (fun b5 => ?_) ?_
      ·
        refine Go_blk 2 (pc' := 16) (L' := [(5, .int (s2.2 + (1 : Int32))), (0, .ref 3), (1, .int p1), (2, .ref p2), (3, .int p3), (4, .int b5)]) (S' := []) (h' := (hh X g I)) rfl ?_
        exact Go_jmp [(0, .ref 3), (1, .int p1), (2, .ref p2), (3, .int p3), (4, .int b5), (5, .int (s2.2 + (1 : Int32)))] rfl ⟨rfl, rfl, rfl, rfl, rfl, rfl, trivial⟩ (fun _ h => h)
      ·
        refine Go_cmpn rfl rfl rfl ?_ ?_
        ·
          refine Go_blk 4 (pc' := 41) (L' := [(0, .ref 3), (1, .int p1), (2, .ref p2), (3, .int p3), (4, .int s2.1), (5, .int s2.2)]) (S' := [.int p3, .ref p2, .int s2.2, .ref 3]) (h' := (hh X g I)) rfl ?_
          refine Go_cR (y' := 158) (As := [.ref 3, .int s2.2, .ref p2, .int p3]) (r := []) rfl (g_sho_isMet158 s2.2 p2 p3 (by omega)) fun v6 => ?_
          refine Go_cmz rfl rfl rfl ?_ ?_
          ·
            exact Go_jmp [(0, .ref 3), (1, .int p1), (2, .ref p2), (3, .int p3), (4, .int s2.1), (5, .int s2.2)] rfl ⟨rfl, rfl, rfl, rfl, rfl, rfl, trivial⟩ (fun _ h => h)
          ·
            refine Go_blk 4 (pc' := 53) (L' := [(0, .ref 3), (1, .int p1), (2, .ref p2), (3, .int p3), (4, .int s2.1), (5, .int s2.2)]) (S' := [.int (4 : Int32), .int s2.2, .ref 3, .int s2.1]) (h' := (hh X g I)) rfl ?_
            refine Go_cR (y' := 152) (As := [.ref 3, .int s2.2, .int (4 : Int32)]) (r := [.int s2.1]) rfl (g_sho_wantPart152 s2.2 (4 : Int32) (by omega)) fun v7 => ?_
            refine Go_blk 2 (pc' := 59) (L' := [(4, .int (s2.1 + v7)), (0, .ref 3), (1, .int p1), (2, .ref p2), (3, .int p3), (5, .int s2.2)]) (S' := []) (h' := (hh X g I)) rfl ?_
            exact Go_jmp [(0, .ref 3), (1, .int p1), (2, .ref p2), (3, .int p3), (4, .int (s2.1 + v7)), (5, .int s2.2)] rfl ⟨rfl, rfl, rfl, rfl, rfl, rfl, trivial⟩ (fun _ h => h)
        ·
          exact Go_jmp [(0, .ref 3), (1, .int p1), (2, .ref p2), (3, .int p3), (4, .int s2.1), (5, .int s2.2)] rfl ⟨rfl, rfl, rfl, rfl, rfl, rfl, trivial⟩ (fun _ h => h)
    ·
      exact Go_jmp [(4, .int s2.1)] rfl ⟨rfl, trivial⟩ (fun _ h => h)
set_option maxRecDepth 1000000 in
set_option maxHeartbeats 4000000 in
theorem g_x_fitOfSuit176_17 (p2 : Int32) {X : XX} {g : GG} {I : MJ} {d : Nat} (hd : 4 ≤ d) : Go d 176 0 (lv_args 0 [.ref 0, .ref 17, .int p2]) [] (hh X g I) (f_x_fitOfSuit176 17 p2 I) (pR X g I) := by
  obtain ⟨d, rfl⟩ : ∃ k, d = k + 1 := ⟨d - 1, by omega⟩
  unfold f_x_fitOfSuit176
  refine Go_blk 2 (pc' := 2) (L' := [(0, .ref 0), (1, .ref 17), (2, .int p2)]) (S' := [.int p2, .ref 17]) (h' := (hh X g I)) rfl ?_
  refine Go_cR (y' := 108) (As := [.ref 17, .int p2]) (r := []) rfl (g_sta_hasSuit108_17 p2 (by omega)) fun v1 => ?_
  refine Go_seq (pcj := 29) (fun (b2 : Int32) => []) (fun (b2 : Int32) => [.int b2]) (fun (b2 : Int32) => (hh X g I)) (fun b2 => ?_) ?_
  ·
    exact Go_ret (fun _ h => h) rfl
  ·
    refine Go_cmz rfl rfl rfl ?_ ?_
    ·
      refine Go_blk 1 (pc' := 29) (L' := [(0, .ref 0), (1, .ref 17), (2, .int p2)]) (S' := [.int (0 : Int32)]) (h' := (hh X g I)) rfl ?_
      exact Go_jmp [] rfl trivial (fun _ h => h)
    ·
      refine Go_blk 7 (pc' := 19) (L' := [(0, .ref 0), (1, .ref 17), (2, .int p2)]) (S' := [.int p2, .ref 17, .ref 18, .int p2, .ref 3]) (h' := (hh X g I)) rfl ?_
      refine Go_cR (y' := 114) (As := [.ref 17, .int p2]) (r := [.ref 18, .int p2, .ref 3]) rfl (g_sta_suitAt114_17 p2 (by omega)) fun v3 => ?_
      refine Go_cR (y' := 177) (As := [.ref 3, .int p2, .ref 18, .int v3]) (r := []) rfl (g_sho_fitOf177 p2 18 v3 (by omega)) fun v4 => ?_
      refine Go_blk 1 (pc' := 29) (L' := [(0, .ref 0), (1, .ref 17), (2, .int p2)]) (S' := [.int v4]) (h' := (hh X g I)) rfl ?_
      exact Go_jmp [] rfl trivial (fun _ h => h)
set_option maxRecDepth 1000000 in
set_option maxHeartbeats 4000000 in
theorem g_x_fitOfSuit176_15 (p2 : Int32) {X : XX} {g : GG} {I : MJ} {d : Nat} (hd : 4 ≤ d) : Go d 176 0 (lv_args 0 [.ref 0, .ref 15, .int p2]) [] (hh X g I) (f_x_fitOfSuit176 15 p2 I) (pR X g I) := by
  obtain ⟨d, rfl⟩ : ∃ k, d = k + 1 := ⟨d - 1, by omega⟩
  unfold f_x_fitOfSuit176
  refine Go_blk 2 (pc' := 2) (L' := [(0, .ref 0), (1, .ref 15), (2, .int p2)]) (S' := [.int p2, .ref 15]) (h' := (hh X g I)) rfl ?_
  refine Go_cR (y' := 108) (As := [.ref 15, .int p2]) (r := []) rfl (g_sta_hasSuit108_15 p2 (by omega)) fun v1 => ?_
  refine Go_seq (pcj := 29) (fun (b2 : Int32) => []) (fun (b2 : Int32) => [.int b2]) (fun (b2 : Int32) => (hh X g I)) (fun b2 => ?_) ?_
  ·
    exact Go_ret (fun _ h => h) rfl
  ·
    refine Go_cmz rfl rfl rfl ?_ ?_
    ·
      refine Go_blk 1 (pc' := 29) (L' := [(0, .ref 0), (1, .ref 15), (2, .int p2)]) (S' := [.int (0 : Int32)]) (h' := (hh X g I)) rfl ?_
      exact Go_jmp [] rfl trivial (fun _ h => h)
    ·
      refine Go_blk 7 (pc' := 19) (L' := [(0, .ref 0), (1, .ref 15), (2, .int p2)]) (S' := [.int p2, .ref 15, .ref 16, .int p2, .ref 3]) (h' := (hh X g I)) rfl ?_
      refine Go_cR (y' := 114) (As := [.ref 15, .int p2]) (r := [.ref 16, .int p2, .ref 3]) rfl (g_sta_suitAt114_15 p2 (by omega)) fun v3 => ?_
      refine Go_cR (y' := 177) (As := [.ref 3, .int p2, .ref 16, .int v3]) (r := []) rfl (g_sho_fitOf177 p2 16 v3 (by omega)) fun v4 => ?_
      refine Go_blk 1 (pc' := 29) (L' := [(0, .ref 0), (1, .ref 15), (2, .int p2)]) (S' := [.int v4]) (h' := (hh X g I)) rfl ?_
      exact Go_jmp [] rfl trivial (fun _ h => h)
set_option maxRecDepth 1000000 in
set_option maxHeartbeats 4000000 in
theorem g_x_fit175 (p1 : Int32) {X : XX} {g : GG} {I : MJ} {d : Nat} (hd : 5 ≤ d) : Go d 175 0 (lv_args 0 [.ref 0, .int p1]) [] (hh X g I) (f_x_fit175 p1 I) (pT vI X g) := by
  obtain ⟨d, rfl⟩ : ∃ k, d = k + 1 := ⟨d - 1, by omega⟩
  unfold f_x_fit175
  refine Go_blk 5 (pc' := 9) (L' := [(0, .ref 0), (1, .int p1)]) (S' := [.int (I 3 6), .int p1, .ref 0]) (h' := (hh X g I)) rfl ?_
  refine Go_cT (y' := 69) (As := [.ref 0, .int p1, .int (I 3 6)]) (r := []) rfl rfl (g_x_needElement69 p1 (I 3 6) (by omega)) fun v1 I2 => ?_
  refine Go_blk 4 (pc' := 18) (L' := [(0, .ref 0), (1, .int p1)]) (S' := [.int p1, .ref 15, .ref 0]) (h' := (hh X g I2)) rfl ?_
  refine Go_cR (y' := 176) (As := [.ref 0, .ref 15, .int p1]) (r := []) rfl (g_x_fitOfSuit176_15 p1 (by omega)) fun v3 => ?_
  exact Go_ret (fun _ h => h) rfl
set_option maxRecDepth 1000000 in
set_option maxHeartbeats 4000000 in
theorem g_l_fit174 (p1 : Int32) {X : XX} {g : GG} {I : MJ} {d : Nat} (hd : 6 ≤ d) : Go d 174 0 (lv_args 0 [.ref 0, .int p1, .ref 698]) [] (hh X g I) (f_l_fit174 p1 I g) (pG X) := by
  obtain ⟨d, rfl⟩ : ∃ k, d = k + 1 := ⟨d - 1, by omega⟩
  unfold f_l_fit174
  refine Go_blk 4 (pc' := 4) (L' := [(0, .ref 0), (1, .int p1), (2, .ref 698)]) (S' := [.int p1, .ref 0, .int (0 : Int32), .ref 698]) (h' := (hh X g I)) rfl ?_
  refine Go_try (y' := 175) (As := [.ref 0, .int p1]) (r := [.int (0 : Int32), .ref 698]) rfl (g_x_fit175 p1 (by omega)) (fun v1 I2 => ?_) (fun E2 I2 => ?_)
  ·
    refine Go_blk 1 (pc' := 8) (L' := [(0, .ref 0), (1, .int p1), (2, .ref 698)]) (S' := [.long (v1.toInt64), .int (0 : Int32), .ref 698]) (h' := (hh X g I2)) rfl ?_
    refine Go_last rfl fun g3 => ?_
    refine Go_blk 2 (pc' := 16) (L' := [(0, .ref 0), (1, .int p1), (2, .ref 698)]) (S' := [.int (0 : Int32)]) (h' := (hh X g3 I2)) rfl ?_
    exact Go_ret (fun _ h => h) rfl
  ·
    refine GX_ite ?_ ?_
    ·
      refine GX_go rfl (t := 13) (k := 3) rfl ?_
      refine Go_blk 1 (pc' := 14) (L' := [(0, .ref 0), (1, .int p1), (2, .ref 698)]) (S' := [.int (1 : Int32)]) (h' := (hh X (thr g) I2)) rfl ?_
      exact Go_ret (fun _ h => h) rfl
    exact GX_none
set_option maxRecDepth 1000000 in
set_option maxHeartbeats 4000000 in
theorem g_m_fitOf342 (p1 : Nat) (p2 : Int32) (p3 : Int32) {X : XX} {g : GG} {I : MJ} {d : Nat} (hd : 1 ≤ d) : Go d 342 0 (lv_args 0 [.ref 47, .ref p1, .int p2, .int p3]) [] (hh X g I) (f_m_fitOf342 p1 p2 p3 I) (pR X g I) := by
  obtain ⟨d, rfl⟩ : ∃ k, d = k + 1 := ⟨d - 1, by omega⟩
  unfold f_m_fitOf342
  refine Go_blk 4 (pc' := 6) (L' := [(5, .int (0 : Int32)), (4, .int (0 : Int32)), (0, .ref 47), (1, .ref p1), (2, .int p2), (3, .int p3)]) (S' := []) (h' := (hh X g I)) rfl ?_
  refine Go_lcs [(0, .ref 47), (1, .ref p1), (2, .int p2), (3, .int p3), (4, .int (0 : Int32)), (5, .int (0 : Int32))] rfl ⟨rfl, rfl, rfl, rfl, rfl, rfl, trivial⟩ ?_
  refine Go_seq (pcj := 65) (fun (b2 : Int32) => [(0, .ref 47), (1, .ref p1), (2, .int p2), (4, .int b2)]) (fun (b2 : Int32) => []) (fun (b2 : Int32) => (hh X g I)) (fun b2 => ?_) ?_
  ·
    refine Go_blk 7 (pc' := 75) (L' := [(0, .ref 47), (1, .ref p1), (2, .int p2), (4, .int b2)]) (S' := [.int p2, .ref p1, .int (I 51 4), .int b2]) (h' := (hh X g I)) rfl ?_
    refine Go_cR (y' := 316) (As := [.ref p1, .int p2]) (r := [.int (I 51 4), .int b2]) rfl (g_m_seamsOf316 p1 p2 (by omega)) fun v3 => ?_
    refine Go_blk 2 (pc' := 80) (L' := [(0, .ref 47), (1, .ref p1), (2, .int p2), (4, .int b2)]) (S' := [.int (b2 - ((I 51 4) * v3))]) (h' := (hh X g I)) rfl ?_
    exact Go_ret (fun _ h => h) rfl
  ·
    refine Go_wh (fun (s1 : Int32 × Int32) => [(0, .ref 47), (1, .ref p1), (2, .int p2), (3, .int p3), (4, .int s1.1), (5, .int s1.2)]) (fun _ => []) (fun (s1 : Int32 × Int32) => (hh X g I)) (fun s1 => ?_) ((0 : Int32), (0 : Int32))
    refine Go_blk 5 (pc' := 14) (L' := [(0, .ref 47), (1, .ref p1), (2, .int p2), (3, .int p3), (4, .int s1.1), (5, .int s1.2)]) (S' := [.int (I 51 2), .int s1.2]) (h' := (hh X g I)) rfl ?_
    refine Go_cmpn rfl rfl (ab_cge _ _) ?_ ?_
    ·
      refine Go_blk 4 (pc' := 25) (L' := [(0, .ref 47), (1, .ref p1), (2, .int p2), (3, .int p3), (4, .int s1.1), (5, .int s1.2)]) (S' := [.int s1.2, .ref 93, .int s1.1]) (h' := (hh X g I)) rfl ?_
      refine Go_aald rfl fun r4 => ?_
      refine Go_blk 1 (pc' := 27) (L' := [(0, .ref 47), (1, .ref p1), (2, .int p2), (3, .int p3), (4, .int s1.1), (5, .int s1.2)]) (S' := [.int (0 : Int32), .ref r4, .int s1.1]) (h' := (hh X g I)) rfl ?_
      refine Go_iald rfl fun v5 => ?_
      refine Go_blk 1 (pc' := 29) (L' := [(0, .ref 47), (1, .ref p1), (2, .int p2), (3, .int p3), (4, .int s1.1), (5, .int s1.2)]) (S' := [.int p3, .int v5, .int s1.1]) (h' := (hh X g I)) rfl ?_
      refine Go_seq (pcj := 56) (fun (b6 : Int32) => [(0, .ref 47), (1, .ref p1), (2, .int p2), (3, .int p3), (5, .int s1.2)]) (fun (b6 : Int32) => [.int b6, .int s1.1]) (fun (b6 : Int32) => (hh X g I)) (fun b6 => ?_) ?_
      ·
        refine Go_blk 4 (pc' := 6) (L' := [(5, .int (s1.2 + (1 : Int32))), (4, .int (s1.1 + b6)), (0, .ref 47), (1, .ref p1), (2, .int p2), (3, .int p3)]) (S' := []) (h' := (hh X g I)) rfl ?_
        exact Go_jmp [(0, .ref 47), (1, .ref p1), (2, .int p2), (3, .int p3), (4, .int (s1.1 + b6)), (5, .int (s1.2 + (1 : Int32)))] rfl ⟨rfl, rfl, rfl, rfl, rfl, rfl, trivial⟩ (fun _ h => h)
      ·
        refine Go_cmpn rfl rfl rfl ?_ ?_
        ·
          refine Go_blk 4 (pc' := 37) (L' := [(0, .ref 47), (1, .ref p1), (2, .int p2), (3, .int p3), (4, .int s1.1), (5, .int s1.2)]) (S' := [.int s1.2, .int p2, .ref p1, .ref 47, .int s1.1]) (h' := (hh X g I)) rfl ?_
          refine Go_cR (y' := 332) (As := [.ref 47, .ref p1, .int p2, .int s1.2]) (r := [.int s1.1]) rfl (g_m_isMet332 p1 p2 s1.2 (by omega)) fun v7 => ?_
          refine Go_cmz rfl rfl rfl ?_ ?_
          ·
            refine Go_blk 1 (pc' := 56) (L' := [(0, .ref 47), (1, .ref p1), (2, .int p2), (3, .int p3), (4, .int s1.1), (5, .int s1.2)]) (S' := [.int (0 : Int32), .int s1.1]) (h' := (hh X g I)) rfl ?_
            exact Go_jmp [(0, .ref 47), (1, .ref p1), (2, .int p2), (3, .int p3), (5, .int s1.2)] rfl ⟨rfl, rfl, rfl, rfl, rfl, trivial⟩ (fun _ h => h)
          ·
            refine Go_blk 3 (pc' := 49) (L' := [(0, .ref 47), (1, .ref p1), (2, .int p2), (3, .int p3), (4, .int s1.1), (5, .int s1.2)]) (S' := [.int s1.2, .ref 93, .int s1.1]) (h' := (hh X g I)) rfl ?_
            refine Go_aald rfl fun r8 => ?_
            refine Go_blk 1 (pc' := 51) (L' := [(0, .ref 47), (1, .ref p1), (2, .int p2), (3, .int p3), (4, .int s1.1), (5, .int s1.2)]) (S' := [.int (4 : Int32), .ref r8, .int s1.1]) (h' := (hh X g I)) rfl ?_
            refine Go_iald rfl fun v9 => ?_
            refine Go_blk 1 (pc' := 56) (L' := [(0, .ref 47), (1, .ref p1), (2, .int p2), (3, .int p3), (4, .int s1.1), (5, .int s1.2)]) (S' := [.int v9, .int s1.1]) (h' := (hh X g I)) rfl ?_
            exact Go_jmp [(0, .ref 47), (1, .ref p1), (2, .int p2), (3, .int p3), (5, .int s1.2)] rfl ⟨rfl, rfl, rfl, rfl, rfl, trivial⟩ (fun _ h => h)
        ·
          refine Go_blk 1 (pc' := 56) (L' := [(0, .ref 47), (1, .ref p1), (2, .int p2), (3, .int p3), (4, .int s1.1), (5, .int s1.2)]) (S' := [.int (0 : Int32), .int s1.1]) (h' := (hh X g I)) rfl ?_
          exact Go_jmp [(0, .ref 47), (1, .ref p1), (2, .int p2), (3, .int p3), (5, .int s1.2)] rfl ⟨rfl, rfl, rfl, rfl, rfl, trivial⟩ (fun _ h => h)
    ·
      exact Go_jmp [(0, .ref 47), (1, .ref p1), (2, .int p2), (4, .int s1.1)] rfl ⟨rfl, rfl, rfl, rfl, trivial⟩ (fun _ h => h)
set_option maxRecDepth 1000000 in
set_option maxHeartbeats 4000000 in
theorem g_m_fit341 (p1 : Int32) {X : XX} {g : GG} {I : MJ} {d : Nat} (hd : 2 ≤ d) : Go d 341 0 (lv_args 0 [.ref 47, .int p1]) [] (hh X g I) (f_m_fit341 p1 I) (pW X g) := by
  obtain ⟨d, rfl⟩ : ∃ k, d = k + 1 := ⟨d - 1, by omega⟩
  unfold f_m_fit341
  refine Go_blk 6 (pc' := 8) (L' := [(0, .ref 47), (1, .int p1)]) (S' := [.int p1, .ref 47, .ref 47]) (h' := (hh X g (ab_up1 I 47 0 (0 : Int32)))) rfl ?_
  refine Go_cR (y' := 328) (As := [.ref 47, .int p1]) (r := [.ref 47]) rfl (g_m_isClient328 p1 (by omega)) fun v1 => ?_
  refine Go_seq (pcj := 19) (fun (b2 : Int32) => [(0, .ref 47), (1, .int p1)]) (fun (b2 : Int32) => [.int b2, .ref 47]) (fun (b2 : Int32) => (hh X g (ab_up1 I 47 0 (0 : Int32)))) (fun b2 => ?_) ?_
  ·
    refine Go_blk 2 (pc' := 21) (L' := [(0, .ref 47), (1, .int p1)]) (S' := [.int (0 : Int32), .int (1 : Int32), .int b2, .ref 47]) (h' := (hh X g (ab_up1 I 47 0 (0 : Int32)))) rfl ?_
    refine Go_cW (y' := 268) (As := [.ref 47, .int b2, .int (1 : Int32), .int (0 : Int32)]) (r := []) rfl (g_m_bad268 b2 (1 : Int32) (0 : Int32) (by omega)) fun w3 => ?_
    refine Go_cmz rfl rfl rfl ?_ ?_
    ·
      refine Go_blk 3 (pc' := 34) (L' := [(0, .ref 47), (1, .int p1)]) (S' := [.int p1, .ref 576]) (h' := (hh X g w3.2)) rfl ?_
      refine Go_cR (y' := 305) (As := [.ref 576, .int p1]) (r := []) rfl (g_m_hasSuit305 576 p1 (by omega)) fun v4 => ?_
      refine Go_seq (pcj := 57) (fun (b5 : Int32) => []) (fun (b5 : Int32) => [.int b5]) (fun (b5 : Int32) => (hh X g w3.2)) (fun b5 => ?_) ?_
      ·
        exact Go_ret (fun _ h => h) rfl
      ·
        refine Go_cmz rfl rfl rfl ?_ ?_
        ·
          refine Go_blk 1 (pc' := 57) (L' := [(0, .ref 47), (1, .int p1)]) (S' := [.int (0 : Int32)]) (h' := (hh X g w3.2)) rfl ?_
          exact Go_jmp [] rfl trivial (fun _ h => h)
        ·
          refine Go_blk 4 (pc' := 46) (L' := [(0, .ref 47), (1, .int p1)]) (S' := [.int p1, .ref 576, .ref 47]) (h' := (hh X g w3.2)) rfl ?_
          refine Go_cR (y' := 310) (As := [.int p1]) (r := [.ref 576, .ref 47]) rfl (g_m_suitOf310 p1 (by omega)) fun v6 => ?_
          refine Go_blk 1 (pc' := 50) (L' := [(0, .ref 47), (1, .int p1)]) (S' := [.int p1, .int v6, .ref 576, .ref 47]) (h' := (hh X g w3.2)) rfl ?_
          refine Go_cR (y' := 342) (As := [.ref 47, .ref 576, .int v6, .int p1]) (r := []) rfl (g_m_fitOf342 576 v6 p1 (by omega)) fun v7 => ?_
          refine Go_blk 1 (pc' := 57) (L' := [(0, .ref 47), (1, .int p1)]) (S' := [.int v7]) (h' := (hh X g w3.2)) rfl ?_
          exact Go_jmp [] rfl trivial (fun _ h => h)
    ·
      refine Go_blk 1 (pc' := 28) (L' := [(0, .ref 47), (1, .int p1)]) (S' := [.int (0 : Int32)]) (h' := (hh X g w3.2)) rfl ?_
      exact Go_ret (fun _ h => h) rfl
  ·
    refine Go_cmzn rfl rfl rfl ?_ ?_
    ·
      refine Go_blk 2 (pc' := 19) (L' := [(0, .ref 47), (1, .int p1)]) (S' := [.int (1 : Int32), .ref 47]) (h' := (hh X g (ab_up1 I 47 0 (0 : Int32)))) rfl ?_
      exact Go_jmp [(0, .ref 47), (1, .int p1)] rfl ⟨rfl, rfl, trivial⟩ (fun _ h => h)
    ·
      refine Go_blk 1 (pc' := 19) (L' := [(0, .ref 47), (1, .int p1)]) (S' := [.int (0 : Int32), .ref 47]) (h' := (hh X g (ab_up1 I 47 0 (0 : Int32)))) rfl ?_
      exact Go_jmp [(0, .ref 47), (1, .int p1)] rfl ⟨rfl, rfl, trivial⟩ (fun _ h => h)
set_option maxRecDepth 1000000 in
set_option maxHeartbeats 4000000 in
theorem g_x_refuseState181  {X : XX} {g : GG} {I : MJ} {d : Nat} (hd : 0 ≤ d) : Go d 181 0 (lv_args 0 [.ref 0]) [] (hh X g I) (f_x_refuseState181  I) (pT vU X g) := by
  unfold f_x_refuseState181
  refine Go_blk 6 (pc' := 10) (L' := [(0, .ref 0)]) (S' := []) (h' := (hh X g (ab_up1 I 0 16 ((I 0 16) + (1 : Int32))))) rfl ?_
  exact Go_ret (fun _ h => h) rfl
set_option maxRecDepth 1000000 in
set_option maxHeartbeats 4000000 in
theorem g_x_needTold180 (p1 : Int32) {X : XX} {g : GG} {I : MJ} {d : Nat} (hd : 2 ≤ d) : Go d 180 0 (lv_args 0 [.ref 0, .int p1]) [] (hh X g I) (f_x_needTold180 p1 I) (pT vU X g) := by
  obtain ⟨d, rfl⟩ : ∃ k, d = k + 1 := ⟨d - 1, by omega⟩
  unfold f_x_needTold180
  refine Go_blk 3 (pc' := 5) (L' := [(0, .ref 0), (1, .int p1)]) (S' := [.int p1, .ref 19]) (h' := (hh X g I)) rfl ?_
  refine Go_cR (y' := 25) (As := [.ref 19, .int p1]) (r := []) rfl (g_pat_isTold25 p1 (by omega)) fun v1 => ?_
  refine Go_cmzn rfl rfl rfl ?_ ?_
  ·
    refine Go_blk 1 (pc' := 12) (L' := [(0, .ref 0), (1, .int p1)]) (S' := [.ref 0]) (h' := (hh X g I)) rfl ?_
    refine Go_cT (y' := 181) (As := [.ref 0]) (r := []) rfl rfl (g_x_refuseState181  (by omega)) fun v2 I3 => ?_
    exact Go_ret (fun _ h => h) rfl
  ·
    exact Go_ret (fun _ h => h) rfl
set_option maxRecDepth 1000000 in
set_option maxHeartbeats 4000000 in
theorem g_x_tries179 (p1 : Int32) (p2 : Int32) {X : XX} {g : GG} {I : MJ} {d : Nat} (hd : 4 ≤ d) : Go d 179 0 (lv_args 0 [.ref 0, .int p1, .int p2]) [] (hh X g I) (f_x_tries179 p1 p2 I) (pT vI X g) := by
  obtain ⟨d, rfl⟩ : ∃ k, d = k + 1 := ⟨d - 1, by omega⟩
  unfold f_x_tries179
  refine Go_blk 5 (pc' := 9) (L' := [(0, .ref 0), (1, .int p1), (2, .int p2)]) (S' := [.int (I 3 6), .int p1, .ref 0]) (h' := (hh X g I)) rfl ?_
  refine Go_cT (y' := 69) (As := [.ref 0, .int p1, .int (I 3 6)]) (r := []) rfl rfl (g_x_needElement69 p1 (I 3 6) (by omega)) fun v1 I2 => ?_
  refine Go_blk 2 (pc' := 14) (L' := [(0, .ref 0), (1, .int p1), (2, .int p2)]) (S' := [.int p2, .ref 0]) (h' := (hh X g I2)) rfl ?_
  refine Go_cT (y' := 68) (As := [.ref 0, .int p2]) (r := []) rfl rfl (g_x_needPattern68 p2 (by omega)) fun v3 I4 => ?_
  refine Go_blk 2 (pc' := 19) (L' := [(0, .ref 0), (1, .int p1), (2, .int p2)]) (S' := [.int p2, .ref 0]) (h' := (hh X g I4)) rfl ?_
  refine Go_cT (y' := 180) (As := [.ref 0, .int p2]) (r := []) rfl rfl (g_x_needTold180 p2 (by omega)) fun v5 I6 => ?_
  refine Go_blk 9 (pc' := 38) (L' := [(0, .ref 0), (1, .int p1), (2, .int p2)]) (S' := [.int ((12 : Int32) * p2), .ref 20, .int p1, .ref 3]) (h' := (hh X g I6)) rfl ?_
  refine Go_cR (y' := 177) (As := [.ref 3, .int p1, .ref 20, .int ((12 : Int32) * p2)]) (r := []) rfl (g_sho_fitOf177 p1 20 ((12 : Int32) * p2) (by omega)) fun v7 => ?_
  exact Go_ret (fun _ h => h) rfl
set_option maxRecDepth 1000000 in
set_option maxHeartbeats 4000000 in
theorem g_l_tries178 (p1 : Int32) (p2 : Int32) {X : XX} {g : GG} {I : MJ} {d : Nat} (hd : 5 ≤ d) : Go d 178 0 (lv_args 0 [.ref 0, .int p1, .int p2, .ref 698]) [] (hh X g I) (f_l_tries178 p1 p2 I g) (pG X) := by
  obtain ⟨d, rfl⟩ : ∃ k, d = k + 1 := ⟨d - 1, by omega⟩
  unfold f_l_tries178
  refine Go_blk 5 (pc' := 5) (L' := [(0, .ref 0), (1, .int p1), (2, .int p2), (3, .ref 698)]) (S' := [.int p2, .int p1, .ref 0, .int (0 : Int32), .ref 698]) (h' := (hh X g I)) rfl ?_
  refine Go_try (y' := 179) (As := [.ref 0, .int p1, .int p2]) (r := [.int (0 : Int32), .ref 698]) rfl (g_x_tries179 p1 p2 (by omega)) (fun v1 I2 => ?_) (fun E2 I2 => ?_)
  ·
    refine Go_blk 1 (pc' := 9) (L' := [(0, .ref 0), (1, .int p1), (2, .int p2), (3, .ref 698)]) (S' := [.long (v1.toInt64), .int (0 : Int32), .ref 698]) (h' := (hh X g I2)) rfl ?_
    refine Go_last rfl fun g3 => ?_
    refine Go_blk 2 (pc' := 22) (L' := [(0, .ref 0), (1, .int p1), (2, .int p2), (3, .ref 698)]) (S' := [.int (0 : Int32)]) (h' := (hh X g3 I2)) rfl ?_
    exact Go_ret (fun _ h => h) rfl
  ·
    refine GX_ite ?_ ?_
    ·
      refine GX_go rfl (t := 15) (k := 4) rfl ?_
      refine Go_blk 1 (pc' := 16) (L' := [(0, .ref 0), (1, .int p1), (2, .int p2), (3, .ref 698)]) (S' := [.int (1 : Int32)]) (h' := (hh X (thr g) I2)) rfl ?_
      exact Go_ret (fun _ h => h) rfl
    refine GX_ite ?_ ?_
    ·
      refine GX_go rfl (t := 19) (k := 4) rfl ?_
      refine Go_blk 1 (pc' := 20) (L' := [(0, .ref 0), (1, .int p1), (2, .int p2), (3, .ref 698)]) (S' := [.int (2 : Int32)]) (h' := (hh X (thr g) I2)) rfl ?_
      exact Go_ret (fun _ h => h) rfl
    exact GX_none
set_option maxRecDepth 1000000 in
set_option maxHeartbeats 4000000 in
theorem g_m_tries343 (p1 : Int32) (p2 : Int32) {X : XX} {g : GG} {I : MJ} {d : Nat} (hd : 2 ≤ d) : Go d 343 0 (lv_args 0 [.ref 47, .int p1, .int p2]) [] (hh X g I) (f_m_tries343 p1 p2 I) (pW X g) := by
  obtain ⟨d, rfl⟩ : ∃ k, d = k + 1 := ⟨d - 1, by omega⟩
  unfold f_m_tries343
  refine Go_blk 6 (pc' := 8) (L' := [(0, .ref 47), (1, .int p1), (2, .int p2)]) (S' := [.int p1, .ref 47, .ref 47]) (h' := (hh X g (ab_up1 I 47 0 (0 : Int32)))) rfl ?_
  refine Go_cR (y' := 328) (As := [.ref 47, .int p1]) (r := [.ref 47]) rfl (g_m_isClient328 p1 (by omega)) fun v1 => ?_
  refine Go_seq (pcj := 27) (fun (b2 : Int32) => [(0, .ref 47), (1, .int p1), (2, .int p2)]) (fun (b2 : Int32) => [.int b2, .ref 47]) (fun (b2 : Int32) => (hh X g (ab_up1 I 47 0 (0 : Int32)))) (fun b2 => ?_) ?_
  ·
    refine Go_blk 2 (pc' := 29) (L' := [(0, .ref 47), (1, .int p1), (2, .int p2)]) (S' := [.int (0 : Int32), .int (1 : Int32), .int b2, .ref 47]) (h' := (hh X g (ab_up1 I 47 0 (0 : Int32)))) rfl ?_
    refine Go_cW (y' := 268) (As := [.ref 47, .int b2, .int (1 : Int32), .int (0 : Int32)]) (r := []) rfl (g_m_bad268 b2 (1 : Int32) (0 : Int32) (by omega)) fun w3 => ?_
    refine Go_cmzn rfl rfl rfl ?_ ?_
    ·
      refine Go_blk 4 (pc' := 41) (L' := [(0, .ref 47), (1, .int p1), (2, .int p2)]) (S' := [.int p2, .ref 135, .ref 47]) (h' := (hh X g w3.2)) rfl ?_
      refine Go_bald rfl fun v4 => ?_
      refine Go_seq (pcj := 50) (fun (b5 : Int32) => [(0, .ref 47), (1, .int p1), (2, .int p2)]) (fun (b5 : Int32) => [.int b5, .ref 47]) (fun (b5 : Int32) => (hh X g w3.2)) (fun b5 => ?_) ?_
      ·
        refine Go_blk 2 (pc' := 52) (L' := [(0, .ref 47), (1, .int p1), (2, .int p2)]) (S' := [.int (2 : Int32), .int (2 : Int32), .int b5, .ref 47]) (h' := (hh X g w3.2)) rfl ?_
        refine Go_cW (y' := 268) (As := [.ref 47, .int b5, .int (2 : Int32), .int (2 : Int32)]) (r := []) rfl (g_m_bad268 b5 (2 : Int32) (2 : Int32) (by omega)) fun w6 => ?_
        refine Go_cmz rfl rfl rfl ?_ ?_
        ·
          refine Go_blk 4 (pc' := 66) (L' := [(0, .ref 47), (1, .int p1), (2, .int p2)]) (S' := [.int p2, .ref 128, .ref 47]) (h' := (hh X g w6.2)) rfl ?_
          refine Go_aald rfl fun r7 => ?_
          refine Go_blk 2 (pc' := 69) (L' := [(0, .ref 47), (1, .int p1), (2, .int p2)]) (S' := [.int p1, .int (0 : Int32), .ref r7, .ref 47]) (h' := (hh X g w6.2)) rfl ?_
          refine Go_cR (y' := 342) (As := [.ref 47, .ref r7, .int (0 : Int32), .int p1]) (r := []) rfl (g_m_fitOf342 r7 (0 : Int32) p1 (by omega)) fun v8 => ?_
          exact Go_ret (fun _ h => h) rfl
        ·
          refine Go_blk 1 (pc' := 59) (L' := [(0, .ref 47), (1, .int p1), (2, .int p2)]) (S' := [.int (0 : Int32)]) (h' := (hh X g w6.2)) rfl ?_
          exact Go_ret (fun _ h => h) rfl
      ·
        refine Go_cmzn rfl rfl rfl ?_ ?_
        ·
          refine Go_blk 2 (pc' := 50) (L' := [(0, .ref 47), (1, .int p1), (2, .int p2)]) (S' := [.int (1 : Int32), .ref 47]) (h' := (hh X g w3.2)) rfl ?_
          exact Go_jmp [(0, .ref 47), (1, .int p1), (2, .int p2)] rfl ⟨rfl, rfl, rfl, trivial⟩ (fun _ h => h)
        ·
          refine Go_blk 1 (pc' := 50) (L' := [(0, .ref 47), (1, .int p1), (2, .int p2)]) (S' := [.int (0 : Int32), .ref 47]) (h' := (hh X g w3.2)) rfl ?_
          exact Go_jmp [(0, .ref 47), (1, .int p1), (2, .int p2)] rfl ⟨rfl, rfl, rfl, trivial⟩ (fun _ h => h)
    ·
      refine Go_blk 1 (pc' := 59) (L' := [(0, .ref 47), (1, .int p1), (2, .int p2)]) (S' := [.int (0 : Int32)]) (h' := (hh X g w3.2)) rfl ?_
      exact Go_ret (fun _ h => h) rfl
  ·
    refine Go_cmz rfl rfl rfl ?_ ?_
    ·
      refine Go_blk 2 (pc' := 27) (L' := [(0, .ref 47), (1, .int p1), (2, .int p2)]) (S' := [.int (1 : Int32), .ref 47]) (h' := (hh X g (ab_up1 I 47 0 (0 : Int32)))) rfl ?_
      exact Go_jmp [(0, .ref 47), (1, .int p1), (2, .int p2)] rfl ⟨rfl, rfl, rfl, trivial⟩ (fun _ h => h)
    ·
      refine Go_blk 2 (pc' := 16) (L' := [(0, .ref 47), (1, .int p1), (2, .int p2)]) (S' := [.int p2, .ref 47, .ref 47]) (h' := (hh X g (ab_up1 I 47 0 (0 : Int32)))) rfl ?_
      refine Go_cR (y' := 288) (As := [.ref 47, .int p2]) (r := [.ref 47]) rfl (g_m_isPattern288 p2 (by omega)) fun v9 => ?_
      refine Go_cmzn rfl rfl rfl ?_ ?_
      ·
        refine Go_blk 2 (pc' := 27) (L' := [(0, .ref 47), (1, .int p1), (2, .int p2)]) (S' := [.int (1 : Int32), .ref 47]) (h' := (hh X g (ab_up1 I 47 0 (0 : Int32)))) rfl ?_
        exact Go_jmp [(0, .ref 47), (1, .int p1), (2, .int p2)] rfl ⟨rfl, rfl, rfl, trivial⟩ (fun _ h => h)
      ·
        refine Go_blk 1 (pc' := 27) (L' := [(0, .ref 47), (1, .int p1), (2, .int p2)]) (S' := [.int (0 : Int32), .ref 47]) (h' := (hh X g (ab_up1 I 47 0 (0 : Int32)))) rfl ?_
        exact Go_jmp [(0, .ref 47), (1, .int p1), (2, .int p2)] rfl ⟨rfl, rfl, rfl, trivial⟩ (fun _ h => h)
set_option maxRecDepth 1000000 in
set_option maxHeartbeats 4000000 in
theorem g_fit_gain185 (p1 : Int32) (p2 : Int32) (p3 : Int32) (p4 : Int32) {X : XX} {g : GG} {I : MJ} {d : Nat} (hd : 2 ≤ d) : Go d 185 0 (lv_args 0 [.ref 39, .int p1, .int p2, .int p3, .int p4]) [] (hh X g I) (f_fit_gain185 p1 p2 p3 p4 I) (pR X g I) := by
  obtain ⟨d, rfl⟩ : ∃ k, d = k + 1 := ⟨d - 1, by omega⟩
  unfold f_fit_gain185
  refine Go_blk 4 (pc' := 6) (L' := [(6, .int (0 : Int32)), (5, .int (0 : Int32)), (0, .ref 39), (1, .int p1), (2, .int p2), (3, .int p3), (4, .int p4)]) (S' := []) (h' := (hh X g I)) rfl ?_
  refine Go_lcs [(0, .ref 39), (1, .int p1), (2, .int p2), (3, .int p3), (4, .int p4), (5, .int (0 : Int32)), (6, .int (0 : Int32))] rfl ⟨rfl, rfl, rfl, rfl, rfl, rfl, rfl, trivial⟩ ?_
  refine Go_seq (pcj := 112) (fun (b2 : Int32) => [(5, .int b2)]) (fun (b2 : Int32) => []) (fun (b2 : Int32) => (hh X g I)) (fun b2 => ?_) ?_
  ·
    refine Go_blk 1 (pc' := 114) (L' := [(5, .int b2)]) (S' := [.int b2]) (h' := (hh X g I)) rfl ?_
    exact Go_ret (fun _ h => h) rfl
  ·
    refine Go_wh (fun (s1 : Int32 × Int32) => [(0, .ref 39), (1, .int p1), (2, .int p2), (3, .int p3), (4, .int p4), (5, .int s1.1), (6, .int s1.2)]) (fun _ => []) (fun (s1 : Int32 × Int32) => (hh X g I)) (fun s1 => ?_) ((0 : Int32), (0 : Int32))
    refine Go_blk 4 (pc' := 15) (L' := [(0, .ref 39), (1, .int p1), (2, .int p2), (3, .int p3), (4, .int p4), (5, .int s1.1), (6, .int s1.2)]) (S' := [.int (I 3 7), .int s1.2]) (h' := (hh X g I)) rfl ?_
    refine Go_cmpn rfl rfl (ab_cge _ _) ?_ ?_
    ·
      refine Go_blk 4 (pc' := 25) (L' := [(0, .ref 39), (1, .int p1), (2, .int p2), (3, .int p3), (4, .int p4), (5, .int s1.1), (6, .int s1.2)]) (S' := [.int (0 : Int32), .int s1.2, .ref 3]) (h' := (hh X g I)) rfl ?_
      refine Go_cR (y' := 152) (As := [.ref 3, .int s1.2, .int (0 : Int32)]) (r := []) rfl (g_sho_wantPart152 s1.2 (0 : Int32) (by omega)) fun v3 => ?_
      refine Go_blk 1 (pc' := 29) (L' := [(0, .ref 39), (1, .int p1), (2, .int p2), (3, .int p3), (4, .int p4), (5, .int s1.1), (6, .int s1.2)]) (S' := [.int p1, .int v3]) (h' := (hh X g I)) rfl ?_
      refine Go_seq (pcj := 80) (fun (b4 : Int32) => [(0, .ref 39), (1, .int p1), (2, .int p2), (3, .int p3), (4, .int p4), (5, .int s1.1), (6, .int s1.2)]) (fun (b4 : Int32) => [.int b4]) (fun (b4 : Int32) => (hh X g I)) (fun b4 => ?_) ?_
      ·
        refine Go_blk 3 (pc' := 86) (L' := [(7, .int b4), (0, .ref 39), (1, .int p1), (2, .int p2), (3, .int p3), (4, .int p4), (5, .int s1.1), (6, .int s1.2)]) (S' := [.int b4, .int s1.1]) (h' := (hh X g I)) rfl ?_
        refine Go_seq (pcj := 103) (fun (b5 : Int32) => [(0, .ref 39), (1, .int p1), (2, .int p2), (3, .int p3), (4, .int p4), (6, .int s1.2)]) (fun (b5 : Int32) => [.int b5, .int s1.1]) (fun (b5 : Int32) => (hh X g I)) (fun b5 => ?_) ?_
        ·
          refine Go_blk 4 (pc' := 6) (L' := [(6, .int (s1.2 + (1 : Int32))), (5, .int (s1.1 + b5)), (0, .ref 39), (1, .int p1), (2, .int p2), (3, .int p3), (4, .int p4)]) (S' := []) (h' := (hh X g I)) rfl ?_
          exact Go_jmp [(0, .ref 39), (1, .int p1), (2, .int p2), (3, .int p3), (4, .int p4), (5, .int (s1.1 + b5)), (6, .int (s1.2 + (1 : Int32)))] rfl ⟨rfl, rfl, rfl, rfl, rfl, rfl, rfl, trivial⟩ (fun _ h => h)
        ·
          refine Go_cmz rfl rfl rfl ?_ ?_
          ·
            refine Go_blk 1 (pc' := 103) (L' := [(7, .int b4), (0, .ref 39), (1, .int p1), (2, .int p2), (3, .int p3), (4, .int p4), (5, .int s1.1), (6, .int s1.2)]) (S' := [.int (0 : Int32), .int s1.1]) (h' := (hh X g I)) rfl ?_
            exact Go_jmp [(0, .ref 39), (1, .int p1), (2, .int p2), (3, .int p3), (4, .int p4), (6, .int s1.2)] rfl ⟨rfl, rfl, rfl, rfl, rfl, rfl, trivial⟩ (fun _ h => h)
          ·
            refine Go_blk 4 (pc' := 96) (L' := [(7, .int b4), (0, .ref 39), (1, .int p1), (2, .int p2), (3, .int p3), (4, .int p4), (5, .int s1.1), (6, .int s1.2)]) (S' := [.int (4 : Int32), .int s1.2, .ref 3, .int s1.1]) (h' := (hh X g I)) rfl ?_
            refine Go_cR (y' := 152) (As := [.ref 3, .int s1.2, .int (4 : Int32)]) (r := [.int s1.1]) rfl (g_sho_wantPart152 s1.2 (4 : Int32) (by omega)) fun v6 => ?_
            refine Go_blk 1 (pc' := 103) (L' := [(7, .int b4), (0, .ref 39), (1, .int p1), (2, .int p2), (3, .int p3), (4, .int p4), (5, .int s1.1), (6, .int s1.2)]) (S' := [.int v6, .int s1.1]) (h' := (hh X g I)) rfl ?_
            exact Go_jmp [(0, .ref 39), (1, .int p1), (2, .int p2), (3, .int p3), (4, .int p4), (6, .int s1.2)] rfl ⟨rfl, rfl, rfl, rfl, rfl, rfl, trivial⟩ (fun _ h => h)
      ·
        refine Go_cmpn rfl rfl rfl ?_ ?_
        ·
          refine Go_blk 4 (pc' := 39) (L' := [(0, .ref 39), (1, .int p1), (2, .int p2), (3, .int p3), (4, .int p4), (5, .int s1.1), (6, .int s1.2)]) (S' := [.int (2 : Int32), .int s1.2, .ref 3]) (h' := (hh X g I)) rfl ?_
          refine Go_cR (y' := 152) (As := [.ref 3, .int s1.2, .int (2 : Int32)]) (r := []) rfl (g_sho_wantPart152 s1.2 (2 : Int32) (by omega)) fun v7 => ?_
          refine Go_blk 1 (pc' := 43) (L' := [(0, .ref 39), (1, .int p1), (2, .int p2), (3, .int p3), (4, .int p4), (5, .int s1.1), (6, .int s1.2)]) (S' := [.int p2, .int v7]) (h' := (hh X g I)) rfl ?_
          refine Go_cmpn rfl rfl rfl ?_ ?_
          ·
            refine Go_blk 4 (pc' := 53) (L' := [(0, .ref 39), (1, .int p1), (2, .int p2), (3, .int p3), (4, .int p4), (5, .int s1.1), (6, .int s1.2)]) (S' := [.int (3 : Int32), .int s1.2, .ref 3]) (h' := (hh X g I)) rfl ?_
            refine Go_cR (y' := 152) (As := [.ref 3, .int s1.2, .int (3 : Int32)]) (r := []) rfl (g_sho_wantPart152 s1.2 (3 : Int32) (by omega)) fun v8 => ?_
            refine Go_blk 1 (pc' := 58) (L' := [(0, .ref 39), (1, .int p1), (2, .int p2), (3, .int p3), (4, .int p4), (5, .int s1.1), (6, .int s1.2)]) (S' := [.int p4, .int v8]) (h' := (hh X g I)) rfl ?_
            refine Go_cmpn rfl rfl rfl ?_ ?_
            ·
              refine Go_blk 4 (pc' := 68) (L' := [(0, .ref 39), (1, .int p1), (2, .int p2), (3, .int p3), (4, .int p4), (5, .int s1.1), (6, .int s1.2)]) (S' := [.int (1 : Int32), .int s1.2, .ref 3]) (h' := (hh X g I)) rfl ?_
              refine Go_cR (y' := 152) (As := [.ref 3, .int s1.2, .int (1 : Int32)]) (r := []) rfl (g_sho_wantPart152 s1.2 (1 : Int32) (by omega)) fun v9 => ?_
              refine Go_blk 1 (pc' := 72) (L' := [(0, .ref 39), (1, .int p1), (2, .int p2), (3, .int p3), (4, .int p4), (5, .int s1.1), (6, .int s1.2)]) (S' := [.int p3, .int v9]) (h' := (hh X g I)) rfl ?_
              refine Go_cmp rfl rfl rfl ?_ ?_
              ·
                refine Go_blk 1 (pc' := 80) (L' := [(0, .ref 39), (1, .int p1), (2, .int p2), (3, .int p3), (4, .int p4), (5, .int s1.1), (6, .int s1.2)]) (S' := [.int (0 : Int32)]) (h' := (hh X g I)) rfl ?_
                exact Go_jmp [(0, .ref 39), (1, .int p1), (2, .int p2), (3, .int p3), (4, .int p4), (5, .int s1.1), (6, .int s1.2)] rfl ⟨rfl, rfl, rfl, rfl, rfl, rfl, rfl, trivial⟩ (fun _ h => h)
              ·
                refine Go_blk 2 (pc' := 80) (L' := [(0, .ref 39), (1, .int p1), (2, .int p2), (3, .int p3), (4, .int p4), (5, .int s1.1), (6, .int s1.2)]) (S' := [.int (1 : Int32)]) (h' := (hh X g I)) rfl ?_
                exact Go_jmp [(0, .ref 39), (1, .int p1), (2, .int p2), (3, .int p3), (4, .int p4), (5, .int s1.1), (6, .int s1.2)] rfl ⟨rfl, rfl, rfl, rfl, rfl, rfl, rfl, trivial⟩ (fun _ h => h)
            ·
              refine Go_blk 1 (pc' := 80) (L' := [(0, .ref 39), (1, .int p1), (2, .int p2), (3, .int p3), (4, .int p4), (5, .int s1.1), (6, .int s1.2)]) (S' := [.int (0 : Int32)]) (h' := (hh X g I)) rfl ?_
              exact Go_jmp [(0, .ref 39), (1, .int p1), (2, .int p2), (3, .int p3), (4, .int p4), (5, .int s1.1), (6, .int s1.2)] rfl ⟨rfl, rfl, rfl, rfl, rfl, rfl, rfl, trivial⟩ (fun _ h => h)
          ·
            refine Go_blk 1 (pc' := 80) (L' := [(0, .ref 39), (1, .int p1), (2, .int p2), (3, .int p3), (4, .int p4), (5, .int s1.1), (6, .int s1.2)]) (S' := [.int (0 : Int32)]) (h' := (hh X g I)) rfl ?_
            exact Go_jmp [(0, .ref 39), (1, .int p1), (2, .int p2), (3, .int p3), (4, .int p4), (5, .int s1.1), (6, .int s1.2)] rfl ⟨rfl, rfl, rfl, rfl, rfl, rfl, rfl, trivial⟩ (fun _ h => h)
        ·
          refine Go_blk 1 (pc' := 80) (L' := [(0, .ref 39), (1, .int p1), (2, .int p2), (3, .int p3), (4, .int p4), (5, .int s1.1), (6, .int s1.2)]) (S' := [.int (0 : Int32)]) (h' := (hh X g I)) rfl ?_
          exact Go_jmp [(0, .ref 39), (1, .int p1), (2, .int p2), (3, .int p3), (4, .int p4), (5, .int s1.1), (6, .int s1.2)] rfl ⟨rfl, rfl, rfl, rfl, rfl, rfl, rfl, trivial⟩ (fun _ h => h)
    ·
      exact Go_jmp [(5, .int s1.1)] rfl ⟨rfl, trivial⟩ (fun _ h => h)
set_option maxRecDepth 1000000 in
set_option maxHeartbeats 4000000 in
theorem g_fit_cell189 (p0 : Int32) (p1 : Int32) (p2 : Int32) {X : XX} {g : GG} {I : MJ} {d : Nat} (hd : 0 ≤ d) : Go d 189 0 (lv_args 0 [.int p0, .int p1, .int p2]) [] (hh X g I) (f_fit_cell189 p0 p1 p2 I) (pR X g I) := by
  unfold f_fit_cell189
  refine Go_blk 9 (pc' := 11) (L' := [(0, .int p0), (1, .int p1), (2, .int p2)]) (S' := [.int (((((12 : Int32) * p0) + p1) * (6 : Int32)) + p2)]) (h' := (hh X g I)) rfl ?_
  exact Go_ret (fun _ h => h) rfl
set_option maxRecDepth 1000000 in
set_option maxHeartbeats 4000000 in
theorem g_fit_worthOf188 (p1 : Int32) (p2 : Int32) (p3 : Int32) (p4 : Int32) {X : XX} {g : GG} {I : MJ} {d : Nat} (hd : 1 ≤ d) : Go d 188 0 (lv_args 0 [.ref 39, .int p1, .int p2, .int p3, .int p4]) [] (hh X g I) (f_fit_worthOf188 p1 p2 p3 p4 I) (pR X g I) := by
  obtain ⟨d, rfl⟩ : ∃ k, d = k + 1 := ⟨d - 1, by omega⟩
  unfold f_fit_worthOf188
  refine Go_blk 2 (pc' := 3) (L' := [(0, .ref 39), (1, .int p1), (2, .int p2), (3, .int p3), (4, .int p4)]) (S' := [.int p3, .int p4]) (h' := (hh X g I)) rfl ?_
  refine Go_seq (pcj := 50) (fun (b1 : Int32) => []) (fun (b1 : Int32) => [.int b1]) (fun (b1 : Int32) => (hh X g I)) (fun b1 => ?_) ?_
  ·
    exact Go_ret (fun _ h => h) rfl
  ·
    refine Go_cmpn rfl rfl rfl ?_ ?_
    ·
      refine Go_blk 7 (pc' := 15) (L' := [(0, .ref 39), (1, .int p1), (2, .int p2), (3, .int p3), (4, .int p4)]) (S' := [.int p3, .int p2, .int (p1 + (1 : Int32)), .ref 41]) (h' := (hh X g I)) rfl ?_
      refine Go_cR (y' := 189) (As := [.int (p1 + (1 : Int32)), .int p2, .int p3]) (r := [.ref 41]) rfl (g_fit_cell189 (p1 + (1 : Int32)) p2 p3 (by omega)) fun v2 => ?_
      refine Go_cR (y' := 16) (As := [.ref 41, .int v2]) (r := []) rfl (g_x_at16 41 v2 (by omega)) fun v3 => ?_
      refine Go_blk 1 (pc' := 50) (L' := [(0, .ref 39), (1, .int p1), (2, .int p2), (3, .int p3), (4, .int p4)]) (S' := [.int v3]) (h' := (hh X g I)) rfl ?_
      exact Go_jmp [] rfl trivial (fun _ h => h)
    ·
      refine Go_blk 9 (pc' := 36) (L' := [(0, .ref 39), (1, .int p1), (2, .int p2), (3, .int p3), (4, .int p4)]) (S' := [.int p4, .int (p1 + (1 : Int32)), .int (p1 + (1 : Int32)), .ref 41]) (h' := (hh X g I)) rfl ?_
      refine Go_cR (y' := 189) (As := [.int (p1 + (1 : Int32)), .int (p1 + (1 : Int32)), .int p4]) (r := [.ref 41]) rfl (g_fit_cell189 (p1 + (1 : Int32)) (p1 + (1 : Int32)) p4 (by omega)) fun v4 => ?_
      refine Go_cR (y' := 16) (As := [.ref 41, .int v4]) (r := []) rfl (g_x_at16 41 v4 (by omega)) fun v5 => ?_
      refine Go_blk 4 (pc' := 50) (L' := [(0, .ref 39), (1, .int p1), (2, .int p2), (3, .int p3), (4, .int p4)]) (S' := [.int (v5 - (I 3 9))]) (h' := (hh X g I)) rfl ?_
      exact Go_jmp [] rfl trivial (fun _ h => h)
set_option maxRecDepth 1000000 in
set_option maxHeartbeats 4000000 in
theorem g_fit_onwardKind187 (p1 : Int32) (p2 : Int32) (p3 : Int32) {X : XX} {g : GG} {I : MJ} {d : Nat} (hd : 2 ≤ d) : Go d 187 0 (lv_args 0 [.ref 39, .int p1, .int p2, .int p3]) [] (hh X g I) (f_fit_onwardKind187 p1 p2 p3 I) (pR X g I) := by
  obtain ⟨d, rfl⟩ : ∃ k, d = k + 1 := ⟨d - 1, by omega⟩
  unfold f_fit_onwardKind187
  refine Go_blk 4 (pc' := 6) (L' := [(5, .int (1 : Int32)), (4, .int (0 : Int32)), (0, .ref 39), (1, .int p1), (2, .int p2), (3, .int p3)]) (S' := []) (h' := (hh X g I)) rfl ?_
  refine Go_lcs [(0, .ref 39), (1, .int p1), (2, .int p2), (3, .int p3), (4, .int (0 : Int32)), (5, .int (1 : Int32))] rfl ⟨rfl, rfl, rfl, rfl, rfl, rfl, trivial⟩ ?_
  refine Go_seq (pcj := 49) (fun (b2 : Int32) => [(4, .int b2)]) (fun (b2 : Int32) => []) (fun (b2 : Int32) => (hh X g I)) (fun b2 => ?_) ?_
  ·
    refine Go_blk 1 (pc' := 51) (L' := [(4, .int b2)]) (S' := [.int b2]) (h' := (hh X g I)) rfl ?_
    exact Go_ret (fun _ h => h) rfl
  ·
    refine Go_wh (fun (s1 : Int32 × Int32) => [(0, .ref 39), (1, .int p1), (2, .int p2), (3, .int p3), (4, .int s1.1), (5, .int s1.2)]) (fun _ => []) (fun (s1 : Int32 × Int32) => (hh X g I)) (fun s1 => ?_) ((0 : Int32), (1 : Int32))
    refine Go_blk 2 (pc' := 10) (L' := [(0, .ref 39), (1, .int p1), (2, .int p2), (3, .int p3), (4, .int s1.1), (5, .int s1.2)]) (S' := [.int (6 : Int32), .int s1.2]) (h' := (hh X g I)) rfl ?_
    refine Go_cmpn rfl rfl (ab_cge _ _) ?_ ?_
    ·
      refine Go_blk 5 (pc' := 19) (L' := [(0, .ref 39), (1, .int p1), (2, .int p2), (3, .int p3), (4, .int s1.1), (5, .int s1.2)]) (S' := [.int s1.2, .int p3, .int p2, .int p1, .ref 39]) (h' := (hh X g I)) rfl ?_
      refine Go_cR (y' := 188) (As := [.ref 39, .int p1, .int p2, .int p3, .int s1.2]) (r := []) rfl (g_fit_worthOf188 p1 p2 p3 s1.2 (by omega)) fun v3 => ?_
      refine Go_blk 5 (pc' := 28) (L' := [(0, .ref 39), (1, .int p1), (2, .int p2), (3, .int p3), (4, .int s1.1), (5, .int s1.2)]) (S' := [.int s1.1, .int p3, .int p2, .int p1, .ref 39, .int v3]) (h' := (hh X g I)) rfl ?_
      refine Go_cR (y' := 188) (As := [.ref 39, .int p1, .int p2, .int p3, .int s1.1]) (r := [.int v3]) rfl (g_fit_worthOf188 p1 p2 p3 s1.1 (by omega)) fun v4 => ?_
      refine Go_seq (pcj := 41) (fun (b5 : Int32) => [(0, .ref 39), (1, .int p1), (2, .int p2), (3, .int p3), (5, .int s1.2)]) (fun (b5 : Int32) => [.int b5]) (fun (b5 : Int32) => (hh X g I)) (fun b5 => ?_) ?_
      ·
        refine Go_blk 3 (pc' := 6) (L' := [(5, .int (s1.2 + (1 : Int32))), (4, .int b5), (0, .ref 39), (1, .int p1), (2, .int p2), (3, .int p3)]) (S' := []) (h' := (hh X g I)) rfl ?_
        exact Go_jmp [(0, .ref 39), (1, .int p1), (2, .int p2), (3, .int p3), (4, .int b5), (5, .int (s1.2 + (1 : Int32)))] rfl ⟨rfl, rfl, rfl, rfl, rfl, rfl, trivial⟩ (fun _ h => h)
      ·
        refine Go_cmpn rfl rfl (ab_cle _ _) ?_ ?_
        ·
          refine Go_blk 2 (pc' := 41) (L' := [(0, .ref 39), (1, .int p1), (2, .int p2), (3, .int p3), (4, .int s1.1), (5, .int s1.2)]) (S' := [.int s1.2]) (h' := (hh X g I)) rfl ?_
          exact Go_jmp [(0, .ref 39), (1, .int p1), (2, .int p2), (3, .int p3), (5, .int s1.2)] rfl ⟨rfl, rfl, rfl, rfl, rfl, trivial⟩ (fun _ h => h)
        ·
          refine Go_blk 1 (pc' := 41) (L' := [(0, .ref 39), (1, .int p1), (2, .int p2), (3, .int p3), (4, .int s1.1), (5, .int s1.2)]) (S' := [.int s1.1]) (h' := (hh X g I)) rfl ?_
          exact Go_jmp [(0, .ref 39), (1, .int p1), (2, .int p2), (3, .int p3), (5, .int s1.2)] rfl ⟨rfl, rfl, rfl, rfl, rfl, trivial⟩ (fun _ h => h)
    ·
      exact Go_jmp [(4, .int s1.1)] rfl ⟨rfl, trivial⟩ (fun _ h => h)
set_option maxRecDepth 1000000 in
set_option maxHeartbeats 4000000 in
theorem g_fit_onward186 (p1 : Int32) (p2 : Int32) (p3 : Int32) {X : XX} {g : GG} {I : MJ} {d : Nat} (hd : 3 ≤ d) : Go d 186 0 (lv_args 0 [.ref 39, .int p1, .int p2, .int p3]) [] (hh X g I) (f_fit_onward186 p1 p2 p3 I) (pR X g I) := by
  obtain ⟨d, rfl⟩ : ∃ k, d = k + 1 := ⟨d - 1, by omega⟩
  unfold f_fit_onward186
  refine Go_blk 4 (pc' := 5) (L' := [(0, .ref 39), (1, .int p1), (2, .int p2), (3, .int p3)]) (S' := [.int (12 : Int32), .int (p1 + (1 : Int32))]) (h' := (hh X g I)) rfl ?_
  refine Go_seq (pcj := 26) (fun (b1 : Int32) => []) (fun (b1 : Int32) => [.int b1]) (fun (b1 : Int32) => (hh X g I)) (fun b1 => ?_) ?_
  ·
    exact Go_ret (fun _ h => h) rfl
  ·
    refine Go_cmpn rfl rfl (ab_cge _ _) ?_ ?_
    ·
      refine Go_blk 8 (pc' := 16) (L' := [(0, .ref 39), (1, .int p1), (2, .int p2), (3, .int p3)]) (S' := [.int p3, .int p2, .int p1, .ref 39, .int p3, .int p2, .int p1, .ref 39]) (h' := (hh X g I)) rfl ?_
      refine Go_cR (y' := 187) (As := [.ref 39, .int p1, .int p2, .int p3]) (r := [.int p3, .int p2, .int p1, .ref 39]) rfl (g_fit_onwardKind187 p1 p2 p3 (by omega)) fun v2 => ?_
      refine Go_cR (y' := 188) (As := [.ref 39, .int p1, .int p2, .int p3, .int v2]) (r := []) rfl (g_fit_worthOf188 p1 p2 p3 v2 (by omega)) fun v3 => ?_
      refine Go_blk 1 (pc' := 26) (L' := [(0, .ref 39), (1, .int p1), (2, .int p2), (3, .int p3)]) (S' := [.int v3]) (h' := (hh X g I)) rfl ?_
      exact Go_jmp [] rfl trivial (fun _ h => h)
    ·
      refine Go_blk 1 (pc' := 26) (L' := [(0, .ref 39), (1, .int p1), (2, .int p2), (3, .int p3)]) (S' := [.int (0 : Int32)]) (h' := (hh X g I)) rfl ?_
      exact Go_jmp [] rfl trivial (fun _ h => h)
set_option maxRecDepth 1000000 in
set_option maxHeartbeats 4000000 in
theorem g_fit_follow190 (p1 : Int32) {X : XX} {g : GG} {I : MJ} {d : Nat} (hd : 3 ≤ d) : Go d 190 0 (lv_args 0 [.ref 39, .int p1]) [] (hh X g I) (f_fit_follow190 p1 I) (pV X g) := by
  obtain ⟨d, rfl⟩ : ∃ k, d = k + 1 := ⟨d - 1, by omega⟩
  unfold f_fit_follow190
  refine Go_blk 8 (pc' := 10) (L' := [(3, .int (0 : Int32)), (2, .int p1), (0, .ref 39), (1, .int p1)]) (S' := [.int p1, .int (0 : Int32), .ref 40]) (h' := (hh X g I)) rfl ?_
  refine Go_cV (y' := 15) (As := [.ref 40, .int (0 : Int32), .int p1]) (r := []) rfl (g_x_put15 40 (0 : Int32) p1 (by omega)) fun I1 => ?_
  refine Go_blk 2 (pc' := 16) (L' := [(4, .int (0 : Int32)), (3, .int (0 : Int32)), (2, .int p1), (0, .ref 39), (1, .int p1)]) (S' := []) (h' := (hh X g I1)) rfl ?_
  refine Go_lcs [(0, .ref 39), (2, .int p1), (3, .int (0 : Int32)), (4, .int (0 : Int32))] rfl ⟨rfl, rfl, rfl, rfl, trivial⟩ ?_
  refine Go_seq (pcj := 71) (fun (b3 : MJ) => []) (fun (b3 : MJ) => []) (fun (b3 : MJ) => (hh X g b3)) (fun b3 => ?_) ?_
  ·
    exact Go_ret (fun _ h => h) rfl
  ·
    refine Go_wh (fun (s2 : Int32 × Int32 × Int32 × MJ) => [(0, .ref 39), (2, .int s2.1), (3, .int s2.2.1), (4, .int s2.2.2.1)]) (fun _ => []) (fun (s2 : Int32 × Int32 × Int32 × MJ) => (hh X g s2.2.2.2)) (fun s2 => ?_) (p1, (0 : Int32), (0 : Int32), I1)
    refine Go_blk 4 (pc' := 22) (L' := [(0, .ref 39), (2, .int s2.1), (3, .int s2.2.1), (4, .int s2.2.2.1)]) (S' := [.int (12 : Int32), .int (s2.2.2.1 + (1 : Int32))]) (h' := (hh X g s2.2.2.2)) rfl ?_
    refine Go_cmpn rfl rfl (ab_cge _ _) ?_ ?_
    ·
      refine Go_blk 4 (pc' := 30) (L' := [(0, .ref 39), (2, .int s2.1), (3, .int s2.2.1), (4, .int s2.2.2.1)]) (S' := [.int s2.1, .int s2.2.1, .int s2.2.2.1, .ref 39]) (h' := (hh X g s2.2.2.2)) rfl ?_
      refine Go_cR (y' := 187) (As := [.ref 39, .int s2.2.2.1, .int s2.2.1, .int s2.1]) (r := []) rfl (g_fit_onwardKind187 s2.2.2.1 s2.2.1 s2.1 (by omega)) fun v4 => ?_
      refine Go_blk 3 (pc' := 38) (L' := [(5, .int v4), (0, .ref 39), (2, .int s2.1), (3, .int s2.2.1), (4, .int s2.2.2.1)]) (S' := [.int s2.1, .int v4]) (h' := (hh X g s2.2.2.2)) rfl ?_
      refine Go_seq (pcj := 49) (fun (b5 : Int32) => [(0, .ref 39), (4, .int s2.2.2.1), (5, .int v4)]) (fun (b5 : Int32) => [.int b5]) (fun (b5 : Int32) => (hh X g s2.2.2.2)) (fun b5 => ?_) ?_
      ·
        refine Go_blk 9 (pc' := 62) (L' := [(2, .int v4), (3, .int b5), (0, .ref 39), (4, .int s2.2.2.1), (5, .int v4)]) (S' := [.int v4, .int (s2.2.2.1 + (1 : Int32)), .ref 40]) (h' := (hh X g s2.2.2.2)) rfl ?_
        refine Go_cV (y' := 15) (As := [.ref 40, .int (s2.2.2.1 + (1 : Int32)), .int v4]) (r := []) rfl (g_x_put15 40 (s2.2.2.1 + (1 : Int32)) v4 (by omega)) fun I6 => ?_
        refine Go_blk 2 (pc' := 16) (L' := [(4, .int (s2.2.2.1 + (1 : Int32))), (2, .int v4), (3, .int b5), (0, .ref 39), (5, .int v4)]) (S' := []) (h' := (hh X g I6)) rfl ?_
        exact Go_jmp [(0, .ref 39), (2, .int v4), (3, .int b5), (4, .int (s2.2.2.1 + (1 : Int32)))] rfl ⟨rfl, rfl, rfl, rfl, trivial⟩ (fun _ h => h)
      ·
        refine Go_cmpn rfl rfl rfl ?_ ?_
        ·
          refine Go_blk 2 (pc' := 49) (L' := [(5, .int v4), (0, .ref 39), (2, .int s2.1), (3, .int s2.2.1), (4, .int s2.2.2.1)]) (S' := [.int s2.2.1]) (h' := (hh X g s2.2.2.2)) rfl ?_
          exact Go_jmp [(0, .ref 39), (4, .int s2.2.2.1), (5, .int v4)] rfl ⟨rfl, rfl, rfl, trivial⟩ (fun _ h => h)
        ·
          refine Go_blk 3 (pc' := 49) (L' := [(5, .int v4), (0, .ref 39), (2, .int s2.1), (3, .int s2.2.1), (4, .int s2.2.2.1)]) (S' := [.int (s2.2.2.1 + (1 : Int32))]) (h' := (hh X g s2.2.2.2)) rfl ?_
          exact Go_jmp [(0, .ref 39), (4, .int s2.2.2.1), (5, .int v4)] rfl ⟨rfl, rfl, rfl, trivial⟩ (fun _ h => h)
    ·
      exact Go_jmp [] rfl trivial (fun _ h => h)
