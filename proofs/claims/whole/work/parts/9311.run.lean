/-! the machine runs them (written by wip/whole/dec.py) -/
set_option maxRecDepth 1000000 in
set_option maxHeartbeats 4000000 in
theorem g_m_mend351 (p1 : Int32) (p2 : Int32) {X : XX} {g : GG} {I : MJ} {d : Nat} (hd : 2 ≤ d) : Go d 351 0 (lv_args 0 [.ref 47, .int p1, .int p2]) [] (hh X g I) (f_m_mend351 p1 p2 I) (pW X g) := by
  obtain ⟨d, rfl⟩ : ∃ k, d = k + 1 := ⟨d - 1, by omega⟩
  unfold f_m_mend351
  refine Go_blk 6 (pc' := 8) (L' := [(0, .ref 47), (1, .int p1), (2, .int p2)]) (S' := [.int p1, .ref 47, .ref 47]) (h' := (hh X g (ab_up1 I 47 0 (0 : Int32)))) rfl ?_
  refine Go_cR (y' := 328) (As := [.ref 47, .int p1]) (r := [.ref 47]) rfl (g_m_isClient328 p1 (by omega)) fun v1 => ?_
  refine Go_seq (pcj := 19) (fun (b2 : Int32) => [(0, .ref 47), (1, .int p1), (2, .int p2)]) (fun (b2 : Int32) => [.int b2, .ref 47]) (fun (b2 : Int32) => (hh X g (ab_up1 I 47 0 (0 : Int32)))) (fun b2 => ?_) ?_
  ·
    refine Go_blk 2 (pc' := 21) (L' := [(0, .ref 47), (1, .int p1), (2, .int p2)]) (S' := [.int (0 : Int32), .int (1 : Int32), .int b2, .ref 47]) (h' := (hh X g (ab_up1 I 47 0 (0 : Int32)))) rfl ?_
    refine Go_cW (y' := 268) (As := [.ref 47, .int b2, .int (1 : Int32), .int (0 : Int32)]) (r := []) rfl (g_m_bad268 b2 (1 : Int32) (0 : Int32) (by omega)) fun w3 => ?_
    refine Go_cmzn rfl rfl rfl ?_ ?_
    ·
      refine Go_blk 4 (pc' := 31) (L' := [(0, .ref 47), (1, .int p1), (2, .int p2)]) (S' := [.int p1, .ref 47, .int p2, .ref 47]) (h' := (hh X g w3.2)) rfl ?_
      refine Go_cR (y' := 329) (As := [.ref 47, .int p1]) (r := [.int p2, .ref 47]) rfl (g_m_wantsOf329 p1 (by omega)) fun v4 => ?_
      refine Go_blk 3 (pc' := 37) (L' := [(0, .ref 47), (1, .int p1), (2, .int p2)]) (S' := [.int (p2 &&& (v4 ^^^ (-1 : Int32))), .ref 47]) (h' := (hh X g w3.2)) rfl ?_
      refine Go_seq (pcj := 45) (fun (b5 : Int32) => [(0, .ref 47), (1, .int p1), (2, .int p2)]) (fun (b5 : Int32) => [.int b5, .ref 47]) (fun (b5 : Int32) => (hh X g w3.2)) (fun b5 => ?_) ?_
      ·
        refine Go_blk 2 (pc' := 47) (L' := [(0, .ref 47), (1, .int p1), (2, .int p2)]) (S' := [.int (1 : Int32), .int (2 : Int32), .int b5, .ref 47]) (h' := (hh X g w3.2)) rfl ?_
        refine Go_cW (y' := 268) (As := [.ref 47, .int b5, .int (2 : Int32), .int (1 : Int32)]) (r := []) rfl (g_m_bad268 b5 (2 : Int32) (1 : Int32) (by omega)) fun w6 => ?_
        refine Go_cmz rfl rfl rfl ?_ ?_
        ·
          refine Go_blk 3 (pc' := 60) (L' := [(0, .ref 47), (1, .int p1), (2, .int p2)]) (S' := [.int p1, .ref 576]) (h' := (hh X g w6.2)) rfl ?_
          refine Go_cR (y' := 305) (As := [.ref 576, .int p1]) (r := []) rfl (g_m_hasSuit305 576 p1 (by omega)) fun v7 => ?_
          refine Go_cmzn rfl rfl rfl ?_ ?_
          ·
            refine Go_blk 1 (pc' := 67) (L' := [(0, .ref 47), (1, .int p1), (2, .int p2)]) (S' := [.int (-1 : Int32)]) (h' := (hh X g w6.2)) rfl ?_
            exact Go_ret (fun _ h => h) rfl
          ·
            refine Go_blk 6 (pc' := 76) (L' := [(5, .int (0 : Int32)), (4, .int (0 : Int32)), (3, .int (0 : Int32)), (0, .ref 47), (1, .int p1), (2, .int p2)]) (S' := []) (h' := (hh X g w6.2)) rfl ?_
            refine Go_lcs [(0, .ref 47), (1, .int p1), (2, .int p2), (3, .int (0 : Int32)), (4, .int (0 : Int32)), (5, .int (0 : Int32))] rfl ⟨rfl, rfl, rfl, rfl, rfl, rfl, trivial⟩ ?_
            refine Go_wh (fun (s8 : Int32 × Int32) => [(0, .ref 47), (1, .int p1), (2, .int p2), (3, .int s8.1), (4, .int (0 : Int32)), (5, .int s8.2)]) (fun _ => []) (fun (s8 : Int32 × Int32) => (hh X g w6.2)) (fun s8 => ?_) ((0 : Int32), (0 : Int32))
            refine Go_blk 5 (pc' := 84) (L' := [(0, .ref 47), (1, .int p1), (2, .int p2), (3, .int s8.1), (4, .int (0 : Int32)), (5, .int s8.2)]) (S' := [.int (w6.2 51 2), .int s8.2]) (h' := (hh X g w6.2)) rfl ?_
            refine Go_cmpn rfl rfl (ab_cge _ _) ?_ ?_
            ·
              refine Go_blk 2 (pc' := 90) (L' := [(0, .ref 47), (1, .int p1), (2, .int p2), (3, .int s8.1), (4, .int (0 : Int32)), (5, .int s8.2)]) (S' := [.int s8.2, .int p2]) (h' := (hh X g w6.2)) rfl ?_
              refine Go_cR (y' := 313) (As := [.int p2, .int s8.2]) (r := []) rfl (g_m_has313 p2 s8.2 (by omega)) fun v9 => ?_
              refine Go_cmzn rfl rfl rfl ?_ ?_
              ·
                refine Go_blk 3 (pc' := 76) (L' := [(5, .int (s8.2 + (1 : Int32))), (0, .ref 47), (1, .int p1), (2, .int p2), (3, .int s8.1), (4, .int (0 : Int32))]) (S' := []) (h' := (hh X g w6.2)) rfl ?_
                exact Go_jmp [(0, .ref 47), (1, .int p1), (2, .int p2), (3, .int s8.1), (4, .int (0 : Int32)), (5, .int (s8.2 + (1 : Int32)))] rfl ⟨rfl, rfl, rfl, rfl, rfl, rfl, trivial⟩ (fun _ h => h)
              ·
                refine Go_blk 2 (pc' := 102) (L' := [(6, .int (0 : Int32)), (0, .ref 47), (1, .int p1), (2, .int p2), (3, .int s8.1), (4, .int (0 : Int32)), (5, .int s8.2)]) (S' := []) (h' := (hh X g w6.2)) rfl ?_
                refine Go_lcs [(0, .ref 47), (1, .int p1), (2, .int p2), (3, .int s8.1), (4, .int (0 : Int32)), (5, .int s8.2), (6, .int (0 : Int32))] rfl ⟨rfl, rfl, rfl, rfl, rfl, rfl, rfl, trivial⟩ ?_
                refine Go_wh (fun (s10 : Int32) => [(0, .ref 47), (1, .int p1), (2, .int p2), (3, .int s8.1), (4, .int (0 : Int32)), (5, .int s8.2), (6, .int s10)]) (fun _ => []) (fun (s10 : Int32) => (hh X g w6.2)) (fun s10 => ?_) (0 : Int32)
                refine Go_blk 2 (pc' := 106) (L' := [(0, .ref 47), (1, .int p1), (2, .int p2), (3, .int s8.1), (4, .int (0 : Int32)), (5, .int s8.2), (6, .int s10)]) (S' := [.int s8.2, .int s10]) (h' := (hh X g w6.2)) rfl ?_
                refine Go_cmpn rfl rfl (ab_cge _ _) ?_ ?_
                ·
                  refine Go_blk 2 (pc' := 112) (L' := [(0, .ref 47), (1, .int p1), (2, .int p2), (3, .int s8.1), (4, .int (0 : Int32)), (5, .int s8.2), (6, .int s10)]) (S' := [.int s10, .int p2]) (h' := (hh X g w6.2)) rfl ?_
                  refine Go_cR (y' := 313) (As := [.int p2, .int s10]) (r := []) rfl (g_m_has313 p2 s10 (by omega)) fun v11 => ?_
                  refine Go_cmz rfl rfl rfl ?_ ?_
                  ·
                    refine Go_blk 2 (pc' := 102) (L' := [(6, .int (s10 + (1 : Int32))), (0, .ref 47), (1, .int p1), (2, .int p2), (3, .int s8.1), (4, .int (0 : Int32)), (5, .int s8.2)]) (S' := []) (h' := (hh X g w6.2)) rfl ?_
                    exact Go_jmp [(0, .ref 47), (1, .int p1), (2, .int p2), (3, .int s8.1), (4, .int (0 : Int32)), (5, .int s8.2), (6, .int (s10 + (1 : Int32)))] rfl ⟨rfl, rfl, rfl, rfl, rfl, rfl, rfl, trivial⟩ (fun _ h => h)
                  ·
                    refine Go_blk 3 (pc' := 123) (L' := [(0, .ref 47), (1, .int p1), (2, .int p2), (3, .int s8.1), (4, .int (0 : Int32)), (5, .int s8.2), (6, .int s10)]) (S' := [.int s10, .int s8.2, .ref 47]) (h' := (hh X g w6.2)) rfl ?_
                    refine Go_cR (y' := 350) (As := [.ref 47, .int s8.2, .int s10]) (r := []) rfl (g_m_isClash350 s8.2 s10 (by omega)) fun v12 => ?_
                    refine Go_cmz rfl rfl rfl ?_ ?_
                    ·
                      refine Go_blk 2 (pc' := 102) (L' := [(6, .int (s10 + (1 : Int32))), (0, .ref 47), (1, .int p1), (2, .int p2), (3, .int s8.1), (4, .int (0 : Int32)), (5, .int s8.2)]) (S' := []) (h' := (hh X g w6.2)) rfl ?_
                      exact Go_jmp [(0, .ref 47), (1, .int p1), (2, .int p2), (3, .int s8.1), (4, .int (0 : Int32)), (5, .int s8.2), (6, .int (s10 + (1 : Int32)))] rfl ⟨rfl, rfl, rfl, rfl, rfl, rfl, rfl, trivial⟩ (fun _ h => h)
                    ·
                      refine Go_inrS ?_
                      refine Go_inrS ?_
                      refine Go_blk 1 (pc' := 130) (L' := [(0, .ref 47), (1, .int p1), (2, .int p2), (3, .int s8.1), (4, .int (0 : Int32)), (5, .int s8.2), (6, .int s10)]) (S' := [.int (-1 : Int32)]) (h' := (hh X g w6.2)) rfl ?_
                      exact Go_ret (fun _ h => h) rfl
                ·
                  refine Go_inr ?_
                  refine Go_blk 3 (pc' := 143) (L' := [(0, .ref 47), (1, .int p1), (2, .int p2), (3, .int s8.1), (4, .int (0 : Int32)), (5, .int s8.2), (6, .int s10)]) (S' := [.int s8.2, .ref 93]) (h' := (hh X g w6.2)) rfl ?_
                  refine Go_aald rfl fun r13 => ?_
                  refine Go_blk 1 (pc' := 145) (L' := [(0, .ref 47), (1, .int p1), (2, .int p2), (3, .int s8.1), (4, .int (0 : Int32)), (5, .int s8.2), (6, .int s10)]) (S' := [.int (1 : Int32), .ref r13]) (h' := (hh X g w6.2)) rfl ?_
                  refine Go_iald rfl fun v14 => ?_
                  refine Go_blk 1 (pc' := 148) (L' := [(6, .int v14), (0, .ref 47), (1, .int p1), (2, .int p2), (3, .int s8.1), (4, .int (0 : Int32)), (5, .int s8.2)]) (S' := []) (h' := (hh X g w6.2)) rfl ?_
                  refine Go_lcs [(0, .ref 47), (1, .int p1), (2, .int p2), (3, .int s8.1), (4, .int (0 : Int32)), (5, .int s8.2), (6, .int v14)] rfl ⟨rfl, rfl, rfl, rfl, rfl, rfl, rfl, trivial⟩ ?_
                  refine Go_seq (pcj := 203) (fun (b16 : Int32) => [(0, .ref 47), (1, .int p1), (2, .int p2), (3, .int b16), (4, .int (0 : Int32)), (5, .int s8.2)]) (fun (b16 : Int32) => []) (fun (b16 : Int32) => (hh X g w6.2)) (fun b16 => ?_) ?_
                  ·
                    refine Go_blk 2 (pc' := 76) (L' := [(5, .int (s8.2 + (1 : Int32))), (0, .ref 47), (1, .int p1), (2, .int p2), (3, .int b16), (4, .int (0 : Int32))]) (S' := []) (h' := (hh X g w6.2)) rfl ?_
                    exact Go_jmp [(0, .ref 47), (1, .int p1), (2, .int p2), (3, .int b16), (4, .int (0 : Int32)), (5, .int (s8.2 + (1 : Int32)))] rfl ⟨rfl, rfl, rfl, rfl, rfl, rfl, trivial⟩ (fun _ h => h)
                  ·
                    refine Go_wh (fun (s15 : Int32 × Int32) => [(0, .ref 47), (1, .int p1), (2, .int p2), (3, .int s15.1), (4, .int (0 : Int32)), (5, .int s8.2), (6, .int s15.2)]) (fun _ => []) (fun (s15 : Int32 × Int32) => (hh X g w6.2)) (fun s15 => ?_) (s8.1, v14)
                    refine Go_blk 4 (pc' := 156) (L' := [(0, .ref 47), (1, .int p1), (2, .int p2), (3, .int s15.1), (4, .int (0 : Int32)), (5, .int s8.2), (6, .int s15.2)]) (S' := [.int s8.2, .ref 93, .int s15.2]) (h' := (hh X g w6.2)) rfl ?_
                    refine Go_aald rfl fun r17 => ?_
                    refine Go_blk 1 (pc' := 158) (L' := [(0, .ref 47), (1, .int p1), (2, .int p2), (3, .int s15.1), (4, .int (0 : Int32)), (5, .int s8.2), (6, .int s15.2)]) (S' := [.int (2 : Int32), .ref r17, .int s15.2]) (h' := (hh X g w6.2)) rfl ?_
                    refine Go_iald rfl fun v18 => ?_
                    refine Go_cmp rfl rfl rfl ?_ ?_
                    ·
                      exact Go_jmp [(0, .ref 47), (1, .int p1), (2, .int p2), (3, .int s15.1), (4, .int (0 : Int32)), (5, .int s8.2)] rfl ⟨rfl, rfl, rfl, rfl, rfl, rfl, trivial⟩ (fun _ h => h)
                    ·
                      refine Go_blk 4 (pc' := 168) (L' := [(0, .ref 47), (1, .int p1), (2, .int p2), (3, .int s15.1), (4, .int (0 : Int32)), (5, .int s8.2), (6, .int s15.2)]) (S' := [.int p1, .ref 576, .int s15.1]) (h' := (hh X g w6.2)) rfl ?_
                      refine Go_cR (y' := 310) (As := [.int p1]) (r := [.ref 576, .int s15.1]) rfl (g_m_suitOf310 p1 (by omega)) fun v19 => ?_
                      refine Go_blk 2 (pc' := 174) (L' := [(0, .ref 47), (1, .int p1), (2, .int p2), (3, .int s15.1), (4, .int (0 : Int32)), (5, .int s8.2), (6, .int s15.2)]) (S' := [.int (v19 + s15.2), .ref 576, .int s15.1]) (h' := (hh X g w6.2)) rfl ?_
                      refine Go_iald rfl fun v20 => ?_
                      refine Go_blk 3 (pc' := 181) (L' := [(0, .ref 47), (1, .int p1), (2, .int p2), (3, .int s15.1), (4, .int (0 : Int32)), (5, .int s8.2), (6, .int s15.2)]) (S' := [.int s8.2, .ref 93, .int v20, .int s15.1]) (h' := (hh X g w6.2)) rfl ?_
                      refine Go_aald rfl fun r21 => ?_
                      refine Go_blk 1 (pc' := 183) (L' := [(0, .ref 47), (1, .int p1), (2, .int p2), (3, .int s15.1), (4, .int (0 : Int32)), (5, .int s8.2), (6, .int s15.2)]) (S' := [.int (3 : Int32), .ref r21, .int v20, .int s15.1]) (h' := (hh X g w6.2)) rfl ?_
                      refine Go_iald rfl fun v22 => ?_
                      refine Go_seq (pcj := 195) (fun (b23 : Int32) => [(0, .ref 47), (1, .int p1), (2, .int p2), (4, .int (0 : Int32)), (5, .int s8.2), (6, .int s15.2)]) (fun (b23 : Int32) => [.int b23, .int s15.1]) (fun (b23 : Int32) => (hh X g w6.2)) (fun b23 => ?_) ?_
                      ·
                        refine Go_blk 4 (pc' := 148) (L' := [(6, .int (s15.2 + (1 : Int32))), (3, .int (s15.1 ||| b23)), (0, .ref 47), (1, .int p1), (2, .int p2), (4, .int (0 : Int32)), (5, .int s8.2)]) (S' := []) (h' := (hh X g w6.2)) rfl ?_
                        exact Go_jmp [(0, .ref 47), (1, .int p1), (2, .int p2), (3, .int (s15.1 ||| b23)), (4, .int (0 : Int32)), (5, .int s8.2), (6, .int (s15.2 + (1 : Int32)))] rfl ⟨rfl, rfl, rfl, rfl, rfl, rfl, rfl, trivial⟩ (fun _ h => h)
                      ·
                        refine Go_cmp rfl rfl rfl ?_ ?_
                        ·
                          refine Go_blk 1 (pc' := 195) (L' := [(0, .ref 47), (1, .int p1), (2, .int p2), (3, .int s15.1), (4, .int (0 : Int32)), (5, .int s8.2), (6, .int s15.2)]) (S' := [.int (0 : Int32), .int s15.1]) (h' := (hh X g w6.2)) rfl ?_
                          exact Go_jmp [(0, .ref 47), (1, .int p1), (2, .int p2), (4, .int (0 : Int32)), (5, .int s8.2), (6, .int s15.2)] rfl ⟨rfl, rfl, rfl, rfl, rfl, rfl, trivial⟩ (fun _ h => h)
                        ·
                          refine Go_blk 4 (pc' := 195) (L' := [(0, .ref 47), (1, .int p1), (2, .int p2), (3, .int s15.1), (4, .int (0 : Int32)), (5, .int s8.2), (6, .int s15.2)]) (S' := [.int ((1 : Int32) <<< (s15.2 &&& 31)), .int s15.1]) (h' := (hh X g w6.2)) rfl ?_
                          exact Go_jmp [(0, .ref 47), (1, .int p1), (2, .int p2), (4, .int (0 : Int32)), (5, .int s8.2), (6, .int s15.2)] rfl ⟨rfl, rfl, rfl, rfl, rfl, rfl, trivial⟩ (fun _ h => h)
            ·
              refine Go_inr ?_
              refine Go_blk 2 (pc' := 212) (L' := [(5, .int (0 : Int32)), (0, .ref 47), (1, .int p1), (2, .int p2), (3, .int s8.1), (4, .int (0 : Int32))]) (S' := []) (h' := (hh X g w6.2)) rfl ?_
              refine Go_lcs [(3, .int s8.1), (4, .int (0 : Int32)), (5, .int (0 : Int32))] rfl ⟨rfl, rfl, rfl, trivial⟩ ?_
              refine Go_seq (pcj := 236) (fun (b25 : Int32) => [(4, .int b25)]) (fun (b25 : Int32) => []) (fun (b25 : Int32) => (hh X g w6.2)) (fun b25 => ?_) ?_
              ·
                refine Go_blk 1 (pc' := 238) (L' := [(4, .int b25)]) (S' := [.int b25]) (h' := (hh X g w6.2)) rfl ?_
                exact Go_ret (fun _ h => h) rfl
              ·
                refine Go_wh (fun (s24 : Int32 × Int32) => [(3, .int s8.1), (4, .int s24.1), (5, .int s24.2)]) (fun _ => []) (fun (s24 : Int32 × Int32) => (hh X g w6.2)) (fun s24 => ?_) ((0 : Int32), (0 : Int32))
                refine Go_blk 2 (pc' := 216) (L' := [(3, .int s8.1), (4, .int s24.1), (5, .int s24.2)]) (S' := [.int (12 : Int32), .int s24.2]) (h' := (hh X g w6.2)) rfl ?_
                refine Go_cmpn rfl rfl (ab_cge _ _) ?_ ?_
                ·
                  refine Go_blk 10 (pc' := 212) (L' := [(5, .int (s24.2 + (1 : Int32))), (4, .int (s24.1 + ((s8.1 >>> (s24.2 &&& 31)) &&& (1 : Int32)))), (3, .int s8.1)]) (S' := []) (h' := (hh X g w6.2)) rfl ?_
                  exact Go_jmp [(3, .int s8.1), (4, .int (s24.1 + ((s8.1 >>> (s24.2 &&& 31)) &&& (1 : Int32)))), (5, .int (s24.2 + (1 : Int32)))] rfl ⟨rfl, rfl, rfl, trivial⟩ (fun _ h => h)
                ·
                  exact Go_jmp [(4, .int s24.1)] rfl ⟨rfl, trivial⟩ (fun _ h => h)
        ·
          refine Go_blk 1 (pc' := 54) (L' := [(0, .ref 47), (1, .int p1), (2, .int p2)]) (S' := [.int (0 : Int32)]) (h' := (hh X g w6.2)) rfl ?_
          exact Go_ret (fun _ h => h) rfl
      ·
        refine Go_cmz rfl rfl rfl ?_ ?_
        ·
          refine Go_blk 1 (pc' := 45) (L' := [(0, .ref 47), (1, .int p1), (2, .int p2)]) (S' := [.int (0 : Int32), .ref 47]) (h' := (hh X g w3.2)) rfl ?_
          exact Go_jmp [(0, .ref 47), (1, .int p1), (2, .int p2)] rfl ⟨rfl, rfl, rfl, trivial⟩ (fun _ h => h)
        ·
          refine Go_blk 2 (pc' := 45) (L' := [(0, .ref 47), (1, .int p1), (2, .int p2)]) (S' := [.int (1 : Int32), .ref 47]) (h' := (hh X g w3.2)) rfl ?_
          exact Go_jmp [(0, .ref 47), (1, .int p1), (2, .int p2)] rfl ⟨rfl, rfl, rfl, trivial⟩ (fun _ h => h)
    ·
      refine Go_blk 1 (pc' := 54) (L' := [(0, .ref 47), (1, .int p1), (2, .int p2)]) (S' := [.int (0 : Int32)]) (h' := (hh X g w3.2)) rfl ?_
      exact Go_ret (fun _ h => h) rfl
  ·
    refine Go_cmzn rfl rfl rfl ?_ ?_
    ·
      refine Go_blk 2 (pc' := 19) (L' := [(0, .ref 47), (1, .int p1), (2, .int p2)]) (S' := [.int (1 : Int32), .ref 47]) (h' := (hh X g (ab_up1 I 47 0 (0 : Int32)))) rfl ?_
      exact Go_jmp [(0, .ref 47), (1, .int p1), (2, .int p2)] rfl ⟨rfl, rfl, rfl, trivial⟩ (fun _ h => h)
    ·
      refine Go_blk 1 (pc' := 19) (L' := [(0, .ref 47), (1, .int p1), (2, .int p2)]) (S' := [.int (0 : Int32), .ref 47]) (h' := (hh X g (ab_up1 I 47 0 (0 : Int32)))) rfl ?_
      exact Go_jmp [(0, .ref 47), (1, .int p1), (2, .int p2)] rfl ⟨rfl, rfl, rfl, trivial⟩ (fun _ h => h)
set_option maxRecDepth 1000000 in
set_option maxHeartbeats 4000000 in
theorem g_sho_allOrders204  {X : XX} {g : GG} {I : MJ} {d : Nat} (hd : 0 ≤ d) : Go d 204 0 (lv_args 0 [.ref 3]) [] (hh X g I) (f_sho_allOrders204  I) (pR X g I) := by
  unfold f_sho_allOrders204
  refine Go_blk 6 (pc' := 8) (L' := [(0, .ref 3)]) (S' := [.int (((1 : Int32) <<< ((I 3 8) &&& 31)) - (1 : Int32))]) (h' := (hh X g I)) rfl ?_
  exact Go_ret (fun _ h => h) rfl
set_option maxRecDepth 1000000 in
set_option maxHeartbeats 4000000 in
theorem g_tas_patternOf206 (p1 : Int32) {X : XX} {g : GG} {I : MJ} {d : Nat} (hd : 2 ≤ d) : Go d 206 0 (lv_args 0 [.ref 43, .int p1]) [] (hh X g I) (f_tas_patternOf206 p1 I) (pR X g I) := by
  obtain ⟨d, rfl⟩ : ∃ k, d = k + 1 := ⟨d - 1, by omega⟩
  unfold f_tas_patternOf206
  refine Go_blk 4 (pc' := 6) (L' := [(0, .ref 43), (1, .int p1)]) (S' := [.int (1 : Int32), .int p1, .ref 3]) (h' := (hh X g I)) rfl ?_
  refine Go_cR (y' := 123) (As := [.ref 3, .int p1, .int (1 : Int32)]) (r := []) rfl (g_sho_orderPart123 p1 (1 : Int32) (by omega)) fun v1 => ?_
  exact Go_ret (fun _ h => h) rfl
set_option maxRecDepth 1000000 in
set_option maxHeartbeats 4000000 in
theorem g_tas_canBePacked205 (p1 : Int32) {X : XX} {g : GG} {I : MJ} {d : Nat} (hd : 3 ≤ d) : Go d 205 0 (lv_args 0 [.ref 43, .int p1]) [] (hh X g I) (f_tas_canBePacked205 p1 I) (pR X g I) := by
  obtain ⟨d, rfl⟩ : ∃ k, d = k + 1 := ⟨d - 1, by omega⟩
  unfold f_tas_canBePacked205
  refine Go_blk 4 (pc' := 4) (L' := [(3, .int (0 : Int32)), (2, .int (0 : Int32)), (0, .ref 43), (1, .int p1)]) (S' := []) (h' := (hh X g I)) rfl ?_
  refine Go_lcs [(0, .ref 43), (1, .int p1), (2, .int (0 : Int32)), (3, .int (0 : Int32))] rfl ⟨rfl, rfl, rfl, rfl, trivial⟩ ?_
  refine Go_wh (fun (s1 : Int32 × Int32) => [(0, .ref 43), (1, .int p1), (2, .int s1.1), (3, .int s1.2)]) (fun _ => []) (fun (s1 : Int32 × Int32) => (hh X g I)) (fun s1 => ?_) ((0 : Int32), (0 : Int32))
  refine Go_blk 4 (pc' := 12) (L' := [(0, .ref 43), (1, .int p1), (2, .int s1.1), (3, .int s1.2)]) (S' := [.int (I 3 8), .int s1.2]) (h' := (hh X g I)) rfl ?_
  refine Go_cmpn rfl rfl (ab_cge _ _) ?_ ?_
  ·
    refine Go_blk 2 (pc' := 17) (L' := [(0, .ref 43), (1, .int p1), (2, .int s1.1), (3, .int s1.2)]) (S' := [.int s1.2, .int p1]) (h' := (hh X g I)) rfl ?_
    refine Go_cR (y' := 26) (As := [.int p1, .int s1.2]) (r := []) rfl (g_x_holds26 p1 s1.2 (by omega)) fun v2 => ?_
    refine Go_cmz rfl rfl rfl ?_ ?_
    ·
      refine Go_blk 2 (pc' := 4) (L' := [(3, .int (s1.2 + (1 : Int32))), (0, .ref 43), (1, .int p1), (2, .int s1.1)]) (S' := []) (h' := (hh X g I)) rfl ?_
      exact Go_jmp [(0, .ref 43), (1, .int p1), (2, .int s1.1), (3, .int (s1.2 + (1 : Int32)))] rfl ⟨rfl, rfl, rfl, rfl, trivial⟩ (fun _ h => h)
    ·
      refine Go_blk 4 (pc' := 29) (L' := [(0, .ref 43), (1, .int p1), (2, .int s1.1), (3, .int s1.2)]) (S' := [.int s1.2, .ref 43, .ref 19]) (h' := (hh X g I)) rfl ?_
      refine Go_cR (y' := 206) (As := [.ref 43, .int s1.2]) (r := [.ref 19]) rfl (g_tas_patternOf206 s1.2 (by omega)) fun v3 => ?_
      refine Go_cR (y' := 25) (As := [.ref 19, .int v3]) (r := []) rfl (g_pat_isTold25 v3 (by omega)) fun v4 => ?_
      refine Go_cmzn rfl rfl rfl ?_ ?_
      ·
        refine Go_inrS ?_
        refine Go_blk 1 (pc' := 39) (L' := [(0, .ref 43), (1, .int p1), (2, .int s1.1), (3, .int s1.2)]) (S' := [.int (0 : Int32)]) (h' := (hh X g I)) rfl ?_
        exact Go_ret (fun _ h => h) rfl
      ·
        refine Go_blk 7 (pc' := 52) (L' := [(0, .ref 43), (1, .int p1), (2, .int s1.1), (3, .int s1.2)]) (S' := [.int s1.2, .ref 43, .int (12 : Int32), .ref 20, .int s1.1]) (h' := (hh X g I)) rfl ?_
        refine Go_cR (y' := 206) (As := [.ref 43, .int s1.2]) (r := [.int (12 : Int32), .ref 20, .int s1.1]) rfl (g_tas_patternOf206 s1.2 (by omega)) fun v5 => ?_
        refine Go_blk 1 (pc' := 56) (L' := [(0, .ref 43), (1, .int p1), (2, .int s1.1), (3, .int s1.2)]) (S' := [.int ((12 : Int32) * v5), .ref 20, .int s1.1]) (h' := (hh X g I)) rfl ?_
        refine Go_cR (y' := 79) (As := [.ref 20, .int ((12 : Int32) * v5)]) (r := [.int s1.1]) rfl (g_x_runsOf79 20 ((12 : Int32) * v5) (by omega)) fun v6 => ?_
        refine Go_blk 4 (pc' := 4) (L' := [(3, .int (s1.2 + (1 : Int32))), (2, .int (s1.1 + v6)), (0, .ref 43), (1, .int p1)]) (S' := []) (h' := (hh X g I)) rfl ?_
        exact Go_jmp [(0, .ref 43), (1, .int p1), (2, .int (s1.1 + v6)), (3, .int (s1.2 + (1 : Int32)))] rfl ⟨rfl, rfl, rfl, rfl, trivial⟩ (fun _ h => h)
  ·
    refine Go_inr ?_
    refine Go_blk 2 (pc' := 70) (L' := [(0, .ref 43), (1, .int p1), (2, .int s1.1), (3, .int s1.2)]) (S' := [.int (12 : Int32), .int s1.1]) (h' := (hh X g I)) rfl ?_
    refine Go_seq (pcj := 78) (fun (b7 : Int32) => []) (fun (b7 : Int32) => [.int b7]) (fun (b7 : Int32) => (hh X g I)) (fun b7 => ?_) ?_
    ·
      exact Go_ret (fun _ h => h) rfl
    ·
      refine Go_cmp rfl rfl rfl ?_ ?_
      ·
        refine Go_blk 1 (pc' := 78) (L' := [(0, .ref 43), (1, .int p1), (2, .int s1.1), (3, .int s1.2)]) (S' := [.int (0 : Int32)]) (h' := (hh X g I)) rfl ?_
        exact Go_jmp [] rfl trivial (fun _ h => h)
      ·
        refine Go_blk 2 (pc' := 78) (L' := [(0, .ref 43), (1, .int p1), (2, .int s1.1), (3, .int s1.2)]) (S' := [.int (1 : Int32)]) (h' := (hh X g I)) rfl ?_
        exact Go_jmp [] rfl trivial (fun _ h => h)
set_option maxRecDepth 1000000 in
set_option maxHeartbeats 4000000 in
theorem g_tas_addRuns209 (p1 : Int32) (p2 : Int32) {X : XX} {g : GG} {I : MJ} {d : Nat} (hd : 1 ≤ d) : Go d 209 0 (lv_args 0 [.ref 43, .int p1, .int p2]) [] (hh X g I) (f_tas_addRuns209 p1 p2 I) (pV X g) := by
  obtain ⟨d, rfl⟩ : ∃ k, d = k + 1 := ⟨d - 1, by omega⟩
  unfold f_tas_addRuns209
  refine Go_blk 4 (pc' := 5) (L' := [(4, .int (0 : Int32)), (3, .int (0 : Int32)), (0, .ref 43), (1, .int p1), (2, .int p2)]) (S' := []) (h' := (hh X g I)) rfl ?_
  refine Go_lcs [(0, .ref 43), (1, .int p1), (2, .int p2), (3, .int (0 : Int32)), (4, .int (0 : Int32))] rfl ⟨rfl, rfl, rfl, rfl, rfl, trivial⟩ ?_
  refine Go_seq (pcj := 86) (fun (b2 : MJ) => []) (fun (b2 : MJ) => []) (fun (b2 : MJ) => (hh X g b2)) (fun b2 => ?_) ?_
  ·
    exact Go_ret (fun _ h => h) rfl
  ·
    refine Go_wh (fun (s1 : Int32 × Int32 × MJ) => [(0, .ref 43), (1, .int p1), (2, .int p2), (3, .int s1.1), (4, .int s1.2.1)]) (fun _ => []) (fun (s1 : Int32 × Int32 × MJ) => (hh X g s1.2.2)) (fun s1 => ?_) ((0 : Int32), (0 : Int32), I)
    refine Go_blk 2 (pc' := 9) (L' := [(0, .ref 43), (1, .int p1), (2, .int p2), (3, .int s1.1), (4, .int s1.2.1)]) (S' := [.int (12 : Int32), .int s1.2.1]) (h' := (hh X g s1.2.2)) rfl ?_
    refine Go_cmp rfl rfl rfl ?_ ?_
    ·
      exact Go_jmp [] rfl trivial (fun _ h => h)
    ·
      refine Go_blk 2 (pc' := 16) (L' := [(0, .ref 43), (1, .int p1), (2, .int p2), (3, .int s1.1), (4, .int s1.2.1)]) (S' := [.int (12 : Int32), .int s1.2.1]) (h' := (hh X g s1.2.2)) rfl ?_
      refine Go_seq (pcj := 80) (fun (b3 : Int32 × MJ) => [(0, .ref 43), (1, .int p1), (2, .int p2), (3, .int b3.1), (4, .int s1.2.1)]) (fun (b3 : Int32 × MJ) => []) (fun (b3 : Int32 × MJ) => (hh X g b3.2)) (fun b3 => ?_) ?_
      ·
        refine Go_blk 2 (pc' := 5) (L' := [(4, .int (s1.2.1 + (1 : Int32))), (0, .ref 43), (1, .int p1), (2, .int p2), (3, .int b3.1)]) (S' := []) (h' := (hh X g b3.2)) rfl ?_
        exact Go_jmp [(0, .ref 43), (1, .int p1), (2, .int p2), (3, .int b3.1), (4, .int (s1.2.1 + (1 : Int32)))] rfl ⟨rfl, rfl, rfl, rfl, rfl, trivial⟩ (fun _ h => h)
      ·
        refine Go_cmpn rfl rfl (ab_cge _ _) ?_ ?_
        ·
          refine Go_blk 6 (pc' := 30) (L' := [(0, .ref 43), (1, .int p1), (2, .int p2), (3, .int s1.1), (4, .int s1.2.1)]) (S' := [.int (p1 + s1.2.1), .ref 20]) (h' := (hh X g s1.2.2)) rfl ?_
          refine Go_cR (y' := 16) (As := [.ref 20, .int (p1 + s1.2.1)]) (r := []) rfl (g_x_at16 20 (p1 + s1.2.1) (by omega)) fun v4 => ?_
          refine Go_blk 1 (pc' := 34) (L' := [(0, .ref 43), (1, .int p1), (2, .int p2), (3, .int s1.1), (4, .int s1.2.1)]) (S' := [.int p2, .int v4]) (h' := (hh X g s1.2.2)) rfl ?_
          refine Go_cmpn rfl rfl rfl ?_ ?_
          ·
            refine Go_blk 2 (pc' := 80) (L' := [(3, .int (s1.1 + (1 : Int32))), (0, .ref 43), (1, .int p1), (2, .int p2), (4, .int s1.2.1)]) (S' := []) (h' := (hh X g s1.2.2)) rfl ?_
            exact Go_jmp [(0, .ref 43), (1, .int p1), (2, .int p2), (3, .int (s1.1 + (1 : Int32))), (4, .int s1.2.1)] rfl ⟨rfl, rfl, rfl, rfl, rfl, trivial⟩ (fun _ h => h)
          ·
            refine Go_blk 1 (pc' := 44) (L' := [(0, .ref 43), (1, .int p1), (2, .int p2), (3, .int s1.1), (4, .int s1.2.1)]) (S' := [.int s1.1]) (h' := (hh X g s1.2.2)) rfl ?_
            refine Go_cmzn rfl rfl (ab_cle0 _) ?_ ?_
            ·
              refine Go_blk 3 (pc' := 53) (L' := [(0, .ref 43), (1, .int p1), (2, .int p2), (3, .int s1.1), (4, .int s1.2.1)]) (S' := [.int (12 : Int32), .int (s1.2.2 43 6)]) (h' := (hh X g s1.2.2)) rfl ?_
              refine Go_cmpn rfl rfl (ab_cge _ _) ?_ ?_
              ·
                refine Go_blk 5 (pc' := 65) (L' := [(0, .ref 43), (1, .int p1), (2, .int p2), (3, .int s1.1), (4, .int s1.2.1)]) (S' := [.int s1.1, .int (s1.2.2 43 6), .ref 44]) (h' := (hh X g s1.2.2)) rfl ?_
                refine Go_cV (y' := 15) (As := [.ref 44, .int (s1.2.2 43 6), .int s1.1]) (r := []) rfl (g_x_put15 44 (s1.2.2 43 6) s1.1 (by omega)) fun I5 => ?_
                refine Go_blk 8 (pc' := 80) (L' := [(3, .int (0 : Int32)), (0, .ref 43), (1, .int p1), (2, .int p2), (4, .int s1.2.1)]) (S' := []) (h' := (hh X g (ab_up1 I5 43 6 ((I5 43 6) + (1 : Int32))))) rfl ?_
                exact Go_jmp [(0, .ref 43), (1, .int p1), (2, .int p2), (3, .int (0 : Int32)), (4, .int s1.2.1)] rfl ⟨rfl, rfl, rfl, rfl, rfl, trivial⟩ (fun _ h => h)
              ·
                exact Go_jmp [(0, .ref 43), (1, .int p1), (2, .int p2), (3, .int s1.1), (4, .int s1.2.1)] rfl ⟨rfl, rfl, rfl, rfl, rfl, trivial⟩ (fun _ h => h)
            ·
              exact Go_jmp [(0, .ref 43), (1, .int p1), (2, .int p2), (3, .int s1.1), (4, .int s1.2.1)] rfl ⟨rfl, rfl, rfl, rfl, rfl, trivial⟩ (fun _ h => h)
        ·
          refine Go_blk 1 (pc' := 44) (L' := [(0, .ref 43), (1, .int p1), (2, .int p2), (3, .int s1.1), (4, .int s1.2.1)]) (S' := [.int s1.1]) (h' := (hh X g s1.2.2)) rfl ?_
          refine Go_cmzn rfl rfl (ab_cle0 _) ?_ ?_
          ·
            refine Go_blk 3 (pc' := 53) (L' := [(0, .ref 43), (1, .int p1), (2, .int p2), (3, .int s1.1), (4, .int s1.2.1)]) (S' := [.int (12 : Int32), .int (s1.2.2 43 6)]) (h' := (hh X g s1.2.2)) rfl ?_
            refine Go_cmpn rfl rfl (ab_cge _ _) ?_ ?_
            ·
              refine Go_blk 5 (pc' := 65) (L' := [(0, .ref 43), (1, .int p1), (2, .int p2), (3, .int s1.1), (4, .int s1.2.1)]) (S' := [.int s1.1, .int (s1.2.2 43 6), .ref 44]) (h' := (hh X g s1.2.2)) rfl ?_
              refine Go_cV (y' := 15) (As := [.ref 44, .int (s1.2.2 43 6), .int s1.1]) (r := []) rfl (g_x_put15 44 (s1.2.2 43 6) s1.1 (by omega)) fun I6 => ?_
              refine Go_blk 8 (pc' := 80) (L' := [(3, .int (0 : Int32)), (0, .ref 43), (1, .int p1), (2, .int p2), (4, .int s1.2.1)]) (S' := []) (h' := (hh X g (ab_up1 I6 43 6 ((I6 43 6) + (1 : Int32))))) rfl ?_
              exact Go_jmp [(0, .ref 43), (1, .int p1), (2, .int p2), (3, .int (0 : Int32)), (4, .int s1.2.1)] rfl ⟨rfl, rfl, rfl, rfl, rfl, trivial⟩ (fun _ h => h)
            ·
              exact Go_jmp [(0, .ref 43), (1, .int p1), (2, .int p2), (3, .int s1.1), (4, .int s1.2.1)] rfl ⟨rfl, rfl, rfl, rfl, rfl, trivial⟩ (fun _ h => h)
          ·
            exact Go_jmp [(0, .ref 43), (1, .int p1), (2, .int p2), (3, .int s1.1), (4, .int s1.2.1)] rfl ⟨rfl, rfl, rfl, rfl, rfl, trivial⟩ (fun _ h => h)
set_option maxRecDepth 1000000 in
set_option maxHeartbeats 4000000 in
theorem g_tas_gatherRuns208 (p1 : Int32) (p2 : Int32) {X : XX} {g : GG} {I : MJ} {d : Nat} (hd : 3 ≤ d) : Go d 208 0 (lv_args 0 [.ref 43, .int p1, .int p2]) [] (hh X g I) (f_tas_gatherRuns208 p1 p2 I) (pV X g) := by
  obtain ⟨d, rfl⟩ : ∃ k, d = k + 1 := ⟨d - 1, by omega⟩
  unfold f_tas_gatherRuns208
  refine Go_blk 5 (pc' := 7) (L' := [(3, .int (0 : Int32)), (0, .ref 43), (1, .int p1), (2, .int p2)]) (S' := []) (h' := (hh X g (ab_up1 I 43 6 (0 : Int32)))) rfl ?_
  refine Go_lcs [(0, .ref 43), (1, .int p1), (2, .int p2), (3, .int (0 : Int32))] rfl ⟨rfl, rfl, rfl, rfl, trivial⟩ ?_
  refine Go_seq (pcj := 45) (fun (b2 : MJ) => []) (fun (b2 : MJ) => []) (fun (b2 : MJ) => (hh X g b2)) (fun b2 => ?_) ?_
  ·
    exact Go_ret (fun _ h => h) rfl
  ·
    refine Go_wh (fun (s1 : Int32 × MJ) => [(0, .ref 43), (1, .int p1), (2, .int p2), (3, .int s1.1)]) (fun _ => []) (fun (s1 : Int32 × MJ) => (hh X g s1.2)) (fun s1 => ?_) ((0 : Int32), (ab_up1 I 43 6 (0 : Int32)))
    refine Go_blk 4 (pc' := 15) (L' := [(0, .ref 43), (1, .int p1), (2, .int p2), (3, .int s1.1)]) (S' := [.int (s1.2 3 8), .int s1.1]) (h' := (hh X g s1.2)) rfl ?_
    refine Go_cmpn rfl rfl (ab_cge _ _) ?_ ?_
    ·
      refine Go_blk 2 (pc' := 20) (L' := [(0, .ref 43), (1, .int p1), (2, .int p2), (3, .int s1.1)]) (S' := [.int s1.1, .int p1]) (h' := (hh X g s1.2)) rfl ?_
      refine Go_cR (y' := 26) (As := [.int p1, .int s1.1]) (r := []) rfl (g_x_holds26 p1 s1.1 (by omega)) fun v3 => ?_
      refine Go_seq (pcj := 39) (fun (b4 : MJ) => [(0, .ref 43), (1, .int p1), (2, .int p2), (3, .int s1.1)]) (fun (b4 : MJ) => []) (fun (b4 : MJ) => (hh X g b4)) (fun b4 => ?_) ?_
      ·
        refine Go_blk 2 (pc' := 7) (L' := [(3, .int (s1.1 + (1 : Int32))), (0, .ref 43), (1, .int p1), (2, .int p2)]) (S' := []) (h' := (hh X g b4)) rfl ?_
        exact Go_jmp [(0, .ref 43), (1, .int p1), (2, .int p2), (3, .int (s1.1 + (1 : Int32)))] rfl ⟨rfl, rfl, rfl, rfl, trivial⟩ (fun _ h => h)
      ·
        refine Go_cmz rfl rfl rfl ?_ ?_
        ·
          exact Go_jmp [(0, .ref 43), (1, .int p1), (2, .int p2), (3, .int s1.1)] rfl ⟨rfl, rfl, rfl, rfl, trivial⟩ (fun _ h => h)
        ·
          refine Go_blk 4 (pc' := 31) (L' := [(0, .ref 43), (1, .int p1), (2, .int p2), (3, .int s1.1)]) (S' := [.int s1.1, .ref 43, .int (12 : Int32), .ref 43]) (h' := (hh X g s1.2)) rfl ?_
          refine Go_cR (y' := 206) (As := [.ref 43, .int s1.1]) (r := [.int (12 : Int32), .ref 43]) rfl (g_tas_patternOf206 s1.1 (by omega)) fun v5 => ?_
          refine Go_blk 2 (pc' := 36) (L' := [(0, .ref 43), (1, .int p1), (2, .int p2), (3, .int s1.1)]) (S' := [.int p2, .int ((12 : Int32) * v5), .ref 43]) (h' := (hh X g s1.2)) rfl ?_
          refine Go_cV (y' := 209) (As := [.ref 43, .int ((12 : Int32) * v5), .int p2]) (r := []) rfl (g_tas_addRuns209 ((12 : Int32) * v5) p2 (by omega)) fun I6 => ?_
          exact Go_jmp [(0, .ref 43), (1, .int p1), (2, .int p2), (3, .int s1.1)] rfl ⟨rfl, rfl, rfl, rfl, trivial⟩ (fun _ h => h)
    ·
      exact Go_jmp [] rfl trivial (fun _ h => h)
set_option maxRecDepth 1000000 in
set_option maxHeartbeats 4000000 in
theorem g_tas_gatherSizes210 (p1 : Int32) {X : XX} {g : GG} {I : MJ} {d : Nat} (hd : 2 ≤ d) : Go d 210 0 (lv_args 0 [.ref 43, .int p1]) [] (hh X g I) (f_tas_gatherSizes210 p1 I) (pV X g) := by
  obtain ⟨d, rfl⟩ : ∃ k, d = k + 1 := ⟨d - 1, by omega⟩
  unfold f_tas_gatherSizes210
  refine Go_blk 5 (pc' := 7) (L' := [(2, .int (0 : Int32)), (0, .ref 43), (1, .int p1)]) (S' := []) (h' := (hh X g (ab_up1 I 43 7 (0 : Int32)))) rfl ?_
  refine Go_lcs [(0, .ref 43), (1, .int p1), (2, .int (0 : Int32))] rfl ⟨rfl, rfl, rfl, trivial⟩ ?_
  refine Go_seq (pcj := 116) (fun (b2 : MJ) => []) (fun (b2 : MJ) => []) (fun (b2 : MJ) => (hh X g b2)) (fun b2 => ?_) ?_
  ·
    exact Go_ret (fun _ h => h) rfl
  ·
    refine Go_wh (fun (s1 : Int32 × MJ) => [(0, .ref 43), (1, .int p1), (2, .int s1.1)]) (fun _ => []) (fun (s1 : Int32 × MJ) => (hh X g s1.2)) (fun s1 => ?_) ((0 : Int32), (ab_up1 I 43 7 (0 : Int32)))
    refine Go_blk 4 (pc' := 15) (L' := [(0, .ref 43), (1, .int p1), (2, .int s1.1)]) (S' := [.int (s1.2 3 5), .int s1.1]) (h' := (hh X g s1.2)) rfl ?_
    refine Go_cmpn rfl rfl (ab_cge _ _) ?_ ?_
    ·
      refine Go_blk 3 (pc' := 23) (L' := [(0, .ref 43), (1, .int p1), (2, .int s1.1)]) (S' := [.int s1.1, .ref 3]) (h' := (hh X g s1.2)) rfl ?_
      refine Go_cR (y' := 147) (As := [.ref 3, .int s1.1]) (r := []) rfl (g_sho_boltKind147 s1.1 (by omega)) fun v3 => ?_
      refine Go_blk 1 (pc' := 27) (L' := [(0, .ref 43), (1, .int p1), (2, .int s1.1)]) (S' := [.int p1, .int v3]) (h' := (hh X g s1.2)) rfl ?_
      refine Go_seq (pcj := 110) (fun (b4 : MJ) => [(0, .ref 43), (1, .int p1), (2, .int s1.1)]) (fun (b4 : MJ) => []) (fun (b4 : MJ) => (hh X g b4)) (fun b4 => ?_) ?_
      ·
        refine Go_blk 2 (pc' := 7) (L' := [(2, .int (s1.1 + (1 : Int32))), (0, .ref 43), (1, .int p1)]) (S' := []) (h' := (hh X g b4)) rfl ?_
        exact Go_jmp [(0, .ref 43), (1, .int p1), (2, .int (s1.1 + (1 : Int32)))] rfl ⟨rfl, rfl, rfl, trivial⟩ (fun _ h => h)
      ·
        refine Go_cmpn rfl rfl rfl ?_ ?_
        ·
          refine Go_blk 3 (pc' := 35) (L' := [(3, .int (s1.2 43 7)), (0, .ref 43), (1, .int p1), (2, .int s1.1)]) (S' := []) (h' := (hh X g s1.2)) rfl ?_
          refine Go_lcs [(0, .ref 43), (1, .int p1), (2, .int s1.1), (3, .int (s1.2 43 7))] rfl ⟨rfl, rfl, rfl, rfl, trivial⟩ ?_
          refine Go_seq (pcj := 84) (fun (b6 : Int32 × MJ) => [(0, .ref 43), (1, .int p1), (2, .int s1.1), (3, .int b6.1)]) (fun (b6 : Int32 × MJ) => []) (fun (b6 : Int32 × MJ) => (hh X g b6.2)) (fun b6 => ?_) ?_
          ·
            refine Go_blk 6 (pc' := 94) (L' := [(0, .ref 43), (1, .int p1), (2, .int s1.1), (3, .int b6.1)]) (S' := [.int s1.1, .ref 15, .int b6.1, .ref 45]) (h' := (hh X g b6.2)) rfl ?_
            refine Go_cR (y' := 143) (As := [.ref 15, .int s1.1]) (r := [.int b6.1, .ref 45]) rfl (g_sta_leftOn143_15 s1.1 (by omega)) fun v7 => ?_
            refine Go_cV (y' := 15) (As := [.ref 45, .int b6.1, .int v7]) (r := []) rfl (g_x_put15 45 b6.1 v7 (by omega)) fun I8 => ?_
            refine Go_blk 6 (pc' := 110) (L' := [(0, .ref 43), (1, .int p1), (2, .int s1.1), (3, .int b6.1)]) (S' := []) (h' := (hh X g (ab_up1 I8 43 7 ((I8 43 7) + (1 : Int32))))) rfl ?_
            exact Go_jmp [(0, .ref 43), (1, .int p1), (2, .int s1.1)] rfl ⟨rfl, rfl, rfl, trivial⟩ (fun _ h => h)
          ·
            refine Go_wh (fun (s5 : Int32 × MJ) => [(0, .ref 43), (1, .int p1), (2, .int s1.1), (3, .int s5.1)]) (fun _ => []) (fun (s5 : Int32 × MJ) => (hh X g s5.2)) (fun s5 => ?_) ((s1.2 43 7), s1.2)
            refine Go_blk 1 (pc' := 36) (L' := [(0, .ref 43), (1, .int p1), (2, .int s1.1), (3, .int s5.1)]) (S' := [.int s5.1]) (h' := (hh X g s5.2)) rfl ?_
            refine Go_cmzn rfl rfl (ab_cle0 _) ?_ ?_
            ·
              refine Go_blk 5 (pc' := 46) (L' := [(0, .ref 43), (1, .int p1), (2, .int s1.1), (3, .int s5.1)]) (S' := [.int (s5.1 - (1 : Int32)), .ref 45]) (h' := (hh X g s5.2)) rfl ?_
              refine Go_cR (y' := 16) (As := [.ref 45, .int (s5.1 - (1 : Int32))]) (r := []) rfl (g_x_at16 45 (s5.1 - (1 : Int32)) (by omega)) fun v9 => ?_
              refine Go_blk 3 (pc' := 54) (L' := [(0, .ref 43), (1, .int p1), (2, .int s1.1), (3, .int s5.1)]) (S' := [.int s1.1, .ref 15, .int v9]) (h' := (hh X g s5.2)) rfl ?_
              refine Go_cR (y' := 143) (As := [.ref 15, .int s1.1]) (r := [.int v9]) rfl (g_sta_leftOn143_15 s1.1 (by omega)) fun v10 => ?_
              refine Go_cmpn rfl rfl (ab_cge _ _) ?_ ?_
              ·
                refine Go_blk 8 (pc' := 72) (L' := [(0, .ref 43), (1, .int p1), (2, .int s1.1), (3, .int s5.1)]) (S' := [.int (s5.1 - (1 : Int32)), .ref 45, .int s5.1, .ref 45]) (h' := (hh X g s5.2)) rfl ?_
                refine Go_cR (y' := 16) (As := [.ref 45, .int (s5.1 - (1 : Int32))]) (r := [.int s5.1, .ref 45]) rfl (g_x_at16 45 (s5.1 - (1 : Int32)) (by omega)) fun v11 => ?_
                refine Go_cV (y' := 15) (As := [.ref 45, .int s5.1, .int v11]) (r := []) rfl (g_x_put15 45 s5.1 v11 (by omega)) fun I12 => ?_
                refine Go_blk 2 (pc' := 35) (L' := [(3, .int (s5.1 + (-1 : Int32))), (0, .ref 43), (1, .int p1), (2, .int s1.1)]) (S' := []) (h' := (hh X g I12)) rfl ?_
                exact Go_jmp [(0, .ref 43), (1, .int p1), (2, .int s1.1), (3, .int (s5.1 + (-1 : Int32)))] rfl ⟨rfl, rfl, rfl, rfl, trivial⟩ (fun _ h => h)
              ·
                exact Go_jmp [(0, .ref 43), (1, .int p1), (2, .int s1.1), (3, .int s5.1)] rfl ⟨rfl, rfl, rfl, rfl, trivial⟩ (fun _ h => h)
            ·
              exact Go_jmp [(0, .ref 43), (1, .int p1), (2, .int s1.1), (3, .int s5.1)] rfl ⟨rfl, rfl, rfl, rfl, trivial⟩ (fun _ h => h)
        ·
          exact Go_jmp [(0, .ref 43), (1, .int p1), (2, .int s1.1)] rfl ⟨rfl, rfl, rfl, trivial⟩ (fun _ h => h)
    ·
      exact Go_jmp [] rfl trivial (fun _ h => h)
set_option maxRecDepth 1000000 in
set_option maxHeartbeats 4000000 in
theorem g_tas_addRun212 (p1 : Int32) (p2 : Int32) {X : XX} {g : GG} {I : MJ} {d : Nat} (hd : 1 ≤ d) : Go d 212 0 (lv_args 0 [.ref 43, .int p1, .int p2]) [] (hh X g I) (f_tas_addRun212 p1 p2 I) (pR X g I) := by
  obtain ⟨d, rfl⟩ : ∃ k, d = k + 1 := ⟨d - 1, by omega⟩
  unfold f_tas_addRun212
  refine Go_blk 2 (pc' := 3) (L' := [(0, .ref 43), (1, .int p1), (2, .int p2)]) (S' := [.int (1000000 : Int32), .int p1]) (h' := (hh X g I)) rfl ?_
  refine Go_cmpn rfl rfl rfl ?_ ?_
  ·
    refine Go_blk 1 (pc' := 8) (L' := [(0, .ref 43), (1, .int p1), (2, .int p2)]) (S' := [.int (1000000 : Int32)]) (h' := (hh X g I)) rfl ?_
    exact Go_ret (fun _ h => h) rfl
  ·
    refine Go_blk 7 (pc' := 19) (L' := [(3, .int (p1 / (64 : Int32))), (0, .ref 43), (1, .int p1), (2, .int p2)]) (S' := [.int (I 43 7), .int (p1 / (64 : Int32))]) (h' := (hh X g I)) rfl ?_
    refine Go_cmpn rfl rfl (ab_cge _ _) ?_ ?_
    ·
      refine Go_blk 8 (pc' := 33) (L' := [(3, .int (p1 / (64 : Int32))), (0, .ref 43), (1, .int p1), (2, .int p2)]) (S' := [.int (p1 / (64 : Int32)), .ref 45, .int ((p1 - p1 / (64 : Int32) * (64 : Int32)) + p2)]) (h' := (hh X g I)) rfl ?_
      refine Go_cR (y' := 16) (As := [.ref 45, .int (p1 / (64 : Int32))]) (r := [.int ((p1 - p1 / (64 : Int32) * (64 : Int32)) + p2)]) rfl (g_x_at16 45 (p1 / (64 : Int32)) (by omega)) fun v1 => ?_
      refine Go_cmp rfl rfl rfl ?_ ?_
      ·
        refine Go_blk 5 (pc' := 50) (L' := [(3, .int (p1 / (64 : Int32))), (0, .ref 43), (1, .int p1), (2, .int p2)]) (S' := [.int (I 43 7), .int ((p1 / (64 : Int32)) + (1 : Int32))]) (h' := (hh X g I)) rfl ?_
        refine Go_seq (pcj := 72) (fun (b2 : Int32) => [(2, .int p2), (3, .int (p1 / (64 : Int32)))]) (fun (b2 : Int32) => [.int b2]) (fun (b2 : Int32) => (hh X g I)) (fun b2 => ?_) ?_
        ·
          refine Go_blk 2 (pc' := 76) (L' := [(4, .int b2), (2, .int p2), (3, .int (p1 / (64 : Int32)))]) (S' := [.int b2]) (h' := (hh X g I)) rfl ?_
          refine Go_seq (pcj := 92) (fun (b3 : Int32) => []) (fun (b3 : Int32) => [.int b3]) (fun (b3 : Int32) => (hh X g I)) (fun b3 => ?_) ?_
          ·
            exact Go_ret (fun _ h => h) rfl
          ·
            refine Go_cmz rfl rfl rfl ?_ ?_
            ·
              refine Go_blk 1 (pc' := 92) (L' := [(4, .int b2), (2, .int p2), (3, .int (p1 / (64 : Int32)))]) (S' := [.int (1000000 : Int32)]) (h' := (hh X g I)) rfl ?_
              exact Go_jmp [] rfl trivial (fun _ h => h)
            ·
              refine Go_blk 8 (pc' := 92) (L' := [(4, .int b2), (2, .int p2), (3, .int (p1 / (64 : Int32)))]) (S' := [.int ((((p1 / (64 : Int32)) + (1 : Int32)) * (64 : Int32)) + p2)]) (h' := (hh X g I)) rfl ?_
              exact Go_jmp [] rfl trivial (fun _ h => h)
        ·
          refine Go_cmpn rfl rfl (ab_cge _ _) ?_ ?_
          ·
            refine Go_blk 6 (pc' := 61) (L' := [(3, .int (p1 / (64 : Int32))), (0, .ref 43), (1, .int p1), (2, .int p2)]) (S' := [.int ((p1 / (64 : Int32)) + (1 : Int32)), .ref 45, .int p2]) (h' := (hh X g I)) rfl ?_
            refine Go_cR (y' := 16) (As := [.ref 45, .int ((p1 / (64 : Int32)) + (1 : Int32))]) (r := [.int p2]) rfl (g_x_at16 45 ((p1 / (64 : Int32)) + (1 : Int32)) (by omega)) fun v4 => ?_
            refine Go_cmp rfl rfl rfl ?_ ?_
            ·
              refine Go_blk 1 (pc' := 72) (L' := [(3, .int (p1 / (64 : Int32))), (0, .ref 43), (1, .int p1), (2, .int p2)]) (S' := [.int (0 : Int32)]) (h' := (hh X g I)) rfl ?_
              exact Go_jmp [(2, .int p2), (3, .int (p1 / (64 : Int32)))] rfl ⟨rfl, rfl, trivial⟩ (fun _ h => h)
            ·
              refine Go_blk 2 (pc' := 72) (L' := [(3, .int (p1 / (64 : Int32))), (0, .ref 43), (1, .int p1), (2, .int p2)]) (S' := [.int (1 : Int32)]) (h' := (hh X g I)) rfl ?_
              exact Go_jmp [(2, .int p2), (3, .int (p1 / (64 : Int32)))] rfl ⟨rfl, rfl, trivial⟩ (fun _ h => h)
          ·
            refine Go_blk 1 (pc' := 72) (L' := [(3, .int (p1 / (64 : Int32))), (0, .ref 43), (1, .int p1), (2, .int p2)]) (S' := [.int (0 : Int32)]) (h' := (hh X g I)) rfl ?_
            exact Go_jmp [(2, .int p2), (3, .int (p1 / (64 : Int32)))] rfl ⟨rfl, rfl, trivial⟩ (fun _ h => h)
      ·
        refine Go_blk 3 (pc' := 42) (L' := [(3, .int (p1 / (64 : Int32))), (0, .ref 43), (1, .int p1), (2, .int p2)]) (S' := [.int (p1 + p2)]) (h' := (hh X g I)) rfl ?_
        exact Go_ret (fun _ h => h) rfl
    ·
      refine Go_blk 5 (pc' := 50) (L' := [(3, .int (p1 / (64 : Int32))), (0, .ref 43), (1, .int p1), (2, .int p2)]) (S' := [.int (I 43 7), .int ((p1 / (64 : Int32)) + (1 : Int32))]) (h' := (hh X g I)) rfl ?_
      refine Go_seq (pcj := 72) (fun (b5 : Int32) => [(2, .int p2), (3, .int (p1 / (64 : Int32)))]) (fun (b5 : Int32) => [.int b5]) (fun (b5 : Int32) => (hh X g I)) (fun b5 => ?_) ?_
      ·
        refine Go_blk 2 (pc' := 76) (L' := [(4, .int b5), (2, .int p2), (3, .int (p1 / (64 : Int32)))]) (S' := [.int b5]) (h' := (hh X g I)) rfl ?_
        refine Go_seq (pcj := 92) (fun (b6 : Int32) => []) (fun (b6 : Int32) => [.int b6]) (fun (b6 : Int32) => (hh X g I)) (fun b6 => ?_) ?_
        ·
          exact Go_ret (fun _ h => h) rfl
        ·
          refine Go_cmz rfl rfl rfl ?_ ?_
          ·
            refine Go_blk 1 (pc' := 92) (L' := [(4, .int b5), (2, .int p2), (3, .int (p1 / (64 : Int32)))]) (S' := [.int (1000000 : Int32)]) (h' := (hh X g I)) rfl ?_
            exact Go_jmp [] rfl trivial (fun _ h => h)
          ·
            refine Go_blk 8 (pc' := 92) (L' := [(4, .int b5), (2, .int p2), (3, .int (p1 / (64 : Int32)))]) (S' := [.int ((((p1 / (64 : Int32)) + (1 : Int32)) * (64 : Int32)) + p2)]) (h' := (hh X g I)) rfl ?_
            exact Go_jmp [] rfl trivial (fun _ h => h)
      ·
        refine Go_cmpn rfl rfl (ab_cge _ _) ?_ ?_
        ·
          refine Go_blk 6 (pc' := 61) (L' := [(3, .int (p1 / (64 : Int32))), (0, .ref 43), (1, .int p1), (2, .int p2)]) (S' := [.int ((p1 / (64 : Int32)) + (1 : Int32)), .ref 45, .int p2]) (h' := (hh X g I)) rfl ?_
          refine Go_cR (y' := 16) (As := [.ref 45, .int ((p1 / (64 : Int32)) + (1 : Int32))]) (r := [.int p2]) rfl (g_x_at16 45 ((p1 / (64 : Int32)) + (1 : Int32)) (by omega)) fun v7 => ?_
          refine Go_cmp rfl rfl rfl ?_ ?_
          ·
            refine Go_blk 1 (pc' := 72) (L' := [(3, .int (p1 / (64 : Int32))), (0, .ref 43), (1, .int p1), (2, .int p2)]) (S' := [.int (0 : Int32)]) (h' := (hh X g I)) rfl ?_
            exact Go_jmp [(2, .int p2), (3, .int (p1 / (64 : Int32)))] rfl ⟨rfl, rfl, trivial⟩ (fun _ h => h)
          ·
            refine Go_blk 2 (pc' := 72) (L' := [(3, .int (p1 / (64 : Int32))), (0, .ref 43), (1, .int p1), (2, .int p2)]) (S' := [.int (1 : Int32)]) (h' := (hh X g I)) rfl ?_
            exact Go_jmp [(2, .int p2), (3, .int (p1 / (64 : Int32)))] rfl ⟨rfl, rfl, trivial⟩ (fun _ h => h)
        ·
          refine Go_blk 1 (pc' := 72) (L' := [(3, .int (p1 / (64 : Int32))), (0, .ref 43), (1, .int p1), (2, .int p2)]) (S' := [.int (0 : Int32)]) (h' := (hh X g I)) rfl ?_
          exact Go_jmp [(2, .int p2), (3, .int (p1 / (64 : Int32)))] rfl ⟨rfl, rfl, trivial⟩ (fun _ h => h)
set_option maxRecDepth 1000000 in
set_option maxHeartbeats 4000000 in
theorem g_tas_pack211  {X : XX} {g : GG} {I : MJ} {d : Nat} (hd : 2 ≤ d) : Go d 211 0 (lv_args 0 [.ref 43]) [] (hh X g I) (f_tas_pack211  I) (pW X g) := by
  obtain ⟨d, rfl⟩ : ∃ k, d = k + 1 := ⟨d - 1, by omega⟩
  unfold f_tas_pack211
  refine Go_blk 9 (pc' := 11) (L' := [(2, .int (1 : Int32)), (1, .int (((1 : Int32) <<< ((I 43 6) &&& 31)) - (1 : Int32))), (0, .ref 43)]) (S' := []) (h' := (hh X g I)) rfl ?_
  refine Go_lcs [(0, .ref 43), (1, .int (((1 : Int32) <<< ((I 43 6) &&& 31)) - (1 : Int32))), (2, .int (1 : Int32))] rfl ⟨rfl, rfl, rfl, trivial⟩ ?_
  refine Go_seq (pcj := 101) (fun (b2 : MJ) => [(0, .ref 43), (1, .int (((1 : Int32) <<< ((I 43 6) &&& 31)) - (1 : Int32)))]) (fun (b2 : MJ) => []) (fun (b2 : MJ) => (hh X g b2)) (fun b2 => ?_) ?_
  ·
    refine Go_blk 3 (pc' := 106) (L' := [(0, .ref 43), (1, .int (((1 : Int32) <<< ((I 43 6) &&& 31)) - (1 : Int32)))]) (S' := [.int (((1 : Int32) <<< ((I 43 6) &&& 31)) - (1 : Int32)), .ref 46]) (h' := (hh X g b2)) rfl ?_
    refine Go_cR (y' := 16) (As := [.ref 46, .int (((1 : Int32) <<< ((I 43 6) &&& 31)) - (1 : Int32))]) (r := []) rfl (g_x_at16 46 (((1 : Int32) <<< ((I 43 6) &&& 31)) - (1 : Int32)) (by omega)) fun v3 => ?_
    refine Go_blk 3 (pc' := 113) (L' := [(2, .int v3), (0, .ref 43), (1, .int (((1 : Int32) <<< ((I 43 6) &&& 31)) - (1 : Int32)))]) (S' := [.int (1000000 : Int32), .int v3]) (h' := (hh X g b2)) rfl ?_
    refine Go_seq (pcj := 126) (fun (b4 : Int32) => []) (fun (b4 : Int32) => [.int b4]) (fun (b4 : Int32) => (hh X g b2)) (fun b4 => ?_) ?_
    ·
      exact Go_ret (fun _ h => h) rfl
    ·
      refine Go_cmpn rfl rfl rfl ?_ ?_
      ·
        refine Go_blk 2 (pc' := 126) (L' := [(2, .int v3), (0, .ref 43), (1, .int (((1 : Int32) <<< ((I 43 6) &&& 31)) - (1 : Int32)))]) (S' := [.int (-1 : Int32)]) (h' := (hh X g b2)) rfl ?_
        exact Go_jmp [] rfl trivial (fun _ h => h)
      ·
        refine Go_blk 5 (pc' := 126) (L' := [(2, .int v3), (0, .ref 43), (1, .int (((1 : Int32) <<< ((I 43 6) &&& 31)) - (1 : Int32)))]) (S' := [.int ((v3 / (64 : Int32)) + (1 : Int32))]) (h' := (hh X g b2)) rfl ?_
        exact Go_jmp [] rfl trivial (fun _ h => h)
  ·
    refine Go_wh (fun (s1 : Int32 × MJ) => [(0, .ref 43), (1, .int (((1 : Int32) <<< ((I 43 6) &&& 31)) - (1 : Int32))), (2, .int s1.1)]) (fun _ => []) (fun (s1 : Int32 × MJ) => (hh X g s1.2)) (fun s1 => ?_) ((1 : Int32), I)
    refine Go_blk 2 (pc' := 13) (L' := [(0, .ref 43), (1, .int (((1 : Int32) <<< ((I 43 6) &&& 31)) - (1 : Int32))), (2, .int s1.1)]) (S' := [.int (((1 : Int32) <<< ((I 43 6) &&& 31)) - (1 : Int32)), .int s1.1]) (h' := (hh X g s1.2)) rfl ?_
    refine Go_cmp rfl rfl rfl ?_ ?_
    ·
      exact Go_jmp [(0, .ref 43), (1, .int (((1 : Int32) <<< ((I 43 6) &&& 31)) - (1 : Int32)))] rfl ⟨rfl, rfl, trivial⟩ (fun _ h => h)
    ·
      refine Go_blk 2 (pc' := 20) (L' := [(0, .ref 43), (1, .int (((1 : Int32) <<< ((I 43 6) &&& 31)) - (1 : Int32))), (2, .int s1.1)]) (S' := [.int (4096 : Int32), .int s1.1]) (h' := (hh X g s1.2)) rfl ?_
      refine Go_cmpn rfl rfl (ab_cge _ _) ?_ ?_
      ·
        refine Go_blk 4 (pc' := 29) (L' := [(4, .int (0 : Int32)), (3, .int (1000000 : Int32)), (0, .ref 43), (1, .int (((1 : Int32) <<< ((I 43 6) &&& 31)) - (1 : Int32))), (2, .int s1.1)]) (S' := []) (h' := (hh X g s1.2)) rfl ?_
        refine Go_lcs [(0, .ref 43), (1, .int (((1 : Int32) <<< ((I 43 6) &&& 31)) - (1 : Int32))), (2, .int s1.1), (3, .int (1000000 : Int32)), (4, .int (0 : Int32))] rfl ⟨rfl, rfl, rfl, rfl, rfl, trivial⟩ ?_
        refine Go_seq (pcj := 86) (fun (b6 : Int32) => [(0, .ref 43), (1, .int (((1 : Int32) <<< ((I 43 6) &&& 31)) - (1 : Int32))), (2, .int s1.1), (3, .int b6)]) (fun (b6 : Int32) => []) (fun (b6 : Int32) => (hh X g s1.2)) (fun b6 => ?_) ?_
        ·
          refine Go_blk 4 (pc' := 92) (L' := [(0, .ref 43), (1, .int (((1 : Int32) <<< ((I 43 6) &&& 31)) - (1 : Int32))), (2, .int s1.1), (3, .int b6)]) (S' := [.int b6, .int s1.1, .ref 46]) (h' := (hh X g s1.2)) rfl ?_
          refine Go_cV (y' := 15) (As := [.ref 46, .int s1.1, .int b6]) (r := []) rfl (g_x_put15 46 s1.1 b6 (by omega)) fun I7 => ?_
          refine Go_blk 2 (pc' := 11) (L' := [(2, .int (s1.1 + (1 : Int32))), (0, .ref 43), (1, .int (((1 : Int32) <<< ((I 43 6) &&& 31)) - (1 : Int32))), (3, .int b6)]) (S' := []) (h' := (hh X g I7)) rfl ?_
          exact Go_jmp [(0, .ref 43), (1, .int (((1 : Int32) <<< ((I 43 6) &&& 31)) - (1 : Int32))), (2, .int (s1.1 + (1 : Int32)))] rfl ⟨rfl, rfl, rfl, trivial⟩ (fun _ h => h)
        ·
          refine Go_wh (fun (s5 : Int32 × Int32) => [(0, .ref 43), (1, .int (((1 : Int32) <<< ((I 43 6) &&& 31)) - (1 : Int32))), (2, .int s1.1), (3, .int s5.1), (4, .int s5.2)]) (fun _ => []) (fun (s5 : Int32 × Int32) => (hh X g s1.2)) (fun s5 => ?_) ((1000000 : Int32), (0 : Int32))
          refine Go_blk 3 (pc' := 35) (L' := [(0, .ref 43), (1, .int (((1 : Int32) <<< ((I 43 6) &&& 31)) - (1 : Int32))), (2, .int s1.1), (3, .int s5.1), (4, .int s5.2)]) (S' := [.int (s1.2 43 6), .int s5.2]) (h' := (hh X g s1.2)) rfl ?_
          refine Go_cmpn rfl rfl (ab_cge _ _) ?_ ?_
          ·
            refine Go_blk 2 (pc' := 41) (L' := [(0, .ref 43), (1, .int (((1 : Int32) <<< ((I 43 6) &&& 31)) - (1 : Int32))), (2, .int s1.1), (3, .int s5.1), (4, .int s5.2)]) (S' := [.int s5.2, .int s1.1]) (h' := (hh X g s1.2)) rfl ?_
            refine Go_cR (y' := 26) (As := [.int s1.1, .int s5.2]) (r := []) rfl (g_x_holds26 s1.1 s5.2 (by omega)) fun v8 => ?_
            refine Go_seq (pcj := 80) (fun (b9 : Int32) => [(0, .ref 43), (1, .int (((1 : Int32) <<< ((I 43 6) &&& 31)) - (1 : Int32))), (2, .int s1.1), (3, .int b9), (4, .int s5.2)]) (fun (b9 : Int32) => []) (fun (b9 : Int32) => (hh X g s1.2)) (fun b9 => ?_) ?_
            ·
              refine Go_blk 2 (pc' := 29) (L' := [(4, .int (s5.2 + (1 : Int32))), (0, .ref 43), (1, .int (((1 : Int32) <<< ((I 43 6) &&& 31)) - (1 : Int32))), (2, .int s1.1), (3, .int b9)]) (S' := []) (h' := (hh X g s1.2)) rfl ?_
              exact Go_jmp [(0, .ref 43), (1, .int (((1 : Int32) <<< ((I 43 6) &&& 31)) - (1 : Int32))), (2, .int s1.1), (3, .int b9), (4, .int (s5.2 + (1 : Int32)))] rfl ⟨rfl, rfl, rfl, rfl, rfl, trivial⟩ (fun _ h => h)
            ·
              refine Go_cmz rfl rfl rfl ?_ ?_
              ·
                exact Go_jmp [(0, .ref 43), (1, .int (((1 : Int32) <<< ((I 43 6) &&& 31)) - (1 : Int32))), (2, .int s1.1), (3, .int s5.1), (4, .int s5.2)] rfl ⟨rfl, rfl, rfl, rfl, rfl, trivial⟩ (fun _ h => h)
              ·
                refine Go_blk 11 (pc' := 61) (L' := [(0, .ref 43), (1, .int (((1 : Int32) <<< ((I 43 6) &&& 31)) - (1 : Int32))), (2, .int s1.1), (3, .int s5.1), (4, .int s5.2)]) (S' := [.int (s1.1 &&& (((1 : Int32) <<< (s5.2 &&& 31)) ^^^ (-1 : Int32))), .ref 46, .ref 43, .int s5.1]) (h' := (hh X g s1.2)) rfl ?_
                refine Go_cR (y' := 16) (As := [.ref 46, .int (s1.1 &&& (((1 : Int32) <<< (s5.2 &&& 31)) ^^^ (-1 : Int32)))]) (r := [.ref 43, .int s5.1]) rfl (g_x_at16 46 (s1.1 &&& (((1 : Int32) <<< (s5.2 &&& 31)) ^^^ (-1 : Int32))) (by omega)) fun v10 => ?_
                refine Go_blk 3 (pc' := 70) (L' := [(0, .ref 43), (1, .int (((1 : Int32) <<< ((I 43 6) &&& 31)) - (1 : Int32))), (2, .int s1.1), (3, .int s5.1), (4, .int s5.2)]) (S' := [.int s5.2, .ref 44, .int v10, .ref 43, .int s5.1]) (h' := (hh X g s1.2)) rfl ?_
                refine Go_cR (y' := 16) (As := [.ref 44, .int s5.2]) (r := [.int v10, .ref 43, .int s5.1]) rfl (g_x_at16 44 s5.2 (by omega)) fun v11 => ?_
                refine Go_cR (y' := 212) (As := [.ref 43, .int v10, .int v11]) (r := [.int s5.1]) rfl (g_tas_addRun212 v10 v11 (by omega)) fun v12 => ?_
                refine Go_blk 2 (pc' := 80) (L' := [(3, .int (if v12 < s5.1 then v12 else s5.1)), (0, .ref 43), (1, .int (((1 : Int32) <<< ((I 43 6) &&& 31)) - (1 : Int32))), (2, .int s1.1), (4, .int s5.2)]) (S' := []) (h' := (hh X g s1.2)) rfl ?_
                exact Go_jmp [(0, .ref 43), (1, .int (((1 : Int32) <<< ((I 43 6) &&& 31)) - (1 : Int32))), (2, .int s1.1), (3, .int (if v12 < s5.1 then v12 else s5.1)), (4, .int s5.2)] rfl ⟨rfl, rfl, rfl, rfl, rfl, trivial⟩ (fun _ h => h)
          ·
            exact Go_jmp [(0, .ref 43), (1, .int (((1 : Int32) <<< ((I 43 6) &&& 31)) - (1 : Int32))), (2, .int s1.1), (3, .int s5.1)] rfl ⟨rfl, rfl, rfl, rfl, trivial⟩ (fun _ h => h)
      ·
        exact Go_jmp [(0, .ref 43), (1, .int (((1 : Int32) <<< ((I 43 6) &&& 31)) - (1 : Int32)))] rfl ⟨rfl, rfl, trivial⟩ (fun _ h => h)
set_option maxRecDepth 1000000 in
set_option maxHeartbeats 4000000 in
theorem g_tas_fewestBolts207 (p1 : Int32) {X : XX} {g : GG} {I : MJ} {d : Nat} (hd : 4 ≤ d) : Go d 207 0 (lv_args 0 [.ref 43, .int p1]) [] (hh X g I) (f_tas_fewestBolts207 p1 I) (pW X g) := by
  obtain ⟨d, rfl⟩ : ∃ k, d = k + 1 := ⟨d - 1, by omega⟩
  unfold f_tas_fewestBolts207
  refine Go_blk 4 (pc' := 4) (L' := [(3, .int (0 : Int32)), (2, .int (0 : Int32)), (0, .ref 43), (1, .int p1)]) (S' := []) (h' := (hh X g I)) rfl ?_
  refine Go_lcs [(0, .ref 43), (1, .int p1), (2, .int (0 : Int32)), (3, .int (0 : Int32))] rfl ⟨rfl, rfl, rfl, rfl, trivial⟩ ?_
  refine Go_wh (fun (s1 : Int32 × Int32 × MJ) => [(0, .ref 43), (1, .int p1), (2, .int s1.1), (3, .int s1.2.1)]) (fun _ => []) (fun (s1 : Int32 × Int32 × MJ) => (hh X g s1.2.2)) (fun s1 => ?_) ((0 : Int32), (0 : Int32), I)
  refine Go_blk 2 (pc' := 7) (L' := [(0, .ref 43), (1, .int p1), (2, .int s1.1), (3, .int s1.2.1)]) (S' := [.int (6 : Int32), .int s1.2.1]) (h' := (hh X g s1.2.2)) rfl ?_
  refine Go_cmpn rfl rfl (ab_cge _ _) ?_ ?_
  ·
    refine Go_blk 3 (pc' := 13) (L' := [(0, .ref 43), (1, .int p1), (2, .int s1.1), (3, .int s1.2.1)]) (S' := [.int s1.2.1, .int p1, .ref 43]) (h' := (hh X g s1.2.2)) rfl ?_
    refine Go_cV (y' := 208) (As := [.ref 43, .int p1, .int s1.2.1]) (r := []) rfl (g_tas_gatherRuns208 p1 s1.2.1 (by omega)) fun I2 => ?_
    refine Go_blk 2 (pc' := 18) (L' := [(0, .ref 43), (1, .int p1), (2, .int s1.1), (3, .int s1.2.1)]) (S' := [.int s1.2.1, .ref 43]) (h' := (hh X g I2)) rfl ?_
    refine Go_cV (y' := 210) (As := [.ref 43, .int s1.2.1]) (r := []) rfl (g_tas_gatherSizes210 s1.2.1 (by omega)) fun I3 => ?_
    refine Go_blk 2 (pc' := 25) (L' := [(0, .ref 43), (1, .int p1), (2, .int s1.1), (3, .int s1.2.1)]) (S' := [.int (I3 43 6)]) (h' := (hh X g I3)) rfl ?_
    refine Go_seq (pcj := 36) (fun (b4 : Int32 × MJ) => [(0, .ref 43), (1, .int p1), (2, .int s1.1), (3, .int s1.2.1)]) (fun (b4 : Int32 × MJ) => [.int b4.1]) (fun (b4 : Int32 × MJ) => (hh X g b4.2)) (fun b4 => ?_) ?_
    ·
      refine Go_blk 3 (pc' := 41) (L' := [(4, .int b4.1), (0, .ref 43), (1, .int p1), (2, .int s1.1), (3, .int s1.2.1)]) (S' := [.int (-1 : Int32), .int b4.1]) (h' := (hh X g b4.2)) rfl ?_
      refine Go_cmpn rfl rfl rfl ?_ ?_
      ·
        refine Go_inrS ?_
        refine Go_blk 1 (pc' := 45) (L' := [(4, .int b4.1), (0, .ref 43), (1, .int p1), (2, .int s1.1), (3, .int s1.2.1)]) (S' := [.int (-1 : Int32)]) (h' := (hh X g b4.2)) rfl ?_
        exact Go_ret (fun _ h => h) rfl
      ·
        refine Go_blk 6 (pc' := 4) (L' := [(3, .int (s1.2.1 + (1 : Int32))), (2, .int (s1.1 + b4.1)), (4, .int b4.1), (0, .ref 43), (1, .int p1)]) (S' := []) (h' := (hh X g b4.2)) rfl ?_
        exact Go_jmp [(0, .ref 43), (1, .int p1), (2, .int (s1.1 + b4.1)), (3, .int (s1.2.1 + (1 : Int32)))] rfl ⟨rfl, rfl, rfl, rfl, trivial⟩ (fun _ h => h)
    ·
      refine Go_cmzn rfl rfl rfl ?_ ?_
      ·
        refine Go_blk 2 (pc' := 36) (L' := [(0, .ref 43), (1, .int p1), (2, .int s1.1), (3, .int s1.2.1)]) (S' := [.int (0 : Int32)]) (h' := (hh X g I3)) rfl ?_
        exact Go_jmp [(0, .ref 43), (1, .int p1), (2, .int s1.1), (3, .int s1.2.1)] rfl ⟨rfl, rfl, rfl, rfl, trivial⟩ (fun _ h => h)
      ·
        refine Go_blk 1 (pc' := 33) (L' := [(0, .ref 43), (1, .int p1), (2, .int s1.1), (3, .int s1.2.1)]) (S' := [.ref 43]) (h' := (hh X g I3)) rfl ?_
        refine Go_cW (y' := 211) (As := [.ref 43]) (r := []) rfl (g_tas_pack211  (by omega)) fun w5 => ?_
        exact Go_jmp [(0, .ref 43), (1, .int p1), (2, .int s1.1), (3, .int s1.2.1)] rfl ⟨rfl, rfl, rfl, rfl, trivial⟩ (fun _ h => h)
  ·
    refine Go_inrS ?_
    refine Go_blk 1 (pc' := 58) (L' := [(0, .ref 43), (1, .int p1), (2, .int s1.1), (3, .int s1.2.1)]) (S' := [.int s1.1]) (h' := (hh X g s1.2.2)) rfl ?_
    exact Go_ret (fun _ h => h) rfl
set_option maxRecDepth 1000000 in
set_option maxHeartbeats 4000000 in
theorem g_x_pieces203 (p1 : Int32) {X : XX} {g : GG} {I : MJ} {d : Nat} (hd : 5 ≤ d) : Go d 203 0 (lv_args 0 [.ref 0, .int p1]) [] (hh X g I) (f_x_pieces203 p1 I) (pT vI X g) := by
  obtain ⟨d, rfl⟩ : ∃ k, d = k + 1 := ⟨d - 1, by omega⟩
  unfold f_x_pieces203
  refine Go_blk 4 (pc' := 6) (L' := [(0, .ref 0), (1, .int p1)]) (S' := [.ref 3, .int p1, .ref 0]) (h' := (hh X g I)) rfl ?_
  refine Go_cR (y' := 204) (As := [.ref 3]) (r := [.int p1, .ref 0]) rfl (g_sho_allOrders204  (by omega)) fun v1 => ?_
  refine Go_cT (y' := 199) (As := [.ref 0, .int p1, .int v1]) (r := []) rfl rfl (g_x_needBits199 p1 v1 (by omega)) fun v2 I3 => ?_
  refine Go_blk 3 (pc' := 17) (L' := [(0, .ref 0), (1, .int p1)]) (S' := [.int p1, .ref 43]) (h' := (hh X g I3)) rfl ?_
  refine Go_cR (y' := 205) (As := [.ref 43, .int p1]) (r := []) rfl (g_tas_canBePacked205 p1 (by omega)) fun v4 => ?_
  refine Go_cmzn rfl rfl rfl ?_ ?_
  ·
    refine Go_blk 1 (pc' := 24) (L' := [(0, .ref 0), (1, .int p1)]) (S' := [.ref 0]) (h' := (hh X g I3)) rfl ?_
    refine Go_cT (y' := 181) (As := [.ref 0]) (r := []) rfl rfl (g_x_refuseState181  (by omega)) fun v5 I6 => ?_
    refine Go_blk 3 (pc' := 32) (L' := [(0, .ref 0), (1, .int p1)]) (S' := [.int p1, .ref 43]) (h' := (hh X g I6)) rfl ?_
    refine Go_cW (y' := 207) (As := [.ref 43, .int p1]) (r := []) rfl (g_tas_fewestBolts207 p1 (by omega)) fun w7 => ?_
    exact Go_ret (fun _ h => h) rfl
  ·
    refine Go_blk 3 (pc' := 32) (L' := [(0, .ref 0), (1, .int p1)]) (S' := [.int p1, .ref 43]) (h' := (hh X g I3)) rfl ?_
    refine Go_cW (y' := 207) (As := [.ref 43, .int p1]) (r := []) rfl (g_tas_fewestBolts207 p1 (by omega)) fun w8 => ?_
    exact Go_ret (fun _ h => h) rfl
set_option maxRecDepth 1000000 in
set_option maxHeartbeats 4000000 in
theorem g_l_pieces202 (p1 : Int32) {X : XX} {g : GG} {I : MJ} {d : Nat} (hd : 6 ≤ d) : Go d 202 0 (lv_args 0 [.ref 0, .int p1, .ref 698]) [] (hh X g I) (f_l_pieces202 p1 I g) (pG X) := by
  obtain ⟨d, rfl⟩ : ∃ k, d = k + 1 := ⟨d - 1, by omega⟩
  unfold f_l_pieces202
  refine Go_blk 4 (pc' := 4) (L' := [(0, .ref 0), (1, .int p1), (2, .ref 698)]) (S' := [.int p1, .ref 0, .int (0 : Int32), .ref 698]) (h' := (hh X g I)) rfl ?_
  refine Go_try (y' := 203) (As := [.ref 0, .int p1]) (r := [.int (0 : Int32), .ref 698]) rfl (g_x_pieces203 p1 (by omega)) (fun v1 I2 => ?_) (fun E2 I2 => ?_)
  ·
    refine Go_blk 1 (pc' := 8) (L' := [(0, .ref 0), (1, .int p1), (2, .ref 698)]) (S' := [.long (v1.toInt64), .int (0 : Int32), .ref 698]) (h' := (hh X g I2)) rfl ?_
    refine Go_last rfl fun g3 => ?_
    refine Go_blk 2 (pc' := 19) (L' := [(0, .ref 0), (1, .int p1), (2, .ref 698)]) (S' := [.int (0 : Int32)]) (h' := (hh X g3 I2)) rfl ?_
    exact Go_ret (fun _ h => h) rfl
  ·
    refine GX_ite ?_ ?_
    ·
      refine GX_go rfl (t := 13) (k := 3) rfl ?_
      refine Go_blk 1 (pc' := 14) (L' := [(0, .ref 0), (1, .int p1), (2, .ref 698)]) (S' := [.int (1 : Int32)]) (h' := (hh X (thr g) I2)) rfl ?_
      exact Go_ret (fun _ h => h) rfl
    refine GX_ite ?_ ?_
    ·
      refine GX_go rfl (t := 16) (k := 3) rfl ?_
      refine Go_blk 1 (pc' := 17) (L' := [(0, .ref 0), (1, .int p1), (2, .ref 698)]) (S' := [.int (2 : Int32)]) (h' := (hh X (thr g) I2)) rfl ?_
      exact Go_ret (fun _ h => h) rfl
    exact GX_none
set_option maxRecDepth 1000000 in
set_option maxHeartbeats 4000000 in
theorem g_m_areOrders353 (p1 : Int32) {X : XX} {g : GG} {I : MJ} {d : Nat} (hd : 1 ≤ d) : Go d 353 0 (lv_args 0 [.ref 47, .int p1]) [] (hh X g I) (f_m_areOrders353 p1 I) (pR X g I) := by
  obtain ⟨d, rfl⟩ : ∃ k, d = k + 1 := ⟨d - 1, by omega⟩
  unfold f_m_areOrders353
  refine Go_blk 10 (pc' := 12) (L' := [(0, .ref 47), (1, .int p1)]) (S' := [.int (((1 : Int32) <<< ((I 51 3) &&& 31)) - (1 : Int32)), .int (0 : Int32), .int p1]) (h' := (hh X g I)) rfl ?_
  refine Go_cR (y' := 264) (As := [.int p1, .int (0 : Int32), .int (((1 : Int32) <<< ((I 51 3) &&& 31)) - (1 : Int32))]) (r := []) rfl (g_m_in264 p1 (0 : Int32) (((1 : Int32) <<< ((I 51 3) &&& 31)) - (1 : Int32)) (by omega)) fun v1 => ?_
  exact Go_ret (fun _ h => h) rfl
set_option maxRecDepth 1000000 in
set_option maxHeartbeats 4000000 in
theorem g_m_laysRuns354 (p1 : Int32) {X : XX} {g : GG} {I : MJ} {d : Nat} (hd : 1 ≤ d) : Go d 354 0 (lv_args 0 [.ref 47, .int p1]) [] (hh X g I) (f_m_laysRuns354 p1 I) (pW X g) := by
  obtain ⟨d, rfl⟩ : ∃ k, d = k + 1 := ⟨d - 1, by omega⟩
  unfold f_m_laysRuns354
  refine Go_blk 5 (pc' := 7) (L' := [(2, .int (0 : Int32)), (0, .ref 47), (1, .int p1)]) (S' := []) (h' := (hh X g (ab_up1 I 47 53 (0 : Int32)))) rfl ?_
  refine Go_lcs [(0, .ref 47), (1, .int p1), (2, .int (0 : Int32))] rfl ⟨rfl, rfl, rfl, trivial⟩ ?_
  refine Go_wh (fun (s1 : Int32 × MJ) => [(0, .ref 47), (1, .int p1), (2, .int s1.1)]) (fun _ => []) (fun (s1 : Int32 × MJ) => (hh X g s1.2)) (fun s1 => ?_) ((0 : Int32), (ab_up1 I 47 53 (0 : Int32)))
  refine Go_blk 5 (pc' := 14) (L' := [(0, .ref 47), (1, .int p1), (2, .int s1.1)]) (S' := [.int (s1.2 51 3), .int s1.1]) (h' := (hh X g s1.2)) rfl ?_
  refine Go_cmpn rfl rfl (ab_cge _ _) ?_ ?_
  ·
    refine Go_blk 3 (pc' := 22) (L' := [(0, .ref 47), (1, .int p1), (2, .int s1.1)]) (S' := [.int s1.1, .ref 119]) (h' := (hh X g s1.2)) rfl ?_
    refine Go_aald rfl fun r2 => ?_
    refine Go_blk 1 (pc' := 24) (L' := [(0, .ref 47), (1, .int p1), (2, .int s1.1)]) (S' := [.int (1 : Int32), .ref r2]) (h' := (hh X g s1.2)) rfl ?_
    refine Go_iald rfl fun v3 => ?_
    refine Go_blk 3 (pc' := 28) (L' := [(3, .int v3), (0, .ref 47), (1, .int p1), (2, .int s1.1)]) (S' := [.int s1.1, .int p1]) (h' := (hh X g s1.2)) rfl ?_
    refine Go_cR (y' := 313) (As := [.int p1, .int s1.1]) (r := []) rfl (g_m_has313 p1 s1.1 (by omega)) fun v4 => ?_
    refine Go_cmzn rfl rfl rfl ?_ ?_
    ·
      refine Go_blk 3 (pc' := 7) (L' := [(2, .int (s1.1 + (1 : Int32))), (3, .int v3), (0, .ref 47), (1, .int p1)]) (S' := []) (h' := (hh X g s1.2)) rfl ?_
      exact Go_jmp [(0, .ref 47), (1, .int p1), (2, .int (s1.1 + (1 : Int32)))] rfl ⟨rfl, rfl, rfl, trivial⟩ (fun _ h => h)
    ·
      refine Go_blk 3 (pc' := 42) (L' := [(3, .int v3), (0, .ref 47), (1, .int p1), (2, .int s1.1)]) (S' := [.int v3, .ref 135]) (h' := (hh X g s1.2)) rfl ?_
      refine Go_bald rfl fun v5 => ?_
      refine Go_cmz rfl rfl rfl ?_ ?_
      ·
        refine Go_inrS ?_
        refine Go_blk 1 (pc' := 67) (L' := [(3, .int v3), (0, .ref 47), (1, .int p1), (2, .int s1.1)]) (S' := [.int (0 : Int32)]) (h' := (hh X g s1.2)) rfl ?_
        exact Go_ret (fun _ h => h) rfl
      ·
        refine Go_blk 5 (pc' := 55) (L' := [(3, .int v3), (0, .ref 47), (1, .int p1), (2, .int s1.1)]) (S' := [.int v3, .ref 128, .int (s1.2 47 53)]) (h' := (hh X g s1.2)) rfl ?_
        refine Go_aald rfl fun r6 => ?_
        refine Go_blk 1 (pc' := 57) (L' := [(3, .int v3), (0, .ref 47), (1, .int p1), (2, .int s1.1)]) (S' := [.int (0 : Int32), .ref r6, .int (s1.2 47 53)]) (h' := (hh X g s1.2)) rfl ?_
        refine Go_cR (y' := 291) (As := [.ref r6, .int (0 : Int32)]) (r := [.int (s1.2 47 53)]) rfl (g_m_runsOf291 r6 (0 : Int32) (by omega)) fun v7 => ?_
        refine Go_blk 2 (pc' := 63) (L' := [(3, .int v3), (0, .ref 47), (1, .int p1), (2, .int s1.1)]) (S' := [.int (12 : Int32), .int ((s1.2 47 53) + v7)]) (h' := (hh X g s1.2)) rfl ?_
        refine Go_cmpn rfl rfl (ab_cle _ _) ?_ ?_
        ·
          refine Go_inrS ?_
          refine Go_blk 1 (pc' := 67) (L' := [(3, .int v3), (0, .ref 47), (1, .int p1), (2, .int s1.1)]) (S' := [.int (0 : Int32)]) (h' := (hh X g s1.2)) rfl ?_
          exact Go_ret (fun _ h => h) rfl
        ·
          refine Go_blk 2 (pc' := 71) (L' := [(4, .int (0 : Int32)), (3, .int v3), (0, .ref 47), (1, .int p1), (2, .int s1.1)]) (S' := []) (h' := (hh X g s1.2)) rfl ?_
          refine Go_lcs [(0, .ref 47), (1, .int p1), (2, .int s1.1), (3, .int v3), (4, .int (0 : Int32))] rfl ⟨rfl, rfl, rfl, rfl, rfl, trivial⟩ ?_
          refine Go_seq (pcj := 147) (fun (b9 : MJ) => [(0, .ref 47), (1, .int p1), (2, .int s1.1)]) (fun (b9 : MJ) => []) (fun (b9 : MJ) => (hh X g b9)) (fun b9 => ?_) ?_
          ·
            refine Go_blk 2 (pc' := 7) (L' := [(2, .int (s1.1 + (1 : Int32))), (0, .ref 47), (1, .int p1)]) (S' := []) (h' := (hh X g b9)) rfl ?_
            exact Go_jmp [(0, .ref 47), (1, .int p1), (2, .int (s1.1 + (1 : Int32)))] rfl ⟨rfl, rfl, rfl, trivial⟩ (fun _ h => h)
          ·
            refine Go_wh (fun (s8 : Int32 × MJ) => [(0, .ref 47), (1, .int p1), (2, .int s1.1), (3, .int v3), (4, .int s8.1)]) (fun _ => []) (fun (s8 : Int32 × MJ) => (hh X g s8.2)) (fun s8 => ?_) ((0 : Int32), s1.2)
            refine Go_blk 2 (pc' := 75) (L' := [(0, .ref 47), (1, .int p1), (2, .int s1.1), (3, .int v3), (4, .int s8.1)]) (S' := [.int (12 : Int32), .int s8.1]) (h' := (hh X g s8.2)) rfl ?_
            refine Go_cmpn rfl rfl (ab_cge _ _) ?_ ?_
            ·
              refine Go_blk 7 (pc' := 91) (L' := [(0, .ref 47), (1, .int p1), (2, .int s1.1), (3, .int v3), (4, .int s8.1)]) (S' := [.int v3, .ref 128, .int (s8.2 47 53), .ref 694]) (h' := (hh X g s8.2)) rfl ?_
              refine Go_aald rfl fun r10 => ?_
              refine Go_blk 1 (pc' := 94) (L' := [(0, .ref 47), (1, .int p1), (2, .int s1.1), (3, .int v3), (4, .int s8.1)]) (S' := [.int s8.1, .ref r10, .int (s8.2 47 53), .ref 694]) (h' := (hh X g s8.2)) rfl ?_
              refine Go_iald rfl fun v11 => ?_
              refine Go_iast rfl fun I12 => ?_
              refine Go_blk 7 (pc' := 109) (L' := [(0, .ref 47), (1, .int p1), (2, .int s1.1), (3, .int v3), (4, .int s8.1)]) (S' := [.int v3, .ref 128, .int (I12 47 53), .ref 695]) (h' := (hh X g I12)) rfl ?_
              refine Go_aald rfl fun r13 => ?_
              refine Go_blk 2 (pc' := 113) (L' := [(0, .ref 47), (1, .int p1), (2, .int s1.1), (3, .int v3), (4, .int s8.1)]) (S' := [.int s8.1, .int (0 : Int32), .ref r13, .int (I12 47 53), .ref 695]) (h' := (hh X g I12)) rfl ?_
              refine Go_cR (y' := 308) (As := [.ref r13, .int (0 : Int32), .int s8.1]) (r := [.int (I12 47 53), .ref 695]) rfl (g_m_runAt308 r13 (0 : Int32) s8.1 (by omega)) fun v14 => ?_
              refine Go_iast rfl fun I15 => ?_
              refine Go_blk 10 (pc' := 134) (L' := [(0, .ref 47), (1, .int p1), (2, .int s1.1), (3, .int v3), (4, .int s8.1)]) (S' := [.int v3, .ref 128, .int s8.1]) (h' := (hh X g (ab_up1 I15 47 53 ((I15 47 53) + (1 : Int32))))) rfl ?_
              refine Go_aald rfl fun r16 => ?_
              refine Go_blk 2 (pc' := 138) (L' := [(0, .ref 47), (1, .int p1), (2, .int s1.1), (3, .int v3), (4, .int s8.1)]) (S' := [.int s8.1, .int (0 : Int32), .ref r16, .int s8.1]) (h' := (hh X g (ab_up1 I15 47 53 ((I15 47 53) + (1 : Int32))))) rfl ?_
              refine Go_cR (y' := 308) (As := [.ref r16, .int (0 : Int32), .int s8.1]) (r := [.int s8.1]) rfl (g_m_runAt308 r16 (0 : Int32) s8.1 (by omega)) fun v17 => ?_
              refine Go_blk 3 (pc' := 71) (L' := [(4, .int (s8.1 + v17)), (0, .ref 47), (1, .int p1), (2, .int s1.1), (3, .int v3)]) (S' := []) (h' := (hh X g (ab_up1 I15 47 53 ((I15 47 53) + (1 : Int32))))) rfl ?_
              exact Go_jmp [(0, .ref 47), (1, .int p1), (2, .int s1.1), (3, .int v3), (4, .int (s8.1 + v17))] rfl ⟨rfl, rfl, rfl, rfl, rfl, trivial⟩ (fun _ h => h)
            ·
              exact Go_jmp [(0, .ref 47), (1, .int p1), (2, .int s1.1)] rfl ⟨rfl, rfl, rfl, trivial⟩ (fun _ h => h)
  ·
    refine Go_inrS ?_
    refine Go_blk 1 (pc' := 154) (L' := [(0, .ref 47), (1, .int p1), (2, .int s1.1)]) (S' := [.int (1 : Int32)]) (h' := (hh X g s1.2)) rfl ?_
    exact Go_ret (fun _ h => h) rfl
set_option maxRecDepth 1000000 in
set_option maxHeartbeats 4000000 in
theorem g_m_ones355 (p0 : Int32) {X : XX} {g : GG} {I : MJ} {d : Nat} (hd : 0 ≤ d) : Go d 355 0 (lv_args 0 [.int p0]) [] (hh X g I) (f_m_ones355 p0 I) (pR X g I) := by
  unfold f_m_ones355
  refine Go_blk 4 (pc' := 4) (L' := [(2, .int (0 : Int32)), (1, .int (0 : Int32)), (0, .int p0)]) (S' := []) (h' := (hh X g I)) rfl ?_
  refine Go_lcs [(0, .int p0), (1, .int (0 : Int32)), (2, .int (0 : Int32))] rfl ⟨rfl, rfl, rfl, trivial⟩ ?_
  refine Go_seq (pcj := 24) (fun (b2 : Int32) => [(1, .int b2)]) (fun (b2 : Int32) => []) (fun (b2 : Int32) => (hh X g I)) (fun b2 => ?_) ?_
  ·
    refine Go_blk 1 (pc' := 25) (L' := [(1, .int b2)]) (S' := [.int b2]) (h' := (hh X g I)) rfl ?_
    exact Go_ret (fun _ h => h) rfl
  ·
    refine Go_wh (fun (s1 : Int32 × Int32) => [(0, .int p0), (1, .int s1.1), (2, .int s1.2)]) (fun _ => []) (fun (s1 : Int32 × Int32) => (hh X g I)) (fun s1 => ?_) ((0 : Int32), (0 : Int32))
    refine Go_blk 2 (pc' := 7) (L' := [(0, .int p0), (1, .int s1.1), (2, .int s1.2)]) (S' := [.int (10 : Int32), .int s1.2]) (h' := (hh X g I)) rfl ?_
    refine Go_cmpn rfl rfl (ab_cge _ _) ?_ ?_
    ·
      refine Go_blk 10 (pc' := 4) (L' := [(2, .int (s1.2 + (1 : Int32))), (1, .int (s1.1 + ((p0 >>> (s1.2 &&& 31)) &&& (1 : Int32)))), (0, .int p0)]) (S' := []) (h' := (hh X g I)) rfl ?_
      exact Go_jmp [(0, .int p0), (1, .int (s1.1 + ((p0 >>> (s1.2 &&& 31)) &&& (1 : Int32)))), (2, .int (s1.2 + (1 : Int32)))] rfl ⟨rfl, rfl, rfl, trivial⟩ (fun _ h => h)
    ·
      exact Go_jmp [(1, .int s1.1)] rfl ⟨rfl, trivial⟩ (fun _ h => h)
set_option maxRecDepth 1000000 in
set_option maxHeartbeats 4000000 in
theorem G_m_packs356 (r : Int32 → Int32 → MJ → Option (Int32 × MJ)) (dr : Nat) (hM : 0 ≤ dr) (hr : ∀ (p1 : Int32) (p2 : Int32) (X : XX) (g : GG) (I : MJ), Go dr 356 0 (lv_args 0 [.ref 47, .int p1, .int p2]) [] (hh X g I) (r p1 p2 I) (pW X g)) (p1 : Int32) (p2 : Int32) {X : XX} {g : GG} {I : MJ} {d : Nat} (hd : dr + 1 ≤ d) : Go d 356 0 (lv_args 0 [.ref 47, .int p1, .int p2]) [] (hh X g I) (F_m_packs356 r p1 p2 I) (pW X g) := by
  obtain ⟨d, rfl⟩ : ∃ k, d = k + 1 := ⟨d - 1, by omega⟩
  unfold F_m_packs356
  refine Go_blk 3 (pc' := 5) (L' := [(0, .ref 47), (1, .int p1), (2, .int p2)]) (S' := [.int (I 47 53), .int p1]) (h' := (hh X g I)) rfl ?_
  refine Go_cmpn rfl rfl rfl ?_ ?_
  ·
    refine Go_blk 1 (pc' := 9) (L' := [(0, .ref 47), (1, .int p1), (2, .int p2)]) (S' := [.int (1 : Int32)]) (h' := (hh X g I)) rfl ?_
    exact Go_ret (fun _ h => h) rfl
  ·
    refine Go_blk 2 (pc' := 12) (L' := [(3, .int (0 : Int32)), (0, .ref 47), (1, .int p1), (2, .int p2)]) (S' := []) (h' := (hh X g I)) rfl ?_
    refine Go_lcs [(0, .ref 47), (1, .int p1), (2, .int p2), (3, .int (0 : Int32))] rfl ⟨rfl, rfl, rfl, rfl, trivial⟩ ?_
    refine Go_wh (fun (s1 : Int32 × MJ) => [(0, .ref 47), (1, .int p1), (2, .int p2), (3, .int s1.1)]) (fun _ => []) (fun (s1 : Int32 × MJ) => (hh X g s1.2)) (fun s1 => ?_) ((0 : Int32), I)
    refine Go_blk 5 (pc' := 19) (L' := [(0, .ref 47), (1, .int p1), (2, .int p2), (3, .int s1.1)]) (S' := [.int (s1.2 51 0), .int s1.1]) (h' := (hh X g s1.2)) rfl ?_
    refine Go_cmpn rfl rfl (ab_cge _ _) ?_ ?_
    ·
      refine Go_blk 2 (pc' := 24) (L' := [(0, .ref 47), (1, .int p1), (2, .int p2), (3, .int s1.1)]) (S' := [.int s1.1, .int p2]) (h' := (hh X g s1.2)) rfl ?_
      refine Go_cR (y' := 313) (As := [.int p2, .int s1.1]) (r := []) rfl (g_m_has313 p2 s1.1 (by omega)) fun v2 => ?_
      refine Go_cmz rfl rfl rfl ?_ ?_
      ·
        refine Go_blk 2 (pc' := 12) (L' := [(3, .int (s1.1 + (1 : Int32))), (0, .ref 47), (1, .int p1), (2, .int p2)]) (S' := []) (h' := (hh X g s1.2)) rfl ?_
        exact Go_jmp [(0, .ref 47), (1, .int p1), (2, .int p2), (3, .int (s1.1 + (1 : Int32)))] rfl ⟨rfl, rfl, rfl, rfl, trivial⟩ (fun _ h => h)
      ·
        refine Go_blk 3 (pc' := 35) (L' := [(0, .ref 47), (1, .int p1), (2, .int p2), (3, .int s1.1)]) (S' := [.int s1.1, .ref 65]) (h' := (hh X g s1.2)) rfl ?_
        refine Go_aald rfl fun r3 => ?_
        refine Go_blk 1 (pc' := 37) (L' := [(0, .ref 47), (1, .int p1), (2, .int p2), (3, .int s1.1)]) (S' := [.int (0 : Int32), .ref r3]) (h' := (hh X g s1.2)) rfl ?_
        refine Go_iald rfl fun v4 => ?_
        refine Go_blk 3 (pc' := 43) (L' := [(0, .ref 47), (1, .int p1), (2, .int p2), (3, .int s1.1)]) (S' := [.int p1, .ref 694, .int v4]) (h' := (hh X g s1.2)) rfl ?_
        refine Go_iald rfl fun v5 => ?_
        refine Go_cmpn rfl rfl rfl ?_ ?_
        ·
          refine Go_blk 3 (pc' := 52) (L' := [(0, .ref 47), (1, .int p1), (2, .int p2), (3, .int s1.1)]) (S' := [.int s1.1, .ref 696]) (h' := (hh X g s1.2)) rfl ?_
          refine Go_iald rfl fun v6 => ?_
          refine Go_blk 3 (pc' := 58) (L' := [(0, .ref 47), (1, .int p1), (2, .int p2), (3, .int s1.1)]) (S' := [.int p1, .ref 695, .int v6]) (h' := (hh X g s1.2)) rfl ?_
          refine Go_iald rfl fun v7 => ?_
          refine Go_cmpn rfl rfl (ab_cge _ _) ?_ ?_
          ·
            refine Go_blk 3 (pc' := 12) (L' := [(3, .int (s1.1 + (1 : Int32))), (0, .ref 47), (1, .int p1), (2, .int p2)]) (S' := []) (h' := (hh X g s1.2)) rfl ?_
            exact Go_jmp [(0, .ref 47), (1, .int p1), (2, .int p2), (3, .int (s1.1 + (1 : Int32)))] rfl ⟨rfl, rfl, rfl, rfl, trivial⟩ (fun _ h => h)
          ·
            refine Go_blk 4 (pc' := 71) (L' := [(0, .ref 47), (1, .int p1), (2, .int p2), (3, .int s1.1)]) (S' := [.int s1.1, .ref 696, .int s1.1, .ref 696]) (h' := (hh X g s1.2)) rfl ?_
            refine Go_iald rfl fun v8 => ?_
            refine Go_blk 3 (pc' := 77) (L' := [(0, .ref 47), (1, .int p1), (2, .int p2), (3, .int s1.1)]) (S' := [.int p1, .ref 695, .int v8, .int s1.1, .ref 696]) (h' := (hh X g s1.2)) rfl ?_
            refine Go_iald rfl fun v9 => ?_
            refine Go_blk 1 (pc' := 79) (L' := [(0, .ref 47), (1, .int p1), (2, .int p2), (3, .int s1.1)]) (S' := [.int (v8 - v9), .int s1.1, .ref 696]) (h' := (hh X g s1.2)) rfl ?_
            refine Go_iast rfl fun I10 => ?_
            refine Go_blk 5 (pc' := 85) (L' := [(0, .ref 47), (1, .int p1), (2, .int p2), (3, .int s1.1)]) (S' := [.int p2, .int (p1 + (1 : Int32)), .ref 47]) (h' := (hh X g I10)) rfl ?_
            refine Go_cW (y' := 356) (As := [.ref 47, .int (p1 + (1 : Int32)), .int p2]) (r := []) rfl (Go_dep (by omega) (hr (p1 + (1 : Int32)) p2 X g _)) fun w11 => ?_
            refine Go_blk 5 (pc' := 96) (L' := [(4, .int w11.1), (0, .ref 47), (1, .int p1), (2, .int p2), (3, .int s1.1)]) (S' := [.int s1.1, .ref 696, .int s1.1, .ref 696]) (h' := (hh X g w11.2)) rfl ?_
            refine Go_iald rfl fun v12 => ?_
            refine Go_blk 3 (pc' := 102) (L' := [(4, .int w11.1), (0, .ref 47), (1, .int p1), (2, .int p2), (3, .int s1.1)]) (S' := [.int p1, .ref 695, .int v12, .int s1.1, .ref 696]) (h' := (hh X g w11.2)) rfl ?_
            refine Go_iald rfl fun v13 => ?_
            refine Go_blk 1 (pc' := 104) (L' := [(4, .int w11.1), (0, .ref 47), (1, .int p1), (2, .int p2), (3, .int s1.1)]) (S' := [.int (v12 + v13), .int s1.1, .ref 696]) (h' := (hh X g w11.2)) rfl ?_
            refine Go_iast rfl fun I14 => ?_
            refine Go_blk 1 (pc' := 107) (L' := [(4, .int w11.1), (0, .ref 47), (1, .int p1), (2, .int p2), (3, .int s1.1)]) (S' := [.int w11.1]) (h' := (hh X g I14)) rfl ?_
            refine Go_cmz rfl rfl rfl ?_ ?_
            ·
              refine Go_blk 2 (pc' := 12) (L' := [(3, .int (s1.1 + (1 : Int32))), (4, .int w11.1), (0, .ref 47), (1, .int p1), (2, .int p2)]) (S' := []) (h' := (hh X g I14)) rfl ?_
              exact Go_jmp [(0, .ref 47), (1, .int p1), (2, .int p2), (3, .int (s1.1 + (1 : Int32)))] rfl ⟨rfl, rfl, rfl, rfl, trivial⟩ (fun _ h => h)
            ·
              refine Go_inrS ?_
              refine Go_blk 1 (pc' := 111) (L' := [(4, .int w11.1), (0, .ref 47), (1, .int p1), (2, .int p2), (3, .int s1.1)]) (S' := [.int (1 : Int32)]) (h' := (hh X g I14)) rfl ?_
              exact Go_ret (fun _ h => h) rfl
        ·
          refine Go_blk 2 (pc' := 12) (L' := [(3, .int (s1.1 + (1 : Int32))), (0, .ref 47), (1, .int p1), (2, .int p2)]) (S' := []) (h' := (hh X g s1.2)) rfl ?_
          exact Go_jmp [(0, .ref 47), (1, .int p1), (2, .int p2), (3, .int (s1.1 + (1 : Int32)))] rfl ⟨rfl, rfl, rfl, rfl, trivial⟩ (fun _ h => h)
    ·
      refine Go_inrS ?_
      refine Go_blk 1 (pc' := 119) (L' := [(0, .ref 47), (1, .int p1), (2, .int p2), (3, .int s1.1)]) (S' := [.int (0 : Int32)]) (h' := (hh X g s1.2)) rfl ?_
      exact Go_ret (fun _ h => h) rfl
theorem g_m_packs356 (k : Nat) : ∀ (p1 : Int32) (p2 : Int32) {X : XX} {g : GG} {I : MJ} {d : Nat}, 0 + 1 * k ≤ d → Go d 356 0 (lv_args 0 [.ref 47, .int p1, .int p2]) [] (hh X g I) (f_m_packs356 k p1 p2 I) (pW X g) := by
  induction k with
  | zero => intros; exact Go_none
  | succ k ih =>
    intro p1 p2 X g I d hd
    exact G_m_packs356 (f_m_packs356 k) (0 + 1 * k) (by omega) (fun p1 p2 X g I => ih p1 p2 (Nat.le_refl _)) p1 p2 (by omega)
set_option maxRecDepth 1000000 in
set_option maxHeartbeats 4000000 in
theorem g_m_pieces352 (p1 : Int32) {X : XX} {g : GG} {I : MJ} {d : Nat} (hd : 17 ≤ d) : Go d 352 0 (lv_args 0 [.ref 47, .int p1]) [] (hh X g I) (f_m_pieces352 p1 I) (pW X g) := by
  obtain ⟨d, rfl⟩ : ∃ k, d = k + 1 := ⟨d - 1, by omega⟩
  unfold f_m_pieces352
  refine Go_blk 6 (pc' := 8) (L' := [(0, .ref 47), (1, .int p1)]) (S' := [.int p1, .ref 47, .ref 47]) (h' := (hh X g (ab_up1 I 47 0 (0 : Int32)))) rfl ?_
  refine Go_cR (y' := 353) (As := [.ref 47, .int p1]) (r := [.ref 47]) rfl (g_m_areOrders353 p1 (by omega)) fun v1 => ?_
  refine Go_seq (pcj := 19) (fun (b2 : Int32) => [(0, .ref 47), (1, .int p1)]) (fun (b2 : Int32) => [.int b2, .ref 47]) (fun (b2 : Int32) => (hh X g (ab_up1 I 47 0 (0 : Int32)))) (fun b2 => ?_) ?_
  ·
    refine Go_blk 2 (pc' := 21) (L' := [(0, .ref 47), (1, .int p1)]) (S' := [.int (1 : Int32), .int (1 : Int32), .int b2, .ref 47]) (h' := (hh X g (ab_up1 I 47 0 (0 : Int32)))) rfl ?_
    refine Go_cW (y' := 268) (As := [.ref 47, .int b2, .int (1 : Int32), .int (1 : Int32)]) (r := []) rfl (g_m_bad268 b2 (1 : Int32) (1 : Int32) (by omega)) fun w3 => ?_
    refine Go_cmzn rfl rfl rfl ?_ ?_
    ·
      refine Go_blk 3 (pc' := 30) (L' := [(0, .ref 47), (1, .int p1)]) (S' := [.int p1, .ref 47, .ref 47]) (h' := (hh X g w3.2)) rfl ?_
      refine Go_cW (y' := 354) (As := [.ref 47, .int p1]) (r := [.ref 47]) rfl (g_m_laysRuns354 p1 (by omega)) fun w4 => ?_
      refine Go_seq (pcj := 41) (fun (b5 : Int32) => [(0, .ref 47)]) (fun (b5 : Int32) => [.int b5, .ref 47]) (fun (b5 : Int32) => (hh X g w4.2)) (fun b5 => ?_) ?_
      ·
        refine Go_blk 2 (pc' := 43) (L' := [(0, .ref 47)]) (S' := [.int (2 : Int32), .int (2 : Int32), .int b5, .ref 47]) (h' := (hh X g w4.2)) rfl ?_
        refine Go_cW (y' := 268) (As := [.ref 47, .int b5, .int (2 : Int32), .int (2 : Int32)]) (r := []) rfl (g_m_bad268 b5 (2 : Int32) (2 : Int32) (by omega)) fun w6 => ?_
        refine Go_cmz rfl rfl rfl ?_ ?_
        ·
          refine Go_blk 4 (pc' := 55) (L' := [(3, .int (0 : Int32)), (2, .int (-1 : Int32)), (0, .ref 47)]) (S' := []) (h' := (hh X g w6.2)) rfl ?_
          refine Go_lcs [(0, .ref 47), (2, .int (-1 : Int32)), (3, .int (0 : Int32))] rfl ⟨rfl, rfl, rfl, trivial⟩ ?_
          refine Go_seq (pcj := 85) (fun (b8 : MJ) => [(0, .ref 47), (2, .int (-1 : Int32))]) (fun (b8 : MJ) => []) (fun (b8 : MJ) => (hh X g b8)) (fun b8 => ?_) ?_
          ·
            refine Go_blk 2 (pc' := 87) (L' := [(3, .int (0 : Int32)), (0, .ref 47), (2, .int (-1 : Int32))]) (S' := []) (h' := (hh X g b8)) rfl ?_
            refine Go_lcs [(0, .ref 47), (2, .int (-1 : Int32)), (3, .int (0 : Int32))] rfl ⟨rfl, rfl, rfl, trivial⟩ ?_
            refine Go_seq (pcj := 139) (fun (b10 : Int32 × MJ) => [(2, .int b10.1)]) (fun (b10 : Int32 × MJ) => []) (fun (b10 : Int32 × MJ) => (hh X g b10.2)) (fun b10 => ?_) ?_
            ·
              refine Go_blk 1 (pc' := 140) (L' := [(2, .int b10.1)]) (S' := [.int b10.1]) (h' := (hh X g b10.2)) rfl ?_
              exact Go_ret (fun _ h => h) rfl
            ·
              refine Go_wh (fun (s9 : Int32 × Int32 × MJ) => [(0, .ref 47), (2, .int s9.1), (3, .int s9.2.1)]) (fun _ => []) (fun (s9 : Int32 × Int32 × MJ) => (hh X g s9.2.2)) (fun s9 => ?_) ((-1 : Int32), (0 : Int32), b8)
              refine Go_blk 7 (pc' := 96) (L' := [(0, .ref 47), (2, .int s9.1), (3, .int s9.2.1)]) (S' := [.int ((1 : Int32) <<< ((s9.2.2 51 0) &&& 31)), .int s9.2.1]) (h' := (hh X g s9.2.2)) rfl ?_
              refine Go_cmpn rfl rfl (ab_cge _ _) ?_ ?_
              ·
                refine Go_blk 2 (pc' := 101) (L' := [(0, .ref 47), (2, .int s9.1), (3, .int s9.2.1)]) (S' := [.int (-1 : Int32), .int s9.1]) (h' := (hh X g s9.2.2)) rfl ?_
                refine Go_seq (pcj := 133) (fun (b11 : Int32 × MJ) => [(0, .ref 47), (2, .int b11.1), (3, .int s9.2.1)]) (fun (b11 : Int32 × MJ) => []) (fun (b11 : Int32 × MJ) => (hh X g b11.2)) (fun b11 => ?_) ?_
                ·
                  refine Go_blk 2 (pc' := 87) (L' := [(3, .int (s9.2.1 + (1 : Int32))), (0, .ref 47), (2, .int b11.1)]) (S' := []) (h' := (hh X g b11.2)) rfl ?_
                  exact Go_jmp [(0, .ref 47), (2, .int b11.1), (3, .int (s9.2.1 + (1 : Int32)))] rfl ⟨rfl, rfl, rfl, trivial⟩ (fun _ h => h)
                ·
                  refine Go_cmp rfl rfl rfl ?_ ?_
                  ·
                    refine Go_blk 3 (pc' := 118) (L' := [(0, .ref 47), (2, .int s9.1), (3, .int s9.2.1)]) (S' := [.int s9.2.1, .int (0 : Int32), .ref 47]) (h' := (hh X g s9.2.2)) rfl ?_
                    refine Go_cW (y' := 356) (As := [.ref 47, .int (0 : Int32), .int s9.2.1]) (r := []) rfl (g_m_packs356 16 (0 : Int32) s9.2.1 (by omega)) fun w12 => ?_
                    refine Go_seq (pcj := 132) (fun (b13 : Int32) => [(0, .ref 47), (3, .int s9.2.1)]) (fun (b13 : Int32) => [.int b13]) (fun (b13 : Int32) => (hh X g w12.2)) (fun b13 => ?_) ?_
                    ·
                      refine Go_blk 1 (pc' := 133) (L' := [(2, .int b13), (0, .ref 47), (3, .int s9.2.1)]) (S' := []) (h' := (hh X g w12.2)) rfl ?_
                      exact Go_jmp [(0, .ref 47), (2, .int b13), (3, .int s9.2.1)] rfl ⟨rfl, rfl, rfl, trivial⟩ (fun _ h => h)
                    ·
                      refine Go_cmz rfl rfl rfl ?_ ?_
                      ·
                        refine Go_blk 1 (pc' := 132) (L' := [(0, .ref 47), (2, .int s9.1), (3, .int s9.2.1)]) (S' := [.int s9.1]) (h' := (hh X g w12.2)) rfl ?_
                        exact Go_jmp [(0, .ref 47), (3, .int s9.2.1)] rfl ⟨rfl, rfl, trivial⟩ (fun _ h => h)
                      ·
                        refine Go_blk 1 (pc' := 125) (L' := [(0, .ref 47), (2, .int s9.1), (3, .int s9.2.1)]) (S' := [.int s9.2.1]) (h' := (hh X g w12.2)) rfl ?_
                        refine Go_cR (y' := 355) (As := [.int s9.2.1]) (r := []) rfl (g_m_ones355 s9.2.1 (by omega)) fun v14 => ?_
                        refine Go_blk 1 (pc' := 132) (L' := [(0, .ref 47), (2, .int s9.1), (3, .int s9.2.1)]) (S' := [.int v14]) (h' := (hh X g w12.2)) rfl ?_
                        exact Go_jmp [(0, .ref 47), (3, .int s9.2.1)] rfl ⟨rfl, rfl, trivial⟩ (fun _ h => h)
                  ·
                    refine Go_blk 1 (pc' := 105) (L' := [(0, .ref 47), (2, .int s9.1), (3, .int s9.2.1)]) (S' := [.int s9.2.1]) (h' := (hh X g s9.2.2)) rfl ?_
                    refine Go_cR (y' := 355) (As := [.int s9.2.1]) (r := []) rfl (g_m_ones355 s9.2.1 (by omega)) fun v15 => ?_
                    refine Go_blk 1 (pc' := 109) (L' := [(0, .ref 47), (2, .int s9.1), (3, .int s9.2.1)]) (S' := [.int s9.1, .int v15]) (h' := (hh X g s9.2.2)) rfl ?_
                    refine Go_cmp rfl rfl rfl ?_ ?_
                    ·
                      refine Go_blk 3 (pc' := 118) (L' := [(0, .ref 47), (2, .int s9.1), (3, .int s9.2.1)]) (S' := [.int s9.2.1, .int (0 : Int32), .ref 47]) (h' := (hh X g s9.2.2)) rfl ?_
                      refine Go_cW (y' := 356) (As := [.ref 47, .int (0 : Int32), .int s9.2.1]) (r := []) rfl (g_m_packs356 16 (0 : Int32) s9.2.1 (by omega)) fun w16 => ?_
                      refine Go_seq (pcj := 132) (fun (b17 : Int32) => [(0, .ref 47), (3, .int s9.2.1)]) (fun (b17 : Int32) => [.int b17]) (fun (b17 : Int32) => (hh X g w16.2)) (fun b17 => ?_) ?_
                      ·
                        refine Go_blk 1 (pc' := 133) (L' := [(2, .int b17), (0, .ref 47), (3, .int s9.2.1)]) (S' := []) (h' := (hh X g w16.2)) rfl ?_
                        exact Go_jmp [(0, .ref 47), (2, .int b17), (3, .int s9.2.1)] rfl ⟨rfl, rfl, rfl, trivial⟩ (fun _ h => h)
                      ·
                        refine Go_cmz rfl rfl rfl ?_ ?_
                        ·
                          refine Go_blk 1 (pc' := 132) (L' := [(0, .ref 47), (2, .int s9.1), (3, .int s9.2.1)]) (S' := [.int s9.1]) (h' := (hh X g w16.2)) rfl ?_
                          exact Go_jmp [(0, .ref 47), (3, .int s9.2.1)] rfl ⟨rfl, rfl, trivial⟩ (fun _ h => h)
                        ·
                          refine Go_blk 1 (pc' := 125) (L' := [(0, .ref 47), (2, .int s9.1), (3, .int s9.2.1)]) (S' := [.int s9.2.1]) (h' := (hh X g w16.2)) rfl ?_
                          refine Go_cR (y' := 355) (As := [.int s9.2.1]) (r := []) rfl (g_m_ones355 s9.2.1 (by omega)) fun v18 => ?_
                          refine Go_blk 1 (pc' := 132) (L' := [(0, .ref 47), (2, .int s9.1), (3, .int s9.2.1)]) (S' := [.int v18]) (h' := (hh X g w16.2)) rfl ?_
                          exact Go_jmp [(0, .ref 47), (3, .int s9.2.1)] rfl ⟨rfl, rfl, trivial⟩ (fun _ h => h)
                    ·
                      refine Go_blk 1 (pc' := 133) (L' := [(0, .ref 47), (2, .int s9.1), (3, .int s9.2.1)]) (S' := []) (h' := (hh X g s9.2.2)) rfl ?_
                      exact Go_jmp [(0, .ref 47), (2, .int s9.1), (3, .int s9.2.1)] rfl ⟨rfl, rfl, rfl, trivial⟩ (fun _ h => h)
              ·
                exact Go_jmp [(2, .int s9.1)] rfl ⟨rfl, trivial⟩ (fun _ h => h)
          ·
            refine Go_wh (fun (s7 : Int32 × MJ) => [(0, .ref 47), (2, .int (-1 : Int32)), (3, .int s7.1)]) (fun _ => []) (fun (s7 : Int32 × MJ) => (hh X g s7.2)) (fun s7 => ?_) ((0 : Int32), w6.2)
            refine Go_blk 5 (pc' := 62) (L' := [(0, .ref 47), (2, .int (-1 : Int32)), (3, .int s7.1)]) (S' := [.int (s7.2 51 0), .int s7.1]) (h' := (hh X g s7.2)) rfl ?_
            refine Go_cmpn rfl rfl (ab_cge _ _) ?_ ?_
            ·
              refine Go_blk 8 (pc' := 77) (L' := [(0, .ref 47), (2, .int (-1 : Int32)), (3, .int s7.1)]) (S' := [.int ((0 : Int32) + s7.1), .ref 576, .int s7.1, .ref 696]) (h' := (hh X g s7.2)) rfl ?_
              refine Go_iald rfl fun v19 => ?_
              refine Go_iast rfl fun I20 => ?_
              refine Go_blk 2 (pc' := 55) (L' := [(3, .int (s7.1 + (1 : Int32))), (0, .ref 47), (2, .int (-1 : Int32))]) (S' := []) (h' := (hh X g I20)) rfl ?_
              exact Go_jmp [(0, .ref 47), (2, .int (-1 : Int32)), (3, .int (s7.1 + (1 : Int32)))] rfl ⟨rfl, rfl, rfl, trivial⟩ (fun _ h => h)
            ·
              exact Go_jmp [(0, .ref 47), (2, .int (-1 : Int32))] rfl ⟨rfl, rfl, trivial⟩ (fun _ h => h)
        ·
          refine Go_blk 1 (pc' := 50) (L' := [(0, .ref 47)]) (S' := [.int (0 : Int32)]) (h' := (hh X g w6.2)) rfl ?_
          exact Go_ret (fun _ h => h) rfl
      ·
        refine Go_cmzn rfl rfl rfl ?_ ?_
        ·
          refine Go_blk 2 (pc' := 41) (L' := [(0, .ref 47), (1, .int p1)]) (S' := [.int (1 : Int32), .ref 47]) (h' := (hh X g w4.2)) rfl ?_
          exact Go_jmp [(0, .ref 47)] rfl ⟨rfl, trivial⟩ (fun _ h => h)
        ·
          refine Go_blk 1 (pc' := 41) (L' := [(0, .ref 47), (1, .int p1)]) (S' := [.int (0 : Int32), .ref 47]) (h' := (hh X g w4.2)) rfl ?_
          exact Go_jmp [(0, .ref 47)] rfl ⟨rfl, trivial⟩ (fun _ h => h)
    ·
      refine Go_blk 1 (pc' := 50) (L' := [(0, .ref 47), (1, .int p1)]) (S' := [.int (0 : Int32)]) (h' := (hh X g w3.2)) rfl ?_
      exact Go_ret (fun _ h => h) rfl
  ·
    refine Go_cmzn rfl rfl rfl ?_ ?_
    ·
      refine Go_blk 2 (pc' := 19) (L' := [(0, .ref 47), (1, .int p1)]) (S' := [.int (1 : Int32), .ref 47]) (h' := (hh X g (ab_up1 I 47 0 (0 : Int32)))) rfl ?_
      exact Go_jmp [(0, .ref 47), (1, .int p1)] rfl ⟨rfl, rfl, trivial⟩ (fun _ h => h)
    ·
      refine Go_blk 1 (pc' := 19) (L' := [(0, .ref 47), (1, .int p1)]) (S' := [.int (0 : Int32), .ref 47]) (h' := (hh X g (ab_up1 I 47 0 (0 : Int32)))) rfl ?_
      exact Go_jmp [(0, .ref 47), (1, .int p1)] rfl ⟨rfl, rfl, trivial⟩ (fun _ h => h)
