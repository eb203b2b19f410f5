/-! the machine runs them (written by wip/whole/dec.py) -/
set_option maxRecDepth 1000000 in
set_option maxHeartbeats 4000000 in
theorem g_m_meanOf361 (p1 : Int32) {X : XX} {g : GG} {I : MJ} {d : Nat} (hd : 0 ≤ d) : Go d 361 0 (lv_args 0 [.ref 47, .int p1]) [] (hh X g I) (f_m_meanOf361 p1 I) (pL X g I) := by
  unfold f_m_meanOf361
  refine Go_blk 6 (pc' := 12) (L' := [(6, .int (2 : Int32)), (4, .long (10 : Int64)), (2, .long (45 : Int64)), (0, .ref 47), (1, .int p1)]) (S' := []) (h' := (hh X g I)) rfl ?_
  refine Go_lcs [(1, .int p1), (2, .long (45 : Int64)), (4, .long (10 : Int64)), (6, .int (2 : Int32))] rfl ⟨rfl, rfl, rfl, rfl, trivial⟩ ?_
  refine Go_seq (pcj := 80) (fun (b2 : Int64) => [(2, .long b2)]) (fun (b2 : Int64) => []) (fun (b2 : Int64) => (hh X g I)) (fun b2 => ?_) ?_
  ·
    refine Go_blk 1 (pc' := 81) (L' := [(2, .long b2)]) (S' := [.long b2]) (h' := (hh X g I)) rfl ?_
    exact Go_ret (fun _ h => h) rfl
  ·
    refine Go_wh (fun (s1 : Int64 × Int64 × Int32) => [(1, .int p1), (2, .long s1.1), (4, .long s1.2.1), (6, .int s1.2.2)]) (fun _ => []) (fun (s1 : Int64 × Int64 × Int32) => (hh X g I)) (fun s1 => ?_) ((45 : Int64), (10 : Int64), (2 : Int32))
    refine Go_blk 2 (pc' := 15) (L' := [(1, .int p1), (2, .long s1.1), (4, .long s1.2.1), (6, .int s1.2.2)]) (S' := [.int p1, .int s1.2.2]) (h' := (hh X g I)) rfl ?_
    refine Go_cmp rfl rfl rfl ?_ ?_
    ·
      exact Go_jmp [(2, .long s1.1)] rfl ⟨rfl, trivial⟩ (fun _ h => h)
    ·
      refine Go_blk 4 (pc' := 24) (L' := [(9, .int (0 : Int32)), (7, .long (0 : Int64)), (1, .int p1), (2, .long s1.1), (4, .long s1.2.1), (6, .int s1.2.2)]) (S' := []) (h' := (hh X g I)) rfl ?_
      refine Go_lcs [(1, .int p1), (2, .long s1.1), (4, .long s1.2.1), (6, .int s1.2.2), (7, .long (0 : Int64)), (9, .int (0 : Int32))] rfl ⟨rfl, rfl, rfl, rfl, rfl, rfl, trivial⟩ ?_
      refine Go_seq (pcj := 63) (fun (b4 : Int64) => [(1, .int p1), (4, .long s1.2.1), (6, .int s1.2.2), (7, .long b4)]) (fun (b4 : Int64) => []) (fun (b4 : Int64) => (hh X g I)) (fun b4 => ?_) ?_
      ·
        refine Go_blk 8 (pc' := 12) (L' := [(6, .int (s1.2.2 + (1 : Int32))), (4, .long (s1.2.1 * (10 : Int64))), (2, .long b4), (1, .int p1), (7, .long b4)]) (S' := []) (h' := (hh X g I)) rfl ?_
        exact Go_jmp [(1, .int p1), (2, .long b4), (4, .long (s1.2.1 * (10 : Int64))), (6, .int (s1.2.2 + (1 : Int32)))] rfl ⟨rfl, rfl, rfl, rfl, trivial⟩ (fun _ h => h)
      ·
        refine Go_wh (fun (s3 : Int64 × Int32) => [(1, .int p1), (2, .long s1.1), (4, .long s1.2.1), (6, .int s1.2.2), (7, .long s3.1), (9, .int s3.2)]) (fun _ => []) (fun (s3 : Int64 × Int32) => (hh X g I)) (fun s3 => ?_) ((0 : Int64), (0 : Int32))
        refine Go_blk 2 (pc' := 28) (L' := [(1, .int p1), (2, .long s1.1), (4, .long s1.2.1), (6, .int s1.2.2), (7, .long s3.1), (9, .int s3.2)]) (S' := [.int (10 : Int32), .int s3.2]) (h' := (hh X g I)) rfl ?_
        refine Go_cmpn rfl rfl (ab_cge _ _) ?_ ?_
        ·
          refine Go_blk 7 (pc' := 41) (L' := [(1, .int p1), (2, .long s1.1), (4, .long s1.2.1), (6, .int s1.2.2), (7, .long s3.1), (9, .int s3.2)]) (S' := [.int (lg_cmp ((s3.2.toInt64) * s1.2.1) s1.1), .long s3.1]) (h' := (hh X g I)) rfl ?_
          refine Go_seq (pcj := 54) (fun (b5 : Int64) => [(1, .int p1), (2, .long s1.1), (4, .long s1.2.1), (6, .int s1.2.2), (9, .int s3.2)]) (fun (b5 : Int64) => [.long b5, .long s3.1]) (fun (b5 : Int64) => (hh X g I)) (fun b5 => ?_) ?_
          ·
            refine Go_blk 4 (pc' := 24) (L' := [(9, .int (s3.2 + (1 : Int32))), (7, .long (s3.1 + b5)), (1, .int p1), (2, .long s1.1), (4, .long s1.2.1), (6, .int s1.2.2)]) (S' := []) (h' := (hh X g I)) rfl ?_
            exact Go_jmp [(1, .int p1), (2, .long s1.1), (4, .long s1.2.1), (6, .int s1.2.2), (7, .long (s3.1 + b5)), (9, .int (s3.2 + (1 : Int32)))] rfl ⟨rfl, rfl, rfl, rfl, rfl, rfl, trivial⟩ (fun _ h => h)
          ·
            refine Go_cmzn rfl rfl (ab_cge0 _) ?_ ?_
            ·
              refine Go_blk 5 (pc' := 54) (L' := [(1, .int p1), (2, .long s1.1), (4, .long s1.2.1), (6, .int s1.2.2), (7, .long s3.1), (9, .int s3.2)]) (S' := [.long ((s3.2.toInt64) * s1.2.1), .long s3.1]) (h' := (hh X g I)) rfl ?_
              exact Go_jmp [(1, .int p1), (2, .long s1.1), (4, .long s1.2.1), (6, .int s1.2.2), (9, .int s3.2)] rfl ⟨rfl, rfl, rfl, rfl, rfl, trivial⟩ (fun _ h => h)
            ·
              refine Go_blk 1 (pc' := 54) (L' := [(1, .int p1), (2, .long s1.1), (4, .long s1.2.1), (6, .int s1.2.2), (7, .long s3.1), (9, .int s3.2)]) (S' := [.long s1.1, .long s3.1]) (h' := (hh X g I)) rfl ?_
              exact Go_jmp [(1, .int p1), (2, .long s1.1), (4, .long s1.2.1), (6, .int s1.2.2), (9, .int s3.2)] rfl ⟨rfl, rfl, rfl, rfl, rfl, trivial⟩ (fun _ h => h)
        ·
          exact Go_jmp [(1, .int p1), (4, .long s1.2.1), (6, .int s1.2.2), (7, .long s3.1)] rfl ⟨rfl, rfl, rfl, rfl, trivial⟩ (fun _ h => h)
set_option maxRecDepth 1000000 in
set_option maxHeartbeats 4000000 in
theorem g_m_tens362 (p0 : Int32) {X : XX} {g : GG} {I : MJ} {d : Nat} (hd : 0 ≤ d) : Go d 362 0 (lv_args 0 [.int p0]) [] (hh X g I) (f_m_tens362 p0 I) (pL X g I) := by
  unfold f_m_tens362
  refine Go_blk 4 (pc' := 4) (L' := [(3, .int (0 : Int32)), (1, .long (1 : Int64)), (0, .int p0)]) (S' := []) (h' := (hh X g I)) rfl ?_
  refine Go_lcs [(0, .int p0), (1, .long (1 : Int64)), (3, .int (0 : Int32))] rfl ⟨rfl, rfl, rfl, trivial⟩ ?_
  refine Go_seq (pcj := 21) (fun (b2 : Int64) => [(1, .long b2)]) (fun (b2 : Int64) => []) (fun (b2 : Int64) => (hh X g I)) (fun b2 => ?_) ?_
  ·
    refine Go_blk 1 (pc' := 22) (L' := [(1, .long b2)]) (S' := [.long b2]) (h' := (hh X g I)) rfl ?_
    exact Go_ret (fun _ h => h) rfl
  ·
    refine Go_wh (fun (s1 : Int64 × Int32) => [(0, .int p0), (1, .long s1.1), (3, .int s1.2)]) (fun _ => []) (fun (s1 : Int64 × Int32) => (hh X g I)) (fun s1 => ?_) ((1 : Int64), (0 : Int32))
    refine Go_blk 2 (pc' := 6) (L' := [(0, .int p0), (1, .long s1.1), (3, .int s1.2)]) (S' := [.int p0, .int s1.2]) (h' := (hh X g I)) rfl ?_
    refine Go_cmpn rfl rfl (ab_cge _ _) ?_ ?_
    ·
      refine Go_blk 6 (pc' := 4) (L' := [(3, .int (s1.2 + (1 : Int32))), (1, .long (s1.1 * (10 : Int64))), (0, .int p0)]) (S' := []) (h' := (hh X g I)) rfl ?_
      exact Go_jmp [(0, .int p0), (1, .long (s1.1 * (10 : Int64))), (3, .int (s1.2 + (1 : Int32)))] rfl ⟨rfl, rfl, rfl, trivial⟩ (fun _ h => h)
    ·
      exact Go_jmp [(1, .long s1.1)] rfl ⟨rfl, trivial⟩ (fun _ h => h)
set_option maxRecDepth 1000000 in
set_option maxHeartbeats 4000000 in
theorem g_m_offers360 (p1 : Int32) (p2 : Int32) {X : XX} {g : GG} {I : MJ} {d : Nat} (hd : 1 ≤ d) : Go d 360 0 (lv_args 0 [.ref 47, .int p1, .int p2]) [] (hh X g I) (f_m_offers360 p1 p2 I) (pWJ X g) := by
  obtain ⟨d, rfl⟩ : ∃ k, d = k + 1 := ⟨d - 1, by omega⟩
  unfold f_m_offers360
  refine Go_blk 7 (pc' := 10) (L' := [(0, .ref 47), (1, .int p1), (2, .int p2)]) (S' := [.int (8 : Int32), .int (1 : Int32), .int p1, .ref 47]) (h' := (hh X g (ab_up1 I 47 0 (0 : Int32)))) rfl ?_
  refine Go_cR (y' := 264) (As := [.int p1, .int (1 : Int32), .int (8 : Int32)]) (r := [.ref 47]) rfl (g_m_in264 p1 (1 : Int32) (8 : Int32) (by omega)) fun v1 => ?_
  refine Go_seq (pcj := 30) (fun (b2 : Int32) => [(0, .ref 47), (1, .int p1), (2, .int p2)]) (fun (b2 : Int32) => [.int b2, .ref 47]) (fun (b2 : Int32) => (hh X g (ab_up1 I 47 0 (0 : Int32)))) (fun b2 => ?_) ?_
  ·
    refine Go_blk 2 (pc' := 32) (L' := [(0, .ref 47), (1, .int p1), (2, .int p2)]) (S' := [.int (1 : Int32), .int (1 : Int32), .int b2, .ref 47]) (h' := (hh X g (ab_up1 I 47 0 (0 : Int32)))) rfl ?_
    refine Go_cW (y' := 268) (As := [.ref 47, .int b2, .int (1 : Int32), .int (1 : Int32)]) (r := []) rfl (g_m_bad268 b2 (1 : Int32) (1 : Int32) (by omega)) fun w3 => ?_
    refine Go_cmz rfl rfl rfl ?_ ?_
    ·
      refine Go_blk 2 (pc' := 42) (L' := [(0, .ref 47), (1, .int p1), (2, .int p2)]) (S' := [.int p1, .ref 47]) (h' := (hh X g w3.2)) rfl ?_
      refine Go_cJ (y' := 361) (As := [.ref 47, .int p1]) (r := []) rfl (g_m_meanOf361 p1 (by omega)) fun v4 => ?_
      refine Go_blk 4 (pc' := 50) (L' := [(5, .long v4), (3, .long v4), (0, .ref 47), (1, .int p1), (2, .int p2)]) (S' := [.int p1]) (h' := (hh X g w3.2)) rfl ?_
      refine Go_cJ (y' := 362) (As := [.int p1]) (r := []) rfl (g_m_tens362 p1 (by omega)) fun v5 => ?_
      refine Go_blk 1 (pc' := 55) (L' := [(7, .long v5), (5, .long v4), (3, .long v4), (0, .ref 47), (1, .int p1), (2, .int p2)]) (S' := []) (h' := (hh X g w3.2)) rfl ?_
      refine Go_lcs [(1, .int p1), (2, .int p2), (3, .long v4), (5, .long v4), (7, .long v5)] rfl ⟨rfl, rfl, rfl, rfl, rfl, trivial⟩ ?_
      refine Go_seq (pcj := 80) (fun (b7 : Int64) => [(1, .int p1), (2, .int p2), (3, .long v4), (5, .long b7)]) (fun (b7 : Int64) => []) (fun (b7 : Int64) => (hh X g w3.2)) (fun b7 => ?_) ?_
      ·
        refine Go_blk 1 (pc' := 81) (L' := [(1, .int p1), (2, .int p2), (3, .long v4), (5, .long b7)]) (S' := [.int p2]) (h' := (hh X g w3.2)) rfl ?_
        refine Go_seq (pcj := 98) (fun (b8 : Int64) => []) (fun (b8 : Int64) => [.long b8]) (fun (b8 : Int64) => (hh X g w3.2)) (fun b8 => ?_) ?_
        ·
          exact Go_ret (fun _ h => h) rfl
        ·
          refine Go_cmzn rfl rfl rfl ?_ ?_
          ·
            refine Go_blk 2 (pc' := 87) (L' := [(1, .int p1), (2, .int p2), (3, .long v4), (5, .long b7)]) (S' := [.long b7, .long v4]) (h' := (hh X g w3.2)) rfl ?_
            refine Go_ldiv rfl fun v9 => ?_
            refine Go_blk 1 (pc' := 98) (L' := [(1, .int p1), (2, .int p2), (3, .long v4), (5, .long b7)]) (S' := [.long v9]) (h' := (hh X g w3.2)) rfl ?_
            exact Go_jmp [] rfl trivial (fun _ h => h)
          ·
            refine Go_blk 1 (pc' := 92) (L' := [(1, .int p1), (2, .int p2), (3, .long v4), (5, .long b7)]) (S' := [.int p1]) (h' := (hh X g w3.2)) rfl ?_
            refine Go_cJ (y' := 362) (As := [.int p1]) (r := []) rfl (g_m_tens362 p1 (by omega)) fun v10 => ?_
            refine Go_blk 1 (pc' := 97) (L' := [(1, .int p1), (2, .int p2), (3, .long v4), (5, .long b7)]) (S' := [.long b7, .long v10]) (h' := (hh X g w3.2)) rfl ?_
            refine Go_ldiv rfl fun v11 => ?_
            exact Go_jmp [] rfl trivial (fun _ h => h)
      ·
        refine Go_wh (fun (s6 : Int64 × Int64) => [(1, .int p1), (2, .int p2), (3, .long v4), (5, .long s6.1), (7, .long s6.2)]) (fun _ => []) (fun (s6 : Int64 × Int64) => (hh X g w3.2)) (fun s6 => ?_) (v4, v5)
        refine Go_blk 3 (pc' := 59) (L' := [(1, .int p1), (2, .int p2), (3, .long v4), (5, .long s6.1), (7, .long s6.2)]) (S' := [.int (lg_cmp s6.2 (0 : Int64))]) (h' := (hh X g w3.2)) rfl ?_
        refine Go_cmz rfl rfl rfl ?_ ?_
        ·
          exact Go_jmp [(1, .int p1), (2, .int p2), (3, .long v4), (5, .long s6.1)] rfl ⟨rfl, rfl, rfl, rfl, trivial⟩ (fun _ h => h)
        ·
          refine Go_blk 2 (pc' := 66) (L' := [(1, .int p1), (2, .int p2), (3, .long v4), (5, .long s6.1), (7, .long s6.2)]) (S' := [.long s6.2, .long s6.1]) (h' := (hh X g w3.2)) rfl ?_
          refine Go_lrem rfl fun v12 => ?_
          refine Go_blk 6 (pc' := 55) (L' := [(7, .long v12), (5, .long s6.2), (9, .long v12), (1, .int p1), (2, .int p2), (3, .long v4)]) (S' := []) (h' := (hh X g w3.2)) rfl ?_
          exact Go_jmp [(1, .int p1), (2, .int p2), (3, .long v4), (5, .long s6.2), (7, .long v12)] rfl ⟨rfl, rfl, rfl, rfl, rfl, trivial⟩ (fun _ h => h)
    ·
      refine Go_blk 1 (pc' := 39) (L' := [(0, .ref 47), (1, .int p1), (2, .int p2)]) (S' := [.long (0 : Int64)]) (h' := (hh X g w3.2)) rfl ?_
      exact Go_ret (fun _ h => h) rfl
  ·
    refine Go_cmz rfl rfl rfl ?_ ?_
    ·
      refine Go_blk 2 (pc' := 30) (L' := [(0, .ref 47), (1, .int p1), (2, .int p2)]) (S' := [.int (1 : Int32), .ref 47]) (h' := (hh X g (ab_up1 I 47 0 (0 : Int32)))) rfl ?_
      exact Go_jmp [(0, .ref 47), (1, .int p1), (2, .int p2)] rfl ⟨rfl, rfl, rfl, trivial⟩ (fun _ h => h)
    ·
      refine Go_blk 3 (pc' := 19) (L' := [(0, .ref 47), (1, .int p1), (2, .int p2)]) (S' := [.int (1 : Int32), .int (0 : Int32), .int p2, .ref 47]) (h' := (hh X g (ab_up1 I 47 0 (0 : Int32)))) rfl ?_
      refine Go_cR (y' := 264) (As := [.int p2, .int (0 : Int32), .int (1 : Int32)]) (r := [.ref 47]) rfl (g_m_in264 p2 (0 : Int32) (1 : Int32) (by omega)) fun v13 => ?_
      refine Go_cmzn rfl rfl rfl ?_ ?_
      ·
        refine Go_blk 2 (pc' := 30) (L' := [(0, .ref 47), (1, .int p1), (2, .int p2)]) (S' := [.int (1 : Int32), .ref 47]) (h' := (hh X g (ab_up1 I 47 0 (0 : Int32)))) rfl ?_
        exact Go_jmp [(0, .ref 47), (1, .int p1), (2, .int p2)] rfl ⟨rfl, rfl, rfl, trivial⟩ (fun _ h => h)
      ·
        refine Go_blk 1 (pc' := 30) (L' := [(0, .ref 47), (1, .int p1), (2, .int p2)]) (S' := [.int (0 : Int32), .ref 47]) (h' := (hh X g (ab_up1 I 47 0 (0 : Int32)))) rfl ?_
        exact Go_jmp [(0, .ref 47), (1, .int p1), (2, .int p2)] rfl ⟨rfl, rfl, rfl, trivial⟩ (fun _ h => h)
set_option maxRecDepth 1000000 in
set_option maxHeartbeats 4000000 in
theorem g_x_line228 (p1 : Int32) {X : XX} {g : GG} {I : MJ} {d : Nat} (hd : 2 ≤ d) : Go d 228 0 (lv_args 0 [.ref 0, .int p1]) [] (hh X g I) (f_x_line228 p1 I) (pT vI X g) := by
  obtain ⟨d, rfl⟩ : ∃ k, d = k + 1 := ⟨d - 1, by omega⟩
  unfold f_x_line228
  refine Go_blk 4 (pc' := 5) (L' := [(0, .ref 0), (1, .int p1)]) (S' := [.int (8 : Int32), .int (1 : Int32), .int p1, .ref 0]) (h' := (hh X g I)) rfl ?_
  refine Go_cT (y' := 38) (As := [.ref 0, .int p1, .int (1 : Int32), .int (8 : Int32)]) (r := []) rfl rfl (g_x_needWithin38 p1 (1 : Int32) (8 : Int32) (by omega)) fun v1 I2 => ?_
  refine Go_blk 2 (pc' := 10) (L' := [(0, .ref 0), (1, .int p1)]) (S' := [.int (1 : Int32), .int p1]) (h' := (hh X g I2)) rfl ?_
  refine Go_seq (pcj := 35) (fun (b3 : Int32) => []) (fun (b3 : Int32) => [.int b3]) (fun (b3 : Int32) => (hh X g I2)) (fun b3 => ?_) ?_
  ·
    exact Go_ret (fun _ h => h) rfl
  ·
    refine Go_cmpn rfl rfl rfl ?_ ?_
    ·
      refine Go_blk 2 (pc' := 35) (L' := [(0, .ref 0), (1, .int p1)]) (S' := [.int (9 : Int32)]) (h' := (hh X g I2)) rfl ?_
      exact Go_jmp [] rfl trivial (fun _ h => h)
    ·
      refine Go_blk 4 (pc' := 22) (L' := [(0, .ref 0), (1, .int p1)]) (S' := [.int (0 : Int32), .int (p1 - (1 : Int32))]) (h' := (hh X g I2)) rfl ?_
      refine Go_cJ (y' := 224) (As := [.int (p1 - (1 : Int32)), .int (0 : Int32)]) (r := []) rfl (g_x_meanPrice224 (p1 - (1 : Int32)) (0 : Int32) (by omega)) fun v4 => ?_
      refine Go_blk 4 (pc' := 29) (L' := [(0, .ref 0), (1, .int p1)]) (S' := [.int (1 : Int32), .int (p1 - (1 : Int32)), .long v4]) (h' := (hh X g I2)) rfl ?_
      refine Go_cJ (y' := 224) (As := [.int (p1 - (1 : Int32)), .int (1 : Int32)]) (r := [.long v4]) rfl (g_x_meanPrice224 (p1 - (1 : Int32)) (1 : Int32) (by omega)) fun v5 => ?_
      refine Go_cR (y' := 225) (As := [.long v4, .long v5]) (r := []) rfl (g_x_wholeOf225 v4 v5 (by omega)) fun v6 => ?_
      exact Go_jmp [] rfl trivial (fun _ h => h)
set_option maxRecDepth 1000000 in
set_option maxHeartbeats 4000000 in
theorem g_l_line227 (p1 : Int32) {X : XX} {g : GG} {I : MJ} {d : Nat} (hd : 3 ≤ d) : Go d 227 0 (lv_args 0 [.ref 0, .int p1, .ref 698]) [] (hh X g I) (f_l_line227 p1 I g) (pG X) := by
  obtain ⟨d, rfl⟩ : ∃ k, d = k + 1 := ⟨d - 1, by omega⟩
  unfold f_l_line227
  refine Go_blk 4 (pc' := 4) (L' := [(0, .ref 0), (1, .int p1), (2, .ref 698)]) (S' := [.int p1, .ref 0, .int (0 : Int32), .ref 698]) (h' := (hh X g I)) rfl ?_
  refine Go_try (y' := 228) (As := [.ref 0, .int p1]) (r := [.int (0 : Int32), .ref 698]) rfl (g_x_line228 p1 (by omega)) (fun v1 I2 => ?_) (fun E2 I2 => ?_)
  ·
    refine Go_blk 1 (pc' := 8) (L' := [(0, .ref 0), (1, .int p1), (2, .ref 698)]) (S' := [.long (v1.toInt64), .int (0 : Int32), .ref 698]) (h' := (hh X g I2)) rfl ?_
    refine Go_last rfl fun g3 => ?_
    refine Go_blk 2 (pc' := 16) (L' := [(0, .ref 0), (1, .int p1), (2, .ref 698)]) (S' := [.int (0 : Int32)]) (h' := (hh X g3 I2)) rfl ?_
    exact Go_ret (fun _ h => h) rfl
  ·
    refine GX_ite ?_ ?_
    ·
      refine GX_go rfl (t := 13) (k := 3) rfl ?_
      refine Go_blk 1 (pc' := 14) (L' := [(0, .ref 0), (1, .int p1), (2, .ref 698)]) (S' := [.int (1 : Int32)]) (h' := (hh X (thr g) I2)) rfl ?_
      exact Go_ret (fun _ h => h) rfl
    exact GX_none
set_option maxRecDepth 1000000 in
set_option maxHeartbeats 4000000 in
theorem g_m_line363 (p1 : Int32) {X : XX} {g : GG} {I : MJ} {d : Nat} (hd : 1 ≤ d) : Go d 363 0 (lv_args 0 [.ref 47, .int p1]) [] (hh X g I) (f_m_line363 p1 I) (pW X g) := by
  obtain ⟨d, rfl⟩ : ∃ k, d = k + 1 := ⟨d - 1, by omega⟩
  unfold f_m_line363
  refine Go_blk 7 (pc' := 10) (L' := [(0, .ref 47), (1, .int p1)]) (S' := [.int (8 : Int32), .int (1 : Int32), .int p1, .ref 47]) (h' := (hh X g (ab_up1 I 47 0 (0 : Int32)))) rfl ?_
  refine Go_cR (y' := 264) (As := [.int p1, .int (1 : Int32), .int (8 : Int32)]) (r := [.ref 47]) rfl (g_m_in264 p1 (1 : Int32) (8 : Int32) (by omega)) fun v1 => ?_
  refine Go_seq (pcj := 21) (fun (b2 : Int32) => [(0, .ref 47), (1, .int p1)]) (fun (b2 : Int32) => [.int b2, .ref 47]) (fun (b2 : Int32) => (hh X g (ab_up1 I 47 0 (0 : Int32)))) (fun b2 => ?_) ?_
  ·
    refine Go_blk 2 (pc' := 23) (L' := [(0, .ref 47), (1, .int p1)]) (S' := [.int (1 : Int32), .int (1 : Int32), .int b2, .ref 47]) (h' := (hh X g (ab_up1 I 47 0 (0 : Int32)))) rfl ?_
    refine Go_cW (y' := 268) (As := [.ref 47, .int b2, .int (1 : Int32), .int (1 : Int32)]) (r := []) rfl (g_m_bad268 b2 (1 : Int32) (1 : Int32) (by omega)) fun w3 => ?_
    refine Go_cmz rfl rfl rfl ?_ ?_
    ·
      refine Go_blk 2 (pc' := 33) (L' := [(0, .ref 47), (1, .int p1)]) (S' := [.int (1 : Int32), .int p1]) (h' := (hh X g w3.2)) rfl ?_
      refine Go_seq (pcj := 56) (fun (b4 : Int32) => []) (fun (b4 : Int32) => [.int b4]) (fun (b4 : Int32) => (hh X g w3.2)) (fun b4 => ?_) ?_
      ·
        exact Go_ret (fun _ h => h) rfl
      ·
        refine Go_cmpn rfl rfl rfl ?_ ?_
        ·
          refine Go_blk 2 (pc' := 56) (L' := [(0, .ref 47), (1, .int p1)]) (S' := [.int (9 : Int32)]) (h' := (hh X g w3.2)) rfl ?_
          exact Go_jmp [] rfl trivial (fun _ h => h)
        ·
          refine Go_blk 4 (pc' := 45) (L' := [(0, .ref 47), (1, .int p1)]) (S' := [.int (p1 - (1 : Int32)), .ref 47]) (h' := (hh X g w3.2)) rfl ?_
          refine Go_cJ (y' := 361) (As := [.ref 47, .int (p1 - (1 : Int32))]) (r := []) rfl (g_m_meanOf361 (p1 - (1 : Int32)) (by omega)) fun v5 => ?_
          refine Go_blk 3 (pc' := 51) (L' := [(0, .ref 47), (1, .int p1)]) (S' := [.int (p1 - (1 : Int32)), .long v5]) (h' := (hh X g w3.2)) rfl ?_
          refine Go_cJ (y' := 362) (As := [.int (p1 - (1 : Int32))]) (r := [.long v5]) rfl (g_m_tens362 (p1 - (1 : Int32)) (by omega)) fun v6 => ?_
          refine Go_ldiv rfl fun v7 => ?_
          refine Go_blk 1 (pc' := 56) (L' := [(0, .ref 47), (1, .int p1)]) (S' := [.int (v7.toInt32)]) (h' := (hh X g w3.2)) rfl ?_
          exact Go_jmp [] rfl trivial (fun _ h => h)
    ·
      refine Go_blk 1 (pc' := 30) (L' := [(0, .ref 47), (1, .int p1)]) (S' := [.int (0 : Int32)]) (h' := (hh X g w3.2)) rfl ?_
      exact Go_ret (fun _ h => h) rfl
  ·
    refine Go_cmzn rfl rfl rfl ?_ ?_
    ·
      refine Go_blk 2 (pc' := 21) (L' := [(0, .ref 47), (1, .int p1)]) (S' := [.int (1 : Int32), .ref 47]) (h' := (hh X g (ab_up1 I 47 0 (0 : Int32)))) rfl ?_
      exact Go_jmp [(0, .ref 47), (1, .int p1)] rfl ⟨rfl, rfl, trivial⟩ (fun _ h => h)
    ·
      refine Go_blk 1 (pc' := 21) (L' := [(0, .ref 47), (1, .int p1)]) (S' := [.int (0 : Int32), .ref 47]) (h' := (hh X g (ab_up1 I 47 0 (0 : Int32)))) rfl ?_
      exact Go_jmp [(0, .ref 47), (1, .int p1)] rfl ⟨rfl, rfl, trivial⟩ (fun _ h => h)
set_option maxRecDepth 1000000 in
set_option maxHeartbeats 4000000 in
theorem g_boo_kindLater28 (p1 : Int32) (p2 : Int32) (p3 : Int32) {X : XX} {g : GG} {I : MJ} {d : Nat} (hd : 1 ≤ d) : Go d 28 0 (lv_args 0 [.ref 19, .int p1, .int p2, .int p3]) [] (hh X g I) (f_boo_kindLater28 p1 p2 p3 I) (pR X g I) := by
  obtain ⟨d, rfl⟩ : ∃ k, d = k + 1 := ⟨d - 1, by omega⟩
  unfold f_boo_kindLater28
  refine Go_blk 13 (pc' := 18) (L' := [(0, .ref 19), (1, .int p1), (2, .int p2), (3, .int p3)]) (S' := [.int (((12 : Int32) * p1) + (((p2 + (12 : Int32)) - p3) - ((p2 + (12 : Int32)) - p3) / (12 : Int32) * (12 : Int32))), .ref 20]) (h' := (hh X g I)) rfl ?_
  refine Go_cR (y' := 16) (As := [.ref 20, .int (((12 : Int32) * p1) + (((p2 + (12 : Int32)) - p3) - ((p2 + (12 : Int32)) - p3) / (12 : Int32) * (12 : Int32)))]) (r := []) rfl (g_x_at16 20 (((12 : Int32) * p1) + (((p2 + (12 : Int32)) - p3) - ((p2 + (12 : Int32)) - p3) / (12 : Int32) * (12 : Int32))) (by omega)) fun v1 => ?_
  exact Go_ret (fun _ h => h) rfl
set_option maxRecDepth 1000000 in
set_option maxHeartbeats 4000000 in
theorem g_boo_isSo27 (p2 : Int32) (p3 : Int32) {X : XX} {g : GG} {I : MJ} {d : Nat} (hd : 2 ≤ d) : Go d 27 0 (lv_args 0 [.ref 35, .ref 19, .int p2, .int p3]) [] (hh X g I) (f_boo_isSo27 p2 p3 I) (pR X g I) := by
  obtain ⟨d, rfl⟩ : ∃ k, d = k + 1 := ⟨d - 1, by omega⟩
  unfold f_boo_isSo27
  refine Go_blk 2 (pc' := 3) (L' := [(4, .int (0 : Int32)), (0, .ref 35), (1, .ref 19), (2, .int p2), (3, .int p3)]) (S' := []) (h' := (hh X g I)) rfl ?_
  refine Go_lcs [(0, .ref 35), (1, .ref 19), (2, .int p2), (3, .int p3), (4, .int (0 : Int32))] rfl ⟨rfl, rfl, rfl, rfl, rfl, trivial⟩ ?_
  refine Go_wh (fun (s1 : Int32) => [(0, .ref 35), (1, .ref 19), (2, .int p2), (3, .int p3), (4, .int s1)]) (fun _ => []) (fun (s1 : Int32) => (hh X g I)) (fun s1 => ?_) (0 : Int32)
  refine Go_blk 2 (pc' := 7) (L' := [(0, .ref 35), (1, .ref 19), (2, .int p2), (3, .int p3), (4, .int s1)]) (S' := [.int (12 : Int32), .int s1]) (h' := (hh X g I)) rfl ?_
  refine Go_cmpn rfl rfl (ab_cge _ _) ?_ ?_
  ·
    refine Go_blk 3 (pc' := 16) (L' := [(0, .ref 35), (1, .ref 19), (2, .int p2), (3, .int p3), (4, .int s1)]) (S' := [.int s1, .ref 36]) (h' := (hh X g I)) rfl ?_
    refine Go_cR (y' := 16) (As := [.ref 36, .int s1]) (r := []) rfl (g_x_at16 36 s1 (by omega)) fun v2 => ?_
    refine Go_blk 3 (pc' := 24) (L' := [(5, .int v2), (0, .ref 35), (1, .ref 19), (2, .int p2), (3, .int p3), (4, .int s1)]) (S' := [.int (-1 : Int32), .int v2]) (h' := (hh X g I)) rfl ?_
    refine Go_cmp rfl rfl rfl ?_ ?_
    ·
      refine Go_blk 2 (pc' := 3) (L' := [(4, .int (s1 + (1 : Int32))), (5, .int v2), (0, .ref 35), (1, .ref 19), (2, .int p2), (3, .int p3)]) (S' := []) (h' := (hh X g I)) rfl ?_
      exact Go_jmp [(0, .ref 35), (1, .ref 19), (2, .int p2), (3, .int p3), (4, .int (s1 + (1 : Int32)))] rfl ⟨rfl, rfl, rfl, rfl, rfl, trivial⟩ (fun _ h => h)
    ·
      refine Go_blk 5 (pc' := 34) (L' := [(5, .int v2), (0, .ref 35), (1, .ref 19), (2, .int p2), (3, .int p3), (4, .int s1)]) (S' := [.int p3, .int s1, .int p2, .ref 19, .int v2]) (h' := (hh X g I)) rfl ?_
      refine Go_cR (y' := 28) (As := [.ref 19, .int p2, .int s1, .int p3]) (r := [.int v2]) rfl (g_boo_kindLater28 p2 s1 p3 (by omega)) fun v3 => ?_
      refine Go_cmp rfl rfl rfl ?_ ?_
      ·
        refine Go_blk 2 (pc' := 3) (L' := [(4, .int (s1 + (1 : Int32))), (5, .int v2), (0, .ref 35), (1, .ref 19), (2, .int p2), (3, .int p3)]) (S' := []) (h' := (hh X g I)) rfl ?_
        exact Go_jmp [(0, .ref 35), (1, .ref 19), (2, .int p2), (3, .int p3), (4, .int (s1 + (1 : Int32)))] rfl ⟨rfl, rfl, rfl, rfl, rfl, trivial⟩ (fun _ h => h)
      ·
        refine Go_inrS ?_
        refine Go_blk 1 (pc' := 41) (L' := [(5, .int v2), (0, .ref 35), (1, .ref 19), (2, .int p2), (3, .int p3), (4, .int s1)]) (S' := [.int (0 : Int32)]) (h' := (hh X g I)) rfl ?_
        exact Go_ret (fun _ h => h) rfl
  ·
    refine Go_inrS ?_
    refine Go_blk 1 (pc' := 49) (L' := [(0, .ref 35), (1, .ref 19), (2, .int p2), (3, .int p3), (4, .int s1)]) (S' := [.int (1 : Int32)]) (h' := (hh X g I)) rfl ?_
    exact Go_ret (fun _ h => h) rfl
set_option maxRecDepth 1000000 in
set_option maxHeartbeats 4000000 in
theorem g_boo_skiesOf24 (p2 : Int32) {X : XX} {g : GG} {I : MJ} {d : Nat} (hd : 3 ≤ d) : Go d 24 0 (lv_args 0 [.ref 35, .ref 19, .int p2]) [] (hh X g I) (f_boo_skiesOf24 p2 I) (pR X g I) := by
  obtain ⟨d, rfl⟩ : ∃ k, d = k + 1 := ⟨d - 1, by omega⟩
  unfold f_boo_skiesOf24
  refine Go_blk 4 (pc' := 5) (L' := [(4, .int (0 : Int32)), (3, .int (0 : Int32)), (0, .ref 35), (1, .ref 19), (2, .int p2)]) (S' := []) (h' := (hh X g I)) rfl ?_
  refine Go_lcs [(0, .ref 35), (1, .ref 19), (2, .int p2), (3, .int (0 : Int32)), (4, .int (0 : Int32))] rfl ⟨rfl, rfl, rfl, rfl, rfl, trivial⟩ ?_
  refine Go_seq (pcj := 48) (fun (b2 : Int32) => [(3, .int b2)]) (fun (b2 : Int32) => []) (fun (b2 : Int32) => (hh X g I)) (fun b2 => ?_) ?_
  ·
    refine Go_blk 1 (pc' := 49) (L' := [(3, .int b2)]) (S' := [.int b2]) (h' := (hh X g I)) rfl ?_
    exact Go_ret (fun _ h => h) rfl
  ·
    refine Go_wh (fun (s1 : Int32 × Int32) => [(0, .ref 35), (1, .ref 19), (2, .int p2), (3, .int s1.1), (4, .int s1.2)]) (fun _ => []) (fun (s1 : Int32 × Int32) => (hh X g I)) (fun s1 => ?_) ((0 : Int32), (0 : Int32))
    refine Go_blk 2 (pc' := 9) (L' := [(0, .ref 35), (1, .ref 19), (2, .int p2), (3, .int s1.1), (4, .int s1.2)]) (S' := [.int (12 : Int32), .int s1.2]) (h' := (hh X g I)) rfl ?_
    refine Go_cmpn rfl rfl (ab_cge _ _) ?_ ?_
    ·
      refine Go_blk 2 (pc' := 14) (L' := [(0, .ref 35), (1, .ref 19), (2, .int p2), (3, .int s1.1), (4, .int s1.2)]) (S' := [.int p2, .ref 19]) (h' := (hh X g I)) rfl ?_
      refine Go_cR (y' := 25) (As := [.ref 19, .int p2]) (r := []) rfl (g_pat_isTold25 p2 (by omega)) fun v3 => ?_
      refine Go_cmz rfl rfl rfl ?_ ?_
      ·
        exact Go_jmp [(3, .int s1.1)] rfl ⟨rfl, trivial⟩ (fun _ h => h)
      ·
        refine Go_blk 5 (pc' := 26) (L' := [(0, .ref 35), (1, .ref 19), (2, .int p2), (3, .int s1.1), (4, .int s1.2)]) (S' := [.int s1.2, .int p2, .ref 19, .ref 35, .int s1.1]) (h' := (hh X g I)) rfl ?_
        refine Go_cR (y' := 27) (As := [.ref 35, .ref 19, .int p2, .int s1.2]) (r := [.int s1.1]) rfl (g_boo_isSo27 p2 s1.2 (by omega)) fun v4 => ?_
        refine Go_seq (pcj := 40) (fun (b5 : Int32) => [(0, .ref 35), (1, .ref 19), (2, .int p2), (4, .int s1.2)]) (fun (b5 : Int32) => [.int b5, .int s1.1]) (fun (b5 : Int32) => (hh X g I)) (fun b5 => ?_) ?_
        ·
          refine Go_blk 4 (pc' := 5) (L' := [(4, .int (s1.2 + (1 : Int32))), (3, .int (s1.1 ||| b5)), (0, .ref 35), (1, .ref 19), (2, .int p2)]) (S' := []) (h' := (hh X g I)) rfl ?_
          exact Go_jmp [(0, .ref 35), (1, .ref 19), (2, .int p2), (3, .int (s1.1 ||| b5)), (4, .int (s1.2 + (1 : Int32)))] rfl ⟨rfl, rfl, rfl, rfl, rfl, trivial⟩ (fun _ h => h)
        ·
          refine Go_cmz rfl rfl rfl ?_ ?_
          ·
            refine Go_blk 1 (pc' := 40) (L' := [(0, .ref 35), (1, .ref 19), (2, .int p2), (3, .int s1.1), (4, .int s1.2)]) (S' := [.int (0 : Int32), .int s1.1]) (h' := (hh X g I)) rfl ?_
            exact Go_jmp [(0, .ref 35), (1, .ref 19), (2, .int p2), (4, .int s1.2)] rfl ⟨rfl, rfl, rfl, rfl, trivial⟩ (fun _ h => h)
          ·
            refine Go_blk 4 (pc' := 40) (L' := [(0, .ref 35), (1, .ref 19), (2, .int p2), (3, .int s1.1), (4, .int s1.2)]) (S' := [.int ((1 : Int32) <<< (s1.2 &&& 31)), .int s1.1]) (h' := (hh X g I)) rfl ?_
            exact Go_jmp [(0, .ref 35), (1, .ref 19), (2, .int p2), (4, .int s1.2)] rfl ⟨rfl, rfl, rfl, rfl, trivial⟩ (fun _ h => h)
    ·
      exact Go_jmp [(3, .int s1.1)] rfl ⟨rfl, trivial⟩ (fun _ h => h)
set_option maxRecDepth 1000000 in
set_option maxHeartbeats 4000000 in
theorem g_x_skies230 (p1 : Int32) {X : XX} {g : GG} {I : MJ} {d : Nat} (hd : 4 ≤ d) : Go d 230 0 (lv_args 0 [.ref 0, .int p1]) [] (hh X g I) (f_x_skies230 p1 I) (pT vI X g) := by
  obtain ⟨d, rfl⟩ : ∃ k, d = k + 1 := ⟨d - 1, by omega⟩
  unfold f_x_skies230
  refine Go_blk 2 (pc' := 2) (L' := [(0, .ref 0), (1, .int p1)]) (S' := [.int p1, .ref 0]) (h' := (hh X g I)) rfl ?_
  refine Go_cT (y' := 68) (As := [.ref 0, .int p1]) (r := []) rfl rfl (g_x_needPattern68 p1 (by omega)) fun v1 I2 => ?_
  refine Go_blk 5 (pc' := 14) (L' := [(0, .ref 0), (1, .int p1)]) (S' := [.int p1, .ref 19, .ref 35]) (h' := (hh X g I2)) rfl ?_
  refine Go_cR (y' := 24) (As := [.ref 35, .ref 19, .int p1]) (r := []) rfl (g_boo_skiesOf24 p1 (by omega)) fun v3 => ?_
  exact Go_ret (fun _ h => h) rfl
set_option maxRecDepth 1000000 in
set_option maxHeartbeats 4000000 in
theorem g_l_skies229 (p1 : Int32) {X : XX} {g : GG} {I : MJ} {d : Nat} (hd : 5 ≤ d) : Go d 229 0 (lv_args 0 [.ref 0, .int p1, .ref 698]) [] (hh X g I) (f_l_skies229 p1 I g) (pG X) := by
  obtain ⟨d, rfl⟩ : ∃ k, d = k + 1 := ⟨d - 1, by omega⟩
  unfold f_l_skies229
  refine Go_blk 4 (pc' := 4) (L' := [(0, .ref 0), (1, .int p1), (2, .ref 698)]) (S' := [.int p1, .ref 0, .int (0 : Int32), .ref 698]) (h' := (hh X g I)) rfl ?_
  refine Go_try (y' := 230) (As := [.ref 0, .int p1]) (r := [.int (0 : Int32), .ref 698]) rfl (g_x_skies230 p1 (by omega)) (fun v1 I2 => ?_) (fun E2 I2 => ?_)
  ·
    refine Go_blk 1 (pc' := 8) (L' := [(0, .ref 0), (1, .int p1), (2, .ref 698)]) (S' := [.long (v1.toInt64), .int (0 : Int32), .ref 698]) (h' := (hh X g I2)) rfl ?_
    refine Go_last rfl fun g3 => ?_
    refine Go_blk 2 (pc' := 16) (L' := [(0, .ref 0), (1, .int p1), (2, .ref 698)]) (S' := [.int (0 : Int32)]) (h' := (hh X g3 I2)) rfl ?_
    exact Go_ret (fun _ h => h) rfl
  ·
    refine GX_ite ?_ ?_
    ·
      refine GX_go rfl (t := 13) (k := 3) rfl ?_
      refine Go_blk 1 (pc' := 14) (L' := [(0, .ref 0), (1, .int p1), (2, .ref 698)]) (S' := [.int (1 : Int32)]) (h' := (hh X (thr g) I2)) rfl ?_
      exact Go_ret (fun _ h => h) rfl
    exact GX_none
set_option maxRecDepth 1000000 in
set_option maxHeartbeats 4000000 in
theorem g_m_skyAt366 (p1 : Int32) (p2 : Int32) (p3 : Int32) {X : XX} {g : GG} {I : MJ} {d : Nat} (hd : 0 ≤ d) : Go d 366 0 (lv_args 0 [.ref 47, .int p1, .int p2, .int p3]) [] (hh X g I) (f_m_skyAt366 p1 p2 p3 I) (pR X g I) := by
  unfold f_m_skyAt366
  refine Go_blk 3 (pc' := 5) (L' := [(0, .ref 47), (1, .int p1), (2, .int p2), (3, .int p3)]) (S' := [.int p1, .ref 128]) (h' := (hh X g I)) rfl ?_
  refine Go_aald rfl fun r1 => ?_
  refine Go_blk 7 (pc' := 15) (L' := [(0, .ref 47), (1, .int p1), (2, .int p2), (3, .int p3)]) (S' := [.int (((p3 - p2) + (12 : Int32)) - ((p3 - p2) + (12 : Int32)) / (12 : Int32) * (12 : Int32)), .ref r1]) (h' := (hh X g I)) rfl ?_
  refine Go_iald rfl fun v2 => ?_
  exact Go_ret (fun _ h => h) rfl
set_option maxRecDepth 1000000 in
set_option maxHeartbeats 4000000 in
theorem g_m_skiesOf365 (p1 : Int32) {X : XX} {g : GG} {I : MJ} {d : Nat} (hd : 1 ≤ d) : Go d 365 0 (lv_args 0 [.ref 47, .int p1]) [] (hh X g I) (f_m_skiesOf365 p1 I) (pR X g I) := by
  obtain ⟨d, rfl⟩ : ∃ k, d = k + 1 := ⟨d - 1, by omega⟩
  unfold f_m_skiesOf365
  refine Go_blk 4 (pc' := 4) (L' := [(3, .int (0 : Int32)), (2, .int (0 : Int32)), (0, .ref 47), (1, .int p1)]) (S' := []) (h' := (hh X g I)) rfl ?_
  refine Go_lcs [(0, .ref 47), (1, .int p1), (2, .int (0 : Int32)), (3, .int (0 : Int32))] rfl ⟨rfl, rfl, rfl, rfl, trivial⟩ ?_
  refine Go_seq (pcj := 100) (fun (b2 : Int32) => [(2, .int b2)]) (fun (b2 : Int32) => []) (fun (b2 : Int32) => (hh X g I)) (fun b2 => ?_) ?_
  ·
    refine Go_blk 1 (pc' := 101) (L' := [(2, .int b2)]) (S' := [.int b2]) (h' := (hh X g I)) rfl ?_
    exact Go_ret (fun _ h => h) rfl
  ·
    refine Go_wh (fun (s1 : Int32 × Int32) => [(0, .ref 47), (1, .int p1), (2, .int s1.1), (3, .int s1.2)]) (fun _ => []) (fun (s1 : Int32 × Int32) => (hh X g I)) (fun s1 => ?_) ((0 : Int32), (0 : Int32))
    refine Go_blk 2 (pc' := 7) (L' := [(0, .ref 47), (1, .int p1), (2, .int s1.1), (3, .int s1.2)]) (S' := [.int (12 : Int32), .int s1.2]) (h' := (hh X g I)) rfl ?_
    refine Go_cmpn rfl rfl (ab_cge _ _) ?_ ?_
    ·
      refine Go_blk 3 (pc' := 15) (L' := [(0, .ref 47), (1, .int p1), (2, .int s1.1), (3, .int s1.2)]) (S' := [.int p1, .ref 135]) (h' := (hh X g I)) rfl ?_
      refine Go_bald rfl fun v3 => ?_
      refine Go_cmz rfl rfl rfl ?_ ?_
      ·
        exact Go_jmp [(2, .int s1.1)] rfl ⟨rfl, trivial⟩ (fun _ h => h)
      ·
        refine Go_blk 4 (pc' := 25) (L' := [(5, .int (0 : Int32)), (4, .int (1 : Int32)), (0, .ref 47), (1, .int p1), (2, .int s1.1), (3, .int s1.2)]) (S' := []) (h' := (hh X g I)) rfl ?_
        refine Go_lcs [(0, .ref 47), (1, .int p1), (2, .int s1.1), (3, .int s1.2), (4, .int (1 : Int32)), (5, .int (0 : Int32))] rfl ⟨rfl, rfl, rfl, rfl, rfl, rfl, trivial⟩ ?_
        refine Go_seq (pcj := 79) (fun (b5 : Int32) => [(0, .ref 47), (1, .int p1), (2, .int s1.1), (3, .int s1.2), (4, .int b5)]) (fun (b5 : Int32) => []) (fun (b5 : Int32) => (hh X g I)) (fun b5 => ?_) ?_
        ·
          refine Go_blk 2 (pc' := 82) (L' := [(0, .ref 47), (1, .int p1), (2, .int s1.1), (3, .int s1.2), (4, .int b5)]) (S' := [.int b5, .int s1.1]) (h' := (hh X g I)) rfl ?_
          refine Go_seq (pcj := 92) (fun (b6 : Int32) => [(0, .ref 47), (1, .int p1), (3, .int s1.2)]) (fun (b6 : Int32) => [.int b6, .int s1.1]) (fun (b6 : Int32) => (hh X g I)) (fun b6 => ?_) ?_
          ·
            refine Go_blk 4 (pc' := 4) (L' := [(3, .int (s1.2 + (1 : Int32))), (2, .int (s1.1 ||| b6)), (0, .ref 47), (1, .int p1)]) (S' := []) (h' := (hh X g I)) rfl ?_
            exact Go_jmp [(0, .ref 47), (1, .int p1), (2, .int (s1.1 ||| b6)), (3, .int (s1.2 + (1 : Int32)))] rfl ⟨rfl, rfl, rfl, rfl, trivial⟩ (fun _ h => h)
          ·
            refine Go_cmz rfl rfl rfl ?_ ?_
            ·
              refine Go_blk 1 (pc' := 92) (L' := [(0, .ref 47), (1, .int p1), (2, .int s1.1), (3, .int s1.2), (4, .int b5)]) (S' := [.int (0 : Int32), .int s1.1]) (h' := (hh X g I)) rfl ?_
              exact Go_jmp [(0, .ref 47), (1, .int p1), (3, .int s1.2)] rfl ⟨rfl, rfl, rfl, trivial⟩ (fun _ h => h)
            ·
              refine Go_blk 4 (pc' := 92) (L' := [(0, .ref 47), (1, .int p1), (2, .int s1.1), (3, .int s1.2), (4, .int b5)]) (S' := [.int ((1 : Int32) <<< (s1.2 &&& 31)), .int s1.1]) (h' := (hh X g I)) rfl ?_
              exact Go_jmp [(0, .ref 47), (1, .int p1), (3, .int s1.2)] rfl ⟨rfl, rfl, rfl, trivial⟩ (fun _ h => h)
        ·
          refine Go_wh (fun (s4 : Int32 × Int32) => [(0, .ref 47), (1, .int p1), (2, .int s1.1), (3, .int s1.2), (4, .int s4.1), (5, .int s4.2)]) (fun _ => []) (fun (s4 : Int32 × Int32) => (hh X g I)) (fun s4 => ?_) ((1 : Int32), (0 : Int32))
          refine Go_blk 3 (pc' := 31) (L' := [(0, .ref 47), (1, .int p1), (2, .int s1.1), (3, .int s1.2), (4, .int s4.1), (5, .int s4.2)]) (S' := [.int (I 47 39), .int s4.2]) (h' := (hh X g I)) rfl ?_
          refine Go_cmpn rfl rfl (ab_cge _ _) ?_ ?_
          ·
            refine Go_blk 1 (pc' := 36) (L' := [(0, .ref 47), (1, .int p1), (2, .int s1.1), (3, .int s1.2), (4, .int s4.1), (5, .int s4.2)]) (S' := [.int s4.1]) (h' := (hh X g I)) rfl ?_
            refine Go_seq (pcj := 71) (fun (b7 : Int32) => [(0, .ref 47), (1, .int p1), (2, .int s1.1), (3, .int s1.2), (5, .int s4.2)]) (fun (b7 : Int32) => [.int b7]) (fun (b7 : Int32) => (hh X g I)) (fun b7 => ?_) ?_
            ·
              refine Go_blk 3 (pc' := 25) (L' := [(5, .int (s4.2 + (1 : Int32))), (4, .int b7), (0, .ref 47), (1, .int p1), (2, .int s1.1), (3, .int s1.2)]) (S' := []) (h' := (hh X g I)) rfl ?_
              exact Go_jmp [(0, .ref 47), (1, .int p1), (2, .int s1.1), (3, .int s1.2), (4, .int b7), (5, .int (s4.2 + (1 : Int32)))] rfl ⟨rfl, rfl, rfl, rfl, rfl, rfl, trivial⟩ (fun _ h => h)
            ·
              refine Go_cmz rfl rfl rfl ?_ ?_
              ·
                refine Go_blk 1 (pc' := 71) (L' := [(0, .ref 47), (1, .int p1), (2, .int s1.1), (3, .int s1.2), (4, .int s4.1), (5, .int s4.2)]) (S' := [.int (0 : Int32)]) (h' := (hh X g I)) rfl ?_
                exact Go_jmp [(0, .ref 47), (1, .int p1), (2, .int s1.1), (3, .int s1.2), (5, .int s4.2)] rfl ⟨rfl, rfl, rfl, rfl, rfl, trivial⟩ (fun _ h => h)
              ·
                refine Go_blk 6 (pc' := 48) (L' := [(0, .ref 47), (1, .int p1), (2, .int s1.1), (3, .int s1.2), (4, .int s4.1), (5, .int s4.2)]) (S' := [.int s4.2, .ref 467, .int s1.2, .int p1, .ref 47]) (h' := (hh X g I)) rfl ?_
                refine Go_aald rfl fun r8 => ?_
                refine Go_blk 1 (pc' := 50) (L' := [(0, .ref 47), (1, .int p1), (2, .int s1.1), (3, .int s1.2), (4, .int s4.1), (5, .int s4.2)]) (S' := [.int (0 : Int32), .ref r8, .int s1.2, .int p1, .ref 47]) (h' := (hh X g I)) rfl ?_
                refine Go_iald rfl fun v9 => ?_
                refine Go_cR (y' := 366) (As := [.ref 47, .int p1, .int s1.2, .int v9]) (r := []) rfl (g_m_skyAt366 p1 s1.2 v9 (by omega)) fun v10 => ?_
                refine Go_blk 3 (pc' := 60) (L' := [(0, .ref 47), (1, .int p1), (2, .int s1.1), (3, .int s1.2), (4, .int s4.1), (5, .int s4.2)]) (S' := [.int s4.2, .ref 467, .int v10]) (h' := (hh X g I)) rfl ?_
                refine Go_aald rfl fun r11 => ?_
                refine Go_blk 1 (pc' := 62) (L' := [(0, .ref 47), (1, .int p1), (2, .int s1.1), (3, .int s1.2), (4, .int s4.1), (5, .int s4.2)]) (S' := [.int (1 : Int32), .ref r11, .int v10]) (h' := (hh X g I)) rfl ?_
                refine Go_iald rfl fun v12 => ?_
                refine Go_cmpn rfl rfl rfl ?_ ?_
                ·
                  refine Go_blk 2 (pc' := 71) (L' := [(0, .ref 47), (1, .int p1), (2, .int s1.1), (3, .int s1.2), (4, .int s4.1), (5, .int s4.2)]) (S' := [.int (1 : Int32)]) (h' := (hh X g I)) rfl ?_
                  exact Go_jmp [(0, .ref 47), (1, .int p1), (2, .int s1.1), (3, .int s1.2), (5, .int s4.2)] rfl ⟨rfl, rfl, rfl, rfl, rfl, trivial⟩ (fun _ h => h)
                ·
                  refine Go_blk 1 (pc' := 71) (L' := [(0, .ref 47), (1, .int p1), (2, .int s1.1), (3, .int s1.2), (4, .int s4.1), (5, .int s4.2)]) (S' := [.int (0 : Int32)]) (h' := (hh X g I)) rfl ?_
                  exact Go_jmp [(0, .ref 47), (1, .int p1), (2, .int s1.1), (3, .int s1.2), (5, .int s4.2)] rfl ⟨rfl, rfl, rfl, rfl, rfl, trivial⟩ (fun _ h => h)
          ·
            exact Go_jmp [(0, .ref 47), (1, .int p1), (2, .int s1.1), (3, .int s1.2), (4, .int s4.1)] rfl ⟨rfl, rfl, rfl, rfl, rfl, trivial⟩ (fun _ h => h)
    ·
      exact Go_jmp [(2, .int s1.1)] rfl ⟨rfl, trivial⟩ (fun _ h => h)
set_option maxRecDepth 1000000 in
set_option maxHeartbeats 4000000 in
theorem g_m_skies364 (p1 : Int32) {X : XX} {g : GG} {I : MJ} {d : Nat} (hd : 2 ≤ d) : Go d 364 0 (lv_args 0 [.ref 47, .int p1]) [] (hh X g I) (f_m_skies364 p1 I) (pW X g) := by
  obtain ⟨d, rfl⟩ : ∃ k, d = k + 1 := ⟨d - 1, by omega⟩
  unfold f_m_skies364
  refine Go_blk 6 (pc' := 8) (L' := [(0, .ref 47), (1, .int p1)]) (S' := [.int p1, .ref 47, .ref 47]) (h' := (hh X g (ab_up1 I 47 0 (0 : Int32)))) rfl ?_
  refine Go_cR (y' := 288) (As := [.ref 47, .int p1]) (r := [.ref 47]) rfl (g_m_isPattern288 p1 (by omega)) fun v1 => ?_
  refine Go_seq (pcj := 19) (fun (b2 : Int32) => [(0, .ref 47), (1, .int p1)]) (fun (b2 : Int32) => [.int b2, .ref 47]) (fun (b2 : Int32) => (hh X g (ab_up1 I 47 0 (0 : Int32)))) (fun b2 => ?_) ?_
  ·
    refine Go_blk 2 (pc' := 21) (L' := [(0, .ref 47), (1, .int p1)]) (S' := [.int (0 : Int32), .int (1 : Int32), .int b2, .ref 47]) (h' := (hh X g (ab_up1 I 47 0 (0 : Int32)))) rfl ?_
    refine Go_cW (y' := 268) (As := [.ref 47, .int b2, .int (1 : Int32), .int (0 : Int32)]) (r := []) rfl (g_m_bad268 b2 (1 : Int32) (0 : Int32) (by omega)) fun w3 => ?_
    refine Go_cmz rfl rfl rfl ?_ ?_
    ·
      refine Go_blk 2 (pc' := 31) (L' := [(0, .ref 47), (1, .int p1)]) (S' := [.int p1, .ref 47]) (h' := (hh X g w3.2)) rfl ?_
      refine Go_cR (y' := 365) (As := [.ref 47, .int p1]) (r := []) rfl (g_m_skiesOf365 p1 (by omega)) fun v4 => ?_
      exact Go_ret (fun _ h => h) rfl
    ·
      refine Go_blk 1 (pc' := 28) (L' := [(0, .ref 47), (1, .int p1)]) (S' := [.int (0 : Int32)]) (h' := (hh X g w3.2)) rfl ?_
      exact Go_ret (fun _ h => h) rfl
  ·
    refine Go_cmzn rfl rfl rfl ?_ ?_
    ·
      refine Go_blk 2 (pc' := 19) (L' := [(0, .ref 47), (1, .int p1)]) (S' := [.int (1 : Int32), .ref 47]) (h' := (hh X g (ab_up1 I 47 0 (0 : Int32)))) rfl ?_
      exact Go_jmp [(0, .ref 47), (1, .int p1)] rfl ⟨rfl, rfl, trivial⟩ (fun _ h => h)
    ·
      refine Go_blk 1 (pc' := 19) (L' := [(0, .ref 47), (1, .int p1)]) (S' := [.int (0 : Int32), .ref 47]) (h' := (hh X g (ab_up1 I 47 0 (0 : Int32)))) rfl ?_
      exact Go_jmp [(0, .ref 47), (1, .int p1)] rfl ⟨rfl, rfl, trivial⟩ (fun _ h => h)
set_option maxRecDepth 1000000 in
set_option maxHeartbeats 4000000 in
theorem g_x_which23  {X : XX} {g : GG} {I : MJ} {d : Nat} (hd : 4 ≤ d) : Go d 23 0 (lv_args 0 [.ref 0]) [] (hh X g I) (f_x_which23  I) (pR X g I) := by
  obtain ⟨d, rfl⟩ : ∃ k, d = k + 1 := ⟨d - 1, by omega⟩
  unfold f_x_which23
  refine Go_blk 4 (pc' := 4) (L' := [(2, .int (0 : Int32)), (1, .int (0 : Int32)), (0, .ref 0)]) (S' := []) (h' := (hh X g I)) rfl ?_
  refine Go_lcs [(0, .ref 0), (1, .int (0 : Int32)), (2, .int (0 : Int32))] rfl ⟨rfl, rfl, rfl, trivial⟩ ?_
  refine Go_seq (pcj := 41) (fun (b2 : Int32) => [(1, .int b2)]) (fun (b2 : Int32) => []) (fun (b2 : Int32) => (hh X g I)) (fun b2 => ?_) ?_
  ·
    refine Go_blk 1 (pc' := 42) (L' := [(1, .int b2)]) (S' := [.int b2]) (h' := (hh X g I)) rfl ?_
    exact Go_ret (fun _ h => h) rfl
  ·
    refine Go_wh (fun (s1 : Int32 × Int32) => [(0, .ref 0), (1, .int s1.1), (2, .int s1.2)]) (fun _ => []) (fun (s1 : Int32 × Int32) => (hh X g I)) (fun s1 => ?_) ((0 : Int32), (0 : Int32))
    refine Go_blk 2 (pc' := 7) (L' := [(0, .ref 0), (1, .int s1.1), (2, .int s1.2)]) (S' := [.int (6 : Int32), .int s1.2]) (h' := (hh X g I)) rfl ?_
    refine Go_cmpn rfl rfl (ab_cge _ _) ?_ ?_
    ·
      refine Go_blk 6 (pc' := 20) (L' := [(0, .ref 0), (1, .int s1.1), (2, .int s1.2)]) (S' := [.int s1.2, .ref 19, .ref 35, .int s1.1]) (h' := (hh X g I)) rfl ?_
      refine Go_cR (y' := 24) (As := [.ref 35, .ref 19, .int s1.2]) (r := [.int s1.1]) rfl (g_boo_skiesOf24 s1.2 (by omega)) fun v3 => ?_
      refine Go_seq (pcj := 33) (fun (b4 : Int32) => [(0, .ref 0), (2, .int s1.2)]) (fun (b4 : Int32) => [.int b4, .int s1.1]) (fun (b4 : Int32) => (hh X g I)) (fun b4 => ?_) ?_
      ·
        refine Go_blk 4 (pc' := 4) (L' := [(2, .int (s1.2 + (1 : Int32))), (1, .int (s1.1 ||| b4)), (0, .ref 0)]) (S' := []) (h' := (hh X g I)) rfl ?_
        exact Go_jmp [(0, .ref 0), (1, .int (s1.1 ||| b4)), (2, .int (s1.2 + (1 : Int32)))] rfl ⟨rfl, rfl, rfl, trivial⟩ (fun _ h => h)
      ·
        refine Go_cmz rfl rfl rfl ?_ ?_
        ·
          refine Go_blk 1 (pc' := 33) (L' := [(0, .ref 0), (1, .int s1.1), (2, .int s1.2)]) (S' := [.int (0 : Int32), .int s1.1]) (h' := (hh X g I)) rfl ?_
          exact Go_jmp [(0, .ref 0), (2, .int s1.2)] rfl ⟨rfl, rfl, trivial⟩ (fun _ h => h)
        ·
          refine Go_blk 4 (pc' := 33) (L' := [(0, .ref 0), (1, .int s1.1), (2, .int s1.2)]) (S' := [.int ((1 : Int32) <<< (s1.2 &&& 31)), .int s1.1]) (h' := (hh X g I)) rfl ?_
          exact Go_jmp [(0, .ref 0), (2, .int s1.2)] rfl ⟨rfl, rfl, trivial⟩ (fun _ h => h)
    ·
      exact Go_jmp [(1, .int s1.1)] rfl ⟨rfl, trivial⟩ (fun _ h => h)
set_option maxRecDepth 1000000 in
set_option maxHeartbeats 4000000 in
theorem g_m_which367  {X : XX} {g : GG} {I : MJ} {d : Nat} (hd : 2 ≤ d) : Go d 367 0 (lv_args 0 [.ref 47]) [] (hh X g I) (f_m_which367  I) (pW X g) := by
  obtain ⟨d, rfl⟩ : ∃ k, d = k + 1 := ⟨d - 1, by omega⟩
  unfold f_m_which367
  refine Go_blk 7 (pc' := 9) (L' := [(2, .int (0 : Int32)), (1, .int (0 : Int32)), (0, .ref 47)]) (S' := []) (h' := (hh X g (ab_up1 I 47 0 (0 : Int32)))) rfl ?_
  refine Go_lcs [(0, .ref 47), (1, .int (0 : Int32)), (2, .int (0 : Int32))] rfl ⟨rfl, rfl, rfl, trivial⟩ ?_
  refine Go_seq (pcj := 39) (fun (b2 : Int32) => [(1, .int b2)]) (fun (b2 : Int32) => []) (fun (b2 : Int32) => (hh X g (ab_up1 I 47 0 (0 : Int32)))) (fun b2 => ?_) ?_
  ·
    refine Go_blk 1 (pc' := 40) (L' := [(1, .int b2)]) (S' := [.int b2]) (h' := (hh X g (ab_up1 I 47 0 (0 : Int32)))) rfl ?_
    exact Go_ret (fun _ h => h) rfl
  ·
    refine Go_wh (fun (s1 : Int32 × Int32) => [(0, .ref 47), (1, .int s1.1), (2, .int s1.2)]) (fun _ => []) (fun (s1 : Int32 × Int32) => (hh X g (ab_up1 I 47 0 (0 : Int32)))) (fun s1 => ?_) ((0 : Int32), (0 : Int32))
    refine Go_blk 2 (pc' := 12) (L' := [(0, .ref 47), (1, .int s1.1), (2, .int s1.2)]) (S' := [.int (6 : Int32), .int s1.2]) (h' := (hh X g (ab_up1 I 47 0 (0 : Int32)))) rfl ?_
    refine Go_cmpn rfl rfl (ab_cge _ _) ?_ ?_
    ·
      refine Go_blk 3 (pc' := 18) (L' := [(0, .ref 47), (1, .int s1.1), (2, .int s1.2)]) (S' := [.int s1.2, .ref 47, .int s1.1]) (h' := (hh X g (ab_up1 I 47 0 (0 : Int32)))) rfl ?_
      refine Go_cR (y' := 365) (As := [.ref 47, .int s1.2]) (r := [.int s1.1]) rfl (g_m_skiesOf365 s1.2 (by omega)) fun v3 => ?_
      refine Go_seq (pcj := 31) (fun (b4 : Int32) => [(0, .ref 47), (2, .int s1.2)]) (fun (b4 : Int32) => [.int b4, .int s1.1]) (fun (b4 : Int32) => (hh X g (ab_up1 I 47 0 (0 : Int32)))) (fun b4 => ?_) ?_
      ·
        refine Go_blk 4 (pc' := 9) (L' := [(2, .int (s1.2 + (1 : Int32))), (1, .int (s1.1 ||| b4)), (0, .ref 47)]) (S' := []) (h' := (hh X g (ab_up1 I 47 0 (0 : Int32)))) rfl ?_
        exact Go_jmp [(0, .ref 47), (1, .int (s1.1 ||| b4)), (2, .int (s1.2 + (1 : Int32)))] rfl ⟨rfl, rfl, rfl, trivial⟩ (fun _ h => h)
      ·
        refine Go_cmz rfl rfl rfl ?_ ?_
        ·
          refine Go_blk 1 (pc' := 31) (L' := [(0, .ref 47), (1, .int s1.1), (2, .int s1.2)]) (S' := [.int (0 : Int32), .int s1.1]) (h' := (hh X g (ab_up1 I 47 0 (0 : Int32)))) rfl ?_
          exact Go_jmp [(0, .ref 47), (2, .int s1.2)] rfl ⟨rfl, rfl, trivial⟩ (fun _ h => h)
        ·
          refine Go_blk 4 (pc' := 31) (L' := [(0, .ref 47), (1, .int s1.1), (2, .int s1.2)]) (S' := [.int ((1 : Int32) <<< (s1.2 &&& 31)), .int s1.1]) (h' := (hh X g (ab_up1 I 47 0 (0 : Int32)))) rfl ?_
          exact Go_jmp [(0, .ref 47), (2, .int s1.2)] rfl ⟨rfl, rfl, trivial⟩ (fun _ h => h)
    ·
      exact Go_jmp [(1, .int s1.1)] rfl ⟨rfl, trivial⟩ (fun _ h => h)
set_option maxRecDepth 1000000 in
set_option maxHeartbeats 4000000 in
theorem g_boo_countSky235 (p2 : Int32) (p3 : Int32) {X : XX} {g : GG} {I : MJ} {d : Nat} (hd : 2 ≤ d) : Go d 235 0 (lv_args 0 [.ref 35, .ref 19, .int p2, .int p3]) [] (hh X g I) (f_boo_countSky235 p2 p3 I) (pV X g) := by
  obtain ⟨d, rfl⟩ : ∃ k, d = k + 1 := ⟨d - 1, by omega⟩
  unfold f_boo_countSky235
  refine Go_blk 2 (pc' := 3) (L' := [(4, .int (0 : Int32)), (0, .ref 35), (1, .ref 19), (2, .int p2), (3, .int p3)]) (S' := []) (h' := (hh X g I)) rfl ?_
  refine Go_lcs [(0, .ref 35), (1, .ref 19), (2, .int p2), (3, .int p3), (4, .int (0 : Int32))] rfl ⟨rfl, rfl, rfl, rfl, rfl, trivial⟩ ?_
  refine Go_seq (pcj := 52) (fun (b2 : MJ) => []) (fun (b2 : MJ) => []) (fun (b2 : MJ) => (hh X g b2)) (fun b2 => ?_) ?_
  ·
    exact Go_ret (fun _ h => h) rfl
  ·
    refine Go_wh (fun (s1 : Int32 × MJ) => [(0, .ref 35), (1, .ref 19), (2, .int p2), (3, .int p3), (4, .int s1.1)]) (fun _ => []) (fun (s1 : Int32 × MJ) => (hh X g s1.2)) (fun s1 => ?_) ((0 : Int32), I)
    refine Go_blk 2 (pc' := 7) (L' := [(0, .ref 35), (1, .ref 19), (2, .int p2), (3, .int p3), (4, .int s1.1)]) (S' := [.int (12 : Int32), .int s1.1]) (h' := (hh X g s1.2)) rfl ?_
    refine Go_cmpn rfl rfl (ab_cge _ _) ?_ ?_
    ·
      refine Go_blk 7 (pc' := 20) (L' := [(0, .ref 35), (1, .ref 19), (2, .int p2), (3, .int p3), (4, .int s1.1)]) (S' := [.int p3, .int s1.1, .int p2, .ref 19, .int ((6 : Int32) * s1.1)]) (h' := (hh X g s1.2)) rfl ?_
      refine Go_cR (y' := 28) (As := [.ref 19, .int p2, .int s1.1, .int p3]) (r := [.int ((6 : Int32) * s1.1)]) rfl (g_boo_kindLater28 p2 s1.1 p3 (by omega)) fun v3 => ?_
      refine Go_blk 8 (pc' := 38) (L' := [(5, .int (((6 : Int32) * s1.1) + v3)), (0, .ref 35), (1, .ref 19), (2, .int p2), (3, .int p3), (4, .int s1.1)]) (S' := [.int (((6 : Int32) * s1.1) + v3), .ref 38, .int (((6 : Int32) * s1.1) + v3), .ref 38]) (h' := (hh X g s1.2)) rfl ?_
      refine Go_cR (y' := 16) (As := [.ref 38, .int (((6 : Int32) * s1.1) + v3)]) (r := [.int (((6 : Int32) * s1.1) + v3), .ref 38]) rfl (g_x_at16 38 (((6 : Int32) * s1.1) + v3) (by omega)) fun v4 => ?_
      refine Go_blk 2 (pc' := 43) (L' := [(5, .int (((6 : Int32) * s1.1) + v3)), (0, .ref 35), (1, .ref 19), (2, .int p2), (3, .int p3), (4, .int s1.1)]) (S' := [.int (v4 + (1 : Int32)), .int (((6 : Int32) * s1.1) + v3), .ref 38]) (h' := (hh X g s1.2)) rfl ?_
      refine Go_cV (y' := 15) (As := [.ref 38, .int (((6 : Int32) * s1.1) + v3), .int (v4 + (1 : Int32))]) (r := []) rfl (g_x_put15 38 (((6 : Int32) * s1.1) + v3) (v4 + (1 : Int32)) (by omega)) fun I5 => ?_
      refine Go_blk 2 (pc' := 3) (L' := [(4, .int (s1.1 + (1 : Int32))), (5, .int (((6 : Int32) * s1.1) + v3)), (0, .ref 35), (1, .ref 19), (2, .int p2), (3, .int p3)]) (S' := []) (h' := (hh X g I5)) rfl ?_
      exact Go_jmp [(0, .ref 35), (1, .ref 19), (2, .int p2), (3, .int p3), (4, .int (s1.1 + (1 : Int32)))] rfl ⟨rfl, rfl, rfl, rfl, rfl, trivial⟩ (fun _ h => h)
    ·
      exact Go_jmp [] rfl trivial (fun _ h => h)
set_option maxRecDepth 1000000 in
set_option maxHeartbeats 4000000 in
theorem g_boo_countChances234  {X : XX} {g : GG} {I : MJ} {d : Nat} (hd : 4 ≤ d) : Go d 234 0 (lv_args 0 [.ref 35, .ref 19]) [] (hh X g I) (f_boo_countChances234  I) (pV X g) := by
  obtain ⟨d, rfl⟩ : ∃ k, d = k + 1 := ⟨d - 1, by omega⟩
  unfold f_boo_countChances234
  refine Go_blk 3 (pc' := 5) (L' := [(0, .ref 35), (1, .ref 19)]) (S' := [.int (0 : Int32), .ref 38]) (h' := (hh X g I)) rfl ?_
  refine Go_cV (y' := 10) (As := [.ref 38, .int (0 : Int32)]) (r := []) rfl (g_x_fill10 38 (0 : Int32) (by omega)) fun I1 => ?_
  refine Go_blk 2 (pc' := 10) (L' := [(2, .int (0 : Int32)), (0, .ref 35), (1, .ref 19)]) (S' := []) (h' := (hh X g I1)) rfl ?_
  refine Go_lcs [(0, .ref 35), (1, .ref 19), (2, .int (0 : Int32))] rfl ⟨rfl, rfl, rfl, trivial⟩ ?_
  refine Go_seq (pcj := 62) (fun (b3 : MJ) => []) (fun (b3 : MJ) => []) (fun (b3 : MJ) => (hh X g b3)) (fun b3 => ?_) ?_
  ·
    exact Go_ret (fun _ h => h) rfl
  ·
    refine Go_wh (fun (s2 : Int32 × MJ) => [(0, .ref 35), (1, .ref 19), (2, .int s2.1)]) (fun _ => []) (fun (s2 : Int32 × MJ) => (hh X g s2.2)) (fun s2 => ?_) ((0 : Int32), I1)
    refine Go_blk 2 (pc' := 13) (L' := [(0, .ref 35), (1, .ref 19), (2, .int s2.1)]) (S' := [.int (6 : Int32), .int s2.1]) (h' := (hh X g s2.2)) rfl ?_
    refine Go_cmpn rfl rfl (ab_cge _ _) ?_ ?_
    ·
      refine Go_blk 3 (pc' := 19) (L' := [(0, .ref 35), (1, .ref 19), (2, .int s2.1)]) (S' := [.int s2.1, .ref 19, .ref 35]) (h' := (hh X g s2.2)) rfl ?_
      refine Go_cR (y' := 24) (As := [.ref 35, .ref 19, .int s2.1]) (r := []) rfl (g_boo_skiesOf24 s2.1 (by omega)) fun v4 => ?_
      refine Go_blk 3 (pc' := 26) (L' := [(4, .int (0 : Int32)), (3, .int v4), (0, .ref 35), (1, .ref 19), (2, .int s2.1)]) (S' := []) (h' := (hh X g s2.2)) rfl ?_
      refine Go_lcs [(0, .ref 35), (1, .ref 19), (2, .int s2.1), (3, .int v4), (4, .int (0 : Int32))] rfl ⟨rfl, rfl, rfl, rfl, rfl, trivial⟩ ?_
      refine Go_seq (pcj := 56) (fun (b6 : MJ) => [(0, .ref 35), (1, .ref 19), (2, .int s2.1)]) (fun (b6 : MJ) => []) (fun (b6 : MJ) => (hh X g b6)) (fun b6 => ?_) ?_
      ·
        refine Go_blk 2 (pc' := 10) (L' := [(2, .int (s2.1 + (1 : Int32))), (0, .ref 35), (1, .ref 19)]) (S' := []) (h' := (hh X g b6)) rfl ?_
        exact Go_jmp [(0, .ref 35), (1, .ref 19), (2, .int (s2.1 + (1 : Int32)))] rfl ⟨rfl, rfl, rfl, trivial⟩ (fun _ h => h)
      ·
        refine Go_wh (fun (s5 : Int32 × MJ) => [(0, .ref 35), (1, .ref 19), (2, .int s2.1), (3, .int v4), (4, .int s5.1)]) (fun _ => []) (fun (s5 : Int32 × MJ) => (hh X g s5.2)) (fun s5 => ?_) ((0 : Int32), s2.2)
        refine Go_blk 2 (pc' := 30) (L' := [(0, .ref 35), (1, .ref 19), (2, .int s2.1), (3, .int v4), (4, .int s5.1)]) (S' := [.int (12 : Int32), .int s5.1]) (h' := (hh X g s5.2)) rfl ?_
        refine Go_cmpn rfl rfl (ab_cge _ _) ?_ ?_
        ·
          refine Go_blk 2 (pc' := 36) (L' := [(0, .ref 35), (1, .ref 19), (2, .int s2.1), (3, .int v4), (4, .int s5.1)]) (S' := [.int s5.1, .int v4]) (h' := (hh X g s5.2)) rfl ?_
          refine Go_cR (y' := 26) (As := [.int v4, .int s5.1]) (r := []) rfl (g_x_holds26 v4 s5.1 (by omega)) fun v7 => ?_
          refine Go_seq (pcj := 50) (fun (b8 : MJ) => [(0, .ref 35), (1, .ref 19), (2, .int s2.1), (3, .int v4), (4, .int s5.1)]) (fun (b8 : MJ) => []) (fun (b8 : MJ) => (hh X g b8)) (fun b8 => ?_) ?_
          ·
            refine Go_blk 2 (pc' := 26) (L' := [(4, .int (s5.1 + (1 : Int32))), (0, .ref 35), (1, .ref 19), (2, .int s2.1), (3, .int v4)]) (S' := []) (h' := (hh X g b8)) rfl ?_
            exact Go_jmp [(0, .ref 35), (1, .ref 19), (2, .int s2.1), (3, .int v4), (4, .int (s5.1 + (1 : Int32)))] rfl ⟨rfl, rfl, rfl, rfl, rfl, trivial⟩ (fun _ h => h)
          ·
            refine Go_cmz rfl rfl rfl ?_ ?_
            ·
              exact Go_jmp [(0, .ref 35), (1, .ref 19), (2, .int s2.1), (3, .int v4), (4, .int s5.1)] rfl ⟨rfl, rfl, rfl, rfl, rfl, trivial⟩ (fun _ h => h)
            ·
              refine Go_blk 4 (pc' := 47) (L' := [(0, .ref 35), (1, .ref 19), (2, .int s2.1), (3, .int v4), (4, .int s5.1)]) (S' := [.int s5.1, .int s2.1, .ref 19, .ref 35]) (h' := (hh X g s5.2)) rfl ?_
              refine Go_cV (y' := 235) (As := [.ref 35, .ref 19, .int s2.1, .int s5.1]) (r := []) rfl (g_boo_countSky235 s2.1 s5.1 (by omega)) fun I9 => ?_
              exact Go_jmp [(0, .ref 35), (1, .ref 19), (2, .int s2.1), (3, .int v4), (4, .int s5.1)] rfl ⟨rfl, rfl, rfl, rfl, rfl, trivial⟩ (fun _ h => h)
        ·
          exact Go_jmp [(0, .ref 35), (1, .ref 19), (2, .int s2.1)] rfl ⟨rfl, rfl, rfl, trivial⟩ (fun _ h => h)
    ·
      exact Go_jmp [] rfl trivial (fun _ h => h)
set_option maxRecDepth 1000000 in
set_option maxHeartbeats 4000000 in
theorem g_boo_leftAtWorst236 (p1 : Int32) {X : XX} {g : GG} {I : MJ} {d : Nat} (hd : 1 ≤ d) : Go d 236 0 (lv_args 0 [.ref 35, .int p1]) [] (hh X g I) (f_boo_leftAtWorst236 p1 I) (pR X g I) := by
  obtain ⟨d, rfl⟩ : ∃ k, d = k + 1 := ⟨d - 1, by omega⟩
  unfold f_boo_leftAtWorst236
  refine Go_blk 4 (pc' := 4) (L' := [(3, .int (0 : Int32)), (2, .int (0 : Int32)), (0, .ref 35), (1, .int p1)]) (S' := []) (h' := (hh X g I)) rfl ?_
  refine Go_lcs [(0, .ref 35), (1, .int p1), (2, .int (0 : Int32)), (3, .int (0 : Int32))] rfl ⟨rfl, rfl, rfl, rfl, trivial⟩ ?_
  refine Go_seq (pcj := 34) (fun (b2 : Int32) => [(2, .int b2)]) (fun (b2 : Int32) => []) (fun (b2 : Int32) => (hh X g I)) (fun b2 => ?_) ?_
  ·
    refine Go_blk 1 (pc' := 35) (L' := [(2, .int b2)]) (S' := [.int b2]) (h' := (hh X g I)) rfl ?_
    exact Go_ret (fun _ h => h) rfl
  ·
    refine Go_wh (fun (s1 : Int32 × Int32) => [(0, .ref 35), (1, .int p1), (2, .int s1.1), (3, .int s1.2)]) (fun _ => []) (fun (s1 : Int32 × Int32) => (hh X g I)) (fun s1 => ?_) ((0 : Int32), (0 : Int32))
    refine Go_blk 2 (pc' := 7) (L' := [(0, .ref 35), (1, .int p1), (2, .int s1.1), (3, .int s1.2)]) (S' := [.int (6 : Int32), .int s1.2]) (h' := (hh X g I)) rfl ?_
    refine Go_cmpn rfl rfl (ab_cge _ _) ?_ ?_
    ·
      refine Go_blk 8 (pc' := 21) (L' := [(0, .ref 35), (1, .int p1), (2, .int s1.1), (3, .int s1.2)]) (S' := [.int (((6 : Int32) * p1) + s1.2), .ref 38, .int s1.1]) (h' := (hh X g I)) rfl ?_
      refine Go_cR (y' := 16) (As := [.ref 38, .int (((6 : Int32) * p1) + s1.2)]) (r := [.int s1.1]) rfl (g_x_at16 38 (((6 : Int32) * p1) + s1.2) (by omega)) fun v3 => ?_
      refine Go_blk 4 (pc' := 4) (L' := [(3, .int (s1.2 + (1 : Int32))), (2, .int (if s1.1 < v3 then v3 else s1.1)), (0, .ref 35), (1, .int p1)]) (S' := []) (h' := (hh X g I)) rfl ?_
      exact Go_jmp [(0, .ref 35), (1, .int p1), (2, .int (if s1.1 < v3 then v3 else s1.1)), (3, .int (s1.2 + (1 : Int32)))] rfl ⟨rfl, rfl, rfl, rfl, trivial⟩ (fun _ h => h)
    ·
      exact Go_jmp [(2, .int s1.1)] rfl ⟨rfl, trivial⟩ (fun _ h => h)
set_option maxRecDepth 1000000 in
set_option maxHeartbeats 4000000 in
theorem g_boo_hourToLookAt233  {X : XX} {g : GG} {I : MJ} {d : Nat} (hd : 5 ≤ d) : Go d 233 0 (lv_args 0 [.ref 35, .ref 19]) [] (hh X g I) (f_boo_hourToLookAt233  I) (pW X g) := by
  obtain ⟨d, rfl⟩ : ∃ k, d = k + 1 := ⟨d - 1, by omega⟩
  unfold f_boo_hourToLookAt233
  refine Go_blk 2 (pc' := 2) (L' := [(0, .ref 35), (1, .ref 19)]) (S' := [.ref 19, .ref 35]) (h' := (hh X g I)) rfl ?_
  refine Go_cV (y' := 234) (As := [.ref 35, .ref 19]) (r := []) rfl (g_boo_countChances234  (by omega)) fun I1 => ?_
  refine Go_blk 4 (pc' := 9) (L' := [(3, .int (0 : Int32)), (2, .int (-1 : Int32)), (0, .ref 35), (1, .ref 19)]) (S' := []) (h' := (hh X g I1)) rfl ?_
  refine Go_lcs [(0, .ref 35), (2, .int (-1 : Int32)), (3, .int (0 : Int32))] rfl ⟨rfl, rfl, rfl, trivial⟩ ?_
  refine Go_seq (pcj := 65) (fun (b3 : Int32) => [(2, .int b3)]) (fun (b3 : Int32) => []) (fun (b3 : Int32) => (hh X g I1)) (fun b3 => ?_) ?_
  ·
    refine Go_blk 1 (pc' := 66) (L' := [(2, .int b3)]) (S' := [.int b3]) (h' := (hh X g I1)) rfl ?_
    exact Go_ret (fun _ h => h) rfl
  ·
    refine Go_wh (fun (s2 : Int32 × Int32) => [(0, .ref 35), (2, .int s2.1), (3, .int s2.2)]) (fun _ => []) (fun (s2 : Int32 × Int32) => (hh X g I1)) (fun s2 => ?_) ((-1 : Int32), (0 : Int32))
    refine Go_blk 2 (pc' := 12) (L' := [(0, .ref 35), (2, .int s2.1), (3, .int s2.2)]) (S' := [.int (12 : Int32), .int s2.2]) (h' := (hh X g I1)) rfl ?_
    refine Go_cmpn rfl rfl (ab_cge _ _) ?_ ?_
    ·
      refine Go_blk 3 (pc' := 20) (L' := [(0, .ref 35), (2, .int s2.1), (3, .int s2.2)]) (S' := [.int s2.2, .ref 36]) (h' := (hh X g I1)) rfl ?_
      refine Go_cR (y' := 16) (As := [.ref 36, .int s2.2]) (r := []) rfl (g_x_at16 36 s2.2 (by omega)) fun v4 => ?_
      refine Go_blk 1 (pc' := 24) (L' := [(0, .ref 35), (2, .int s2.1), (3, .int s2.2)]) (S' := [.int (-1 : Int32), .int v4]) (h' := (hh X g I1)) rfl ?_
      refine Go_seq (pcj := 32) (fun (b5 : Int32) => [(0, .ref 35), (2, .int s2.1), (3, .int s2.2)]) (fun (b5 : Int32) => [.int b5]) (fun (b5 : Int32) => (hh X g I1)) (fun b5 => ?_) ?_
      ·
        refine Go_blk 2 (pc' := 36) (L' := [(4, .int b5), (0, .ref 35), (2, .int s2.1), (3, .int s2.2)]) (S' := [.int b5]) (h' := (hh X g I1)) rfl ?_
        refine Go_seq (pcj := 59) (fun (b6 : Int32) => [(0, .ref 35), (2, .int b6), (3, .int s2.2)]) (fun (b6 : Int32) => []) (fun (b6 : Int32) => (hh X g I1)) (fun b6 => ?_) ?_
        ·
          refine Go_blk 2 (pc' := 9) (L' := [(3, .int (s2.2 + (1 : Int32))), (0, .ref 35), (2, .int b6)]) (S' := []) (h' := (hh X g I1)) rfl ?_
          exact Go_jmp [(0, .ref 35), (2, .int b6), (3, .int (s2.2 + (1 : Int32)))] rfl ⟨rfl, rfl, rfl, trivial⟩ (fun _ h => h)
        ·
          refine Go_cmz rfl rfl rfl ?_ ?_
          ·
            exact Go_jmp [(0, .ref 35), (2, .int s2.1), (3, .int s2.2)] rfl ⟨rfl, rfl, rfl, trivial⟩ (fun _ h => h)
          ·
            refine Go_blk 2 (pc' := 41) (L' := [(4, .int b5), (0, .ref 35), (2, .int s2.1), (3, .int s2.2)]) (S' := [.int (-1 : Int32), .int s2.1]) (h' := (hh X g I1)) rfl ?_
            refine Go_cmp rfl rfl rfl ?_ ?_
            ·
              refine Go_blk 2 (pc' := 59) (L' := [(2, .int s2.2), (4, .int b5), (0, .ref 35), (3, .int s2.2)]) (S' := []) (h' := (hh X g I1)) rfl ?_
              exact Go_jmp [(0, .ref 35), (2, .int s2.2), (3, .int s2.2)] rfl ⟨rfl, rfl, rfl, trivial⟩ (fun _ h => h)
            ·
              refine Go_blk 2 (pc' := 46) (L' := [(4, .int b5), (0, .ref 35), (2, .int s2.1), (3, .int s2.2)]) (S' := [.int s2.2, .ref 35]) (h' := (hh X g I1)) rfl ?_
              refine Go_cR (y' := 236) (As := [.ref 35, .int s2.2]) (r := []) rfl (g_boo_leftAtWorst236 s2.2 (by omega)) fun v7 => ?_
              refine Go_blk 2 (pc' := 51) (L' := [(4, .int b5), (0, .ref 35), (2, .int s2.1), (3, .int s2.2)]) (S' := [.int s2.1, .ref 35, .int v7]) (h' := (hh X g I1)) rfl ?_
              refine Go_cR (y' := 236) (As := [.ref 35, .int s2.1]) (r := [.int v7]) rfl (g_boo_leftAtWorst236 s2.1 (by omega)) fun v8 => ?_
              refine Go_cmpn rfl rfl (ab_cge _ _) ?_ ?_
              ·
                refine Go_blk 2 (pc' := 59) (L' := [(2, .int s2.2), (4, .int b5), (0, .ref 35), (3, .int s2.2)]) (S' := []) (h' := (hh X g I1)) rfl ?_
                exact Go_jmp [(0, .ref 35), (2, .int s2.2), (3, .int s2.2)] rfl ⟨rfl, rfl, rfl, trivial⟩ (fun _ h => h)
              ·
                exact Go_jmp [(0, .ref 35), (2, .int s2.1), (3, .int s2.2)] rfl ⟨rfl, rfl, rfl, trivial⟩ (fun _ h => h)
      ·
        refine Go_cmpn rfl rfl rfl ?_ ?_
        ·
          refine Go_blk 2 (pc' := 32) (L' := [(0, .ref 35), (2, .int s2.1), (3, .int s2.2)]) (S' := [.int (1 : Int32)]) (h' := (hh X g I1)) rfl ?_
          exact Go_jmp [(0, .ref 35), (2, .int s2.1), (3, .int s2.2)] rfl ⟨rfl, rfl, rfl, trivial⟩ (fun _ h => h)
        ·
          refine Go_blk 1 (pc' := 32) (L' := [(0, .ref 35), (2, .int s2.1), (3, .int s2.2)]) (S' := [.int (0 : Int32)]) (h' := (hh X g I1)) rfl ?_
          exact Go_jmp [(0, .ref 35), (2, .int s2.1), (3, .int s2.2)] rfl ⟨rfl, rfl, rfl, trivial⟩ (fun _ h => h)
    ·
      exact Go_jmp [(2, .int s2.1)] rfl ⟨rfl, trivial⟩ (fun _ h => h)
set_option maxRecDepth 1000000 in
set_option maxHeartbeats 4000000 in
theorem g_x_look232 (p1 : Int32) {X : XX} {g : GG} {I : MJ} {d : Nat} (hd : 6 ≤ d) : Go d 232 0 (lv_args 0 [.ref 0, .int p1]) [] (hh X g I) (f_x_look232 p1 I) (pT vI X g) := by
  obtain ⟨d, rfl⟩ : ∃ k, d = k + 1 := ⟨d - 1, by omega⟩
  unfold f_x_look232
  refine Go_blk 4 (pc' := 4) (L' := [(0, .ref 0), (1, .int p1)]) (S' := [.int (1 : Int32), .int (0 : Int32), .int p1, .ref 0]) (h' := (hh X g I)) rfl ?_
  refine Go_cT (y' := 38) (As := [.ref 0, .int p1, .int (0 : Int32), .int (1 : Int32)]) (r := []) rfl rfl (g_x_needWithin38 p1 (0 : Int32) (1 : Int32) (by omega)) fun v1 I2 => ?_
  refine Go_blk 4 (pc' := 15) (L' := [(0, .ref 0), (1, .int p1)]) (S' := [.ref 19, .ref 35]) (h' := (hh X g I2)) rfl ?_
  refine Go_cW (y' := 233) (As := [.ref 35, .ref 19]) (r := []) rfl (g_boo_hourToLookAt233  (by omega)) fun w3 => ?_
  refine Go_blk 2 (pc' := 20) (L' := [(2, .int w3.1), (0, .ref 0), (1, .int p1)]) (S' := [.int p1]) (h' := (hh X g w3.2)) rfl ?_
  refine Go_seq (pcj := 40) (fun (b4 : Int32) => []) (fun (b4 : Int32) => [.int b4]) (fun (b4 : Int32) => (hh X g w3.2)) (fun b4 => ?_) ?_
  ·
    exact Go_ret (fun _ h => h) rfl
  ·
    refine Go_cmz rfl rfl rfl ?_ ?_
    ·
      refine Go_blk 2 (pc' := 40) (L' := [(2, .int w3.1), (0, .ref 0), (1, .int p1)]) (S' := [.int w3.1]) (h' := (hh X g w3.2)) rfl ?_
      exact Go_jmp [] rfl trivial (fun _ h => h)
    ·
      refine Go_blk 2 (pc' := 25) (L' := [(2, .int w3.1), (0, .ref 0), (1, .int p1)]) (S' := [.int (-1 : Int32), .int w3.1]) (h' := (hh X g w3.2)) rfl ?_
      refine Go_cmpn rfl rfl rfl ?_ ?_
      ·
        refine Go_blk 2 (pc' := 40) (L' := [(2, .int w3.1), (0, .ref 0), (1, .int p1)]) (S' := [.int w3.1]) (h' := (hh X g w3.2)) rfl ?_
        exact Go_jmp [] rfl trivial (fun _ h => h)
      ·
        refine Go_blk 3 (pc' := 37) (L' := [(2, .int w3.1), (0, .ref 0), (1, .int p1)]) (S' := [.int w3.1, .ref 35]) (h' := (hh X g w3.2)) rfl ?_
        refine Go_cR (y' := 236) (As := [.ref 35, .int w3.1]) (r := []) rfl (g_boo_leftAtWorst236 w3.1 (by omega)) fun v5 => ?_
        exact Go_jmp [] rfl trivial (fun _ h => h)
set_option maxRecDepth 1000000 in
set_option maxHeartbeats 4000000 in
theorem g_l_look231 (p1 : Int32) {X : XX} {g : GG} {I : MJ} {d : Nat} (hd : 7 ≤ d) : Go d 231 0 (lv_args 0 [.ref 0, .int p1, .ref 698]) [] (hh X g I) (f_l_look231 p1 I g) (pG X) := by
  obtain ⟨d, rfl⟩ : ∃ k, d = k + 1 := ⟨d - 1, by omega⟩
  unfold f_l_look231
  refine Go_blk 4 (pc' := 4) (L' := [(0, .ref 0), (1, .int p1), (2, .ref 698)]) (S' := [.int p1, .ref 0, .int (0 : Int32), .ref 698]) (h' := (hh X g I)) rfl ?_
  refine Go_try (y' := 232) (As := [.ref 0, .int p1]) (r := [.int (0 : Int32), .ref 698]) rfl (g_x_look232 p1 (by omega)) (fun v1 I2 => ?_) (fun E2 I2 => ?_)
  ·
    refine Go_blk 1 (pc' := 8) (L' := [(0, .ref 0), (1, .int p1), (2, .ref 698)]) (S' := [.long (v1.toInt64), .int (0 : Int32), .ref 698]) (h' := (hh X g I2)) rfl ?_
    refine Go_last rfl fun g3 => ?_
    refine Go_blk 2 (pc' := 16) (L' := [(0, .ref 0), (1, .int p1), (2, .ref 698)]) (S' := [.int (0 : Int32)]) (h' := (hh X g3 I2)) rfl ?_
    exact Go_ret (fun _ h => h) rfl
  ·
    refine GX_ite ?_ ?_
    ·
      refine GX_go rfl (t := 13) (k := 3) rfl ?_
      refine Go_blk 1 (pc' := 14) (L' := [(0, .ref 0), (1, .int p1), (2, .ref 698)]) (S' := [.int (1 : Int32)]) (h' := (hh X (thr g) I2)) rfl ?_
      exact Go_ret (fun _ h => h) rfl
    exact GX_none
set_option maxRecDepth 1000000 in
set_option maxHeartbeats 4000000 in
theorem g_m_isInBook369 (p1 : Int32) {X : XX} {g : GG} {I : MJ} {d : Nat} (hd : 0 ≤ d) : Go d 369 0 (lv_args 0 [.ref 47, .int p1]) [] (hh X g I) (f_m_isInBook369 p1 I) (pR X g I) := by
  unfold f_m_isInBook369
  refine Go_blk 2 (pc' := 2) (L' := [(2, .int (0 : Int32)), (0, .ref 47), (1, .int p1)]) (S' := []) (h' := (hh X g I)) rfl ?_
  refine Go_lcs [(0, .ref 47), (1, .int p1), (2, .int (0 : Int32))] rfl ⟨rfl, rfl, rfl, trivial⟩ ?_
  refine Go_wh (fun (s1 : Int32) => [(0, .ref 47), (1, .int p1), (2, .int s1)]) (fun _ => []) (fun (s1 : Int32) => (hh X g I)) (fun s1 => ?_) (0 : Int32)
  refine Go_blk 3 (pc' := 7) (L' := [(0, .ref 47), (1, .int p1), (2, .int s1)]) (S' := [.int (I 47 39), .int s1]) (h' := (hh X g I)) rfl ?_
  refine Go_cmpn rfl rfl (ab_cge _ _) ?_ ?_
  ·
    refine Go_blk 3 (pc' := 15) (L' := [(0, .ref 47), (1, .int p1), (2, .int s1)]) (S' := [.int s1, .ref 467]) (h' := (hh X g I)) rfl ?_
    refine Go_aald rfl fun r2 => ?_
    refine Go_blk 1 (pc' := 17) (L' := [(0, .ref 47), (1, .int p1), (2, .int s1)]) (S' := [.int (0 : Int32), .ref r2]) (h' := (hh X g I)) rfl ?_
    refine Go_iald rfl fun v3 => ?_
    refine Go_blk 1 (pc' := 19) (L' := [(0, .ref 47), (1, .int p1), (2, .int s1)]) (S' := [.int p1, .int v3]) (h' := (hh X g I)) rfl ?_
    refine Go_cmpn rfl rfl rfl ?_ ?_
    ·
      refine Go_inrS ?_
      refine Go_blk 1 (pc' := 23) (L' := [(0, .ref 47), (1, .int p1), (2, .int s1)]) (S' := [.int (1 : Int32)]) (h' := (hh X g I)) rfl ?_
      exact Go_ret (fun _ h => h) rfl
    ·
      refine Go_blk 2 (pc' := 2) (L' := [(2, .int (s1 + (1 : Int32))), (0, .ref 47), (1, .int p1)]) (S' := []) (h' := (hh X g I)) rfl ?_
      exact Go_jmp [(0, .ref 47), (1, .int p1), (2, .int (s1 + (1 : Int32)))] rfl ⟨rfl, rfl, rfl, trivial⟩ (fun _ h => h)
  ·
    refine Go_inrS ?_
    refine Go_blk 1 (pc' := 31) (L' := [(0, .ref 47), (1, .int p1), (2, .int s1)]) (S' := [.int (0 : Int32)]) (h' := (hh X g I)) rfl ?_
    exact Go_ret (fun _ h => h) rfl
set_option maxRecDepth 1000000 in
set_option maxHeartbeats 4000000 in
theorem g_m_worstAt370 (p1 : Int32) {X : XX} {g : GG} {I : MJ} {d : Nat} (hd : 2 ≤ d) : Go d 370 0 (lv_args 0 [.ref 47, .int p1]) [] (hh X g I) (f_m_worstAt370 p1 I) (pW X g) := by
  obtain ⟨d, rfl⟩ : ∃ k, d = k + 1 := ⟨d - 1, by omega⟩
  unfold f_m_worstAt370
  refine Go_blk 4 (pc' := 4) (L' := [(3, .int (0 : Int32)), (2, .int (0 : Int32)), (0, .ref 47), (1, .int p1)]) (S' := []) (h' := (hh X g I)) rfl ?_
  refine Go_lcs [(0, .ref 47), (1, .int p1), (2, .int (0 : Int32)), (3, .int (0 : Int32))] rfl ⟨rfl, rfl, rfl, rfl, trivial⟩ ?_
  refine Go_seq (pcj := 23) (fun (b2 : MJ) => [(0, .ref 47), (1, .int p1), (2, .int (0 : Int32))]) (fun (b2 : MJ) => []) (fun (b2 : MJ) => (hh X g b2)) (fun b2 => ?_) ?_
  ·
    refine Go_blk 2 (pc' := 25) (L' := [(3, .int (0 : Int32)), (0, .ref 47), (1, .int p1), (2, .int (0 : Int32))]) (S' := []) (h' := (hh X g b2)) rfl ?_
    refine Go_lcs [(0, .ref 47), (1, .int p1), (2, .int (0 : Int32)), (3, .int (0 : Int32))] rfl ⟨rfl, rfl, rfl, rfl, trivial⟩ ?_
    refine Go_seq (pcj := 83) (fun (b4 : MJ) => [(0, .ref 47), (2, .int (0 : Int32))]) (fun (b4 : MJ) => []) (fun (b4 : MJ) => (hh X g b4)) (fun b4 => ?_) ?_
    ·
      refine Go_blk 2 (pc' := 85) (L' := [(3, .int (0 : Int32)), (0, .ref 47), (2, .int (0 : Int32))]) (S' := []) (h' := (hh X g b4)) rfl ?_
      refine Go_lcs [(0, .ref 47), (2, .int (0 : Int32)), (3, .int (0 : Int32))] rfl ⟨rfl, rfl, rfl, trivial⟩ ?_
      refine Go_seq (pcj := 108) (fun (b6 : Int32) => [(2, .int b6)]) (fun (b6 : Int32) => []) (fun (b6 : Int32) => (hh X g b4)) (fun b6 => ?_) ?_
      ·
        refine Go_blk 1 (pc' := 109) (L' := [(2, .int b6)]) (S' := [.int b6]) (h' := (hh X g b4)) rfl ?_
        exact Go_ret (fun _ h => h) rfl
      ·
        refine Go_wh (fun (s5 : Int32 × Int32) => [(0, .ref 47), (2, .int s5.1), (3, .int s5.2)]) (fun _ => []) (fun (s5 : Int32 × Int32) => (hh X g b4)) (fun s5 => ?_) ((0 : Int32), (0 : Int32))
        refine Go_blk 2 (pc' := 88) (L' := [(0, .ref 47), (2, .int s5.1), (3, .int s5.2)]) (S' := [.int (6 : Int32), .int s5.2]) (h' := (hh X g b4)) rfl ?_
        refine Go_cmpn rfl rfl (ab_cge _ _) ?_ ?_
        ·
          refine Go_blk 4 (pc' := 97) (L' := [(0, .ref 47), (2, .int s5.1), (3, .int s5.2)]) (S' := [.int s5.2, .ref 697, .int s5.1]) (h' := (hh X g b4)) rfl ?_
          refine Go_iald rfl fun v7 => ?_
          refine Go_cR (y' := 320) (As := [.int s5.1, .int v7]) (r := []) rfl (g_m_more320 s5.1 v7 (by omega)) fun v8 => ?_
          refine Go_blk 3 (pc' := 85) (L' := [(3, .int (s5.2 + (1 : Int32))), (2, .int v8), (0, .ref 47)]) (S' := []) (h' := (hh X g b4)) rfl ?_
          exact Go_jmp [(0, .ref 47), (2, .int v8), (3, .int (s5.2 + (1 : Int32)))] rfl ⟨rfl, rfl, rfl, trivial⟩ (fun _ h => h)
        ·
          exact Go_jmp [(2, .int s5.1)] rfl ⟨rfl, trivial⟩ (fun _ h => h)
    ·
      refine Go_wh (fun (s3 : Int32 × MJ) => [(0, .ref 47), (1, .int p1), (2, .int (0 : Int32)), (3, .int s3.1)]) (fun _ => []) (fun (s3 : Int32 × MJ) => (hh X g s3.2)) (fun s3 => ?_) ((0 : Int32), b2)
      refine Go_blk 2 (pc' := 28) (L' := [(0, .ref 47), (1, .int p1), (2, .int (0 : Int32)), (3, .int s3.1)]) (S' := [.int (6 : Int32), .int s3.1]) (h' := (hh X g s3.2)) rfl ?_
      refine Go_cmpn rfl rfl (ab_cge _ _) ?_ ?_
      ·
        refine Go_blk 2 (pc' := 34) (L' := [(4, .int (0 : Int32)), (0, .ref 47), (1, .int p1), (2, .int (0 : Int32)), (3, .int s3.1)]) (S' := []) (h' := (hh X g s3.2)) rfl ?_
        refine Go_lcs [(0, .ref 47), (1, .int p1), (2, .int (0 : Int32)), (3, .int s3.1), (4, .int (0 : Int32))] rfl ⟨rfl, rfl, rfl, rfl, rfl, trivial⟩ ?_
        refine Go_seq (pcj := 77) (fun (b10 : MJ) => [(0, .ref 47), (1, .int p1), (2, .int (0 : Int32)), (3, .int s3.1)]) (fun (b10 : MJ) => []) (fun (b10 : MJ) => (hh X g b10)) (fun b10 => ?_) ?_
        ·
          refine Go_blk 2 (pc' := 25) (L' := [(3, .int (s3.1 + (1 : Int32))), (0, .ref 47), (1, .int p1), (2, .int (0 : Int32))]) (S' := []) (h' := (hh X g b10)) rfl ?_
          exact Go_jmp [(0, .ref 47), (1, .int p1), (2, .int (0 : Int32)), (3, .int (s3.1 + (1 : Int32)))] rfl ⟨rfl, rfl, rfl, rfl, trivial⟩ (fun _ h => h)
        ·
          refine Go_wh (fun (s9 : Int32 × MJ) => [(0, .ref 47), (1, .int p1), (2, .int (0 : Int32)), (3, .int s3.1), (4, .int s9.1)]) (fun _ => []) (fun (s9 : Int32 × MJ) => (hh X g s9.2)) (fun s9 => ?_) ((0 : Int32), s3.2)
          refine Go_blk 2 (pc' := 38) (L' := [(0, .ref 47), (1, .int p1), (2, .int (0 : Int32)), (3, .int s3.1), (4, .int s9.1)]) (S' := [.int (12 : Int32), .int s9.1]) (h' := (hh X g s9.2)) rfl ?_
          refine Go_cmpn rfl rfl (ab_cge _ _) ?_ ?_
          ·
            refine Go_blk 2 (pc' := 43) (L' := [(0, .ref 47), (1, .int p1), (2, .int (0 : Int32)), (3, .int s3.1), (4, .int s9.1)]) (S' := [.int s3.1, .ref 47]) (h' := (hh X g s9.2)) rfl ?_
            refine Go_cR (y' := 365) (As := [.ref 47, .int s3.1]) (r := []) rfl (g_m_skiesOf365 s3.1 (by omega)) fun v11 => ?_
            refine Go_blk 1 (pc' := 48) (L' := [(0, .ref 47), (1, .int p1), (2, .int (0 : Int32)), (3, .int s3.1), (4, .int s9.1)]) (S' := [.int s9.1, .int v11]) (h' := (hh X g s9.2)) rfl ?_
            refine Go_cR (y' := 313) (As := [.int v11, .int s9.1]) (r := []) rfl (g_m_has313 v11 s9.1 (by omega)) fun v12 => ?_
            refine Go_seq (pcj := 71) (fun (b13 : MJ) => [(0, .ref 47), (1, .int p1), (2, .int (0 : Int32)), (3, .int s3.1), (4, .int s9.1)]) (fun (b13 : MJ) => []) (fun (b13 : MJ) => (hh X g b13)) (fun b13 => ?_) ?_
            ·
              refine Go_blk 2 (pc' := 34) (L' := [(4, .int (s9.1 + (1 : Int32))), (0, .ref 47), (1, .int p1), (2, .int (0 : Int32)), (3, .int s3.1)]) (S' := []) (h' := (hh X g b13)) rfl ?_
              exact Go_jmp [(0, .ref 47), (1, .int p1), (2, .int (0 : Int32)), (3, .int s3.1), (4, .int (s9.1 + (1 : Int32)))] rfl ⟨rfl, rfl, rfl, rfl, rfl, trivial⟩ (fun _ h => h)
            ·
              refine Go_cmz rfl rfl rfl ?_ ?_
              ·
                exact Go_jmp [(0, .ref 47), (1, .int p1), (2, .int (0 : Int32)), (3, .int s3.1), (4, .int s9.1)] rfl ⟨rfl, rfl, rfl, rfl, rfl, trivial⟩ (fun _ h => h)
              ·
                refine Go_blk 6 (pc' := 63) (L' := [(0, .ref 47), (1, .int p1), (2, .int (0 : Int32)), (3, .int s3.1), (4, .int s9.1)]) (S' := [.int p1, .int s9.1, .int s3.1, .ref 47, .ref 697]) (h' := (hh X g s9.2)) rfl ?_
                refine Go_cR (y' := 366) (As := [.ref 47, .int s3.1, .int s9.1, .int p1]) (r := [.ref 697]) rfl (g_m_skyAt366 s3.1 s9.1 p1 (by omega)) fun v14 => ?_
                refine Go_blk 1 (pc' := 67) (L' := [(0, .ref 47), (1, .int p1), (2, .int (0 : Int32)), (3, .int s3.1), (4, .int s9.1)]) (S' := [.int v14, .ref 697, .int v14, .ref 697]) (h' := (hh X g s9.2)) rfl ?_
                refine Go_iald rfl fun v15 => ?_
                refine Go_blk 2 (pc' := 70) (L' := [(0, .ref 47), (1, .int p1), (2, .int (0 : Int32)), (3, .int s3.1), (4, .int s9.1)]) (S' := [.int (v15 + (1 : Int32)), .int v14, .ref 697]) (h' := (hh X g s9.2)) rfl ?_
                refine Go_iast rfl fun I16 => ?_
                exact Go_jmp [(0, .ref 47), (1, .int p1), (2, .int (0 : Int32)), (3, .int s3.1), (4, .int s9.1)] rfl ⟨rfl, rfl, rfl, rfl, rfl, trivial⟩ (fun _ h => h)
          ·
            exact Go_jmp [(0, .ref 47), (1, .int p1), (2, .int (0 : Int32)), (3, .int s3.1)] rfl ⟨rfl, rfl, rfl, rfl, trivial⟩ (fun _ h => h)
      ·
        exact Go_jmp [(0, .ref 47), (2, .int (0 : Int32))] rfl ⟨rfl, rfl, trivial⟩ (fun _ h => h)
  ·
    refine Go_wh (fun (s1 : Int32 × MJ) => [(0, .ref 47), (1, .int p1), (2, .int (0 : Int32)), (3, .int s1.1)]) (fun _ => []) (fun (s1 : Int32 × MJ) => (hh X g s1.2)) (fun s1 => ?_) ((0 : Int32), I)
    refine Go_blk 2 (pc' := 7) (L' := [(0, .ref 47), (1, .int p1), (2, .int (0 : Int32)), (3, .int s1.1)]) (S' := [.int (6 : Int32), .int s1.1]) (h' := (hh X g s1.2)) rfl ?_
    refine Go_cmpn rfl rfl (ab_cge _ _) ?_ ?_
    ·
      refine Go_blk 4 (pc' := 16) (L' := [(0, .ref 47), (1, .int p1), (2, .int (0 : Int32)), (3, .int s1.1)]) (S' := [.int (0 : Int32), .int s1.1, .ref 697]) (h' := (hh X g s1.2)) rfl ?_
      refine Go_iast rfl fun I17 => ?_
      refine Go_blk 2 (pc' := 4) (L' := [(3, .int (s1.1 + (1 : Int32))), (0, .ref 47), (1, .int p1), (2, .int (0 : Int32))]) (S' := []) (h' := (hh X g I17)) rfl ?_
      exact Go_jmp [(0, .ref 47), (1, .int p1), (2, .int (0 : Int32)), (3, .int (s1.1 + (1 : Int32)))] rfl ⟨rfl, rfl, rfl, rfl, trivial⟩ (fun _ h => h)
    ·
      exact Go_jmp [(0, .ref 47), (1, .int p1), (2, .int (0 : Int32))] rfl ⟨rfl, rfl, rfl, trivial⟩ (fun _ h => h)
set_option maxRecDepth 1000000 in
set_option maxHeartbeats 4000000 in
theorem g_m_look368 (p1 : Int32) {X : XX} {g : GG} {I : MJ} {d : Nat} (hd : 3 ≤ d) : Go d 368 0 (lv_args 0 [.ref 47, .int p1]) [] (hh X g I) (f_m_look368 p1 I) (pW X g) := by
  obtain ⟨d, rfl⟩ : ∃ k, d = k + 1 := ⟨d - 1, by omega⟩
  unfold f_m_look368
  refine Go_blk 7 (pc' := 9) (L' := [(0, .ref 47), (1, .int p1)]) (S' := [.int (1 : Int32), .int (0 : Int32), .int p1, .ref 47]) (h' := (hh X g (ab_up1 I 47 0 (0 : Int32)))) rfl ?_
  refine Go_cR (y' := 264) (As := [.int p1, .int (0 : Int32), .int (1 : Int32)]) (r := [.ref 47]) rfl (g_m_in264 p1 (0 : Int32) (1 : Int32) (by omega)) fun v1 => ?_
  refine Go_seq (pcj := 20) (fun (b2 : Int32) => [(0, .ref 47), (1, .int p1)]) (fun (b2 : Int32) => [.int b2, .ref 47]) (fun (b2 : Int32) => (hh X g (ab_up1 I 47 0 (0 : Int32)))) (fun b2 => ?_) ?_
  ·
    refine Go_blk 2 (pc' := 22) (L' := [(0, .ref 47), (1, .int p1)]) (S' := [.int (1 : Int32), .int (1 : Int32), .int b2, .ref 47]) (h' := (hh X g (ab_up1 I 47 0 (0 : Int32)))) rfl ?_
    refine Go_cW (y' := 268) (As := [.ref 47, .int b2, .int (1 : Int32), .int (1 : Int32)]) (r := []) rfl (g_m_bad268 b2 (1 : Int32) (1 : Int32) (by omega)) fun w3 => ?_
    refine Go_cmz rfl rfl rfl ?_ ?_
    ·
      refine Go_blk 6 (pc' := 37) (L' := [(4, .int (0 : Int32)), (3, .int (-1 : Int32)), (2, .int (-1 : Int32)), (0, .ref 47), (1, .int p1)]) (S' := []) (h' := (hh X g w3.2)) rfl ?_
      refine Go_lcs [(0, .ref 47), (1, .int p1), (2, .int (-1 : Int32)), (3, .int (-1 : Int32)), (4, .int (0 : Int32))] rfl ⟨rfl, rfl, rfl, rfl, rfl, trivial⟩ ?_
      refine Go_seq (pcj := 90) (fun (b5 : Int32 × Int32 × MJ) => [(1, .int p1), (2, .int b5.1), (3, .int b5.2.1)]) (fun (b5 : Int32 × Int32 × MJ) => []) (fun (b5 : Int32 × Int32 × MJ) => (hh X g b5.2.2)) (fun b5 => ?_) ?_
      ·
        refine Go_blk 1 (pc' := 91) (L' := [(1, .int p1), (2, .int b5.1), (3, .int b5.2.1)]) (S' := [.int p1]) (h' := (hh X g b5.2.2)) rfl ?_
        refine Go_seq (pcj := 99) (fun (b6 : Int32) => []) (fun (b6 : Int32) => [.int b6]) (fun (b6 : Int32) => (hh X g b5.2.2)) (fun b6 => ?_) ?_
        ·
          exact Go_ret (fun _ h => h) rfl
        ·
          refine Go_cmzn rfl rfl rfl ?_ ?_
          ·
            refine Go_blk 2 (pc' := 99) (L' := [(1, .int p1), (2, .int b5.1), (3, .int b5.2.1)]) (S' := [.int b5.1]) (h' := (hh X g b5.2.2)) rfl ?_
            exact Go_jmp [] rfl trivial (fun _ h => h)
          ·
            refine Go_blk 1 (pc' := 99) (L' := [(1, .int p1), (2, .int b5.1), (3, .int b5.2.1)]) (S' := [.int b5.2.1]) (h' := (hh X g b5.2.2)) rfl ?_
            exact Go_jmp [] rfl trivial (fun _ h => h)
      ·
        refine Go_wh (fun (s4 : Int32 × Int32 × Int32 × MJ) => [(0, .ref 47), (1, .int p1), (2, .int s4.1), (3, .int s4.2.1), (4, .int s4.2.2.1)]) (fun _ => []) (fun (s4 : Int32 × Int32 × Int32 × MJ) => (hh X g s4.2.2.2)) (fun s4 => ?_) ((-1 : Int32), (-1 : Int32), (0 : Int32), w3.2)
        refine Go_blk 2 (pc' := 41) (L' := [(0, .ref 47), (1, .int p1), (2, .int s4.1), (3, .int s4.2.1), (4, .int s4.2.2.1)]) (S' := [.int (12 : Int32), .int s4.2.2.1]) (h' := (hh X g s4.2.2.2)) rfl ?_
        refine Go_cmpn rfl rfl (ab_cge _ _) ?_ ?_
        ·
          refine Go_blk 2 (pc' := 47) (L' := [(0, .ref 47), (1, .int p1), (2, .int s4.1), (3, .int s4.2.1), (4, .int s4.2.2.1)]) (S' := [.int s4.2.2.1, .ref 47]) (h' := (hh X g s4.2.2.2)) rfl ?_
          refine Go_cR (y' := 369) (As := [.ref 47, .int s4.2.2.1]) (r := []) rfl (g_m_isInBook369 s4.2.2.1 (by omega)) fun v7 => ?_
          refine Go_seq (pcj := 84) (fun (b8 : Int32 × Int32 × MJ) => [(0, .ref 47), (1, .int p1), (2, .int b8.1), (3, .int b8.2.1), (4, .int s4.2.2.1)]) (fun (b8 : Int32 × Int32 × MJ) => []) (fun (b8 : Int32 × Int32 × MJ) => (hh X g b8.2.2)) (fun b8 => ?_) ?_
          ·
            refine Go_blk 2 (pc' := 37) (L' := [(4, .int (s4.2.2.1 + (1 : Int32))), (0, .ref 47), (1, .int p1), (2, .int b8.1), (3, .int b8.2.1)]) (S' := []) (h' := (hh X g b8.2.2)) rfl ?_
            exact Go_jmp [(0, .ref 47), (1, .int p1), (2, .int b8.1), (3, .int b8.2.1), (4, .int (s4.2.2.1 + (1 : Int32)))] rfl ⟨rfl, rfl, rfl, rfl, rfl, trivial⟩ (fun _ h => h)
          ·
            refine Go_cmz rfl rfl rfl ?_ ?_
            ·
              refine Go_blk 2 (pc' := 59) (L' := [(0, .ref 47), (1, .int p1), (2, .int s4.1), (3, .int s4.2.1), (4, .int s4.2.2.1)]) (S' := [.int s4.2.2.1, .ref 47]) (h' := (hh X g s4.2.2.2)) rfl ?_
              refine Go_cW (y' := 370) (As := [.ref 47, .int s4.2.2.1]) (r := []) rfl (g_m_worstAt370 s4.2.2.1 (by omega)) fun w9 => ?_
              refine Go_blk 3 (pc' := 66) (L' := [(5, .int w9.1), (0, .ref 47), (1, .int p1), (2, .int s4.1), (3, .int s4.2.1), (4, .int s4.2.2.1)]) (S' := [.int (-1 : Int32), .int s4.1]) (h' := (hh X g w9.2)) rfl ?_
              refine Go_cmp rfl rfl rfl ?_ ?_
              ·
                refine Go_blk 4 (pc' := 84) (L' := [(3, .int w9.1), (2, .int s4.2.2.1), (5, .int w9.1), (0, .ref 47), (1, .int p1), (4, .int s4.2.2.1)]) (S' := []) (h' := (hh X g w9.2)) rfl ?_
                exact Go_jmp [(0, .ref 47), (1, .int p1), (2, .int s4.2.2.1), (3, .int w9.1), (4, .int s4.2.2.1)] rfl ⟨rfl, rfl, rfl, rfl, rfl, trivial⟩ (fun _ h => h)
              ·
                refine Go_blk 2 (pc' := 72) (L' := [(5, .int w9.1), (0, .ref 47), (1, .int p1), (2, .int s4.1), (3, .int s4.2.1), (4, .int s4.2.2.1)]) (S' := [.int s4.2.1, .int w9.1]) (h' := (hh X g w9.2)) rfl ?_
                refine Go_cmp rfl rfl rfl ?_ ?_
                ·
                  refine Go_blk 4 (pc' := 84) (L' := [(3, .int w9.1), (2, .int s4.2.2.1), (5, .int w9.1), (0, .ref 47), (1, .int p1), (4, .int s4.2.2.1)]) (S' := []) (h' := (hh X g w9.2)) rfl ?_
                  exact Go_jmp [(0, .ref 47), (1, .int p1), (2, .int s4.2.2.1), (3, .int w9.1), (4, .int s4.2.2.1)] rfl ⟨rfl, rfl, rfl, rfl, rfl, trivial⟩ (fun _ h => h)
                ·
                  refine Go_blk 1 (pc' := 84) (L' := [(5, .int w9.1), (0, .ref 47), (1, .int p1), (2, .int s4.1), (3, .int s4.2.1), (4, .int s4.2.2.1)]) (S' := []) (h' := (hh X g w9.2)) rfl ?_
                  exact Go_jmp [(0, .ref 47), (1, .int p1), (2, .int s4.1), (3, .int s4.2.1), (4, .int s4.2.2.1)] rfl ⟨rfl, rfl, rfl, rfl, rfl, trivial⟩ (fun _ h => h)
            ·
              refine Go_blk 1 (pc' := 84) (L' := [(0, .ref 47), (1, .int p1), (2, .int s4.1), (3, .int s4.2.1), (4, .int s4.2.2.1)]) (S' := []) (h' := (hh X g s4.2.2.2)) rfl ?_
              exact Go_jmp [(0, .ref 47), (1, .int p1), (2, .int s4.1), (3, .int s4.2.1), (4, .int s4.2.2.1)] rfl ⟨rfl, rfl, rfl, rfl, rfl, trivial⟩ (fun _ h => h)
        ·
          exact Go_jmp [(1, .int p1), (2, .int s4.1), (3, .int s4.2.1)] rfl ⟨rfl, rfl, rfl, trivial⟩ (fun _ h => h)
    ·
      refine Go_blk 1 (pc' := 29) (L' := [(0, .ref 47), (1, .int p1)]) (S' := [.int (0 : Int32)]) (h' := (hh X g w3.2)) rfl ?_
      exact Go_ret (fun _ h => h) rfl
  ·
    refine Go_cmzn rfl rfl rfl ?_ ?_
    ·
      refine Go_blk 2 (pc' := 20) (L' := [(0, .ref 47), (1, .int p1)]) (S' := [.int (1 : Int32), .ref 47]) (h' := (hh X g (ab_up1 I 47 0 (0 : Int32)))) rfl ?_
      exact Go_jmp [(0, .ref 47), (1, .int p1)] rfl ⟨rfl, rfl, trivial⟩ (fun _ h => h)
    ·
      refine Go_blk 1 (pc' := 20) (L' := [(0, .ref 47), (1, .int p1)]) (S' := [.int (0 : Int32), .ref 47]) (h' := (hh X g (ab_up1 I 47 0 (0 : Int32)))) rfl ?_
      exact Go_jmp [(0, .ref 47), (1, .int p1)] rfl ⟨rfl, rfl, trivial⟩ (fun _ h => h)
set_option maxRecDepth 1000000 in
set_option maxHeartbeats 4000000 in
theorem g_fit_compare239  {X : XX} {g : GG} {I : MJ} {d : Nat} (hd : 4 ≤ d) : Go d 239 0 (lv_args 0 [.ref 39]) [] (hh X g I) (f_fit_compare239  I) (pV X g) := by
  obtain ⟨d, rfl⟩ : ∃ k, d = k + 1 := ⟨d - 1, by omega⟩
  unfold f_fit_compare239
  refine Go_blk 2 (pc' := 2) (L' := [(1, .int (0 : Int32)), (0, .ref 39)]) (S' := []) (h' := (hh X g I)) rfl ?_
  refine Go_lcs [(0, .ref 39), (1, .int (0 : Int32))] rfl ⟨rfl, rfl, trivial⟩ ?_
  refine Go_seq (pcj := 76) (fun (b2 : MJ) => []) (fun (b2 : MJ) => []) (fun (b2 : MJ) => (hh X g b2)) (fun b2 => ?_) ?_
  ·
    exact Go_ret (fun _ h => h) rfl
  ·
    refine Go_wh (fun (s1 : Int32 × MJ) => [(0, .ref 39), (1, .int s1.1)]) (fun _ => []) (fun (s1 : Int32 × MJ) => (hh X g s1.2)) (fun s1 => ?_) ((0 : Int32), I)
    refine Go_blk 4 (pc' := 10) (L' := [(0, .ref 39), (1, .int s1.1)]) (S' := [.int (s1.2 3 6), .int s1.1]) (h' := (hh X g s1.2)) rfl ?_
    refine Go_cmpn rfl rfl (ab_cge _ _) ?_ ?_
    ·
      refine Go_blk 2 (pc' := 15) (L' := [(2, .int (0 : Int32)), (0, .ref 39), (1, .int s1.1)]) (S' := []) (h' := (hh X g s1.2)) rfl ?_
      refine Go_lcs [(0, .ref 39), (1, .int s1.1), (2, .int (0 : Int32))] rfl ⟨rfl, rfl, rfl, trivial⟩ ?_
      refine Go_seq (pcj := 70) (fun (b4 : MJ) => [(0, .ref 39), (1, .int s1.1)]) (fun (b4 : MJ) => []) (fun (b4 : MJ) => (hh X g b4)) (fun b4 => ?_) ?_
      ·
        refine Go_blk 2 (pc' := 2) (L' := [(1, .int (s1.1 + (1 : Int32))), (0, .ref 39)]) (S' := []) (h' := (hh X g b4)) rfl ?_
        exact Go_jmp [(0, .ref 39), (1, .int (s1.1 + (1 : Int32)))] rfl ⟨rfl, rfl, trivial⟩ (fun _ h => h)
      ·
        refine Go_wh (fun (s3 : Int32 × MJ) => [(0, .ref 39), (1, .int s1.1), (2, .int s3.1)]) (fun _ => []) (fun (s3 : Int32 × MJ) => (hh X g s3.2)) (fun s3 => ?_) ((0 : Int32), s1.2)
        refine Go_blk 2 (pc' := 18) (L' := [(0, .ref 39), (1, .int s1.1), (2, .int s3.1)]) (S' := [.int (6 : Int32), .int s3.1]) (h' := (hh X g s3.2)) rfl ?_
        refine Go_cmpn rfl rfl (ab_cge _ _) ?_ ?_
        ·
          refine Go_blk 3 (pc' := 26) (L' := [(0, .ref 39), (1, .int s1.1), (2, .int s3.1)]) (S' := [.int s3.1, .ref 19]) (h' := (hh X g s3.2)) rfl ?_
          refine Go_cR (y' := 25) (As := [.ref 19, .int s3.1]) (r := []) rfl (g_pat_isTold25 s3.1 (by omega)) fun v5 => ?_
          refine Go_seq (pcj := 64) (fun (b6 : MJ) => [(0, .ref 39), (1, .int s1.1), (2, .int s3.1)]) (fun (b6 : MJ) => []) (fun (b6 : MJ) => (hh X g b6)) (fun b6 => ?_) ?_
          ·
            refine Go_blk 2 (pc' := 15) (L' := [(2, .int (s3.1 + (1 : Int32))), (0, .ref 39), (1, .int s1.1)]) (S' := []) (h' := (hh X g b6)) rfl ?_
            exact Go_jmp [(0, .ref 39), (1, .int s1.1), (2, .int (s3.1 + (1 : Int32)))] rfl ⟨rfl, rfl, rfl, trivial⟩ (fun _ h => h)
          ·
            refine Go_cmz rfl rfl rfl ?_ ?_
            ·
              exact Go_jmp [(0, .ref 39), (1, .int s1.1), (2, .int s3.1)] rfl ⟨rfl, rfl, rfl, trivial⟩ (fun _ h => h)
            ·
              refine Go_blk 16 (pc' := 58) (L' := [(0, .ref 39), (1, .int s1.1), (2, .int s3.1)]) (S' := [.int ((12 : Int32) * s3.1), .ref 20, .int s1.1, .ref 3, .int (((6 : Int32) * s1.1) + s3.1), .ref 42]) (h' := (hh X g s3.2)) rfl ?_
              refine Go_cR (y' := 177) (As := [.ref 3, .int s1.1, .ref 20, .int ((12 : Int32) * s3.1)]) (r := [.int (((6 : Int32) * s1.1) + s3.1), .ref 42]) rfl (g_sho_fitOf177 s1.1 20 ((12 : Int32) * s3.1) (by omega)) fun v7 => ?_
              refine Go_cV (y' := 15) (As := [.ref 42, .int (((6 : Int32) * s1.1) + s3.1), .int v7]) (r := []) rfl (g_x_put15 42 (((6 : Int32) * s1.1) + s3.1) v7 (by omega)) fun I8 => ?_
              exact Go_jmp [(0, .ref 39), (1, .int s1.1), (2, .int s3.1)] rfl ⟨rfl, rfl, rfl, trivial⟩ (fun _ h => h)
        ·
          exact Go_jmp [(0, .ref 39), (1, .int s1.1)] rfl ⟨rfl, rfl, trivial⟩ (fun _ h => h)
    ·
      exact Go_jmp [] rfl trivial (fun _ h => h)
