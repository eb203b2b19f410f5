/-! the machine runs them (written by wip/whole/dec.py) -/
set_option maxRecDepth 1000000 in
set_option maxHeartbeats 4000000 in
theorem g_fit_share243 (p1 : Int32) (p2 : Int32) {X : XX} {g : GG} {I : MJ} {d : Nat} (hd : 1 ≤ d) : Go d 243 0 (lv_args 0 [.ref 39, .int p1, .int p2]) [] (hh X g I) (f_fit_share243 p1 p2 I) (pR X g I) := by
  obtain ⟨d, rfl⟩ : ∃ k, d = k + 1 := ⟨d - 1, by omega⟩
  unfold f_fit_share243
  refine Go_blk 4 (pc' := 5) (L' := [(4, .int (0 : Int32)), (3, .int (0 : Int32)), (0, .ref 39), (1, .int p1), (2, .int p2)]) (S' := []) (h' := (hh X g I)) rfl ?_
  refine Go_lcs [(0, .ref 39), (1, .int p1), (2, .int p2), (3, .int (0 : Int32)), (4, .int (0 : Int32))] rfl ⟨rfl, rfl, rfl, rfl, rfl, trivial⟩ ?_
  refine Go_seq (pcj := 81) (fun (b2 : Int32) => [(3, .int b2)]) (fun (b2 : Int32) => []) (fun (b2 : Int32) => (hh X g I)) (fun b2 => ?_) ?_
  ·
    refine Go_blk 1 (pc' := 82) (L' := [(3, .int b2)]) (S' := [.int b2]) (h' := (hh X g I)) rfl ?_
    exact Go_ret (fun _ h => h) rfl
  ·
    refine Go_wh (fun (s1 : Int32 × Int32) => [(0, .ref 39), (1, .int p1), (2, .int p2), (3, .int s1.1), (4, .int s1.2)]) (fun _ => []) (fun (s1 : Int32 × Int32) => (hh X g I)) (fun s1 => ?_) ((0 : Int32), (0 : Int32))
    refine Go_blk 4 (pc' := 14) (L' := [(0, .ref 39), (1, .int p1), (2, .int p2), (3, .int s1.1), (4, .int s1.2)]) (S' := [.int (I 3 6), .int s1.2]) (h' := (hh X g I)) rfl ?_
    refine Go_cmpn rfl rfl (ab_cge _ _) ?_ ?_
    ·
      refine Go_blk 7 (pc' := 28) (L' := [(0, .ref 39), (1, .int p1), (2, .int p2), (3, .int s1.1), (4, .int s1.2)]) (S' := [.int (((6 : Int32) * s1.2) + p1), .ref 42]) (h' := (hh X g I)) rfl ?_
      refine Go_cR (y' := 16) (As := [.ref 42, .int (((6 : Int32) * s1.2) + p1)]) (r := []) rfl (g_x_at16 42 (((6 : Int32) * s1.2) + p1) (by omega)) fun v3 => ?_
      refine Go_blk 8 (pc' := 44) (L' := [(5, .int v3), (0, .ref 39), (1, .int p1), (2, .int p2), (3, .int s1.1), (4, .int s1.2)]) (S' := [.int (((6 : Int32) * s1.2) + p2), .ref 42]) (h' := (hh X g I)) rfl ?_
      refine Go_cR (y' := 16) (As := [.ref 42, .int (((6 : Int32) * s1.2) + p2)]) (r := []) rfl (g_x_at16 42 (((6 : Int32) * s1.2) + p2) (by omega)) fun v4 => ?_
      refine Go_blk 4 (pc' := 54) (L' := [(6, .int v4), (5, .int v3), (0, .ref 39), (1, .int p1), (2, .int p2), (3, .int s1.1), (4, .int s1.2)]) (S' := [.int v4, .int v3, .int s1.1]) (h' := (hh X g I)) rfl ?_
      refine Go_seq (pcj := 73) (fun (b5 : Int32) => [(0, .ref 39), (1, .int p1), (2, .int p2), (4, .int s1.2)]) (fun (b5 : Int32) => [.int b5, .int s1.1]) (fun (b5 : Int32) => (hh X g I)) (fun b5 => ?_) ?_
      ·
        refine Go_blk 4 (pc' := 5) (L' := [(4, .int (s1.2 + (1 : Int32))), (3, .int (s1.1 + b5)), (0, .ref 39), (1, .int p1), (2, .int p2)]) (S' := []) (h' := (hh X g I)) rfl ?_
        exact Go_jmp [(0, .ref 39), (1, .int p1), (2, .int p2), (3, .int (s1.1 + b5)), (4, .int (s1.2 + (1 : Int32)))] rfl ⟨rfl, rfl, rfl, rfl, rfl, trivial⟩ (fun _ h => h)
      ·
        refine Go_cmpn rfl rfl (ab_cle _ _) ?_ ?_
        ·
          refine Go_blk 2 (pc' := 73) (L' := [(6, .int v4), (5, .int v3), (0, .ref 39), (1, .int p1), (2, .int p2), (3, .int s1.1), (4, .int s1.2)]) (S' := [.int (2 : Int32), .int s1.1]) (h' := (hh X g I)) rfl ?_
          exact Go_jmp [(0, .ref 39), (1, .int p1), (2, .int p2), (4, .int s1.2)] rfl ⟨rfl, rfl, rfl, rfl, trivial⟩ (fun _ h => h)
        ·
          refine Go_blk 2 (pc' := 65) (L' := [(6, .int v4), (5, .int v3), (0, .ref 39), (1, .int p1), (2, .int p2), (3, .int s1.1), (4, .int s1.2)]) (S' := [.int v4, .int v3, .int s1.1]) (h' := (hh X g I)) rfl ?_
          refine Go_cmpn rfl rfl rfl ?_ ?_
          ·
            refine Go_blk 2 (pc' := 73) (L' := [(6, .int v4), (5, .int v3), (0, .ref 39), (1, .int p1), (2, .int p2), (3, .int s1.1), (4, .int s1.2)]) (S' := [.int (1 : Int32), .int s1.1]) (h' := (hh X g I)) rfl ?_
            exact Go_jmp [(0, .ref 39), (1, .int p1), (2, .int p2), (4, .int s1.2)] rfl ⟨rfl, rfl, rfl, rfl, trivial⟩ (fun _ h => h)
          ·
            refine Go_blk 1 (pc' := 73) (L' := [(6, .int v4), (5, .int v3), (0, .ref 39), (1, .int p1), (2, .int p2), (3, .int s1.1), (4, .int s1.2)]) (S' := [.int (0 : Int32), .int s1.1]) (h' := (hh X g I)) rfl ?_
            exact Go_jmp [(0, .ref 39), (1, .int p1), (2, .int p2), (4, .int s1.2)] rfl ⟨rfl, rfl, rfl, rfl, trivial⟩ (fun _ h => h)
    ·
      exact Go_jmp [(3, .int s1.1)] rfl ⟨rfl, trivial⟩ (fun _ h => h)
set_option maxRecDepth 1000000 in
set_option maxHeartbeats 4000000 in
theorem g_fit_isBestAgainst242 (p1 : Int32) (p2 : Int32) {X : XX} {g : GG} {I : MJ} {d : Nat} (hd : 2 ≤ d) : Go d 242 0 (lv_args 0 [.ref 39, .int p1, .int p2]) [] (hh X g I) (f_fit_isBestAgainst242 p1 p2 I) (pR X g I) := by
  obtain ⟨d, rfl⟩ : ∃ k, d = k + 1 := ⟨d - 1, by omega⟩
  unfold f_fit_isBestAgainst242
  refine Go_blk 2 (pc' := 2) (L' := [(3, .int (0 : Int32)), (0, .ref 39), (1, .int p1), (2, .int p2)]) (S' := []) (h' := (hh X g I)) rfl ?_
  refine Go_lcs [(0, .ref 39), (1, .int p1), (2, .int p2), (3, .int (0 : Int32))] rfl ⟨rfl, rfl, rfl, rfl, trivial⟩ ?_
  refine Go_wh (fun (s1 : Int32) => [(0, .ref 39), (1, .int p1), (2, .int p2), (3, .int s1)]) (fun _ => []) (fun (s1 : Int32) => (hh X g I)) (fun s1 => ?_) (0 : Int32)
  refine Go_blk 2 (pc' := 5) (L' := [(0, .ref 39), (1, .int p1), (2, .int p2), (3, .int s1)]) (S' := [.int (6 : Int32), .int s1]) (h' := (hh X g I)) rfl ?_
  refine Go_cmpn rfl rfl (ab_cge _ _) ?_ ?_
  ·
    refine Go_blk 3 (pc' := 13) (L' := [(0, .ref 39), (1, .int p1), (2, .int p2), (3, .int s1)]) (S' := [.int s1, .ref 19]) (h' := (hh X g I)) rfl ?_
    refine Go_cR (y' := 25) (As := [.ref 19, .int s1]) (r := []) rfl (g_pat_isTold25 s1 (by omega)) fun v2 => ?_
    refine Go_cmz rfl rfl rfl ?_ ?_
    ·
      refine Go_blk 2 (pc' := 2) (L' := [(3, .int (s1 + (1 : Int32))), (0, .ref 39), (1, .int p1), (2, .int p2)]) (S' := []) (h' := (hh X g I)) rfl ?_
      exact Go_jmp [(0, .ref 39), (1, .int p1), (2, .int p2), (3, .int (s1 + (1 : Int32)))] rfl ⟨rfl, rfl, rfl, rfl, trivial⟩ (fun _ h => h)
    ·
      refine Go_blk 3 (pc' := 22) (L' := [(0, .ref 39), (1, .int p1), (2, .int p2), (3, .int s1)]) (S' := [.int p2, .int s1, .ref 39]) (h' := (hh X g I)) rfl ?_
      refine Go_cR (y' := 243) (As := [.ref 39, .int s1, .int p2]) (r := []) rfl (g_fit_share243 s1 p2 (by omega)) fun v3 => ?_
      refine Go_blk 3 (pc' := 28) (L' := [(0, .ref 39), (1, .int p1), (2, .int p2), (3, .int s1)]) (S' := [.int p2, .int p1, .ref 39, .int v3]) (h' := (hh X g I)) rfl ?_
      refine Go_cR (y' := 243) (As := [.ref 39, .int p1, .int p2]) (r := [.int v3]) rfl (g_fit_share243 p1 p2 (by omega)) fun v4 => ?_
      refine Go_cmpn rfl rfl (ab_cle _ _) ?_ ?_
      ·
        refine Go_inrS ?_
        refine Go_blk 1 (pc' := 35) (L' := [(0, .ref 39), (1, .int p1), (2, .int p2), (3, .int s1)]) (S' := [.int (0 : Int32)]) (h' := (hh X g I)) rfl ?_
        exact Go_ret (fun _ h => h) rfl
      ·
        refine Go_blk 2 (pc' := 2) (L' := [(3, .int (s1 + (1 : Int32))), (0, .ref 39), (1, .int p1), (2, .int p2)]) (S' := []) (h' := (hh X g I)) rfl ?_
        exact Go_jmp [(0, .ref 39), (1, .int p1), (2, .int p2), (3, .int (s1 + (1 : Int32)))] rfl ⟨rfl, rfl, rfl, rfl, trivial⟩ (fun _ h => h)
  ·
    refine Go_inrS ?_
    refine Go_blk 1 (pc' := 43) (L' := [(0, .ref 39), (1, .int p1), (2, .int p2), (3, .int s1)]) (S' := [.int (1 : Int32)]) (h' := (hh X g I)) rfl ?_
    exact Go_ret (fun _ h => h) rfl
set_option maxRecDepth 1000000 in
set_option maxHeartbeats 4000000 in
theorem g_fit_rest241 (p1 : Int32) (p2 : Int32) {X : XX} {g : GG} {I : MJ} {d : Nat} (hd : 3 ≤ d) : Go d 241 0 (lv_args 0 [.ref 39, .int p1, .int p2]) [] (hh X g I) (f_fit_rest241 p1 p2 I) (pR X g I) := by
  obtain ⟨d, rfl⟩ : ∃ k, d = k + 1 := ⟨d - 1, by omega⟩
  unfold f_fit_rest241
  refine Go_blk 3 (pc' := 5) (L' := [(0, .ref 39), (1, .int p1), (2, .int p2)]) (S' := [.int p1, .ref 19]) (h' := (hh X g I)) rfl ?_
  refine Go_cR (y' := 25) (As := [.ref 19, .int p1]) (r := []) rfl (g_pat_isTold25 p1 (by omega)) fun v1 => ?_
  refine Go_seq (pcj := 45) (fun (b2 : Int32) => []) (fun (b2 : Int32) => [.int b2]) (fun (b2 : Int32) => (hh X g I)) (fun b2 => ?_) ?_
  ·
    exact Go_ret (fun _ h => h) rfl
  ·
    refine Go_cmz rfl rfl rfl ?_ ?_
    ·
      refine Go_blk 1 (pc' := 45) (L' := [(0, .ref 39), (1, .int p1), (2, .int p2)]) (S' := [.int (0 : Int32)]) (h' := (hh X g I)) rfl ?_
      exact Go_jmp [] rfl trivial (fun _ h => h)
    ·
      refine Go_blk 3 (pc' := 16) (L' := [(0, .ref 39), (1, .int p1), (2, .int p2)]) (S' := [.int p2, .ref 19]) (h' := (hh X g I)) rfl ?_
      refine Go_cR (y' := 25) (As := [.ref 19, .int p2]) (r := []) rfl (g_pat_isTold25 p2 (by omega)) fun v3 => ?_
      refine Go_cmz rfl rfl rfl ?_ ?_
      ·
        refine Go_blk 1 (pc' := 45) (L' := [(0, .ref 39), (1, .int p1), (2, .int p2)]) (S' := [.int (0 : Int32)]) (h' := (hh X g I)) rfl ?_
        exact Go_jmp [] rfl trivial (fun _ h => h)
      ·
        refine Go_blk 3 (pc' := 25) (L' := [(0, .ref 39), (1, .int p1), (2, .int p2)]) (S' := [.int p2, .int p1, .ref 39]) (h' := (hh X g I)) rfl ?_
        refine Go_cR (y' := 242) (As := [.ref 39, .int p1, .int p2]) (r := []) rfl (g_fit_isBestAgainst242 p1 p2 (by omega)) fun v4 => ?_
        refine Go_cmz rfl rfl rfl ?_ ?_
        ·
          refine Go_blk 1 (pc' := 45) (L' := [(0, .ref 39), (1, .int p1), (2, .int p2)]) (S' := [.int (0 : Int32)]) (h' := (hh X g I)) rfl ?_
          exact Go_jmp [] rfl trivial (fun _ h => h)
        ·
          refine Go_blk 3 (pc' := 34) (L' := [(0, .ref 39), (1, .int p1), (2, .int p2)]) (S' := [.int p1, .int p2, .ref 39]) (h' := (hh X g I)) rfl ?_
          refine Go_cR (y' := 242) (As := [.ref 39, .int p2, .int p1]) (r := []) rfl (g_fit_isBestAgainst242 p2 p1 (by omega)) fun v5 => ?_
          refine Go_cmz rfl rfl rfl ?_ ?_
          ·
            refine Go_blk 1 (pc' := 45) (L' := [(0, .ref 39), (1, .int p1), (2, .int p2)]) (S' := [.int (0 : Int32)]) (h' := (hh X g I)) rfl ?_
            exact Go_jmp [] rfl trivial (fun _ h => h)
          ·
            refine Go_blk 2 (pc' := 45) (L' := [(0, .ref 39), (1, .int p1), (2, .int p2)]) (S' := [.int (1 : Int32)]) (h' := (hh X g I)) rfl ?_
            exact Go_jmp [] rfl trivial (fun _ h => h)
set_option maxRecDepth 1000000 in
set_option maxHeartbeats 4000000 in
theorem g_fit_rests240  {X : XX} {g : GG} {I : MJ} {d : Nat} (hd : 4 ≤ d) : Go d 240 0 (lv_args 0 [.ref 39]) [] (hh X g I) (f_fit_rests240  I) (pR X g I) := by
  obtain ⟨d, rfl⟩ : ∃ k, d = k + 1 := ⟨d - 1, by omega⟩
  unfold f_fit_rests240
  refine Go_blk 4 (pc' := 4) (L' := [(2, .int (0 : Int32)), (1, .int (0 : Int32)), (0, .ref 39)]) (S' := []) (h' := (hh X g I)) rfl ?_
  refine Go_lcs [(0, .ref 39), (1, .int (0 : Int32)), (2, .int (0 : Int32))] rfl ⟨rfl, rfl, rfl, trivial⟩ ?_
  refine Go_seq (pcj := 47) (fun (b2 : Int32) => [(1, .int b2)]) (fun (b2 : Int32) => []) (fun (b2 : Int32) => (hh X g I)) (fun b2 => ?_) ?_
  ·
    refine Go_blk 1 (pc' := 48) (L' := [(1, .int b2)]) (S' := [.int b2]) (h' := (hh X g I)) rfl ?_
    exact Go_ret (fun _ h => h) rfl
  ·
    refine Go_wh (fun (s1 : Int32 × Int32) => [(0, .ref 39), (1, .int s1.1), (2, .int s1.2)]) (fun _ => []) (fun (s1 : Int32 × Int32) => (hh X g I)) (fun s1 => ?_) ((0 : Int32), (0 : Int32))
    refine Go_blk 2 (pc' := 7) (L' := [(0, .ref 39), (1, .int s1.1), (2, .int s1.2)]) (S' := [.int (6 : Int32), .int s1.2]) (h' := (hh X g I)) rfl ?_
    refine Go_cmpn rfl rfl (ab_cge _ _) ?_ ?_
    ·
      refine Go_blk 2 (pc' := 12) (L' := [(3, .int (0 : Int32)), (0, .ref 39), (1, .int s1.1), (2, .int s1.2)]) (S' := []) (h' := (hh X g I)) rfl ?_
      refine Go_lcs [(0, .ref 39), (1, .int s1.1), (2, .int s1.2), (3, .int (0 : Int32))] rfl ⟨rfl, rfl, rfl, rfl, trivial⟩ ?_
      refine Go_seq (pcj := 41) (fun (b4 : Int32) => [(0, .ref 39), (1, .int b4), (2, .int s1.2)]) (fun (b4 : Int32) => []) (fun (b4 : Int32) => (hh X g I)) (fun b4 => ?_) ?_
      ·
        refine Go_blk 2 (pc' := 4) (L' := [(2, .int (s1.2 + (1 : Int32))), (0, .ref 39), (1, .int b4)]) (S' := []) (h' := (hh X g I)) rfl ?_
        exact Go_jmp [(0, .ref 39), (1, .int b4), (2, .int (s1.2 + (1 : Int32)))] rfl ⟨rfl, rfl, rfl, trivial⟩ (fun _ h => h)
      ·
        refine Go_wh (fun (s3 : Int32 × Int32) => [(0, .ref 39), (1, .int s3.1), (2, .int s1.2), (3, .int s3.2)]) (fun _ => []) (fun (s3 : Int32 × Int32) => (hh X g I)) (fun s3 => ?_) (s1.1, (0 : Int32))
        refine Go_blk 2 (pc' := 15) (L' := [(0, .ref 39), (1, .int s3.1), (2, .int s1.2), (3, .int s3.2)]) (S' := [.int (6 : Int32), .int s3.2]) (h' := (hh X g I)) rfl ?_
        refine Go_cmpn rfl rfl (ab_cge _ _) ?_ ?_
        ·
          refine Go_blk 4 (pc' := 22) (L' := [(0, .ref 39), (1, .int s3.1), (2, .int s1.2), (3, .int s3.2)]) (S' := [.int s3.2, .int s1.2, .ref 39, .int s3.1]) (h' := (hh X g I)) rfl ?_
          refine Go_cR (y' := 241) (As := [.ref 39, .int s1.2, .int s3.2]) (r := [.int s3.1]) rfl (g_fit_rest241 s1.2 s3.2 (by omega)) fun v5 => ?_
          refine Go_seq (pcj := 33) (fun (b6 : Int32) => [(0, .ref 39), (2, .int s1.2), (3, .int s3.2)]) (fun (b6 : Int32) => [.int b6, .int s3.1]) (fun (b6 : Int32) => (hh X g I)) (fun b6 => ?_) ?_
          ·
            refine Go_blk 4 (pc' := 12) (L' := [(3, .int (s3.2 + (1 : Int32))), (1, .int (s3.1 + b6)), (0, .ref 39), (2, .int s1.2)]) (S' := []) (h' := (hh X g I)) rfl ?_
            exact Go_jmp [(0, .ref 39), (1, .int (s3.1 + b6)), (2, .int s1.2), (3, .int (s3.2 + (1 : Int32)))] rfl ⟨rfl, rfl, rfl, rfl, trivial⟩ (fun _ h => h)
          ·
            refine Go_cmz rfl rfl rfl ?_ ?_
            ·
              refine Go_blk 1 (pc' := 33) (L' := [(0, .ref 39), (1, .int s3.1), (2, .int s1.2), (3, .int s3.2)]) (S' := [.int (0 : Int32), .int s3.1]) (h' := (hh X g I)) rfl ?_
              exact Go_jmp [(0, .ref 39), (2, .int s1.2), (3, .int s3.2)] rfl ⟨rfl, rfl, rfl, trivial⟩ (fun _ h => h)
            ·
              refine Go_blk 2 (pc' := 33) (L' := [(0, .ref 39), (1, .int s3.1), (2, .int s1.2), (3, .int s3.2)]) (S' := [.int (1 : Int32), .int s3.1]) (h' := (hh X g I)) rfl ?_
              exact Go_jmp [(0, .ref 39), (2, .int s1.2), (3, .int s3.2)] rfl ⟨rfl, rfl, rfl, trivial⟩ (fun _ h => h)
        ·
          exact Go_jmp [(0, .ref 39), (1, .int s3.1), (2, .int s1.2)] rfl ⟨rfl, rfl, rfl, trivial⟩ (fun _ h => h)
    ·
      exact Go_jmp [(1, .int s1.1)] rfl ⟨rfl, trivial⟩ (fun _ h => h)
set_option maxRecDepth 1000000 in
set_option maxHeartbeats 4000000 in
theorem g_fit_firstRest244  {X : XX} {g : GG} {I : MJ} {d : Nat} (hd : 4 ≤ d) : Go d 244 0 (lv_args 0 [.ref 39]) [] (hh X g I) (f_fit_firstRest244  I) (pR X g I) := by
  obtain ⟨d, rfl⟩ : ∃ k, d = k + 1 := ⟨d - 1, by omega⟩
  unfold f_fit_firstRest244
  refine Go_blk 2 (pc' := 2) (L' := [(1, .int (0 : Int32)), (0, .ref 39)]) (S' := []) (h' := (hh X g I)) rfl ?_
  refine Go_lcs [(0, .ref 39), (1, .int (0 : Int32))] rfl ⟨rfl, rfl, trivial⟩ ?_
  refine Go_wh (fun (s1 : Int32) => [(0, .ref 39), (1, .int s1)]) (fun _ => []) (fun (s1 : Int32) => (hh X g I)) (fun s1 => ?_) (0 : Int32)
  refine Go_blk 2 (pc' := 5) (L' := [(0, .ref 39), (1, .int s1)]) (S' := [.int (6 : Int32), .int s1]) (h' := (hh X g I)) rfl ?_
  refine Go_cmpn rfl rfl (ab_cge _ _) ?_ ?_
  ·
    refine Go_blk 2 (pc' := 10) (L' := [(2, .int (0 : Int32)), (0, .ref 39), (1, .int s1)]) (S' := []) (h' := (hh X g I)) rfl ?_
    refine Go_lcs [(0, .ref 39), (1, .int s1), (2, .int (0 : Int32))] rfl ⟨rfl, rfl, rfl, trivial⟩ ?_
    refine Go_wh (fun (s2 : Int32) => [(0, .ref 39), (1, .int s1), (2, .int s2)]) (fun _ => []) (fun (s2 : Int32) => (hh X g I)) (fun s2 => ?_) (0 : Int32)
    refine Go_blk 2 (pc' := 13) (L' := [(0, .ref 39), (1, .int s1), (2, .int s2)]) (S' := [.int (6 : Int32), .int s2]) (h' := (hh X g I)) rfl ?_
    refine Go_cmpn rfl rfl (ab_cge _ _) ?_ ?_
    ·
      refine Go_blk 3 (pc' := 19) (L' := [(0, .ref 39), (1, .int s1), (2, .int s2)]) (S' := [.int s2, .int s1, .ref 39]) (h' := (hh X g I)) rfl ?_
      refine Go_cR (y' := 241) (As := [.ref 39, .int s1, .int s2]) (r := []) rfl (g_fit_rest241 s1 s2 (by omega)) fun v3 => ?_
      refine Go_cmz rfl rfl rfl ?_ ?_
      ·
        refine Go_blk 2 (pc' := 10) (L' := [(2, .int (s2 + (1 : Int32))), (0, .ref 39), (1, .int s1)]) (S' := []) (h' := (hh X g I)) rfl ?_
        exact Go_jmp [(0, .ref 39), (1, .int s1), (2, .int (s2 + (1 : Int32)))] rfl ⟨rfl, rfl, rfl, trivial⟩ (fun _ h => h)
      ·
        refine Go_inrS ?_
        refine Go_inrS ?_
        refine Go_blk 5 (pc' := 31) (L' := [(0, .ref 39), (1, .int s1), (2, .int s2)]) (S' := [.int (((10 : Int32) * s1) + s2)]) (h' := (hh X g I)) rfl ?_
        exact Go_ret (fun _ h => h) rfl
    ·
      refine Go_inrS ?_
      refine Go_blk 2 (pc' := 2) (L' := [(1, .int (s1 + (1 : Int32))), (0, .ref 39), (2, .int s2)]) (S' := []) (h' := (hh X g I)) rfl ?_
      exact Go_jmp [(0, .ref 39), (1, .int (s1 + (1 : Int32)))] rfl ⟨rfl, rfl, trivial⟩ (fun _ h => h)
  ·
    refine Go_inrS ?_
    refine Go_blk 1 (pc' := 45) (L' := [(0, .ref 39), (1, .int s1)]) (S' := [.int (-1 : Int32)]) (h' := (hh X g I)) rfl ?_
    exact Go_ret (fun _ h => h) rfl
set_option maxRecDepth 1000000 in
set_option maxHeartbeats 4000000 in
theorem g_x_tailors238 (p1 : Int32) {X : XX} {g : GG} {I : MJ} {d : Nat} (hd : 5 ≤ d) : Go d 238 0 (lv_args 0 [.ref 0, .int p1]) [] (hh X g I) (f_x_tailors238 p1 I) (pT vI X g) := by
  obtain ⟨d, rfl⟩ : ∃ k, d = k + 1 := ⟨d - 1, by omega⟩
  unfold f_x_tailors238
  refine Go_blk 4 (pc' := 4) (L' := [(0, .ref 0), (1, .int p1)]) (S' := [.int (2 : Int32), .int (0 : Int32), .int p1, .ref 0]) (h' := (hh X g I)) rfl ?_
  refine Go_cT (y' := 38) (As := [.ref 0, .int p1, .int (0 : Int32), .int (2 : Int32)]) (r := []) rfl rfl (g_x_needWithin38 p1 (0 : Int32) (2 : Int32) (by omega)) fun v1 I2 => ?_
  refine Go_blk 2 (pc' := 11) (L' := [(0, .ref 0), (1, .int p1)]) (S' := [.ref 39]) (h' := (hh X g I2)) rfl ?_
  refine Go_cV (y' := 239) (As := [.ref 39]) (r := []) rfl (g_fit_compare239  (by omega)) fun I3 => ?_
  refine Go_blk 1 (pc' := 15) (L' := [(0, .ref 0), (1, .int p1)]) (S' := [.int p1]) (h' := (hh X g I3)) rfl ?_
  refine Go_cmzn rfl rfl rfl ?_ ?_
  ·
    refine Go_blk 2 (pc' := 22) (L' := [(0, .ref 0), (1, .int p1)]) (S' := [.ref 39]) (h' := (hh X g I3)) rfl ?_
    refine Go_cR (y' := 240) (As := [.ref 39]) (r := []) rfl (g_fit_rests240  (by omega)) fun v4 => ?_
    exact Go_ret (fun _ h => h) rfl
  ·
    refine Go_blk 2 (pc' := 30) (L' := [(0, .ref 0), (1, .int p1)]) (S' := [.ref 39]) (h' := (hh X g I3)) rfl ?_
    refine Go_cR (y' := 244) (As := [.ref 39]) (r := []) rfl (g_fit_firstRest244  (by omega)) fun v5 => ?_
    refine Go_blk 3 (pc' := 36) (L' := [(2, .int v5), (0, .ref 0), (1, .int p1)]) (S' := [.int (1 : Int32), .int p1]) (h' := (hh X g I3)) rfl ?_
    refine Go_cmpn rfl rfl rfl ?_ ?_
    ·
      refine Go_blk 1 (pc' := 40) (L' := [(2, .int v5), (0, .ref 0), (1, .int p1)]) (S' := [.int v5]) (h' := (hh X g I3)) rfl ?_
      exact Go_ret (fun _ h => h) rfl
    ·
      refine Go_blk 2 (pc' := 43) (L' := [(2, .int v5), (0, .ref 0), (1, .int p1)]) (S' := [.int (-1 : Int32), .int v5]) (h' := (hh X g I3)) rfl ?_
      refine Go_seq (pcj := 65) (fun (b6 : Int32) => []) (fun (b6 : Int32) => [.int b6]) (fun (b6 : Int32) => (hh X g I3)) (fun b6 => ?_) ?_
      ·
        exact Go_ret (fun _ h => h) rfl
      ·
        refine Go_cmpn rfl rfl rfl ?_ ?_
        ·
          refine Go_blk 2 (pc' := 65) (L' := [(2, .int v5), (0, .ref 0), (1, .int p1)]) (S' := [.int (0 : Int32)]) (h' := (hh X g I3)) rfl ?_
          exact Go_jmp [] rfl trivial (fun _ h => h)
        ·
          refine Go_blk 8 (pc' := 62) (L' := [(2, .int v5), (0, .ref 0), (1, .int p1)]) (S' := [.int (v5 - v5 / (10 : Int32) * (10 : Int32)), .int (v5 / (10 : Int32)), .ref 39]) (h' := (hh X g I3)) rfl ?_
          refine Go_cR (y' := 243) (As := [.ref 39, .int (v5 / (10 : Int32)), .int (v5 - v5 / (10 : Int32) * (10 : Int32))]) (r := []) rfl (g_fit_share243 (v5 / (10 : Int32)) (v5 - v5 / (10 : Int32) * (10 : Int32)) (by omega)) fun v7 => ?_
          exact Go_jmp [] rfl trivial (fun _ h => h)
set_option maxRecDepth 1000000 in
set_option maxHeartbeats 4000000 in
theorem g_l_tailors237 (p1 : Int32) {X : XX} {g : GG} {I : MJ} {d : Nat} (hd : 6 ≤ d) : Go d 237 0 (lv_args 0 [.ref 0, .int p1, .ref 698]) [] (hh X g I) (f_l_tailors237 p1 I g) (pG X) := by
  obtain ⟨d, rfl⟩ : ∃ k, d = k + 1 := ⟨d - 1, by omega⟩
  unfold f_l_tailors237
  refine Go_blk 4 (pc' := 4) (L' := [(0, .ref 0), (1, .int p1), (2, .ref 698)]) (S' := [.int p1, .ref 0, .int (0 : Int32), .ref 698]) (h' := (hh X g I)) rfl ?_
  refine Go_try (y' := 238) (As := [.ref 0, .int p1]) (r := [.int (0 : Int32), .ref 698]) rfl (g_x_tailors238 p1 (by omega)) (fun v1 I2 => ?_) (fun E2 I2 => ?_)
  ·
    refine Go_blk 1 (pc' := 8) (L' := [(0, .ref 0), (1, .int p1), (2, .ref 698)]) (S' := [.long (v1.toInt64), .int (0 : Int32), .ref 698]) (h' := (hh X g I2)) rfl ?_
    refine Go_last rfl fun g3 => ?_
    refine Go_blk 2 (pc' := 16) (L' := [(0, .ref 0), (1, .int p1), (2, .ref 698)]) (S' := [.int (0 : Int32)]) (h' := (hh X g3 I2)) rfl ?_
    exact Go_ret (fun _ h => h) rfl
  ·
    refine GX_ite ?_ ?_
    ·
      refine GX_go rfl (t := 13) (k := 3) rfl ?_
      refine Go_blk 1 (pc' := 14) (L' := [(0, .ref 0), (1, .int p1), (2, .ref 698)]) (S' := [.int (1 : Int32)]) (h' := (hh X (thr g) I2)) rfl ?_
      exact Go_ret (fun _ h => h) rfl
    exact GX_none
set_option maxRecDepth 1000000 in
set_option maxHeartbeats 4000000 in
theorem g_m_getsOf373 (p1 : Int32) (p2 : Int32) {X : XX} {g : GG} {I : MJ} {d : Nat} (hd : 2 ≤ d) : Go d 373 0 (lv_args 0 [.ref 47, .int p1, .int p2]) [] (hh X g I) (f_m_getsOf373 p1 p2 I) (pR X g I) := by
  obtain ⟨d, rfl⟩ : ∃ k, d = k + 1 := ⟨d - 1, by omega⟩
  unfold f_m_getsOf373
  refine Go_blk 4 (pc' := 5) (L' := [(4, .int (0 : Int32)), (3, .int (0 : Int32)), (0, .ref 47), (1, .int p1), (2, .int p2)]) (S' := []) (h' := (hh X g I)) rfl ?_
  refine Go_lcs [(0, .ref 47), (1, .int p1), (2, .int p2), (3, .int (0 : Int32)), (4, .int (0 : Int32))] rfl ⟨rfl, rfl, rfl, rfl, rfl, trivial⟩ ?_
  refine Go_seq (pcj := 78) (fun (b2 : Int32) => [(3, .int b2)]) (fun (b2 : Int32) => []) (fun (b2 : Int32) => (hh X g I)) (fun b2 => ?_) ?_
  ·
    refine Go_blk 1 (pc' := 79) (L' := [(3, .int b2)]) (S' := [.int b2]) (h' := (hh X g I)) rfl ?_
    exact Go_ret (fun _ h => h) rfl
  ·
    refine Go_wh (fun (s1 : Int32 × Int32) => [(0, .ref 47), (1, .int p1), (2, .int p2), (3, .int s1.1), (4, .int s1.2)]) (fun _ => []) (fun (s1 : Int32 × Int32) => (hh X g I)) (fun s1 => ?_) ((0 : Int32), (0 : Int32))
    refine Go_blk 5 (pc' := 13) (L' := [(0, .ref 47), (1, .int p1), (2, .int p2), (3, .int s1.1), (4, .int s1.2)]) (S' := [.int (I 51 1), .int s1.2]) (h' := (hh X g I)) rfl ?_
    refine Go_cmpn rfl rfl (ab_cge _ _) ?_ ?_
    ·
      refine Go_blk 4 (pc' := 22) (L' := [(0, .ref 47), (1, .int p1), (2, .int p2), (3, .int s1.1), (4, .int s1.2)]) (S' := [.int p1, .ref 128, .ref 47]) (h' := (hh X g I)) rfl ?_
      refine Go_aald rfl fun r3 => ?_
      refine Go_blk 2 (pc' := 26) (L' := [(0, .ref 47), (1, .int p1), (2, .int p2), (3, .int s1.1), (4, .int s1.2)]) (S' := [.int s1.2, .int (0 : Int32), .ref r3, .ref 47]) (h' := (hh X g I)) rfl ?_
      refine Go_cR (y' := 342) (As := [.ref 47, .ref r3, .int (0 : Int32), .int s1.2]) (r := []) rfl (g_m_fitOf342 r3 (0 : Int32) s1.2 (by omega)) fun v4 => ?_
      refine Go_blk 5 (pc' := 37) (L' := [(5, .int v4), (0, .ref 47), (1, .int p1), (2, .int p2), (3, .int s1.1), (4, .int s1.2)]) (S' := [.int p2, .ref 128, .ref 47]) (h' := (hh X g I)) rfl ?_
      refine Go_aald rfl fun r5 => ?_
      refine Go_blk 2 (pc' := 41) (L' := [(5, .int v4), (0, .ref 47), (1, .int p1), (2, .int p2), (3, .int s1.1), (4, .int s1.2)]) (S' := [.int s1.2, .int (0 : Int32), .ref r5, .ref 47]) (h' := (hh X g I)) rfl ?_
      refine Go_cR (y' := 342) (As := [.ref 47, .ref r5, .int (0 : Int32), .int s1.2]) (r := []) rfl (g_m_fitOf342 r5 (0 : Int32) s1.2 (by omega)) fun v6 => ?_
      refine Go_blk 4 (pc' := 51) (L' := [(6, .int v6), (5, .int v4), (0, .ref 47), (1, .int p1), (2, .int p2), (3, .int s1.1), (4, .int s1.2)]) (S' := [.int v6, .int v4, .int s1.1]) (h' := (hh X g I)) rfl ?_
      refine Go_seq (pcj := 70) (fun (b7 : Int32) => [(0, .ref 47), (1, .int p1), (2, .int p2), (4, .int s1.2)]) (fun (b7 : Int32) => [.int b7, .int s1.1]) (fun (b7 : Int32) => (hh X g I)) (fun b7 => ?_) ?_
      ·
        refine Go_blk 4 (pc' := 5) (L' := [(4, .int (s1.2 + (1 : Int32))), (3, .int (s1.1 + b7)), (0, .ref 47), (1, .int p1), (2, .int p2)]) (S' := []) (h' := (hh X g I)) rfl ?_
        exact Go_jmp [(0, .ref 47), (1, .int p1), (2, .int p2), (3, .int (s1.1 + b7)), (4, .int (s1.2 + (1 : Int32)))] rfl ⟨rfl, rfl, rfl, rfl, rfl, trivial⟩ (fun _ h => h)
      ·
        refine Go_cmpn rfl rfl (ab_cle _ _) ?_ ?_
        ·
          refine Go_blk 2 (pc' := 70) (L' := [(6, .int v6), (5, .int v4), (0, .ref 47), (1, .int p1), (2, .int p2), (3, .int s1.1), (4, .int s1.2)]) (S' := [.int (2 : Int32), .int s1.1]) (h' := (hh X g I)) rfl ?_
          exact Go_jmp [(0, .ref 47), (1, .int p1), (2, .int p2), (4, .int s1.2)] rfl ⟨rfl, rfl, rfl, rfl, trivial⟩ (fun _ h => h)
        ·
          refine Go_blk 2 (pc' := 62) (L' := [(6, .int v6), (5, .int v4), (0, .ref 47), (1, .int p1), (2, .int p2), (3, .int s1.1), (4, .int s1.2)]) (S' := [.int v6, .int v4, .int s1.1]) (h' := (hh X g I)) rfl ?_
          refine Go_cmpn rfl rfl rfl ?_ ?_
          ·
            refine Go_blk 2 (pc' := 70) (L' := [(6, .int v6), (5, .int v4), (0, .ref 47), (1, .int p1), (2, .int p2), (3, .int s1.1), (4, .int s1.2)]) (S' := [.int (1 : Int32), .int s1.1]) (h' := (hh X g I)) rfl ?_
            exact Go_jmp [(0, .ref 47), (1, .int p1), (2, .int p2), (4, .int s1.2)] rfl ⟨rfl, rfl, rfl, rfl, trivial⟩ (fun _ h => h)
          ·
            refine Go_blk 1 (pc' := 70) (L' := [(6, .int v6), (5, .int v4), (0, .ref 47), (1, .int p1), (2, .int p2), (3, .int s1.1), (4, .int s1.2)]) (S' := [.int (0 : Int32), .int s1.1]) (h' := (hh X g I)) rfl ?_
            exact Go_jmp [(0, .ref 47), (1, .int p1), (2, .int p2), (4, .int s1.2)] rfl ⟨rfl, rfl, rfl, rfl, trivial⟩ (fun _ h => h)
    ·
      exact Go_jmp [(3, .int s1.1)] rfl ⟨rfl, trivial⟩ (fun _ h => h)
set_option maxRecDepth 1000000 in
set_option maxHeartbeats 4000000 in
theorem g_m_isBest372 (p1 : Int32) (p2 : Int32) {X : XX} {g : GG} {I : MJ} {d : Nat} (hd : 3 ≤ d) : Go d 372 0 (lv_args 0 [.ref 47, .int p1, .int p2]) [] (hh X g I) (f_m_isBest372 p1 p2 I) (pR X g I) := by
  obtain ⟨d, rfl⟩ : ∃ k, d = k + 1 := ⟨d - 1, by omega⟩
  unfold f_m_isBest372
  refine Go_blk 2 (pc' := 2) (L' := [(3, .int (0 : Int32)), (0, .ref 47), (1, .int p1), (2, .int p2)]) (S' := []) (h' := (hh X g I)) rfl ?_
  refine Go_lcs [(0, .ref 47), (1, .int p1), (2, .int p2), (3, .int (0 : Int32))] rfl ⟨rfl, rfl, rfl, rfl, trivial⟩ ?_
  refine Go_wh (fun (s1 : Int32) => [(0, .ref 47), (1, .int p1), (2, .int p2), (3, .int s1)]) (fun _ => []) (fun (s1 : Int32) => (hh X g I)) (fun s1 => ?_) (0 : Int32)
  refine Go_blk 2 (pc' := 5) (L' := [(0, .ref 47), (1, .int p1), (2, .int p2), (3, .int s1)]) (S' := [.int (6 : Int32), .int s1]) (h' := (hh X g I)) rfl ?_
  refine Go_cmpn rfl rfl (ab_cge _ _) ?_ ?_
  ·
    refine Go_blk 3 (pc' := 13) (L' := [(0, .ref 47), (1, .int p1), (2, .int p2), (3, .int s1)]) (S' := [.int s1, .ref 135]) (h' := (hh X g I)) rfl ?_
    refine Go_bald rfl fun v2 => ?_
    refine Go_cmz rfl rfl rfl ?_ ?_
    ·
      refine Go_blk 2 (pc' := 2) (L' := [(3, .int (s1 + (1 : Int32))), (0, .ref 47), (1, .int p1), (2, .int p2)]) (S' := []) (h' := (hh X g I)) rfl ?_
      exact Go_jmp [(0, .ref 47), (1, .int p1), (2, .int p2), (3, .int (s1 + (1 : Int32)))] rfl ⟨rfl, rfl, rfl, rfl, trivial⟩ (fun _ h => h)
    ·
      refine Go_blk 3 (pc' := 20) (L' := [(0, .ref 47), (1, .int p1), (2, .int p2), (3, .int s1)]) (S' := [.int p2, .int s1, .ref 47]) (h' := (hh X g I)) rfl ?_
      refine Go_cR (y' := 373) (As := [.ref 47, .int s1, .int p2]) (r := []) rfl (g_m_getsOf373 s1 p2 (by omega)) fun v3 => ?_
      refine Go_blk 3 (pc' := 26) (L' := [(0, .ref 47), (1, .int p1), (2, .int p2), (3, .int s1)]) (S' := [.int p2, .int p1, .ref 47, .int v3]) (h' := (hh X g I)) rfl ?_
      refine Go_cR (y' := 373) (As := [.ref 47, .int p1, .int p2]) (r := [.int v3]) rfl (g_m_getsOf373 p1 p2 (by omega)) fun v4 => ?_
      refine Go_cmpn rfl rfl (ab_cle _ _) ?_ ?_
      ·
        refine Go_inrS ?_
        refine Go_blk 1 (pc' := 33) (L' := [(0, .ref 47), (1, .int p1), (2, .int p2), (3, .int s1)]) (S' := [.int (0 : Int32)]) (h' := (hh X g I)) rfl ?_
        exact Go_ret (fun _ h => h) rfl
      ·
        refine Go_blk 2 (pc' := 2) (L' := [(3, .int (s1 + (1 : Int32))), (0, .ref 47), (1, .int p1), (2, .int p2)]) (S' := []) (h' := (hh X g I)) rfl ?_
        exact Go_jmp [(0, .ref 47), (1, .int p1), (2, .int p2), (3, .int (s1 + (1 : Int32)))] rfl ⟨rfl, rfl, rfl, rfl, trivial⟩ (fun _ h => h)
  ·
    refine Go_inrS ?_
    refine Go_blk 1 (pc' := 41) (L' := [(0, .ref 47), (1, .int p1), (2, .int p2), (3, .int s1)]) (S' := [.int (1 : Int32)]) (h' := (hh X g I)) rfl ?_
    exact Go_ret (fun _ h => h) rfl
set_option maxRecDepth 1000000 in
set_option maxHeartbeats 4000000 in
theorem g_m_tailors371 (p1 : Int32) {X : XX} {g : GG} {I : MJ} {d : Nat} (hd : 4 ≤ d) : Go d 371 0 (lv_args 0 [.ref 47, .int p1]) [] (hh X g I) (f_m_tailors371 p1 I) (pW X g) := by
  obtain ⟨d, rfl⟩ : ∃ k, d = k + 1 := ⟨d - 1, by omega⟩
  unfold f_m_tailors371
  refine Go_blk 7 (pc' := 9) (L' := [(0, .ref 47), (1, .int p1)]) (S' := [.int (2 : Int32), .int (0 : Int32), .int p1, .ref 47]) (h' := (hh X g (ab_up1 I 47 0 (0 : Int32)))) rfl ?_
  refine Go_cR (y' := 264) (As := [.int p1, .int (0 : Int32), .int (2 : Int32)]) (r := [.ref 47]) rfl (g_m_in264 p1 (0 : Int32) (2 : Int32) (by omega)) fun v1 => ?_
  refine Go_seq (pcj := 20) (fun (b2 : Int32) => [(0, .ref 47), (1, .int p1)]) (fun (b2 : Int32) => [.int b2, .ref 47]) (fun (b2 : Int32) => (hh X g (ab_up1 I 47 0 (0 : Int32)))) (fun b2 => ?_) ?_
  ·
    refine Go_blk 2 (pc' := 22) (L' := [(0, .ref 47), (1, .int p1)]) (S' := [.int (1 : Int32), .int (1 : Int32), .int b2, .ref 47]) (h' := (hh X g (ab_up1 I 47 0 (0 : Int32)))) rfl ?_
    refine Go_cW (y' := 268) (As := [.ref 47, .int b2, .int (1 : Int32), .int (1 : Int32)]) (r := []) rfl (g_m_bad268 b2 (1 : Int32) (1 : Int32) (by omega)) fun w3 => ?_
    refine Go_cmz rfl rfl rfl ?_ ?_
    ·
      refine Go_blk 6 (pc' := 37) (L' := [(4, .int (0 : Int32)), (3, .int (-1 : Int32)), (2, .int (0 : Int32)), (0, .ref 47), (1, .int p1)]) (S' := []) (h' := (hh X g w3.2)) rfl ?_
      refine Go_lcs [(0, .ref 47), (1, .int p1), (2, .int (0 : Int32)), (3, .int (-1 : Int32)), (4, .int (0 : Int32))] rfl ⟨rfl, rfl, rfl, rfl, rfl, trivial⟩ ?_
      refine Go_seq (pcj := 131) (fun (b5 : Int32 × Int32) => [(0, .ref 47), (1, .int p1), (2, .int b5.1), (3, .int b5.2)]) (fun (b5 : Int32 × Int32) => []) (fun (b5 : Int32 × Int32) => (hh X g w3.2)) (fun b5 => ?_) ?_
      ·
        refine Go_blk 1 (pc' := 132) (L' := [(0, .ref 47), (1, .int p1), (2, .int b5.1), (3, .int b5.2)]) (S' := [.int p1]) (h' := (hh X g w3.2)) rfl ?_
        refine Go_seq (pcj := 169) (fun (b6 : Int32) => []) (fun (b6 : Int32) => [.int b6]) (fun (b6 : Int32) => (hh X g w3.2)) (fun b6 => ?_) ?_
        ·
          exact Go_ret (fun _ h => h) rfl
        ·
          refine Go_cmzn rfl rfl rfl ?_ ?_
          ·
            refine Go_blk 2 (pc' := 169) (L' := [(0, .ref 47), (1, .int p1), (2, .int b5.1), (3, .int b5.2)]) (S' := [.int b5.1]) (h' := (hh X g w3.2)) rfl ?_
            exact Go_jmp [] rfl trivial (fun _ h => h)
          ·
            refine Go_blk 2 (pc' := 141) (L' := [(0, .ref 47), (1, .int p1), (2, .int b5.1), (3, .int b5.2)]) (S' := [.int (1 : Int32), .int p1]) (h' := (hh X g w3.2)) rfl ?_
            refine Go_cmpn rfl rfl rfl ?_ ?_
            ·
              refine Go_blk 2 (pc' := 169) (L' := [(0, .ref 47), (1, .int p1), (2, .int b5.1), (3, .int b5.2)]) (S' := [.int b5.2]) (h' := (hh X g w3.2)) rfl ?_
              exact Go_jmp [] rfl trivial (fun _ h => h)
            ·
              refine Go_blk 2 (pc' := 150) (L' := [(0, .ref 47), (1, .int p1), (2, .int b5.1), (3, .int b5.2)]) (S' := [.int (-1 : Int32), .int b5.2]) (h' := (hh X g w3.2)) rfl ?_
              refine Go_cmpn rfl rfl rfl ?_ ?_
              ·
                refine Go_blk 2 (pc' := 169) (L' := [(0, .ref 47), (1, .int p1), (2, .int b5.1), (3, .int b5.2)]) (S' := [.int (0 : Int32)]) (h' := (hh X g w3.2)) rfl ?_
                exact Go_jmp [] rfl trivial (fun _ h => h)
              ·
                refine Go_blk 7 (pc' := 166) (L' := [(0, .ref 47), (1, .int p1), (2, .int b5.1), (3, .int b5.2)]) (S' := [.int (b5.2 - b5.2 / (10 : Int32) * (10 : Int32)), .int (b5.2 / (10 : Int32)), .ref 47]) (h' := (hh X g w3.2)) rfl ?_
                refine Go_cR (y' := 373) (As := [.ref 47, .int (b5.2 / (10 : Int32)), .int (b5.2 - b5.2 / (10 : Int32) * (10 : Int32))]) (r := []) rfl (g_m_getsOf373 (b5.2 / (10 : Int32)) (b5.2 - b5.2 / (10 : Int32) * (10 : Int32)) (by omega)) fun v7 => ?_
                exact Go_jmp [] rfl trivial (fun _ h => h)
      ·
        refine Go_wh (fun (s4 : Int32 × Int32 × Int32) => [(0, .ref 47), (1, .int p1), (2, .int s4.1), (3, .int s4.2.1), (4, .int s4.2.2)]) (fun _ => []) (fun (s4 : Int32 × Int32 × Int32) => (hh X g w3.2)) (fun s4 => ?_) ((0 : Int32), (-1 : Int32), (0 : Int32))
        refine Go_blk 2 (pc' := 41) (L' := [(0, .ref 47), (1, .int p1), (2, .int s4.1), (3, .int s4.2.1), (4, .int s4.2.2)]) (S' := [.int (6 : Int32), .int s4.2.2]) (h' := (hh X g w3.2)) rfl ?_
        refine Go_cmpn rfl rfl (ab_cge _ _) ?_ ?_
        ·
          refine Go_blk 2 (pc' := 47) (L' := [(5, .int (0 : Int32)), (0, .ref 47), (1, .int p1), (2, .int s4.1), (3, .int s4.2.1), (4, .int s4.2.2)]) (S' := []) (h' := (hh X g w3.2)) rfl ?_
          refine Go_lcs [(0, .ref 47), (1, .int p1), (2, .int s4.1), (3, .int s4.2.1), (4, .int s4.2.2), (5, .int (0 : Int32))] rfl ⟨rfl, rfl, rfl, rfl, rfl, rfl, trivial⟩ ?_
          refine Go_seq (pcj := 125) (fun (b9 : Int32 × Int32) => [(0, .ref 47), (1, .int p1), (2, .int b9.1), (3, .int b9.2), (4, .int s4.2.2)]) (fun (b9 : Int32 × Int32) => []) (fun (b9 : Int32 × Int32) => (hh X g w3.2)) (fun b9 => ?_) ?_
          ·
            refine Go_blk 2 (pc' := 37) (L' := [(4, .int (s4.2.2 + (1 : Int32))), (0, .ref 47), (1, .int p1), (2, .int b9.1), (3, .int b9.2)]) (S' := []) (h' := (hh X g w3.2)) rfl ?_
            exact Go_jmp [(0, .ref 47), (1, .int p1), (2, .int b9.1), (3, .int b9.2), (4, .int (s4.2.2 + (1 : Int32)))] rfl ⟨rfl, rfl, rfl, rfl, rfl, trivial⟩ (fun _ h => h)
          ·
            refine Go_wh (fun (s8 : Int32 × Int32 × Int32) => [(0, .ref 47), (1, .int p1), (2, .int s8.1), (3, .int s8.2.1), (4, .int s4.2.2), (5, .int s8.2.2)]) (fun _ => []) (fun (s8 : Int32 × Int32 × Int32) => (hh X g w3.2)) (fun s8 => ?_) (s4.1, s4.2.1, (0 : Int32))
            refine Go_blk 2 (pc' := 51) (L' := [(0, .ref 47), (1, .int p1), (2, .int s8.1), (3, .int s8.2.1), (4, .int s4.2.2), (5, .int s8.2.2)]) (S' := [.int (6 : Int32), .int s8.2.2]) (h' := (hh X g w3.2)) rfl ?_
            refine Go_cmpn rfl rfl (ab_cge _ _) ?_ ?_
            ·
              refine Go_blk 3 (pc' := 60) (L' := [(0, .ref 47), (1, .int p1), (2, .int s8.1), (3, .int s8.2.1), (4, .int s4.2.2), (5, .int s8.2.2)]) (S' := [.int s4.2.2, .ref 135]) (h' := (hh X g w3.2)) rfl ?_
              refine Go_bald rfl fun v10 => ?_
              refine Go_seq (pcj := 119) (fun (b11 : Int32 × Int32) => [(0, .ref 47), (1, .int p1), (2, .int b11.1), (3, .int b11.2), (4, .int s4.2.2), (5, .int s8.2.2)]) (fun (b11 : Int32 × Int32) => []) (fun (b11 : Int32 × Int32) => (hh X g w3.2)) (fun b11 => ?_) ?_
              ·
                refine Go_blk 2 (pc' := 47) (L' := [(5, .int (s8.2.2 + (1 : Int32))), (0, .ref 47), (1, .int p1), (2, .int b11.1), (3, .int b11.2), (4, .int s4.2.2)]) (S' := []) (h' := (hh X g w3.2)) rfl ?_
                exact Go_jmp [(0, .ref 47), (1, .int p1), (2, .int b11.1), (3, .int b11.2), (4, .int s4.2.2), (5, .int (s8.2.2 + (1 : Int32)))] rfl ⟨rfl, rfl, rfl, rfl, rfl, rfl, trivial⟩ (fun _ h => h)
              ·
                refine Go_cmz rfl rfl rfl ?_ ?_
                ·
                  exact Go_jmp [(0, .ref 47), (1, .int p1), (2, .int s8.1), (3, .int s8.2.1), (4, .int s4.2.2), (5, .int s8.2.2)] rfl ⟨rfl, rfl, rfl, rfl, rfl, rfl, trivial⟩ (fun _ h => h)
                ·
                  refine Go_blk 3 (pc' := 70) (L' := [(0, .ref 47), (1, .int p1), (2, .int s8.1), (3, .int s8.2.1), (4, .int s4.2.2), (5, .int s8.2.2)]) (S' := [.int s8.2.2, .ref 135]) (h' := (hh X g w3.2)) rfl ?_
                  refine Go_bald rfl fun v12 => ?_
                  refine Go_cmz rfl rfl rfl ?_ ?_
                  ·
                    exact Go_jmp [(0, .ref 47), (1, .int p1), (2, .int s8.1), (3, .int s8.2.1), (4, .int s4.2.2), (5, .int s8.2.2)] rfl ⟨rfl, rfl, rfl, rfl, rfl, rfl, trivial⟩ (fun _ h => h)
                  ·
                    refine Go_blk 3 (pc' := 79) (L' := [(0, .ref 47), (1, .int p1), (2, .int s8.1), (3, .int s8.2.1), (4, .int s4.2.2), (5, .int s8.2.2)]) (S' := [.int s8.2.2, .int s4.2.2, .ref 47]) (h' := (hh X g w3.2)) rfl ?_
                    refine Go_cR (y' := 372) (As := [.ref 47, .int s4.2.2, .int s8.2.2]) (r := []) rfl (g_m_isBest372 s4.2.2 s8.2.2 (by omega)) fun v13 => ?_
                    refine Go_cmz rfl rfl rfl ?_ ?_
                    ·
                      exact Go_jmp [(0, .ref 47), (1, .int p1), (2, .int s8.1), (3, .int s8.2.1), (4, .int s4.2.2), (5, .int s8.2.2)] rfl ⟨rfl, rfl, rfl, rfl, rfl, rfl, trivial⟩ (fun _ h => h)
                    ·
                      refine Go_blk 3 (pc' := 90) (L' := [(0, .ref 47), (1, .int p1), (2, .int s8.1), (3, .int s8.2.1), (4, .int s4.2.2), (5, .int s8.2.2)]) (S' := [.int s4.2.2, .int s8.2.2, .ref 47]) (h' := (hh X g w3.2)) rfl ?_
                      refine Go_cR (y' := 372) (As := [.ref 47, .int s8.2.2, .int s4.2.2]) (r := []) rfl (g_m_isBest372 s8.2.2 s4.2.2 (by omega)) fun v14 => ?_
                      refine Go_cmzn rfl rfl rfl ?_ ?_
                      ·
                        refine Go_blk 1 (pc' := 119) (L' := [(0, .ref 47), (1, .int p1), (2, .int s8.1), (3, .int s8.2.1), (4, .int s4.2.2), (5, .int s8.2.2)]) (S' := []) (h' := (hh X g w3.2)) rfl ?_
                        exact Go_jmp [(0, .ref 47), (1, .int p1), (2, .int s8.1), (3, .int s8.2.1), (4, .int s4.2.2), (5, .int s8.2.2)] rfl ⟨rfl, rfl, rfl, rfl, rfl, rfl, trivial⟩ (fun _ h => h)
                      ·
                        refine Go_blk 1 (pc' := 100) (L' := [(0, .ref 47), (1, .int p1), (2, .int s8.1), (3, .int s8.2.1), (4, .int s4.2.2), (5, .int s8.2.2)]) (S' := [.int s8.1]) (h' := (hh X g w3.2)) rfl ?_
                        refine Go_seq (pcj := 115) (fun (b15 : Int32) => [(0, .ref 47), (1, .int p1), (2, .int s8.1), (4, .int s4.2.2), (5, .int s8.2.2)]) (fun (b15 : Int32) => [.int b15]) (fun (b15 : Int32) => (hh X g w3.2)) (fun b15 => ?_) ?_
                        ·
                          refine Go_blk 2 (pc' := 119) (L' := [(2, .int (s8.1 + (1 : Int32))), (3, .int b15), (0, .ref 47), (1, .int p1), (4, .int s4.2.2), (5, .int s8.2.2)]) (S' := []) (h' := (hh X g w3.2)) rfl ?_
                          exact Go_jmp [(0, .ref 47), (1, .int p1), (2, .int (s8.1 + (1 : Int32))), (3, .int b15), (4, .int s4.2.2), (5, .int s8.2.2)] rfl ⟨rfl, rfl, rfl, rfl, rfl, rfl, trivial⟩ (fun _ h => h)
                        ·
                          refine Go_cmzn rfl rfl rfl ?_ ?_
                          ·
                            refine Go_blk 6 (pc' := 115) (L' := [(0, .ref 47), (1, .int p1), (2, .int s8.1), (3, .int s8.2.1), (4, .int s4.2.2), (5, .int s8.2.2)]) (S' := [.int (((10 : Int32) * s4.2.2) + s8.2.2)]) (h' := (hh X g w3.2)) rfl ?_
                            exact Go_jmp [(0, .ref 47), (1, .int p1), (2, .int s8.1), (4, .int s4.2.2), (5, .int s8.2.2)] rfl ⟨rfl, rfl, rfl, rfl, rfl, trivial⟩ (fun _ h => h)
                          ·
                            refine Go_blk 1 (pc' := 115) (L' := [(0, .ref 47), (1, .int p1), (2, .int s8.1), (3, .int s8.2.1), (4, .int s4.2.2), (5, .int s8.2.2)]) (S' := [.int s8.2.1]) (h' := (hh X g w3.2)) rfl ?_
                            exact Go_jmp [(0, .ref 47), (1, .int p1), (2, .int s8.1), (4, .int s4.2.2), (5, .int s8.2.2)] rfl ⟨rfl, rfl, rfl, rfl, rfl, trivial⟩ (fun _ h => h)
            ·
              exact Go_jmp [(0, .ref 47), (1, .int p1), (2, .int s8.1), (3, .int s8.2.1), (4, .int s4.2.2)] rfl ⟨rfl, rfl, rfl, rfl, rfl, trivial⟩ (fun _ h => h)
        ·
          exact Go_jmp [(0, .ref 47), (1, .int p1), (2, .int s4.1), (3, .int s4.2.1)] rfl ⟨rfl, rfl, rfl, rfl, trivial⟩ (fun _ h => h)
    ·
      refine Go_blk 1 (pc' := 29) (L' := [(0, .ref 47), (1, .int p1)]) (S' := [.int (0 : Int32)]) (h' := (hh X g w3.2)) rfl ?_
      exact Go_ret (fun _ h => h) rfl
  ·
    refine Go_cmzn rfl rfl rfl ?_ ?_
    ·
      refine Go_blk 2 (pc' := 20) (L' := [(0, .ref 47), (1, .int p1)]) (S' := [.int (1 : Int32), .ref 47]) (h' := (hh X g (ab_up1 I 47 0 (0 : Int32)))) rfl ?_
      exact Go_jmp [(0, .ref 47), (1, .int p1)] rfl ⟨rfl, rfl, trivial⟩ (fun _ h => h)
    ·
      refine Go_blk 1 (pc' := 20) (L' := [(0, .ref 47), (1, .int p1)]) (S' := [.int (0 : Int32), .ref 47]) (h' := (hh X g (ab_up1 I 47 0 (0 : Int32)))) rfl ?_
      exact Go_jmp [(0, .ref 47), (1, .int p1)] rfl ⟨rfl, rfl, trivial⟩ (fun _ h => h)
set_option maxRecDepth 1000000 in
set_option maxHeartbeats 4000000 in
theorem g_x_gets246 (p1 : Int32) (p2 : Int32) {X : XX} {g : GG} {I : MJ} {d : Nat} (hd : 5 ≤ d) : Go d 246 0 (lv_args 0 [.ref 0, .int p1, .int p2]) [] (hh X g I) (f_x_gets246 p1 p2 I) (pT vI X g) := by
  obtain ⟨d, rfl⟩ : ∃ k, d = k + 1 := ⟨d - 1, by omega⟩
  unfold f_x_gets246
  refine Go_blk 2 (pc' := 2) (L' := [(0, .ref 0), (1, .int p1), (2, .int p2)]) (S' := [.int p1, .ref 0]) (h' := (hh X g I)) rfl ?_
  refine Go_cT (y' := 68) (As := [.ref 0, .int p1]) (r := []) rfl rfl (g_x_needPattern68 p1 (by omega)) fun v1 I2 => ?_
  refine Go_blk 2 (pc' := 7) (L' := [(0, .ref 0), (1, .int p1), (2, .int p2)]) (S' := [.int p2, .ref 0]) (h' := (hh X g I2)) rfl ?_
  refine Go_cT (y' := 68) (As := [.ref 0, .int p2]) (r := []) rfl rfl (g_x_needPattern68 p2 (by omega)) fun v3 I4 => ?_
  refine Go_blk 2 (pc' := 12) (L' := [(0, .ref 0), (1, .int p1), (2, .int p2)]) (S' := [.int p1, .ref 0]) (h' := (hh X g I4)) rfl ?_
  refine Go_cT (y' := 180) (As := [.ref 0, .int p1]) (r := []) rfl rfl (g_x_needTold180 p1 (by omega)) fun v5 I6 => ?_
  refine Go_blk 2 (pc' := 17) (L' := [(0, .ref 0), (1, .int p1), (2, .int p2)]) (S' := [.int p2, .ref 0]) (h' := (hh X g I6)) rfl ?_
  refine Go_cT (y' := 180) (As := [.ref 0, .int p2]) (r := []) rfl rfl (g_x_needTold180 p2 (by omega)) fun v7 I8 => ?_
  refine Go_blk 2 (pc' := 24) (L' := [(0, .ref 0), (1, .int p1), (2, .int p2)]) (S' := [.ref 39]) (h' := (hh X g I8)) rfl ?_
  refine Go_cV (y' := 239) (As := [.ref 39]) (r := []) rfl (g_fit_compare239  (by omega)) fun I9 => ?_
  refine Go_blk 4 (pc' := 33) (L' := [(0, .ref 0), (1, .int p1), (2, .int p2)]) (S' := [.int p2, .int p1, .ref 39]) (h' := (hh X g I9)) rfl ?_
  refine Go_cR (y' := 243) (As := [.ref 39, .int p1, .int p2]) (r := []) rfl (g_fit_share243 p1 p2 (by omega)) fun v10 => ?_
  exact Go_ret (fun _ h => h) rfl
set_option maxRecDepth 1000000 in
set_option maxHeartbeats 4000000 in
theorem g_l_gets245 (p1 : Int32) (p2 : Int32) {X : XX} {g : GG} {I : MJ} {d : Nat} (hd : 6 ≤ d) : Go d 245 0 (lv_args 0 [.ref 0, .int p1, .int p2, .ref 698]) [] (hh X g I) (f_l_gets245 p1 p2 I g) (pG X) := by
  obtain ⟨d, rfl⟩ : ∃ k, d = k + 1 := ⟨d - 1, by omega⟩
  unfold f_l_gets245
  refine Go_blk 5 (pc' := 5) (L' := [(0, .ref 0), (1, .int p1), (2, .int p2), (3, .ref 698)]) (S' := [.int p2, .int p1, .ref 0, .int (0 : Int32), .ref 698]) (h' := (hh X g I)) rfl ?_
  refine Go_try (y' := 246) (As := [.ref 0, .int p1, .int p2]) (r := [.int (0 : Int32), .ref 698]) rfl (g_x_gets246 p1 p2 (by omega)) (fun v1 I2 => ?_) (fun E2 I2 => ?_)
  ·
    refine Go_blk 1 (pc' := 9) (L' := [(0, .ref 0), (1, .int p1), (2, .int p2), (3, .ref 698)]) (S' := [.long (v1.toInt64), .int (0 : Int32), .ref 698]) (h' := (hh X g I2)) rfl ?_
    refine Go_last rfl fun g3 => ?_
    refine Go_blk 2 (pc' := 22) (L' := [(0, .ref 0), (1, .int p1), (2, .int p2), (3, .ref 698)]) (S' := [.int (0 : Int32)]) (h' := (hh X g3 I2)) rfl ?_
    exact Go_ret (fun _ h => h) rfl
  ·
    refine GX_ite ?_ ?_
    ·
      refine GX_go rfl (t := 15) (k := 4) rfl ?_
      refine Go_blk 1 (pc' := 16) (L' := [(0, .ref 0), (1, .int p1), (2, .int p2), (3, .ref 698)]) (S' := [.int (1 : Int32)]) (h' := (hh X (thr g) I2)) rfl ?_
      exact Go_ret (fun _ h => h) rfl
    refine GX_ite ?_ ?_
    ·
      refine GX_go rfl (t := 19) (k := 4) rfl ?_
      refine Go_blk 1 (pc' := 20) (L' := [(0, .ref 0), (1, .int p1), (2, .int p2), (3, .ref 698)]) (S' := [.int (2 : Int32)]) (h' := (hh X (thr g) I2)) rfl ?_
      exact Go_ret (fun _ h => h) rfl
    exact GX_none
set_option maxRecDepth 1000000 in
set_option maxHeartbeats 4000000 in
theorem g_m_gets374 (p1 : Int32) (p2 : Int32) {X : XX} {g : GG} {I : MJ} {d : Nat} (hd : 3 ≤ d) : Go d 374 0 (lv_args 0 [.ref 47, .int p1, .int p2]) [] (hh X g I) (f_m_gets374 p1 p2 I) (pW X g) := by
  obtain ⟨d, rfl⟩ : ∃ k, d = k + 1 := ⟨d - 1, by omega⟩
  unfold f_m_gets374
  refine Go_blk 6 (pc' := 8) (L' := [(0, .ref 47), (1, .int p1), (2, .int p2)]) (S' := [.int p1, .ref 47, .ref 47]) (h' := (hh X g (ab_up1 I 47 0 (0 : Int32)))) rfl ?_
  refine Go_cR (y' := 288) (As := [.ref 47, .int p1]) (r := [.ref 47]) rfl (g_m_isPattern288 p1 (by omega)) fun v1 => ?_
  refine Go_seq (pcj := 27) (fun (b2 : Int32) => [(0, .ref 47), (1, .int p1), (2, .int p2)]) (fun (b2 : Int32) => [.int b2, .ref 47]) (fun (b2 : Int32) => (hh X g (ab_up1 I 47 0 (0 : Int32)))) (fun b2 => ?_) ?_
  ·
    refine Go_blk 2 (pc' := 29) (L' := [(0, .ref 47), (1, .int p1), (2, .int p2)]) (S' := [.int (0 : Int32), .int (1 : Int32), .int b2, .ref 47]) (h' := (hh X g (ab_up1 I 47 0 (0 : Int32)))) rfl ?_
    refine Go_cW (y' := 268) (As := [.ref 47, .int b2, .int (1 : Int32), .int (0 : Int32)]) (r := []) rfl (g_m_bad268 b2 (1 : Int32) (0 : Int32) (by omega)) fun w3 => ?_
    refine Go_cmzn rfl rfl rfl ?_ ?_
    ·
      refine Go_blk 4 (pc' := 41) (L' := [(0, .ref 47), (1, .int p1), (2, .int p2)]) (S' := [.int p1, .ref 135, .ref 47]) (h' := (hh X g w3.2)) rfl ?_
      refine Go_bald rfl fun v4 => ?_
      refine Go_seq (pcj := 59) (fun (b5 : Int32) => [(0, .ref 47), (1, .int p1), (2, .int p2)]) (fun (b5 : Int32) => [.int b5, .ref 47]) (fun (b5 : Int32) => (hh X g w3.2)) (fun b5 => ?_) ?_
      ·
        refine Go_blk 2 (pc' := 61) (L' := [(0, .ref 47), (1, .int p1), (2, .int p2)]) (S' := [.int (2 : Int32), .int (2 : Int32), .int b5, .ref 47]) (h' := (hh X g w3.2)) rfl ?_
        refine Go_cW (y' := 268) (As := [.ref 47, .int b5, .int (2 : Int32), .int (2 : Int32)]) (r := []) rfl (g_m_bad268 b5 (2 : Int32) (2 : Int32) (by omega)) fun w6 => ?_
        refine Go_cmz rfl rfl rfl ?_ ?_
        ·
          refine Go_blk 3 (pc' := 72) (L' := [(0, .ref 47), (1, .int p1), (2, .int p2)]) (S' := [.int p2, .int p1, .ref 47]) (h' := (hh X g w6.2)) rfl ?_
          refine Go_cR (y' := 373) (As := [.ref 47, .int p1, .int p2]) (r := []) rfl (g_m_getsOf373 p1 p2 (by omega)) fun v7 => ?_
          exact Go_ret (fun _ h => h) rfl
        ·
          refine Go_blk 1 (pc' := 68) (L' := [(0, .ref 47), (1, .int p1), (2, .int p2)]) (S' := [.int (0 : Int32)]) (h' := (hh X g w6.2)) rfl ?_
          exact Go_ret (fun _ h => h) rfl
      ·
        refine Go_cmz rfl rfl rfl ?_ ?_
        ·
          refine Go_blk 2 (pc' := 59) (L' := [(0, .ref 47), (1, .int p1), (2, .int p2)]) (S' := [.int (1 : Int32), .ref 47]) (h' := (hh X g w3.2)) rfl ?_
          exact Go_jmp [(0, .ref 47), (1, .int p1), (2, .int p2)] rfl ⟨rfl, rfl, rfl, trivial⟩ (fun _ h => h)
        ·
          refine Go_blk 3 (pc' := 50) (L' := [(0, .ref 47), (1, .int p1), (2, .int p2)]) (S' := [.int p2, .ref 135, .ref 47]) (h' := (hh X g w3.2)) rfl ?_
          refine Go_bald rfl fun v8 => ?_
          refine Go_cmzn rfl rfl rfl ?_ ?_
          ·
            refine Go_blk 2 (pc' := 59) (L' := [(0, .ref 47), (1, .int p1), (2, .int p2)]) (S' := [.int (1 : Int32), .ref 47]) (h' := (hh X g w3.2)) rfl ?_
            exact Go_jmp [(0, .ref 47), (1, .int p1), (2, .int p2)] rfl ⟨rfl, rfl, rfl, trivial⟩ (fun _ h => h)
          ·
            refine Go_blk 1 (pc' := 59) (L' := [(0, .ref 47), (1, .int p1), (2, .int p2)]) (S' := [.int (0 : Int32), .ref 47]) (h' := (hh X g w3.2)) rfl ?_
            exact Go_jmp [(0, .ref 47), (1, .int p1), (2, .int p2)] rfl ⟨rfl, rfl, rfl, trivial⟩ (fun _ h => h)
    ·
      refine Go_blk 1 (pc' := 68) (L' := [(0, .ref 47), (1, .int p1), (2, .int p2)]) (S' := [.int (0 : Int32)]) (h' := (hh X g w3.2)) rfl ?_
      exact Go_ret (fun _ h => h) rfl
  ·
    refine Go_cmz rfl rfl rfl ?_ ?_
    ·
      refine Go_blk 2 (pc' := 27) (L' := [(0, .ref 47), (1, .int p1), (2, .int p2)]) (S' := [.int (1 : Int32), .ref 47]) (h' := (hh X g (ab_up1 I 47 0 (0 : Int32)))) rfl ?_
      exact Go_jmp [(0, .ref 47), (1, .int p1), (2, .int p2)] rfl ⟨rfl, rfl, rfl, trivial⟩ (fun _ h => h)
    ·
      refine Go_blk 2 (pc' := 16) (L' := [(0, .ref 47), (1, .int p1), (2, .int p2)]) (S' := [.int p2, .ref 47, .ref 47]) (h' := (hh X g (ab_up1 I 47 0 (0 : Int32)))) rfl ?_
      refine Go_cR (y' := 288) (As := [.ref 47, .int p2]) (r := [.ref 47]) rfl (g_m_isPattern288 p2 (by omega)) fun v9 => ?_
      refine Go_cmzn rfl rfl rfl ?_ ?_
      ·
        refine Go_blk 2 (pc' := 27) (L' := [(0, .ref 47), (1, .int p1), (2, .int p2)]) (S' := [.int (1 : Int32), .ref 47]) (h' := (hh X g (ab_up1 I 47 0 (0 : Int32)))) rfl ?_
        exact Go_jmp [(0, .ref 47), (1, .int p1), (2, .int p2)] rfl ⟨rfl, rfl, rfl, trivial⟩ (fun _ h => h)
      ·
        refine Go_blk 1 (pc' := 27) (L' := [(0, .ref 47), (1, .int p1), (2, .int p2)]) (S' := [.int (0 : Int32), .ref 47]) (h' := (hh X g (ab_up1 I 47 0 (0 : Int32)))) rfl ?_
        exact Go_jmp [(0, .ref 47), (1, .int p1), (2, .int p2)] rfl ⟨rfl, rfl, rfl, trivial⟩ (fun _ h => h)
set_option maxRecDepth 1000000 in
set_option maxHeartbeats 4000000 in
theorem g_tra_passDays249 (p2 : Int32) {X : XX} {g : GG} {I : MJ} {d : Nat} (hd : 5 ≤ d) : Go d 249 0 (lv_args 0 [.ref 28, .ref 17, .int p2]) [] (hh X g I) (f_tra_passDays249 p2 I) (pV X g) := by
  obtain ⟨d, rfl⟩ : ∃ k, d = k + 1 := ⟨d - 1, by omega⟩
  unfold f_tra_passDays249
  refine Go_blk 2 (pc' := 2) (L' := [(3, .int (0 : Int32)), (0, .ref 28), (1, .ref 17), (2, .int p2)]) (S' := []) (h' := (hh X g I)) rfl ?_
  refine Go_lcs [(0, .ref 28), (1, .ref 17), (2, .int p2), (3, .int (0 : Int32))] rfl ⟨rfl, rfl, rfl, rfl, trivial⟩ ?_
  refine Go_seq (pcj := 28) (fun (b2 : MJ) => []) (fun (b2 : MJ) => []) (fun (b2 : MJ) => (hh X g b2)) (fun b2 => ?_) ?_
  ·
    exact Go_ret (fun _ h => h) rfl
  ·
    refine Go_wh (fun (s1 : Int32 × MJ) => [(0, .ref 28), (1, .ref 17), (2, .int p2), (3, .int s1.1)]) (fun _ => []) (fun (s1 : Int32 × MJ) => (hh X g s1.2)) (fun s1 => ?_) ((0 : Int32), I)
    refine Go_blk 2 (pc' := 4) (L' := [(0, .ref 28), (1, .ref 17), (2, .int p2), (3, .int s1.1)]) (S' := [.int p2, .int s1.1]) (h' := (hh X g s1.2)) rfl ?_
    refine Go_cmpn rfl rfl (ab_cge _ _) ?_ ?_
    ·
      refine Go_blk 1 (pc' := 8) (L' := [(0, .ref 28), (1, .ref 17), (2, .int p2), (3, .int s1.1)]) (S' := [.ref 17]) (h' := (hh X g s1.2)) rfl ?_
      refine Go_cR (y' := 113) (As := [.ref 17]) (r := []) rfl (g_sta_day113_17  (by omega)) fun v3 => ?_
      refine Go_blk 1 (pc' := 13) (L' := [(0, .ref 28), (1, .ref 17), (2, .int p2), (3, .int s1.1)]) (S' := [.int (60 : Int32), .int v3]) (h' := (hh X g s1.2)) rfl ?_
      refine Go_cmpn rfl rfl (ab_cge _ _) ?_ ?_
      ·
        refine Go_blk 2 (pc' := 18) (L' := [(0, .ref 28), (1, .ref 17), (2, .int p2), (3, .int s1.1)]) (S' := [.ref 17, .ref 28]) (h' := (hh X g s1.2)) rfl ?_
        refine Go_cW (y' := 129) (As := [.ref 28, .ref 17]) (r := []) rfl (g_tra_passDay129_17  (by omega)) fun w4 => ?_
        refine Go_blk 3 (pc' := 2) (L' := [(3, .int (s1.1 + (1 : Int32))), (0, .ref 28), (1, .ref 17), (2, .int p2)]) (S' := []) (h' := (hh X g w4.2)) rfl ?_
        exact Go_jmp [(0, .ref 28), (1, .ref 17), (2, .int p2), (3, .int (s1.1 + (1 : Int32)))] rfl ⟨rfl, rfl, rfl, rfl, trivial⟩ (fun _ h => h)
      ·
        exact Go_jmp [] rfl trivial (fun _ h => h)
    ·
      exact Go_jmp [] rfl trivial (fun _ h => h)
set_option maxRecDepth 1000000 in
set_option maxHeartbeats 4000000 in
theorem g_x_ahead248 (p1 : Int32) (p2 : Int32) (p3 : Int32) {X : XX} {g : GG} {I : MJ} {d : Nat} (hd : 6 ≤ d) : Go d 248 0 (lv_args 0 [.ref 0, .int p1, .int p2, .int p3]) [] (hh X g I) (f_x_ahead248 p1 p2 p3 I) (pT vI X g) := by
  obtain ⟨d, rfl⟩ : ∃ k, d = k + 1 := ⟨d - 1, by omega⟩
  unfold f_x_ahead248
  refine Go_blk 5 (pc' := 9) (L' := [(0, .ref 0), (1, .int p1), (2, .int p2), (3, .int p3)]) (S' := [.int (I 3 6), .int p1, .ref 0]) (h' := (hh X g I)) rfl ?_
  refine Go_cT (y' := 69) (As := [.ref 0, .int p1, .int (I 3 6)]) (r := []) rfl rfl (g_x_needElement69 p1 (I 3 6) (by omega)) fun v1 I2 => ?_
  refine Go_blk 4 (pc' := 17) (L' := [(0, .ref 0), (1, .int p1), (2, .int p2), (3, .int p3)]) (S' := [.int (60 : Int32), .int (0 : Int32), .int p2, .ref 0]) (h' := (hh X g I2)) rfl ?_
  refine Go_cT (y' := 38) (As := [.ref 0, .int p2, .int (0 : Int32), .int (60 : Int32)]) (r := []) rfl rfl (g_x_needWithin38 p2 (0 : Int32) (60 : Int32) (by omega)) fun v3 I4 => ?_
  refine Go_blk 4 (pc' := 24) (L' := [(0, .ref 0), (1, .int p1), (2, .int p2), (3, .int p3)]) (S' := [.int (1 : Int32), .int (0 : Int32), .int p3, .ref 0]) (h' := (hh X g I4)) rfl ?_
  refine Go_cT (y' := 38) (As := [.ref 0, .int p3, .int (0 : Int32), .int (1 : Int32)]) (r := []) rfl rfl (g_x_needWithin38 p3 (0 : Int32) (1 : Int32) (by omega)) fun v5 I6 => ?_
  refine Go_blk 3 (pc' := 32) (L' := [(0, .ref 0), (1, .int p1), (2, .int p2), (3, .int p3)]) (S' := [.int p1, .ref 15]) (h' := (hh X g I6)) rfl ?_
  refine Go_cR (y' := 108) (As := [.ref 15, .int p1]) (r := []) rfl (g_sta_hasSuit108_15 p1 (by omega)) fun v7 => ?_
  refine Go_cmzn rfl rfl rfl ?_ ?_
  ·
    refine Go_blk 1 (pc' := 39) (L' := [(0, .ref 0), (1, .int p1), (2, .int p2), (3, .int p3)]) (S' := [.int (0 : Int32)]) (h' := (hh X g I6)) rfl ?_
    exact Go_ret (fun _ h => h) rfl
  ·
    refine Go_blk 4 (pc' := 48) (L' := [(0, .ref 0), (1, .int p1), (2, .int p2), (3, .int p3)]) (S' := [.ref 15, .ref 17]) (h' := (hh X g I6)) rfl ?_
    refine Go_cV (y' := 107) (As := [.ref 17, .ref 15]) (r := []) rfl (g_sta_copyFrom107_17_15  (by omega)) fun I8 => ?_
    refine Go_blk 5 (pc' := 60) (L' := [(0, .ref 0), (1, .int p1), (2, .int p2), (3, .int p3)]) (S' := [.int p2, .ref 17, .ref 28]) (h' := (hh X g I8)) rfl ?_
    refine Go_cV (y' := 249) (As := [.ref 28, .ref 17, .int p2]) (r := []) rfl (g_tra_passDays249 p2 (by omega)) fun I9 => ?_
    refine Go_blk 1 (pc' := 64) (L' := [(0, .ref 0), (1, .int p1), (2, .int p2), (3, .int p3)]) (S' := [.int p3]) (h' := (hh X g I9)) rfl ?_
    refine Go_seq (pcj := 87) (fun (b10 : Int32) => []) (fun (b10 : Int32) => [.int b10]) (fun (b10 : Int32) => (hh X g I9)) (fun b10 => ?_) ?_
    ·
      exact Go_ret (fun _ h => h) rfl
    ·
      refine Go_cmzn rfl rfl rfl ?_ ?_
      ·
        refine Go_blk 3 (pc' := 72) (L' := [(0, .ref 0), (1, .int p1), (2, .int p2), (3, .int p3)]) (S' := [.int p1, .ref 17]) (h' := (hh X g I9)) rfl ?_
        refine Go_cR (y' := 154) (As := [.ref 17, .int p1]) (r := []) rfl (g_sta_bareHours154_17 p1 (by omega)) fun v11 => ?_
        refine Go_blk 1 (pc' := 87) (L' := [(0, .ref 0), (1, .int p1), (2, .int p2), (3, .int p3)]) (S' := [.int v11]) (h' := (hh X g I9)) rfl ?_
        exact Go_jmp [] rfl trivial (fun _ h => h)
      ·
        refine Go_blk 4 (pc' := 84) (L' := [(0, .ref 0), (1, .int p1), (2, .int p2), (3, .int p3)]) (S' := [.int p1, .ref 17, .ref 0]) (h' := (hh X g I9)) rfl ?_
        refine Go_cR (y' := 176) (As := [.ref 0, .ref 17, .int p1]) (r := []) rfl (g_x_fitOfSuit176_17 p1 (by omega)) fun v12 => ?_
        exact Go_jmp [] rfl trivial (fun _ h => h)
set_option maxRecDepth 1000000 in
set_option maxHeartbeats 4000000 in
theorem g_l_ahead247 (p1 : Int32) (p2 : Int32) (p3 : Int32) {X : XX} {g : GG} {I : MJ} {d : Nat} (hd : 7 ≤ d) : Go d 247 0 (lv_args 0 [.ref 0, .int p1, .int p2, .int p3, .ref 698]) [] (hh X g I) (f_l_ahead247 p1 p2 p3 I g) (pG X) := by
  obtain ⟨d, rfl⟩ : ∃ k, d = k + 1 := ⟨d - 1, by omega⟩
  unfold f_l_ahead247
  refine Go_blk 6 (pc' := 7) (L' := [(0, .ref 0), (1, .int p1), (2, .int p2), (3, .int p3), (4, .ref 698)]) (S' := [.int p3, .int p2, .int p1, .ref 0, .int (0 : Int32), .ref 698]) (h' := (hh X g I)) rfl ?_
  refine Go_try (y' := 248) (As := [.ref 0, .int p1, .int p2, .int p3]) (r := [.int (0 : Int32), .ref 698]) rfl (g_x_ahead248 p1 p2 p3 (by omega)) (fun v1 I2 => ?_) (fun E2 I2 => ?_)
  ·
    refine Go_blk 1 (pc' := 11) (L' := [(0, .ref 0), (1, .int p1), (2, .int p2), (3, .int p3), (4, .ref 698)]) (S' := [.long (v1.toInt64), .int (0 : Int32), .ref 698]) (h' := (hh X g I2)) rfl ?_
    refine Go_last rfl fun g3 => ?_
    refine Go_blk 2 (pc' := 24) (L' := [(0, .ref 0), (1, .int p1), (2, .int p2), (3, .int p3), (4, .ref 698)]) (S' := [.int (0 : Int32)]) (h' := (hh X g3 I2)) rfl ?_
    exact Go_ret (fun _ h => h) rfl
  ·
    refine GX_ite ?_ ?_
    ·
      refine GX_go rfl (t := 17) (k := 5) rfl ?_
      refine Go_blk 1 (pc' := 18) (L' := [(0, .ref 0), (1, .int p1), (2, .int p2), (3, .int p3), (4, .ref 698)]) (S' := [.int (1 : Int32)]) (h' := (hh X (thr g) I2)) rfl ?_
      exact Go_ret (fun _ h => h) rfl
    refine GX_ite ?_ ?_
    ·
      refine GX_go rfl (t := 21) (k := 5) rfl ?_
      refine Go_blk 1 (pc' := 22) (L' := [(0, .ref 0), (1, .int p1), (2, .int p2), (3, .int p3), (4, .ref 698)]) (S' := [.int (2 : Int32)]) (h' := (hh X (thr g) I2)) rfl ?_
      exact Go_ret (fun _ h => h) rfl
    exact GX_none
set_option maxRecDepth 1000000 in
set_option maxHeartbeats 4000000 in
theorem g_m_ahead375 (p1 : Int32) (p2 : Int32) (p3 : Int32) {X : XX} {g : GG} {I : MJ} {d : Nat} (hd : 5 ≤ d) : Go d 375 0 (lv_args 0 [.ref 47, .int p1, .int p2, .int p3]) [] (hh X g I) (f_m_ahead375 p1 p2 p3 I) (pW X g) := by
  obtain ⟨d, rfl⟩ : ∃ k, d = k + 1 := ⟨d - 1, by omega⟩
  unfold f_m_ahead375
  refine Go_blk 6 (pc' := 8) (L' := [(0, .ref 47), (1, .int p1), (2, .int p2), (3, .int p3)]) (S' := [.int p1, .ref 47, .ref 47]) (h' := (hh X g (ab_up1 I 47 0 (0 : Int32)))) rfl ?_
  refine Go_cR (y' := 328) (As := [.ref 47, .int p1]) (r := [.ref 47]) rfl (g_m_isClient328 p1 (by omega)) fun v1 => ?_
  refine Go_seq (pcj := 19) (fun (b2 : Int32) => [(0, .ref 47), (1, .int p1), (2, .int p2), (3, .int p3)]) (fun (b2 : Int32) => [.int b2, .ref 47]) (fun (b2 : Int32) => (hh X g (ab_up1 I 47 0 (0 : Int32)))) (fun b2 => ?_) ?_
  ·
    refine Go_blk 2 (pc' := 21) (L' := [(0, .ref 47), (1, .int p1), (2, .int p2), (3, .int p3)]) (S' := [.int (0 : Int32), .int (1 : Int32), .int b2, .ref 47]) (h' := (hh X g (ab_up1 I 47 0 (0 : Int32)))) rfl ?_
    refine Go_cW (y' := 268) (As := [.ref 47, .int b2, .int (1 : Int32), .int (0 : Int32)]) (r := []) rfl (g_m_bad268 b2 (1 : Int32) (0 : Int32) (by omega)) fun w3 => ?_
    refine Go_cmzn rfl rfl rfl ?_ ?_
    ·
      refine Go_blk 4 (pc' := 32) (L' := [(0, .ref 47), (1, .int p1), (2, .int p2), (3, .int p3)]) (S' := [.int (60 : Int32), .int (0 : Int32), .int p2, .ref 47]) (h' := (hh X g w3.2)) rfl ?_
      refine Go_cR (y' := 264) (As := [.int p2, .int (0 : Int32), .int (60 : Int32)]) (r := [.ref 47]) rfl (g_m_in264 p2 (0 : Int32) (60 : Int32) (by omega)) fun v4 => ?_
      refine Go_seq (pcj := 52) (fun (b5 : Int32) => [(0, .ref 47), (1, .int p1), (2, .int p2), (3, .int p3)]) (fun (b5 : Int32) => [.int b5, .ref 47]) (fun (b5 : Int32) => (hh X g w3.2)) (fun b5 => ?_) ?_
      ·
        refine Go_blk 2 (pc' := 54) (L' := [(0, .ref 47), (1, .int p1), (2, .int p2), (3, .int p3)]) (S' := [.int (1 : Int32), .int (2 : Int32), .int b5, .ref 47]) (h' := (hh X g w3.2)) rfl ?_
        refine Go_cW (y' := 268) (As := [.ref 47, .int b5, .int (2 : Int32), .int (1 : Int32)]) (r := []) rfl (g_m_bad268 b5 (2 : Int32) (1 : Int32) (by omega)) fun w6 => ?_
        refine Go_cmz rfl rfl rfl ?_ ?_
        ·
          refine Go_blk 4 (pc' := 70) (L' := [(0, .ref 47), (1, .int p1), (2, .int p2), (3, .int p3)]) (S' := [.ref 577, .ref 576]) (h' := (hh X g w6.2)) rfl ?_
          refine Go_cV (y' := 302) (As := [.ref 576, .ref 577]) (r := []) rfl (g_m_copies302 576 577 (by omega)) fun I7 => ?_
          refine Go_blk 2 (pc' := 76) (L' := [(4, .int (0 : Int32)), (0, .ref 47), (1, .int p1), (2, .int p2), (3, .int p3)]) (S' := []) (h' := (hh X g I7)) rfl ?_
          refine Go_lcs [(0, .ref 47), (1, .int p1), (2, .int p2), (3, .int p3), (4, .int (0 : Int32))] rfl ⟨rfl, rfl, rfl, rfl, rfl, trivial⟩ ?_
          refine Go_seq (pcj := 97) (fun (b9 : MJ) => [(0, .ref 47), (1, .int p1), (3, .int p3)]) (fun (b9 : MJ) => []) (fun (b9 : MJ) => (hh X g b9)) (fun b9 => ?_) ?_
          ·
            refine Go_blk 3 (pc' := 102) (L' := [(0, .ref 47), (1, .int p1), (3, .int p3)]) (S' := [.int p1, .ref 577]) (h' := (hh X g b9)) rfl ?_
            refine Go_cR (y' := 305) (As := [.ref 577, .int p1]) (r := []) rfl (g_m_hasSuit305 577 p1 (by omega)) fun v10 => ?_
            refine Go_cmzn rfl rfl rfl ?_ ?_
            ·
              refine Go_blk 1 (pc' := 109) (L' := [(0, .ref 47), (1, .int p1), (3, .int p3)]) (S' := [.int (0 : Int32)]) (h' := (hh X g b9)) rfl ?_
              exact Go_ret (fun _ h => h) rfl
            ·
              refine Go_blk 1 (pc' := 111) (L' := [(0, .ref 47), (1, .int p1), (3, .int p3)]) (S' := [.int p3]) (h' := (hh X g b9)) rfl ?_
              refine Go_seq (pcj := 138) (fun (b11 : Int32) => []) (fun (b11 : Int32) => [.int b11]) (fun (b11 : Int32) => (hh X g b9)) (fun b11 => ?_) ?_
              ·
                exact Go_ret (fun _ h => h) rfl
              ·
                refine Go_cmzn rfl rfl rfl ?_ ?_
                ·
                  refine Go_blk 3 (pc' := 119) (L' := [(0, .ref 47), (1, .int p1), (3, .int p3)]) (S' := [.int p1, .ref 577]) (h' := (hh X g b9)) rfl ?_
                  refine Go_cR (y' := 330) (As := [.ref 577, .int p1]) (r := []) rfl (g_m_bareOf330 577 p1 (by omega)) fun v12 => ?_
                  refine Go_blk 1 (pc' := 138) (L' := [(0, .ref 47), (1, .int p1), (3, .int p3)]) (S' := [.int v12]) (h' := (hh X g b9)) rfl ?_
                  exact Go_jmp [] rfl trivial (fun _ h => h)
                ·
                  refine Go_blk 4 (pc' := 131) (L' := [(0, .ref 47), (1, .int p1), (3, .int p3)]) (S' := [.int p1, .ref 577, .ref 47]) (h' := (hh X g b9)) rfl ?_
                  refine Go_cR (y' := 310) (As := [.int p1]) (r := [.ref 577, .ref 47]) rfl (g_m_suitOf310 p1 (by omega)) fun v13 => ?_
                  refine Go_blk 1 (pc' := 135) (L' := [(0, .ref 47), (1, .int p1), (3, .int p3)]) (S' := [.int p1, .int v13, .ref 577, .ref 47]) (h' := (hh X g b9)) rfl ?_
                  refine Go_cR (y' := 342) (As := [.ref 47, .ref 577, .int v13, .int p1]) (r := []) rfl (g_m_fitOf342 577 v13 p1 (by omega)) fun v14 => ?_
                  exact Go_jmp [] rfl trivial (fun _ h => h)
          ·
            refine Go_wh (fun (s8 : Int32 × MJ) => [(0, .ref 47), (1, .int p1), (2, .int p2), (3, .int p3), (4, .int s8.1)]) (fun _ => []) (fun (s8 : Int32 × MJ) => (hh X g s8.2)) (fun s8 => ?_) ((0 : Int32), I7)
            refine Go_blk 2 (pc' := 79) (L' := [(0, .ref 47), (1, .int p1), (2, .int p2), (3, .int p3), (4, .int s8.1)]) (S' := [.int p2, .int s8.1]) (h' := (hh X g s8.2)) rfl ?_
            refine Go_cmpn rfl rfl (ab_cge _ _) ?_ ?_
            ·
              refine Go_blk 3 (pc' := 87) (L' := [(0, .ref 47), (1, .int p1), (2, .int p2), (3, .int p3), (4, .int s8.1)]) (S' := [.ref 577, .ref 47]) (h' := (hh X g s8.2)) rfl ?_
              refine Go_cW (y' := 314) (As := [.ref 47, .ref 577]) (r := []) rfl (g_m_dayEnds314 577 (by omega)) fun w15 => ?_
              refine Go_blk 3 (pc' := 76) (L' := [(4, .int (s8.1 + (1 : Int32))), (0, .ref 47), (1, .int p1), (2, .int p2), (3, .int p3)]) (S' := []) (h' := (hh X g w15.2)) rfl ?_
              exact Go_jmp [(0, .ref 47), (1, .int p1), (2, .int p2), (3, .int p3), (4, .int (s8.1 + (1 : Int32)))] rfl ⟨rfl, rfl, rfl, rfl, rfl, trivial⟩ (fun _ h => h)
            ·
              exact Go_jmp [(0, .ref 47), (1, .int p1), (3, .int p3)] rfl ⟨rfl, rfl, rfl, trivial⟩ (fun _ h => h)
        ·
          refine Go_blk 1 (pc' := 61) (L' := [(0, .ref 47), (1, .int p1), (2, .int p2), (3, .int p3)]) (S' := [.int (0 : Int32)]) (h' := (hh X g w6.2)) rfl ?_
          exact Go_ret (fun _ h => h) rfl
      ·
        refine Go_cmz rfl rfl rfl ?_ ?_
        ·
          refine Go_blk 2 (pc' := 52) (L' := [(0, .ref 47), (1, .int p1), (2, .int p2), (3, .int p3)]) (S' := [.int (1 : Int32), .ref 47]) (h' := (hh X g w3.2)) rfl ?_
          exact Go_jmp [(0, .ref 47), (1, .int p1), (2, .int p2), (3, .int p3)] rfl ⟨rfl, rfl, rfl, rfl, trivial⟩ (fun _ h => h)
        ·
          refine Go_blk 3 (pc' := 41) (L' := [(0, .ref 47), (1, .int p1), (2, .int p2), (3, .int p3)]) (S' := [.int (1 : Int32), .int (0 : Int32), .int p3, .ref 47]) (h' := (hh X g w3.2)) rfl ?_
          refine Go_cR (y' := 264) (As := [.int p3, .int (0 : Int32), .int (1 : Int32)]) (r := [.ref 47]) rfl (g_m_in264 p3 (0 : Int32) (1 : Int32) (by omega)) fun v16 => ?_
          refine Go_cmzn rfl rfl rfl ?_ ?_
          ·
            refine Go_blk 2 (pc' := 52) (L' := [(0, .ref 47), (1, .int p1), (2, .int p2), (3, .int p3)]) (S' := [.int (1 : Int32), .ref 47]) (h' := (hh X g w3.2)) rfl ?_
            exact Go_jmp [(0, .ref 47), (1, .int p1), (2, .int p2), (3, .int p3)] rfl ⟨rfl, rfl, rfl, rfl, trivial⟩ (fun _ h => h)
          ·
            refine Go_blk 1 (pc' := 52) (L' := [(0, .ref 47), (1, .int p1), (2, .int p2), (3, .int p3)]) (S' := [.int (0 : Int32), .ref 47]) (h' := (hh X g w3.2)) rfl ?_
            exact Go_jmp [(0, .ref 47), (1, .int p1), (2, .int p2), (3, .int p3)] rfl ⟨rfl, rfl, rfl, rfl, trivial⟩ (fun _ h => h)
    ·
      refine Go_blk 1 (pc' := 61) (L' := [(0, .ref 47), (1, .int p1), (2, .int p2), (3, .int p3)]) (S' := [.int (0 : Int32)]) (h' := (hh X g w3.2)) rfl ?_
      exact Go_ret (fun _ h => h) rfl
  ·
    refine Go_cmzn rfl rfl rfl ?_ ?_
    ·
      refine Go_blk 2 (pc' := 19) (L' := [(0, .ref 47), (1, .int p1), (2, .int p2), (3, .int p3)]) (S' := [.int (1 : Int32), .ref 47]) (h' := (hh X g (ab_up1 I 47 0 (0 : Int32)))) rfl ?_
      exact Go_jmp [(0, .ref 47), (1, .int p1), (2, .int p2), (3, .int p3)] rfl ⟨rfl, rfl, rfl, rfl, trivial⟩ (fun _ h => h)
    ·
      refine Go_blk 1 (pc' := 19) (L' := [(0, .ref 47), (1, .int p1), (2, .int p2), (3, .int p3)]) (S' := [.int (0 : Int32), .ref 47]) (h' := (hh X g (ab_up1 I 47 0 (0 : Int32)))) rfl ?_
      exact Go_jmp [(0, .ref 47), (1, .int p1), (2, .int p2), (3, .int p3)] rfl ⟨rfl, rfl, rfl, rfl, trivial⟩ (fun _ h => h)
set_option maxRecDepth 1000000 in
set_option maxHeartbeats 4000000 in
theorem g_x_needYears252 (p1 : Int32) (p2 : Int32) (p3 : Int32) {X : XX} {g : GG} {I : MJ} {d : Nat} (hd : 2 ≤ d) : Go d 252 0 (lv_args 0 [.ref 0, .int p1, .int p2, .int p3]) [] (hh X g I) (f_x_needYears252 p1 p2 p3 I) (pT vU X g) := by
  obtain ⟨d, rfl⟩ : ∃ k, d = k + 1 := ⟨d - 1, by omega⟩
  unfold f_x_needYears252
  refine Go_blk 4 (pc' := 5) (L' := [(0, .ref 0), (1, .int p1), (2, .int p2), (3, .int p3)]) (S' := [.int (16 : Int32), .int (0 : Int32), .int p1, .ref 0]) (h' := (hh X g I)) rfl ?_
  refine Go_cT (y' := 38) (As := [.ref 0, .int p1, .int (0 : Int32), .int (16 : Int32)]) (r := []) rfl rfl (g_x_needWithin38 p1 (0 : Int32) (16 : Int32) (by omega)) fun v1 I2 => ?_
  refine Go_blk 4 (pc' := 13) (L' := [(0, .ref 0), (1, .int p1), (2, .int p2), (3, .int p3)]) (S' := [.int (60 : Int32), .int (1 : Int32), .int p2, .ref 0]) (h' := (hh X g I2)) rfl ?_
  refine Go_cT (y' := 38) (As := [.ref 0, .int p2, .int (1 : Int32), .int (60 : Int32)]) (r := []) rfl rfl (g_x_needWithin38 p2 (1 : Int32) (60 : Int32) (by omega)) fun v3 I4 => ?_
  refine Go_blk 4 (pc' := 20) (L' := [(0, .ref 0), (1, .int p1), (2, .int p2), (3, .int p3)]) (S' := [.int (2 : Int32), .int (0 : Int32), .int p3, .ref 0]) (h' := (hh X g I4)) rfl ?_
  refine Go_cT (y' := 38) (As := [.ref 0, .int p3, .int (0 : Int32), .int (2 : Int32)]) (r := []) rfl rfl (g_x_needWithin38 p3 (0 : Int32) (2 : Int32) (by omega)) fun v5 I6 => ?_
  exact Go_ret (fun _ h => h) rfl
set_option maxRecDepth 1000000 in
set_option maxHeartbeats 4000000 in
theorem g_x_allBareHours253  {X : XX} {g : GG} {I : MJ} {d : Nat} (hd : 3 ≤ d) : Go d 253 0 (lv_args 0 [.ref 0, .ref 17]) [] (hh X g I) (f_x_allBareHours253  I) (pR X g I) := by
  obtain ⟨d, rfl⟩ : ∃ k, d = k + 1 := ⟨d - 1, by omega⟩
  unfold f_x_allBareHours253
  refine Go_blk 4 (pc' := 4) (L' := [(3, .int (0 : Int32)), (2, .int (0 : Int32)), (0, .ref 0), (1, .ref 17)]) (S' := []) (h' := (hh X g I)) rfl ?_
  refine Go_lcs [(0, .ref 0), (1, .ref 17), (2, .int (0 : Int32)), (3, .int (0 : Int32))] rfl ⟨rfl, rfl, rfl, rfl, trivial⟩ ?_
  refine Go_seq (pcj := 29) (fun (b2 : Int32) => [(2, .int b2)]) (fun (b2 : Int32) => []) (fun (b2 : Int32) => (hh X g I)) (fun b2 => ?_) ?_
  ·
    refine Go_blk 1 (pc' := 30) (L' := [(2, .int b2)]) (S' := [.int b2]) (h' := (hh X g I)) rfl ?_
    exact Go_ret (fun _ h => h) rfl
  ·
    refine Go_wh (fun (s1 : Int32 × Int32) => [(0, .ref 0), (1, .ref 17), (2, .int s1.1), (3, .int s1.2)]) (fun _ => []) (fun (s1 : Int32 × Int32) => (hh X g I)) (fun s1 => ?_) ((0 : Int32), (0 : Int32))
    refine Go_blk 4 (pc' := 12) (L' := [(0, .ref 0), (1, .ref 17), (2, .int s1.1), (3, .int s1.2)]) (S' := [.int (I 3 6), .int s1.2]) (h' := (hh X g I)) rfl ?_
    refine Go_cmpn rfl rfl (ab_cge _ _) ?_ ?_
    ·
      refine Go_blk 3 (pc' := 18) (L' := [(0, .ref 0), (1, .ref 17), (2, .int s1.1), (3, .int s1.2)]) (S' := [.int s1.2, .ref 17, .int s1.1]) (h' := (hh X g I)) rfl ?_
      refine Go_cR (y' := 154) (As := [.ref 17, .int s1.2]) (r := [.int s1.1]) rfl (g_sta_bareHours154_17 s1.2 (by omega)) fun v3 => ?_
      refine Go_blk 4 (pc' := 4) (L' := [(3, .int (s1.2 + (1 : Int32))), (2, .int (s1.1 + v3)), (0, .ref 0), (1, .ref 17)]) (S' := []) (h' := (hh X g I)) rfl ?_
      exact Go_jmp [(0, .ref 0), (1, .ref 17), (2, .int (s1.1 + v3)), (3, .int (s1.2 + (1 : Int32)))] rfl ⟨rfl, rfl, rfl, rfl, trivial⟩ (fun _ h => h)
    ·
      exact Go_jmp [(2, .int s1.1)] rfl ⟨rfl, trivial⟩ (fun _ h => h)
set_option maxRecDepth 1000000 in
set_option maxHeartbeats 4000000 in
theorem g_tra_draw255 (p1 : Int32) {X : XX} {g : GG} {I : MJ} {d : Nat} (hd : 0 ≤ d) : Go d 255 0 (lv_args 0 [.ref 28, .int p1]) [] (hh X g I) (f_tra_draw255 p1 I) (pW X g) := by
  unfold f_tra_draw255
  refine Go_blk 9 (pc' := 16) (L' := [(0, .ref 28), (1, .int p1)]) (S' := [.int p1]) (h' := (hh X g (ab_up1 I 28 5 (((I 28 5) * (1103515245 : Int32)) + (12345 : Int32))))) rfl ?_
  refine Go_seq (pcj := 36) (fun (b1 : Int32) => []) (fun (b1 : Int32) => [.int b1]) (fun (b1 : Int32) => (hh X g (ab_up1 I 28 5 (((I 28 5) * (1103515245 : Int32)) + (12345 : Int32))))) (fun b1 => ?_) ?_
  ·
    exact Go_ret (fun _ h => h) rfl
  ·
    refine Go_cmzn rfl rfl (ab_cle0 _) ?_ ?_
    ·
      refine Go_blk 7 (pc' := 31) (L' := [(0, .ref 28), (1, .int p1)]) (S' := [.int p1, .int ((((((I 28 5) * (1103515245 : Int32)) + (12345 : Int32)).toUInt32 >>> ((16 : Int32).toUInt32 &&& Int32.toUInt32 31)).toInt32) &&& (32767 : Int32))]) (h' := (hh X g (ab_up1 I 28 5 (((I 28 5) * (1103515245 : Int32)) + (12345 : Int32))))) rfl ?_
      refine Go_irem rfl fun v2 => ?_
      refine Go_blk 1 (pc' := 36) (L' := [(0, .ref 28), (1, .int p1)]) (S' := [.int v2]) (h' := (hh X g (ab_up1 I 28 5 (((I 28 5) * (1103515245 : Int32)) + (12345 : Int32))))) rfl ?_
      exact Go_jmp [] rfl trivial (fun _ h => h)
    ·
      refine Go_blk 1 (pc' := 36) (L' := [(0, .ref 28), (1, .int p1)]) (S' := [.int (0 : Int32)]) (h' := (hh X g (ab_up1 I 28 5 (((I 28 5) * (1103515245 : Int32)) + (12345 : Int32))))) rfl ?_
      exact Go_jmp [] rfl trivial (fun _ h => h)
set_option maxRecDepth 1000000 in
set_option maxHeartbeats 4000000 in
theorem g_sta_shortenBolt256 (p1 : Int32) {X : XX} {g : GG} {I : MJ} {d : Nat} (hd : 2 ≤ d) : Go d 256 0 (lv_args 0 [.ref 17, .int p1]) [] (hh X g I) (f_sta_shortenBolt256 p1 I) (pV X g) := by
  obtain ⟨d, rfl⟩ : ∃ k, d = k + 1 := ⟨d - 1, by omega⟩
  unfold f_sta_shortenBolt256
  refine Go_blk 8 (pc' := 11) (L' := [(0, .ref 17), (1, .int p1)]) (S' := [.int p1, .ref 17, .int (0 : Int32), .int ((9 : Int32) + p1), .ref 18]) (h' := (hh X g I)) rfl ?_
  refine Go_cR (y' := 143) (As := [.ref 17, .int p1]) (r := [.int (0 : Int32), .int ((9 : Int32) + p1), .ref 18]) rfl (g_sta_leftOn143_17 p1 (by omega)) fun v1 => ?_
  refine Go_blk 3 (pc' := 19) (L' := [(0, .ref 17), (1, .int p1)]) (S' := [.int (if (0 : Int32) < (v1 - (1 : Int32)) then (v1 - (1 : Int32)) else (0 : Int32)), .int ((9 : Int32) + p1), .ref 18]) (h' := (hh X g I)) rfl ?_
  refine Go_cV (y' := 15) (As := [.ref 18, .int ((9 : Int32) + p1), .int (if (0 : Int32) < (v1 - (1 : Int32)) then (v1 - (1 : Int32)) else (0 : Int32))]) (r := []) rfl (g_x_put15 18 ((9 : Int32) + p1) (if (0 : Int32) < (v1 - (1 : Int32)) then (v1 - (1 : Int32)) else (0 : Int32)) (by omega)) fun I2 => ?_
  exact Go_ret (fun _ h => h) rfl
set_option maxRecDepth 1000000 in
set_option maxHeartbeats 4000000 in
theorem g_tra_shorten254 (p2 : Int32) (p3 : Int32) (p4 : Int32) {X : XX} {g : GG} {I : MJ} {d : Nat} (hd : 3 ≤ d) : Go d 254 0 (lv_args 0 [.ref 28, .ref 17, .int p2, .int p3, .int p4]) [] (hh X g I) (f_tra_shorten254 p2 p3 p4 I) (pV X g) := by
  obtain ⟨d, rfl⟩ : ∃ k, d = k + 1 := ⟨d - 1, by omega⟩
  unfold f_tra_shorten254
  refine Go_blk 5 (pc' := 8) (L' := [(5, .int (0 : Int32)), (0, .ref 28), (1, .ref 17), (2, .int p2), (3, .int p3), (4, .int p4)]) (S' := []) (h' := (hh X g (ab_up1 I 28 5 p2))) rfl ?_
  refine Go_lcs [(0, .ref 28), (1, .ref 17), (3, .int p3), (4, .int p4), (5, .int (0 : Int32))] rfl ⟨rfl, rfl, rfl, rfl, rfl, trivial⟩ ?_
  refine Go_seq (pcj := 56) (fun (b2 : MJ) => []) (fun (b2 : MJ) => []) (fun (b2 : MJ) => (hh X g b2)) (fun b2 => ?_) ?_
  ·
    exact Go_ret (fun _ h => h) rfl
  ·
    refine Go_wh (fun (s1 : Int32 × MJ) => [(0, .ref 28), (1, .ref 17), (3, .int p3), (4, .int p4), (5, .int s1.1)]) (fun _ => []) (fun (s1 : Int32 × MJ) => (hh X g s1.2)) (fun s1 => ?_) ((0 : Int32), (ab_up1 I 28 5 p2))
    refine Go_blk 2 (pc' := 12) (L' := [(0, .ref 28), (1, .ref 17), (3, .int p3), (4, .int p4), (5, .int s1.1)]) (S' := [.int p4, .int s1.1]) (h' := (hh X g s1.2)) rfl ?_
    refine Go_cmpn rfl rfl (ab_cge _ _) ?_ ?_
    ·
      refine Go_blk 3 (pc' := 22) (L' := [(0, .ref 28), (1, .ref 17), (3, .int p3), (4, .int p4), (5, .int s1.1)]) (S' := [.int (s1.2 3 5)]) (h' := (hh X g s1.2)) rfl ?_
      refine Go_cmzn rfl rfl (ab_cle0 _) ?_ ?_
      ·
        refine Go_blk 2 (pc' := 28) (L' := [(0, .ref 28), (1, .ref 17), (3, .int p3), (4, .int p4), (5, .int s1.1)]) (S' := [.int (16 : Int32), .ref 28]) (h' := (hh X g s1.2)) rfl ?_
        refine Go_cW (y' := 255) (As := [.ref 28, .int (16 : Int32)]) (r := []) rfl (g_tra_draw255 (16 : Int32) (by omega)) fun w3 => ?_
        refine Go_blk 1 (pc' := 32) (L' := [(0, .ref 28), (1, .ref 17), (3, .int p3), (4, .int p4), (5, .int s1.1)]) (S' := [.int p3, .int w3.1]) (h' := (hh X g w3.2)) rfl ?_
        refine Go_seq (pcj := 50) (fun (b4 : MJ) => [(0, .ref 28), (1, .ref 17), (3, .int p3), (4, .int p4), (5, .int s1.1)]) (fun (b4 : MJ) => []) (fun (b4 : MJ) => (hh X g b4)) (fun b4 => ?_) ?_
        ·
          refine Go_blk 2 (pc' := 8) (L' := [(5, .int (s1.1 + (1 : Int32))), (0, .ref 28), (1, .ref 17), (3, .int p3), (4, .int p4)]) (S' := []) (h' := (hh X g b4)) rfl ?_
          exact Go_jmp [(0, .ref 28), (1, .ref 17), (3, .int p3), (4, .int p4), (5, .int (s1.1 + (1 : Int32)))] rfl ⟨rfl, rfl, rfl, rfl, rfl, trivial⟩ (fun _ h => h)
        ·
          refine Go_cmpn rfl rfl (ab_cge _ _) ?_ ?_
          ·
            refine Go_blk 5 (pc' := 44) (L' := [(0, .ref 28), (1, .ref 17), (3, .int p3), (4, .int p4), (5, .int s1.1)]) (S' := [.int (w3.2 3 5), .ref 28, .ref 17]) (h' := (hh X g w3.2)) rfl ?_
            refine Go_cW (y' := 255) (As := [.ref 28, .int (w3.2 3 5)]) (r := [.ref 17]) rfl (g_tra_draw255 (w3.2 3 5) (by omega)) fun w5 => ?_
            refine Go_cV (y' := 256) (As := [.ref 17, .int w5.1]) (r := []) rfl (g_sta_shortenBolt256 w5.1 (by omega)) fun I6 => ?_
            exact Go_jmp [(0, .ref 28), (1, .ref 17), (3, .int p3), (4, .int p4), (5, .int s1.1)] rfl ⟨rfl, rfl, rfl, rfl, rfl, trivial⟩ (fun _ h => h)
          ·
            exact Go_jmp [(0, .ref 28), (1, .ref 17), (3, .int p3), (4, .int p4), (5, .int s1.1)] rfl ⟨rfl, rfl, rfl, rfl, rfl, trivial⟩ (fun _ h => h)
      ·
        exact Go_jmp [] rfl trivial (fun _ h => h)
    ·
      exact Go_jmp [] rfl trivial (fun _ h => h)
set_option maxRecDepth 1000000 in
set_option maxHeartbeats 4000000 in
theorem g_sta_emptyBolts257 (p1 : Int32) {X : XX} {g : GG} {I : MJ} {d : Nat} (hd : 2 ≤ d) : Go d 257 0 (lv_args 0 [.ref 17, .int p1]) [] (hh X g I) (f_sta_emptyBolts257 p1 I) (pR X g I) := by
  obtain ⟨d, rfl⟩ : ∃ k, d = k + 1 := ⟨d - 1, by omega⟩
  unfold f_sta_emptyBolts257
  refine Go_blk 4 (pc' := 4) (L' := [(3, .int (0 : Int32)), (2, .int (0 : Int32)), (0, .ref 17), (1, .int p1)]) (S' := []) (h' := (hh X g I)) rfl ?_
  refine Go_lcs [(0, .ref 17), (1, .int p1), (2, .int (0 : Int32)), (3, .int (0 : Int32))] rfl ⟨rfl, rfl, rfl, rfl, trivial⟩ ?_
  refine Go_seq (pcj := 31) (fun (b2 : Int32) => [(2, .int b2)]) (fun (b2 : Int32) => []) (fun (b2 : Int32) => (hh X g I)) (fun b2 => ?_) ?_
  ·
    refine Go_blk 1 (pc' := 32) (L' := [(2, .int b2)]) (S' := [.int b2]) (h' := (hh X g I)) rfl ?_
    exact Go_ret (fun _ h => h) rfl
  ·
    refine Go_wh (fun (s1 : Int32 × Int32) => [(0, .ref 17), (1, .int p1), (2, .int s1.1), (3, .int s1.2)]) (fun _ => []) (fun (s1 : Int32 × Int32) => (hh X g I)) (fun s1 => ?_) ((0 : Int32), (0 : Int32))
    refine Go_blk 2 (pc' := 6) (L' := [(0, .ref 17), (1, .int p1), (2, .int s1.1), (3, .int s1.2)]) (S' := [.int p1, .int s1.2]) (h' := (hh X g I)) rfl ?_
    refine Go_cmpn rfl rfl (ab_cge _ _) ?_ ?_
    ·
      refine Go_blk 3 (pc' := 12) (L' := [(0, .ref 17), (1, .int p1), (2, .int s1.1), (3, .int s1.2)]) (S' := [.int s1.2, .ref 17, .int s1.1]) (h' := (hh X g I)) rfl ?_
      refine Go_cR (y' := 143) (As := [.ref 17, .int s1.2]) (r := [.int s1.1]) rfl (g_sta_leftOn143_17 s1.2 (by omega)) fun v3 => ?_
      refine Go_seq (pcj := 23) (fun (b4 : Int32) => [(0, .ref 17), (1, .int p1), (3, .int s1.2)]) (fun (b4 : Int32) => [.int b4, .int s1.1]) (fun (b4 : Int32) => (hh X g I)) (fun b4 => ?_) ?_
      ·
        refine Go_blk 4 (pc' := 4) (L' := [(3, .int (s1.2 + (1 : Int32))), (2, .int (s1.1 + b4)), (0, .ref 17), (1, .int p1)]) (S' := []) (h' := (hh X g I)) rfl ?_
        exact Go_jmp [(0, .ref 17), (1, .int p1), (2, .int (s1.1 + b4)), (3, .int (s1.2 + (1 : Int32)))] rfl ⟨rfl, rfl, rfl, rfl, trivial⟩ (fun _ h => h)
      ·
        refine Go_cmzn rfl rfl rfl ?_ ?_
        ·
          refine Go_blk 2 (pc' := 23) (L' := [(0, .ref 17), (1, .int p1), (2, .int s1.1), (3, .int s1.2)]) (S' := [.int (1 : Int32), .int s1.1]) (h' := (hh X g I)) rfl ?_
          exact Go_jmp [(0, .ref 17), (1, .int p1), (3, .int s1.2)] rfl ⟨rfl, rfl, rfl, trivial⟩ (fun _ h => h)
        ·
          refine Go_blk 1 (pc' := 23) (L' := [(0, .ref 17), (1, .int p1), (2, .int s1.1), (3, .int s1.2)]) (S' := [.int (0 : Int32), .int s1.1]) (h' := (hh X g I)) rfl ?_
          exact Go_jmp [(0, .ref 17), (1, .int p1), (3, .int s1.2)] rfl ⟨rfl, rfl, rfl, trivial⟩ (fun _ h => h)
    ·
      exact Go_jmp [(2, .int s1.1)] rfl ⟨rfl, trivial⟩ (fun _ h => h)
set_option maxRecDepth 1000000 in
set_option maxHeartbeats 4000000 in
theorem g_x_years251 (p1 : Int32) (p2 : Int32) (p3 : Int32) (p4 : Int32) {X : XX} {g : GG} {I : MJ} {d : Nat} (hd : 6 ≤ d) : Go d 251 0 (lv_args 0 [.ref 0, .int p1, .int p2, .int p3, .int p4]) [] (hh X g I) (f_x_years251 p1 p2 p3 p4 I) (pT vI X g) := by
  obtain ⟨d, rfl⟩ : ∃ k, d = k + 1 := ⟨d - 1, by omega⟩
  unfold f_x_years251
  refine Go_blk 4 (pc' := 5) (L' := [(0, .ref 0), (1, .int p1), (2, .int p2), (3, .int p3), (4, .int p4)]) (S' := [.int p4, .int p3, .int p2, .ref 0]) (h' := (hh X g I)) rfl ?_
  refine Go_cT (y' := 252) (As := [.ref 0, .int p2, .int p3, .int p4]) (r := []) rfl rfl (g_x_needYears252 p2 p3 p4 (by omega)) fun v1 I2 => ?_
  refine Go_blk 4 (pc' := 16) (L' := [(0, .ref 0), (1, .int p1), (2, .int p2), (3, .int p3), (4, .int p4)]) (S' := [.ref 15, .ref 17]) (h' := (hh X g I2)) rfl ?_
  refine Go_cV (y' := 107) (As := [.ref 17, .ref 15]) (r := []) rfl (g_sta_copyFrom107_17_15  (by omega)) fun I3 => ?_
  refine Go_blk 2 (pc' := 22) (L' := [(0, .ref 0), (1, .int p1), (2, .int p2), (3, .int p3), (4, .int p4)]) (S' := [.int (1 : Int32), .int p4]) (h' := (hh X g I3)) rfl ?_
  refine Go_cmpn rfl rfl rfl ?_ ?_
  ·
    refine Go_blk 5 (pc' := 34) (L' := [(0, .ref 0), (1, .int p1), (2, .int p2), (3, .int p3), (4, .int p4)]) (S' := [.int p3, .ref 17, .ref 28]) (h' := (hh X g I3)) rfl ?_
    refine Go_cV (y' := 249) (As := [.ref 28, .ref 17, .int p3]) (r := []) rfl (g_tra_passDays249 p3 (by omega)) fun I4 => ?_
    refine Go_blk 3 (pc' := 42) (L' := [(0, .ref 0), (1, .int p1), (2, .int p2), (3, .int p3), (4, .int p4)]) (S' := [.ref 17, .ref 0]) (h' := (hh X g I4)) rfl ?_
    refine Go_cR (y' := 253) (As := [.ref 0, .ref 17]) (r := []) rfl (g_x_allBareHours253  (by omega)) fun v5 => ?_
    exact Go_ret (fun _ h => h) rfl
  ·
    refine Go_blk 7 (pc' := 57) (L' := [(0, .ref 0), (1, .int p1), (2, .int p2), (3, .int p3), (4, .int p4)]) (S' := [.int p3, .int p2, .int p1, .ref 17, .ref 28]) (h' := (hh X g I3)) rfl ?_
    refine Go_cV (y' := 254) (As := [.ref 28, .ref 17, .int p1, .int p2, .int p3]) (r := []) rfl (g_tra_shorten254 p1 p2 p3 (by omega)) fun I6 => ?_
    refine Go_blk 1 (pc' := 62) (L' := [(0, .ref 0), (1, .int p1), (2, .int p2), (3, .int p3), (4, .int p4)]) (S' := [.int p4]) (h' := (hh X g I6)) rfl ?_
    refine Go_seq (pcj := 89) (fun (b7 : Int32) => []) (fun (b7 : Int32) => [.int b7]) (fun (b7 : Int32) => (hh X g I6)) (fun b7 => ?_) ?_
    ·
      exact Go_ret (fun _ h => h) rfl
    ·
      refine Go_cmzn rfl rfl rfl ?_ ?_
      ·
        refine Go_blk 2 (pc' := 69) (L' := [(0, .ref 0), (1, .int p1), (2, .int p2), (3, .int p3), (4, .int p4)]) (S' := [.ref 17]) (h' := (hh X g I6)) rfl ?_
        refine Go_cR (y' := 142) (As := [.ref 17]) (r := []) rfl (g_sta_hoursLeft142_17  (by omega)) fun v8 => ?_
        refine Go_blk 1 (pc' := 89) (L' := [(0, .ref 0), (1, .int p1), (2, .int p2), (3, .int p3), (4, .int p4)]) (S' := [.int v8]) (h' := (hh X g I6)) rfl ?_
        exact Go_jmp [] rfl trivial (fun _ h => h)
      ·
        refine Go_blk 5 (pc' := 86) (L' := [(0, .ref 0), (1, .int p1), (2, .int p2), (3, .int p3), (4, .int p4)]) (S' := [.int (I6 3 5), .ref 17]) (h' := (hh X g I6)) rfl ?_
        refine Go_cR (y' := 257) (As := [.ref 17, .int (I6 3 5)]) (r := []) rfl (g_sta_emptyBolts257 (I6 3 5) (by omega)) fun v9 => ?_
        exact Go_jmp [] rfl trivial (fun _ h => h)
set_option maxRecDepth 1000000 in
set_option maxHeartbeats 4000000 in
theorem g_l_years250 (p1 : Int32) (p2 : Int32) (p3 : Int32) (p4 : Int32) {X : XX} {g : GG} {I : MJ} {d : Nat} (hd : 7 ≤ d) : Go d 250 0 (lv_args 0 [.ref 0, .int p1, .int p2, .int p3, .int p4, .ref 698]) [] (hh X g I) (f_l_years250 p1 p2 p3 p4 I g) (pG X) := by
  obtain ⟨d, rfl⟩ : ∃ k, d = k + 1 := ⟨d - 1, by omega⟩
  unfold f_l_years250
  refine Go_blk 7 (pc' := 9) (L' := [(0, .ref 0), (1, .int p1), (2, .int p2), (3, .int p3), (4, .int p4), (5, .ref 698)]) (S' := [.int p4, .int p3, .int p2, .int p1, .ref 0, .int (0 : Int32), .ref 698]) (h' := (hh X g I)) rfl ?_
  refine Go_try (y' := 251) (As := [.ref 0, .int p1, .int p2, .int p3, .int p4]) (r := [.int (0 : Int32), .ref 698]) rfl (g_x_years251 p1 p2 p3 p4 (by omega)) (fun v1 I2 => ?_) (fun E2 I2 => ?_)
  ·
    refine Go_blk 1 (pc' := 13) (L' := [(0, .ref 0), (1, .int p1), (2, .int p2), (3, .int p3), (4, .int p4), (5, .ref 698)]) (S' := [.long (v1.toInt64), .int (0 : Int32), .ref 698]) (h' := (hh X g I2)) rfl ?_
    refine Go_last rfl fun g3 => ?_
    refine Go_blk 2 (pc' := 22) (L' := [(0, .ref 0), (1, .int p1), (2, .int p2), (3, .int p3), (4, .int p4), (5, .ref 698)]) (S' := [.int (0 : Int32)]) (h' := (hh X g3 I2)) rfl ?_
    exact Go_ret (fun _ h => h) rfl
  ·
    refine GX_ite ?_ ?_
    ·
      refine GX_go rfl (t := 19) (k := 6) rfl ?_
      refine Go_blk 1 (pc' := 20) (L' := [(0, .ref 0), (1, .int p1), (2, .int p2), (3, .int p3), (4, .int p4), (5, .ref 698)]) (S' := [.int (1 : Int32)]) (h' := (hh X (thr g) I2)) rfl ?_
      exact Go_ret (fun _ h => h) rfl
    exact GX_none
set_option maxRecDepth 1000000 in
set_option maxHeartbeats 4000000 in
theorem g_m_draw378 (p1 : Int32) {X : XX} {g : GG} {I : MJ} {d : Nat} (hd : 0 ≤ d) : Go d 378 0 (lv_args 0 [.ref 47, .int p1]) [] (hh X g I) (f_m_draw378 p1 I) (pW X g) := by
  unfold f_m_draw378
  refine Go_blk 15 (pc' := 28) (L' := [(0, .ref 47), (1, .int p1)]) (S' := [.int p1, .int (((((I 47 55) * (1103515245 : Int32)) + (12345 : Int32)) >>> ((16 : Int32) &&& 31)) &&& (32767 : Int32))]) (h' := (hh X g (ab_up1 I 47 55 (((I 47 55) * (1103515245 : Int32)) + (12345 : Int32))))) rfl ?_
  refine Go_irem rfl fun v1 => ?_
  exact Go_ret (fun _ h => h) rfl
set_option maxRecDepth 1000000 in
set_option maxHeartbeats 4000000 in
theorem g_m_shortens377 (p1 : Int32) (p2 : Int32) (p3 : Int32) {X : XX} {g : GG} {I : MJ} {d : Nat} (hd : 5 ≤ d) : Go d 377 0 (lv_args 0 [.ref 47, .int p1, .int p2, .int p3]) [] (hh X g I) (f_m_shortens377 p1 p2 p3 I) (pV X g) := by
  obtain ⟨d, rfl⟩ : ∃ k, d = k + 1 := ⟨d - 1, by omega⟩
  unfold f_m_shortens377
  refine Go_blk 4 (pc' := 8) (L' := [(0, .ref 47), (1, .int p1), (2, .int p2), (3, .int p3)]) (S' := [.ref 577, .ref 576]) (h' := (hh X g I)) rfl ?_
  refine Go_cV (y' := 302) (As := [.ref 576, .ref 577]) (r := []) rfl (g_m_copies302 576 577 (by omega)) fun I1 => ?_
  refine Go_blk 5 (pc' := 19) (L' := [(4, .int (0 : Int32)), (0, .ref 47), (1, .int p1), (2, .int p2), (3, .int p3)]) (S' := []) (h' := (hh X g (ab_up1 I1 47 55 p1))) rfl ?_
  refine Go_lcs [(0, .ref 47), (2, .int p2), (3, .int p3), (4, .int (0 : Int32))] rfl ⟨rfl, rfl, rfl, rfl, trivial⟩ ?_
  refine Go_seq (pcj := 95) (fun (b3 : MJ) => []) (fun (b3 : MJ) => []) (fun (b3 : MJ) => (hh X g b3)) (fun b3 => ?_) ?_
  ·
    exact Go_ret (fun _ h => h) rfl
  ·
    refine Go_wh (fun (s2 : Int32 × MJ) => [(0, .ref 47), (2, .int p2), (3, .int p3), (4, .int s2.1)]) (fun _ => []) (fun (s2 : Int32 × MJ) => (hh X g s2.2)) (fun s2 => ?_) ((0 : Int32), (ab_up1 I1 47 55 p1))
    refine Go_blk 2 (pc' := 22) (L' := [(0, .ref 47), (2, .int p2), (3, .int p3), (4, .int s2.1)]) (S' := [.int p3, .int s2.1]) (h' := (hh X g s2.2)) rfl ?_
    refine Go_cmpn rfl rfl (ab_cge _ _) ?_ ?_
    ·
      refine Go_blk 2 (pc' := 28) (L' := [(0, .ref 47), (2, .int p2), (3, .int p3), (4, .int s2.1)]) (S' := [.int (16 : Int32), .ref 47]) (h' := (hh X g s2.2)) rfl ?_
      refine Go_cW (y' := 378) (As := [.ref 47, .int (16 : Int32)]) (r := []) rfl (g_m_draw378 (16 : Int32) (by omega)) fun w4 => ?_
      refine Go_blk 1 (pc' := 32) (L' := [(0, .ref 47), (2, .int p2), (3, .int p3), (4, .int s2.1)]) (S' := [.int p2, .int w4.1]) (h' := (hh X g w4.2)) rfl ?_
      refine Go_seq (pcj := 80) (fun (b5 : MJ) => [(0, .ref 47), (2, .int p2), (3, .int p3), (4, .int s2.1)]) (fun (b5 : MJ) => []) (fun (b5 : MJ) => (hh X g b5)) (fun b5 => ?_) ?_
      ·
        refine Go_blk 3 (pc' := 85) (L' := [(0, .ref 47), (2, .int p2), (3, .int p3), (4, .int s2.1)]) (S' := [.ref 577, .ref 47]) (h' := (hh X g b5)) rfl ?_
        refine Go_cW (y' := 314) (As := [.ref 47, .ref 577]) (r := []) rfl (g_m_dayEnds314 577 (by omega)) fun w6 => ?_
        refine Go_blk 3 (pc' := 19) (L' := [(4, .int (s2.1 + (1 : Int32))), (0, .ref 47), (2, .int p2), (3, .int p3)]) (S' := []) (h' := (hh X g w6.2)) rfl ?_
        exact Go_jmp [(0, .ref 47), (2, .int p2), (3, .int p3), (4, .int (s2.1 + (1 : Int32)))] rfl ⟨rfl, rfl, rfl, rfl, trivial⟩ (fun _ h => h)
      ·
        refine Go_cmpn rfl rfl (ab_cge _ _) ?_ ?_
        ·
          refine Go_blk 4 (pc' := 41) (L' := [(0, .ref 47), (2, .int p2), (3, .int p3), (4, .int s2.1)]) (S' := [.int (w4.2 51 0)]) (h' := (hh X g w4.2)) rfl ?_
          refine Go_cmzn rfl rfl (ab_cle0 _) ?_ ?_
          ·
            refine Go_blk 5 (pc' := 51) (L' := [(0, .ref 47), (2, .int p2), (3, .int p3), (4, .int s2.1)]) (S' := [.int (w4.2 51 0), .ref 47]) (h' := (hh X g w4.2)) rfl ?_
            refine Go_cW (y' := 378) (As := [.ref 47, .int (w4.2 51 0)]) (r := []) rfl (g_m_draw378 (w4.2 51 0) (by omega)) fun w7 => ?_
            refine Go_blk 12 (pc' := 73) (L' := [(5, .int w7.1), (0, .ref 47), (2, .int p2), (3, .int p3), (4, .int s2.1)]) (S' := [.int ((0 : Int32) + w7.1), .ref 577, .int (0 : Int32), .int ((0 : Int32) + w7.1), .ref 577]) (h' := (hh X g w7.2)) rfl ?_
            refine Go_iald rfl fun v8 => ?_
            refine Go_blk 2 (pc' := 76) (L' := [(5, .int w7.1), (0, .ref 47), (2, .int p2), (3, .int p3), (4, .int s2.1)]) (S' := [.int (v8 - (1 : Int32)), .int (0 : Int32), .int ((0 : Int32) + w7.1), .ref 577]) (h' := (hh X g w7.2)) rfl ?_
            refine Go_cR (y' := 320) (As := [.int (0 : Int32), .int (v8 - (1 : Int32))]) (r := [.int ((0 : Int32) + w7.1), .ref 577]) rfl (g_m_more320 (0 : Int32) (v8 - (1 : Int32)) (by omega)) fun v9 => ?_
            refine Go_iast rfl fun I10 => ?_
            exact Go_jmp [(0, .ref 47), (2, .int p2), (3, .int p3), (4, .int s2.1)] rfl ⟨rfl, rfl, rfl, rfl, trivial⟩ (fun _ h => h)
          ·
            exact Go_jmp [(0, .ref 47), (2, .int p2), (3, .int p3), (4, .int s2.1)] rfl ⟨rfl, rfl, rfl, rfl, trivial⟩ (fun _ h => h)
        ·
          exact Go_jmp [(0, .ref 47), (2, .int p2), (3, .int p3), (4, .int s2.1)] rfl ⟨rfl, rfl, rfl, rfl, trivial⟩ (fun _ h => h)
    ·
      exact Go_jmp [] rfl trivial (fun _ h => h)
