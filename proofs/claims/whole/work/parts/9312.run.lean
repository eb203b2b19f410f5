/-! the machine runs them (written by wip/whole/dec.py) -/
set_option maxRecDepth 1000000 in
set_option maxHeartbeats 4000000 in
theorem g_tas_hoursDueBy217 (p1 : Int32) (p2 : Int32) {X : XX} {g : GG} {I : MJ} {d : Nat} (hd : 2 ≤ d) : Go d 217 0 (lv_args 0 [.ref 43, .int p1, .int p2]) [] (hh X g I) (f_tas_hoursDueBy217 p1 p2 I) (pR X g I) := by
  obtain ⟨d, rfl⟩ : ∃ k, d = k + 1 := ⟨d - 1, by omega⟩
  unfold f_tas_hoursDueBy217
  refine Go_blk 4 (pc' := 5) (L' := [(4, .int (0 : Int32)), (3, .int (0 : Int32)), (0, .ref 43), (1, .int p1), (2, .int p2)]) (S' := []) (h' := (hh X g I)) rfl ?_
  refine Go_lcs [(0, .ref 43), (1, .int p1), (2, .int p2), (3, .int (0 : Int32)), (4, .int (0 : Int32))] rfl ⟨rfl, rfl, rfl, rfl, rfl, trivial⟩ ?_
  refine Go_seq (pcj := 75) (fun (b2 : Int32) => [(3, .int b2)]) (fun (b2 : Int32) => []) (fun (b2 : Int32) => (hh X g I)) (fun b2 => ?_) ?_
  ·
    refine Go_blk 1 (pc' := 76) (L' := [(3, .int b2)]) (S' := [.int b2]) (h' := (hh X g I)) rfl ?_
    exact Go_ret (fun _ h => h) rfl
  ·
    refine Go_wh (fun (s1 : Int32 × Int32) => [(0, .ref 43), (1, .int p1), (2, .int p2), (3, .int s1.1), (4, .int s1.2)]) (fun _ => []) (fun (s1 : Int32 × Int32) => (hh X g I)) (fun s1 => ?_) ((0 : Int32), (0 : Int32))
    refine Go_blk 4 (pc' := 14) (L' := [(0, .ref 43), (1, .int p1), (2, .int p2), (3, .int s1.1), (4, .int s1.2)]) (S' := [.int (I 3 8), .int s1.2]) (h' := (hh X g I)) rfl ?_
    refine Go_cmpn rfl rfl (ab_cge _ _) ?_ ?_
    ·
      refine Go_blk 2 (pc' := 20) (L' := [(0, .ref 43), (1, .int p1), (2, .int p2), (3, .int s1.1), (4, .int s1.2)]) (S' := [.int s1.2, .int p1]) (h' := (hh X g I)) rfl ?_
      refine Go_cR (y' := 26) (As := [.int p1, .int s1.2]) (r := []) rfl (g_x_holds26 p1 s1.2 (by omega)) fun v3 => ?_
      refine Go_seq (pcj := 45) (fun (b4 : Int32) => [(0, .ref 43), (1, .int p1), (2, .int p2), (3, .int s1.1), (4, .int s1.2)]) (fun (b4 : Int32) => [.int b4]) (fun (b4 : Int32) => (hh X g I)) (fun b4 => ?_) ?_
      ·
        refine Go_blk 3 (pc' := 50) (L' := [(5, .int b4), (0, .ref 43), (1, .int p1), (2, .int p2), (3, .int s1.1), (4, .int s1.2)]) (S' := [.int b4, .int s1.1]) (h' := (hh X g I)) rfl ?_
        refine Go_seq (pcj := 67) (fun (b5 : Int32) => [(0, .ref 43), (1, .int p1), (2, .int p2), (4, .int s1.2)]) (fun (b5 : Int32) => [.int b5, .int s1.1]) (fun (b5 : Int32) => (hh X g I)) (fun b5 => ?_) ?_
        ·
          refine Go_blk 4 (pc' := 5) (L' := [(4, .int (s1.2 + (1 : Int32))), (3, .int (s1.1 + b5)), (0, .ref 43), (1, .int p1), (2, .int p2)]) (S' := []) (h' := (hh X g I)) rfl ?_
          exact Go_jmp [(0, .ref 43), (1, .int p1), (2, .int p2), (3, .int (s1.1 + b5)), (4, .int (s1.2 + (1 : Int32)))] rfl ⟨rfl, rfl, rfl, rfl, rfl, trivial⟩ (fun _ h => h)
        ·
          refine Go_cmz rfl rfl rfl ?_ ?_
          ·
            refine Go_blk 1 (pc' := 67) (L' := [(5, .int b4), (0, .ref 43), (1, .int p1), (2, .int p2), (3, .int s1.1), (4, .int s1.2)]) (S' := [.int (0 : Int32), .int s1.1]) (h' := (hh X g I)) rfl ?_
            exact Go_jmp [(0, .ref 43), (1, .int p1), (2, .int p2), (4, .int s1.2)] rfl ⟨rfl, rfl, rfl, rfl, trivial⟩ (fun _ h => h)
          ·
            refine Go_blk 4 (pc' := 60) (L' := [(5, .int b4), (0, .ref 43), (1, .int p1), (2, .int p2), (3, .int s1.1), (4, .int s1.2)]) (S' := [.int (4 : Int32), .int s1.2, .ref 3, .int s1.1]) (h' := (hh X g I)) rfl ?_
            refine Go_cR (y' := 123) (As := [.ref 3, .int s1.2, .int (4 : Int32)]) (r := [.int s1.1]) rfl (g_sho_orderPart123 s1.2 (4 : Int32) (by omega)) fun v6 => ?_
            refine Go_blk 1 (pc' := 67) (L' := [(5, .int b4), (0, .ref 43), (1, .int p1), (2, .int p2), (3, .int s1.1), (4, .int s1.2)]) (S' := [.int v6, .int s1.1]) (h' := (hh X g I)) rfl ?_
            exact Go_jmp [(0, .ref 43), (1, .int p1), (2, .int p2), (4, .int s1.2)] rfl ⟨rfl, rfl, rfl, rfl, trivial⟩ (fun _ h => h)
      ·
        refine Go_cmz rfl rfl rfl ?_ ?_
        ·
          refine Go_blk 1 (pc' := 45) (L' := [(0, .ref 43), (1, .int p1), (2, .int p2), (3, .int s1.1), (4, .int s1.2)]) (S' := [.int (0 : Int32)]) (h' := (hh X g I)) rfl ?_
          exact Go_jmp [(0, .ref 43), (1, .int p1), (2, .int p2), (3, .int s1.1), (4, .int s1.2)] rfl ⟨rfl, rfl, rfl, rfl, rfl, trivial⟩ (fun _ h => h)
        ·
          refine Go_blk 4 (pc' := 33) (L' := [(0, .ref 43), (1, .int p1), (2, .int p2), (3, .int s1.1), (4, .int s1.2)]) (S' := [.int (2 : Int32), .int s1.2, .ref 3]) (h' := (hh X g I)) rfl ?_
          refine Go_cR (y' := 123) (As := [.ref 3, .int s1.2, .int (2 : Int32)]) (r := []) rfl (g_sho_orderPart123 s1.2 (2 : Int32) (by omega)) fun v7 => ?_
          refine Go_blk 1 (pc' := 37) (L' := [(0, .ref 43), (1, .int p1), (2, .int p2), (3, .int s1.1), (4, .int s1.2)]) (S' := [.int p2, .int v7]) (h' := (hh X g I)) rfl ?_
          refine Go_cmp rfl rfl rfl ?_ ?_
          ·
            refine Go_blk 1 (pc' := 45) (L' := [(0, .ref 43), (1, .int p1), (2, .int p2), (3, .int s1.1), (4, .int s1.2)]) (S' := [.int (0 : Int32)]) (h' := (hh X g I)) rfl ?_
            exact Go_jmp [(0, .ref 43), (1, .int p1), (2, .int p2), (3, .int s1.1), (4, .int s1.2)] rfl ⟨rfl, rfl, rfl, rfl, rfl, trivial⟩ (fun _ h => h)
          ·
            refine Go_blk 2 (pc' := 45) (L' := [(0, .ref 43), (1, .int p1), (2, .int p2), (3, .int s1.1), (4, .int s1.2)]) (S' := [.int (1 : Int32)]) (h' := (hh X g I)) rfl ?_
            exact Go_jmp [(0, .ref 43), (1, .int p1), (2, .int p2), (3, .int s1.1), (4, .int s1.2)] rfl ⟨rfl, rfl, rfl, rfl, rfl, trivial⟩ (fun _ h => h)
    ·
      exact Go_jmp [(3, .int s1.1)] rfl ⟨rfl, trivial⟩ (fun _ h => h)
set_option maxRecDepth 1000000 in
set_option maxHeartbeats 4000000 in
theorem g_tas_isInTime216 (p1 : Int32) {X : XX} {g : GG} {I : MJ} {d : Nat} (hd : 3 ≤ d) : Go d 216 0 (lv_args 0 [.ref 43, .int p1]) [] (hh X g I) (f_tas_isInTime216 p1 I) (pR X g I) := by
  obtain ⟨d, rfl⟩ : ∃ k, d = k + 1 := ⟨d - 1, by omega⟩
  unfold f_tas_isInTime216
  refine Go_blk 2 (pc' := 2) (L' := [(2, .int (0 : Int32)), (0, .ref 43), (1, .int p1)]) (S' := []) (h' := (hh X g I)) rfl ?_
  refine Go_lcs [(0, .ref 43), (1, .int p1), (2, .int (0 : Int32))] rfl ⟨rfl, rfl, rfl, trivial⟩ ?_
  refine Go_wh (fun (s1 : Int32) => [(0, .ref 43), (1, .int p1), (2, .int s1)]) (fun _ => []) (fun (s1 : Int32) => (hh X g I)) (fun s1 => ?_) (0 : Int32)
  refine Go_blk 4 (pc' := 10) (L' := [(0, .ref 43), (1, .int p1), (2, .int s1)]) (S' := [.int (I 3 8), .int s1]) (h' := (hh X g I)) rfl ?_
  refine Go_cmpn rfl rfl (ab_cge _ _) ?_ ?_
  ·
    refine Go_blk 4 (pc' := 19) (L' := [(0, .ref 43), (1, .int p1), (2, .int s1)]) (S' := [.int (2 : Int32), .int s1, .ref 3]) (h' := (hh X g I)) rfl ?_
    refine Go_cR (y' := 123) (As := [.ref 3, .int s1, .int (2 : Int32)]) (r := []) rfl (g_sho_orderPart123 s1 (2 : Int32) (by omega)) fun v2 => ?_
    refine Go_blk 3 (pc' := 25) (L' := [(3, .int v2), (0, .ref 43), (1, .int p1), (2, .int s1)]) (S' := [.int s1, .int p1]) (h' := (hh X g I)) rfl ?_
    refine Go_cR (y' := 26) (As := [.int p1, .int s1]) (r := []) rfl (g_x_holds26 p1 s1 (by omega)) fun v3 => ?_
    refine Go_cmz rfl rfl rfl ?_ ?_
    ·
      refine Go_blk 2 (pc' := 2) (L' := [(2, .int (s1 + (1 : Int32))), (3, .int v2), (0, .ref 43), (1, .int p1)]) (S' := []) (h' := (hh X g I)) rfl ?_
      exact Go_jmp [(0, .ref 43), (1, .int p1), (2, .int (s1 + (1 : Int32)))] rfl ⟨rfl, rfl, rfl, trivial⟩ (fun _ h => h)
    ·
      refine Go_blk 3 (pc' := 34) (L' := [(3, .int v2), (0, .ref 43), (1, .int p1), (2, .int s1)]) (S' := [.int v2, .int p1, .ref 43]) (h' := (hh X g I)) rfl ?_
      refine Go_cR (y' := 217) (As := [.ref 43, .int p1, .int v2]) (r := []) rfl (g_tas_hoursDueBy217 p1 v2 (by omega)) fun v4 => ?_
      refine Go_blk 3 (pc' := 42) (L' := [(3, .int v2), (0, .ref 43), (1, .int p1), (2, .int s1)]) (S' := [.ref 15, .int v2, .int v4]) (h' := (hh X g I)) rfl ?_
      refine Go_cR (y' := 113) (As := [.ref 15]) (r := [.int v2, .int v4]) rfl (g_sta_day113_15  (by omega)) fun v5 => ?_
      refine Go_blk 7 (pc' := 56) (L' := [(3, .int v2), (0, .ref 43), (1, .int p1), (2, .int s1)]) (S' := [.int (((v2 - v5) + (1 : Int32)) * (I 3 10)), .int v4]) (h' := (hh X g I)) rfl ?_
      refine Go_cmpn rfl rfl (ab_cle _ _) ?_ ?_
      ·
        refine Go_inrS ?_
        refine Go_blk 1 (pc' := 60) (L' := [(3, .int v2), (0, .ref 43), (1, .int p1), (2, .int s1)]) (S' := [.int (0 : Int32)]) (h' := (hh X g I)) rfl ?_
        exact Go_ret (fun _ h => h) rfl
      ·
        refine Go_blk 2 (pc' := 2) (L' := [(2, .int (s1 + (1 : Int32))), (3, .int v2), (0, .ref 43), (1, .int p1)]) (S' := []) (h' := (hh X g I)) rfl ?_
        exact Go_jmp [(0, .ref 43), (1, .int p1), (2, .int (s1 + (1 : Int32)))] rfl ⟨rfl, rfl, rfl, trivial⟩ (fun _ h => h)
  ·
    refine Go_inrS ?_
    refine Go_blk 1 (pc' := 68) (L' := [(0, .ref 43), (1, .int p1), (2, .int s1)]) (S' := [.int (1 : Int32)]) (h' := (hh X g I)) rfl ?_
    exact Go_ret (fun _ h => h) rfl
set_option maxRecDepth 1000000 in
set_option maxHeartbeats 4000000 in
theorem g_tas_together218 (p1 : Int32) (p2 : Int32) {X : XX} {g : GG} {I : MJ} {d : Nat} (hd : 2 ≤ d) : Go d 218 0 (lv_args 0 [.ref 43, .int p1, .int p2]) [] (hh X g I) (f_tas_together218 p1 p2 I) (pR X g I) := by
  obtain ⟨d, rfl⟩ : ∃ k, d = k + 1 := ⟨d - 1, by omega⟩
  unfold f_tas_together218
  refine Go_blk 4 (pc' := 5) (L' := [(4, .int (0 : Int32)), (3, .int (0 : Int32)), (0, .ref 43), (1, .int p1), (2, .int p2)]) (S' := []) (h' := (hh X g I)) rfl ?_
  refine Go_lcs [(0, .ref 43), (1, .int p1), (2, .int p2), (3, .int (0 : Int32)), (4, .int (0 : Int32))] rfl ⟨rfl, rfl, rfl, rfl, rfl, trivial⟩ ?_
  refine Go_seq (pcj := 49) (fun (b2 : Int32) => [(3, .int b2)]) (fun (b2 : Int32) => []) (fun (b2 : Int32) => (hh X g I)) (fun b2 => ?_) ?_
  ·
    refine Go_blk 1 (pc' := 50) (L' := [(3, .int b2)]) (S' := [.int b2]) (h' := (hh X g I)) rfl ?_
    exact Go_ret (fun _ h => h) rfl
  ·
    refine Go_wh (fun (s1 : Int32 × Int32) => [(0, .ref 43), (1, .int p1), (2, .int p2), (3, .int s1.1), (4, .int s1.2)]) (fun _ => []) (fun (s1 : Int32 × Int32) => (hh X g I)) (fun s1 => ?_) ((0 : Int32), (0 : Int32))
    refine Go_blk 4 (pc' := 14) (L' := [(0, .ref 43), (1, .int p1), (2, .int p2), (3, .int s1.1), (4, .int s1.2)]) (S' := [.int (I 3 8), .int s1.2]) (h' := (hh X g I)) rfl ?_
    refine Go_cmpn rfl rfl (ab_cge _ _) ?_ ?_
    ·
      refine Go_blk 3 (pc' := 21) (L' := [(0, .ref 43), (1, .int p1), (2, .int p2), (3, .int s1.1), (4, .int s1.2)]) (S' := [.int s1.2, .int p1, .int s1.1]) (h' := (hh X g I)) rfl ?_
      refine Go_cR (y' := 26) (As := [.int p1, .int s1.2]) (r := [.int s1.1]) rfl (g_x_holds26 p1 s1.2 (by omega)) fun v3 => ?_
      refine Go_seq (pcj := 41) (fun (b4 : Int32) => [(0, .ref 43), (1, .int p1), (2, .int p2), (4, .int s1.2)]) (fun (b4 : Int32) => [.int b4, .int s1.1]) (fun (b4 : Int32) => (hh X g I)) (fun b4 => ?_) ?_
      ·
        refine Go_blk 4 (pc' := 5) (L' := [(4, .int (s1.2 + (1 : Int32))), (3, .int (s1.1 + b4)), (0, .ref 43), (1, .int p1), (2, .int p2)]) (S' := []) (h' := (hh X g I)) rfl ?_
        exact Go_jmp [(0, .ref 43), (1, .int p1), (2, .int p2), (3, .int (s1.1 + b4)), (4, .int (s1.2 + (1 : Int32)))] rfl ⟨rfl, rfl, rfl, rfl, rfl, trivial⟩ (fun _ h => h)
      ·
        refine Go_cmz rfl rfl rfl ?_ ?_
        ·
          refine Go_blk 1 (pc' := 41) (L' := [(0, .ref 43), (1, .int p1), (2, .int p2), (3, .int s1.1), (4, .int s1.2)]) (S' := [.int (0 : Int32), .int s1.1]) (h' := (hh X g I)) rfl ?_
          exact Go_jmp [(0, .ref 43), (1, .int p1), (2, .int p2), (4, .int s1.2)] rfl ⟨rfl, rfl, rfl, rfl, trivial⟩ (fun _ h => h)
        ·
          refine Go_blk 4 (pc' := 34) (L' := [(0, .ref 43), (1, .int p1), (2, .int p2), (3, .int s1.1), (4, .int s1.2)]) (S' := [.int p2, .int s1.2, .ref 3, .int s1.1]) (h' := (hh X g I)) rfl ?_
          refine Go_cR (y' := 123) (As := [.ref 3, .int s1.2, .int p2]) (r := [.int s1.1]) rfl (g_sho_orderPart123 s1.2 p2 (by omega)) fun v5 => ?_
          refine Go_blk 1 (pc' := 41) (L' := [(0, .ref 43), (1, .int p1), (2, .int p2), (3, .int s1.1), (4, .int s1.2)]) (S' := [.int v5, .int s1.1]) (h' := (hh X g I)) rfl ?_
          exact Go_jmp [(0, .ref 43), (1, .int p1), (2, .int p2), (4, .int s1.2)] rfl ⟨rfl, rfl, rfl, rfl, trivial⟩ (fun _ h => h)
    ·
      exact Go_jmp [(3, .int s1.1)] rfl ⟨rfl, trivial⟩ (fun _ h => h)
set_option maxRecDepth 1000000 in
set_option maxHeartbeats 4000000 in
theorem g_tas_bestInTime215 (p1 : Int32) {X : XX} {g : GG} {I : MJ} {d : Nat} (hd : 4 ≤ d) : Go d 215 0 (lv_args 0 [.ref 43, .int p1]) [] (hh X g I) (f_tas_bestInTime215 p1 I) (pR X g I) := by
  obtain ⟨d, rfl⟩ : ∃ k, d = k + 1 := ⟨d - 1, by omega⟩
  unfold f_tas_bestInTime215
  refine Go_blk 4 (pc' := 4) (L' := [(3, .int (1 : Int32)), (2, .int (0 : Int32)), (0, .ref 43), (1, .int p1)]) (S' := []) (h' := (hh X g I)) rfl ?_
  refine Go_lcs [(0, .ref 43), (1, .int p1), (2, .int (0 : Int32)), (3, .int (1 : Int32))] rfl ⟨rfl, rfl, rfl, rfl, trivial⟩ ?_
  refine Go_seq (pcj := 66) (fun (b2 : Int32) => [(2, .int b2)]) (fun (b2 : Int32) => []) (fun (b2 : Int32) => (hh X g I)) (fun b2 => ?_) ?_
  ·
    refine Go_blk 1 (pc' := 67) (L' := [(2, .int b2)]) (S' := [.int b2]) (h' := (hh X g I)) rfl ?_
    exact Go_ret (fun _ h => h) rfl
  ·
    refine Go_wh (fun (s1 : Int32 × Int32) => [(0, .ref 43), (1, .int p1), (2, .int s1.1), (3, .int s1.2)]) (fun _ => []) (fun (s1 : Int32 × Int32) => (hh X g I)) (fun s1 => ?_) ((0 : Int32), (1 : Int32))
    refine Go_blk 3 (pc' := 9) (L' := [(0, .ref 43), (1, .int p1), (2, .int s1.1), (3, .int s1.2)]) (S' := [.ref 3, .int s1.2]) (h' := (hh X g I)) rfl ?_
    refine Go_cR (y' := 204) (As := [.ref 3]) (r := [.int s1.2]) rfl (g_sho_allOrders204  (by omega)) fun v3 => ?_
    refine Go_cmp rfl rfl rfl ?_ ?_
    ·
      exact Go_jmp [(2, .int s1.1)] rfl ⟨rfl, trivial⟩ (fun _ h => h)
    ·
      refine Go_blk 5 (pc' := 20) (L' := [(0, .ref 43), (1, .int p1), (2, .int s1.1), (3, .int s1.2)]) (S' := [.int (s1.2 &&& (p1 ^^^ (-1 : Int32)))]) (h' := (hh X g I)) rfl ?_
      refine Go_seq (pcj := 28) (fun (b4 : Int32) => [(0, .ref 43), (1, .int p1), (2, .int s1.1), (3, .int s1.2)]) (fun (b4 : Int32) => [.int b4]) (fun (b4 : Int32) => (hh X g I)) (fun b4 => ?_) ?_
      ·
        refine Go_blk 2 (pc' := 32) (L' := [(4, .int b4), (0, .ref 43), (1, .int p1), (2, .int s1.1), (3, .int s1.2)]) (S' := [.int b4]) (h' := (hh X g I)) rfl ?_
        refine Go_seq (pcj := 60) (fun (b5 : Int32) => [(0, .ref 43), (1, .int p1), (2, .int b5), (3, .int s1.2)]) (fun (b5 : Int32) => []) (fun (b5 : Int32) => (hh X g I)) (fun b5 => ?_) ?_
        ·
          refine Go_blk 2 (pc' := 4) (L' := [(3, .int (s1.2 + (1 : Int32))), (0, .ref 43), (1, .int p1), (2, .int b5)]) (S' := []) (h' := (hh X g I)) rfl ?_
          exact Go_jmp [(0, .ref 43), (1, .int p1), (2, .int b5), (3, .int (s1.2 + (1 : Int32)))] rfl ⟨rfl, rfl, rfl, rfl, trivial⟩ (fun _ h => h)
        ·
          refine Go_cmz rfl rfl rfl ?_ ?_
          ·
            exact Go_jmp [(0, .ref 43), (1, .int p1), (2, .int s1.1), (3, .int s1.2)] rfl ⟨rfl, rfl, rfl, rfl, trivial⟩ (fun _ h => h)
          ·
            refine Go_blk 2 (pc' := 37) (L' := [(4, .int b4), (0, .ref 43), (1, .int p1), (2, .int s1.1), (3, .int s1.2)]) (S' := [.int s1.2, .ref 43]) (h' := (hh X g I)) rfl ?_
            refine Go_cR (y' := 216) (As := [.ref 43, .int s1.2]) (r := []) rfl (g_tas_isInTime216 s1.2 (by omega)) fun v6 => ?_
            refine Go_cmz rfl rfl rfl ?_ ?_
            ·
              exact Go_jmp [(0, .ref 43), (1, .int p1), (2, .int s1.1), (3, .int s1.2)] rfl ⟨rfl, rfl, rfl, rfl, trivial⟩ (fun _ h => h)
            ·
              refine Go_blk 3 (pc' := 46) (L' := [(4, .int b4), (0, .ref 43), (1, .int p1), (2, .int s1.1), (3, .int s1.2)]) (S' := [.int (3 : Int32), .int s1.2, .ref 43]) (h' := (hh X g I)) rfl ?_
              refine Go_cR (y' := 218) (As := [.ref 43, .int s1.2, .int (3 : Int32)]) (r := []) rfl (g_tas_together218 s1.2 (3 : Int32) (by omega)) fun v7 => ?_
              refine Go_blk 3 (pc' := 52) (L' := [(4, .int b4), (0, .ref 43), (1, .int p1), (2, .int s1.1), (3, .int s1.2)]) (S' := [.int (3 : Int32), .int s1.1, .ref 43, .int v7]) (h' := (hh X g I)) rfl ?_
              refine Go_cR (y' := 218) (As := [.ref 43, .int s1.1, .int (3 : Int32)]) (r := [.int v7]) rfl (g_tas_together218 s1.1 (3 : Int32) (by omega)) fun v8 => ?_
              refine Go_cmpn rfl rfl (ab_cle _ _) ?_ ?_
              ·
                refine Go_blk 2 (pc' := 60) (L' := [(2, .int s1.2), (4, .int b4), (0, .ref 43), (1, .int p1), (3, .int s1.2)]) (S' := []) (h' := (hh X g I)) rfl ?_
                exact Go_jmp [(0, .ref 43), (1, .int p1), (2, .int s1.2), (3, .int s1.2)] rfl ⟨rfl, rfl, rfl, rfl, trivial⟩ (fun _ h => h)
              ·
                exact Go_jmp [(0, .ref 43), (1, .int p1), (2, .int s1.1), (3, .int s1.2)] rfl ⟨rfl, rfl, rfl, rfl, trivial⟩ (fun _ h => h)
      ·
        refine Go_cmzn rfl rfl rfl ?_ ?_
        ·
          refine Go_blk 2 (pc' := 28) (L' := [(0, .ref 43), (1, .int p1), (2, .int s1.1), (3, .int s1.2)]) (S' := [.int (1 : Int32)]) (h' := (hh X g I)) rfl ?_
          exact Go_jmp [(0, .ref 43), (1, .int p1), (2, .int s1.1), (3, .int s1.2)] rfl ⟨rfl, rfl, rfl, rfl, trivial⟩ (fun _ h => h)
        ·
          refine Go_blk 1 (pc' := 28) (L' := [(0, .ref 43), (1, .int p1), (2, .int s1.1), (3, .int s1.2)]) (S' := [.int (0 : Int32)]) (h' := (hh X g I)) rfl ?_
          exact Go_jmp [(0, .ref 43), (1, .int p1), (2, .int s1.1), (3, .int s1.2)] rfl ⟨rfl, rfl, rfl, rfl, trivial⟩ (fun _ h => h)
set_option maxRecDepth 1000000 in
set_option maxHeartbeats 4000000 in
theorem g_x_sewn214 (p1 : Int32) (p2 : Int32) {X : XX} {g : GG} {I : MJ} {d : Nat} (hd : 5 ≤ d) : Go d 214 0 (lv_args 0 [.ref 0, .int p1, .int p2]) [] (hh X g I) (f_x_sewn214 p1 p2 I) (pT vI X g) := by
  obtain ⟨d, rfl⟩ : ∃ k, d = k + 1 := ⟨d - 1, by omega⟩
  unfold f_x_sewn214
  refine Go_blk 4 (pc' := 6) (L' := [(0, .ref 0), (1, .int p1), (2, .int p2)]) (S' := [.ref 3, .int p1, .ref 0]) (h' := (hh X g I)) rfl ?_
  refine Go_cR (y' := 204) (As := [.ref 3]) (r := [.int p1, .ref 0]) rfl (g_sho_allOrders204  (by omega)) fun v1 => ?_
  refine Go_cT (y' := 199) (As := [.ref 0, .int p1, .int v1]) (r := []) rfl rfl (g_x_needBits199 p1 v1 (by omega)) fun v2 I3 => ?_
  refine Go_blk 4 (pc' := 16) (L' := [(0, .ref 0), (1, .int p1), (2, .int p2)]) (S' := [.int (2 : Int32), .int (0 : Int32), .int p2, .ref 0]) (h' := (hh X g I3)) rfl ?_
  refine Go_cT (y' := 38) (As := [.ref 0, .int p2, .int (0 : Int32), .int (2 : Int32)]) (r := []) rfl rfl (g_x_needWithin38 p2 (0 : Int32) (2 : Int32) (by omega)) fun v4 I5 => ?_
  refine Go_blk 3 (pc' := 24) (L' := [(0, .ref 0), (1, .int p1), (2, .int p2)]) (S' := [.int p1, .ref 43]) (h' := (hh X g I5)) rfl ?_
  refine Go_cR (y' := 215) (As := [.ref 43, .int p1]) (r := []) rfl (g_tas_bestInTime215 p1 (by omega)) fun v6 => ?_
  refine Go_blk 3 (pc' := 30) (L' := [(3, .int v6), (0, .ref 0), (1, .int p1), (2, .int p2)]) (S' := [.int (1 : Int32), .int p2]) (h' := (hh X g I5)) rfl ?_
  refine Go_cmpn rfl rfl rfl ?_ ?_
  ·
    refine Go_blk 1 (pc' := 34) (L' := [(3, .int v6), (0, .ref 0), (1, .int p1), (2, .int p2)]) (S' := [.int v6]) (h' := (hh X g I5)) rfl ?_
    exact Go_ret (fun _ h => h) rfl
  ·
    refine Go_blk 4 (pc' := 41) (L' := [(3, .int v6), (0, .ref 0), (1, .int p1), (2, .int p2)]) (S' := [.int p2, .int v6, .ref 43]) (h' := (hh X g I5)) rfl ?_
    refine Go_seq (pcj := 49) (fun (b7 : Int32) => []) (fun (b7 : Int32) => [.int b7, .int v6, .ref 43]) (fun (b7 : Int32) => (hh X g I5)) (fun b7 => ?_) ?_
    ·
      refine Go_cR (y' := 218) (As := [.ref 43, .int v6, .int b7]) (r := []) rfl (g_tas_together218 v6 b7 (by omega)) fun v8 => ?_
      exact Go_ret (fun _ h => h) rfl
    ·
      refine Go_cmzn rfl rfl rfl ?_ ?_
      ·
        refine Go_blk 2 (pc' := 49) (L' := [(3, .int v6), (0, .ref 0), (1, .int p1), (2, .int p2)]) (S' := [.int (3 : Int32), .int v6, .ref 43]) (h' := (hh X g I5)) rfl ?_
        exact Go_jmp [] rfl trivial (fun _ h => h)
      ·
        refine Go_blk 1 (pc' := 49) (L' := [(3, .int v6), (0, .ref 0), (1, .int p1), (2, .int p2)]) (S' := [.int (4 : Int32), .int v6, .ref 43]) (h' := (hh X g I5)) rfl ?_
        exact Go_jmp [] rfl trivial (fun _ h => h)
set_option maxRecDepth 1000000 in
set_option maxHeartbeats 4000000 in
theorem g_l_sewn213 (p1 : Int32) (p2 : Int32) {X : XX} {g : GG} {I : MJ} {d : Nat} (hd : 6 ≤ d) : Go d 213 0 (lv_args 0 [.ref 0, .int p1, .int p2, .ref 698]) [] (hh X g I) (f_l_sewn213 p1 p2 I g) (pG X) := by
  obtain ⟨d, rfl⟩ : ∃ k, d = k + 1 := ⟨d - 1, by omega⟩
  unfold f_l_sewn213
  refine Go_blk 5 (pc' := 5) (L' := [(0, .ref 0), (1, .int p1), (2, .int p2), (3, .ref 698)]) (S' := [.int p2, .int p1, .ref 0, .int (0 : Int32), .ref 698]) (h' := (hh X g I)) rfl ?_
  refine Go_try (y' := 214) (As := [.ref 0, .int p1, .int p2]) (r := [.int (0 : Int32), .ref 698]) rfl (g_x_sewn214 p1 p2 (by omega)) (fun v1 I2 => ?_) (fun E2 I2 => ?_)
  ·
    refine Go_blk 1 (pc' := 9) (L' := [(0, .ref 0), (1, .int p1), (2, .int p2), (3, .ref 698)]) (S' := [.long (v1.toInt64), .int (0 : Int32), .ref 698]) (h' := (hh X g I2)) rfl ?_
    refine Go_last rfl fun g3 => ?_
    refine Go_blk 2 (pc' := 18) (L' := [(0, .ref 0), (1, .int p1), (2, .int p2), (3, .ref 698)]) (S' := [.int (0 : Int32)]) (h' := (hh X g3 I2)) rfl ?_
    exact Go_ret (fun _ h => h) rfl
  ·
    refine GX_ite ?_ ?_
    ·
      refine GX_go rfl (t := 15) (k := 4) rfl ?_
      refine Go_blk 1 (pc' := 16) (L' := [(0, .ref 0), (1, .int p1), (2, .int p2), (3, .ref 698)]) (S' := [.int (1 : Int32)]) (h' := (hh X (thr g) I2)) rfl ?_
      exact Go_ret (fun _ h => h) rfl
    exact GX_none
set_option maxRecDepth 1000000 in
set_option maxHeartbeats 4000000 in
theorem g_m_isSewn358 (p1 : Int32) {X : XX} {g : GG} {I : MJ} {d : Nat} (hd : 1 ≤ d) : Go d 358 0 (lv_args 0 [.ref 47, .int p1]) [] (hh X g I) (f_m_isSewn358 p1 I) (pR X g I) := by
  obtain ⟨d, rfl⟩ : ∃ k, d = k + 1 := ⟨d - 1, by omega⟩
  unfold f_m_isSewn358
  refine Go_blk 2 (pc' := 2) (L' := [(2, .int (1 : Int32)), (0, .ref 47), (1, .int p1)]) (S' := []) (h' := (hh X g I)) rfl ?_
  refine Go_lcs [(0, .ref 47), (1, .int p1), (2, .int (1 : Int32))] rfl ⟨rfl, rfl, rfl, trivial⟩ ?_
  refine Go_wh (fun (s1 : Int32) => [(0, .ref 47), (1, .int p1), (2, .int s1)]) (fun _ => []) (fun (s1 : Int32) => (hh X g I)) (fun s1 => ?_) (1 : Int32)
  refine Go_blk 2 (pc' := 5) (L' := [(0, .ref 47), (1, .int p1), (2, .int s1)]) (S' := [.int (60 : Int32), .int s1]) (h' := (hh X g I)) rfl ?_
  refine Go_cmp rfl rfl rfl ?_ ?_
  ·
    refine Go_inrS ?_
    refine Go_blk 1 (pc' := 103) (L' := [(0, .ref 47), (1, .int p1), (2, .int s1)]) (S' := [.int (1 : Int32)]) (h' := (hh X g I)) rfl ?_
    exact Go_ret (fun _ h => h) rfl
  ·
    refine Go_blk 4 (pc' := 13) (L' := [(4, .int (0 : Int32)), (3, .int (0 : Int32)), (0, .ref 47), (1, .int p1), (2, .int s1)]) (S' := []) (h' := (hh X g I)) rfl ?_
    refine Go_lcs [(0, .ref 47), (1, .int p1), (2, .int s1), (3, .int (0 : Int32)), (4, .int (0 : Int32))] rfl ⟨rfl, rfl, rfl, rfl, rfl, trivial⟩ ?_
    refine Go_seq (pcj := 68) (fun (b3 : Int32) => [(0, .ref 47), (1, .int p1), (2, .int s1), (3, .int b3)]) (fun (b3 : Int32) => []) (fun (b3 : Int32) => (hh X g I)) (fun b3 => ?_) ?_
    ·
      refine Go_blk 14 (pc' := 87) (L' := [(0, .ref 47), (1, .int p1), (2, .int s1), (3, .int b3)]) (S' := [.int ((s1 - (I 576 89)) + (1 : Int32)), .int (0 : Int32), .int (I 51 5), .int b3]) (h' := (hh X g I)) rfl ?_
      refine Go_cR (y' := 320) (As := [.int (0 : Int32), .int ((s1 - (I 576 89)) + (1 : Int32))]) (r := [.int (I 51 5), .int b3]) rfl (g_m_more320 (0 : Int32) ((s1 - (I 576 89)) + (1 : Int32)) (by omega)) fun v4 => ?_
      refine Go_blk 1 (pc' := 91) (L' := [(0, .ref 47), (1, .int p1), (2, .int s1), (3, .int b3)]) (S' := [.int ((I 51 5) * v4), .int b3]) (h' := (hh X g I)) rfl ?_
      refine Go_cmpn rfl rfl (ab_cle _ _) ?_ ?_
      ·
        refine Go_inrS ?_
        refine Go_blk 1 (pc' := 95) (L' := [(0, .ref 47), (1, .int p1), (2, .int s1), (3, .int b3)]) (S' := [.int (0 : Int32)]) (h' := (hh X g I)) rfl ?_
        exact Go_ret (fun _ h => h) rfl
      ·
        refine Go_blk 2 (pc' := 2) (L' := [(2, .int (s1 + (1 : Int32))), (0, .ref 47), (1, .int p1), (3, .int b3)]) (S' := []) (h' := (hh X g I)) rfl ?_
        exact Go_jmp [(0, .ref 47), (1, .int p1), (2, .int (s1 + (1 : Int32)))] rfl ⟨rfl, rfl, rfl, trivial⟩ (fun _ h => h)
    ·
      refine Go_wh (fun (s2 : Int32 × Int32) => [(0, .ref 47), (1, .int p1), (2, .int s1), (3, .int s2.1), (4, .int s2.2)]) (fun _ => []) (fun (s2 : Int32 × Int32) => (hh X g I)) (fun s2 => ?_) ((0 : Int32), (0 : Int32))
      refine Go_blk 5 (pc' := 21) (L' := [(0, .ref 47), (1, .int p1), (2, .int s1), (3, .int s2.1), (4, .int s2.2)]) (S' := [.int (I 51 3), .int s2.2]) (h' := (hh X g I)) rfl ?_
      refine Go_cmpn rfl rfl (ab_cge _ _) ?_ ?_
      ·
        refine Go_blk 3 (pc' := 28) (L' := [(0, .ref 47), (1, .int p1), (2, .int s1), (3, .int s2.1), (4, .int s2.2)]) (S' := [.int s2.2, .int p1, .int s2.1]) (h' := (hh X g I)) rfl ?_
        refine Go_cR (y' := 313) (As := [.int p1, .int s2.2]) (r := [.int s2.1]) rfl (g_m_has313 p1 s2.2 (by omega)) fun v5 => ?_
        refine Go_seq (pcj := 60) (fun (b6 : Int32) => [(0, .ref 47), (1, .int p1), (2, .int s1), (4, .int s2.2)]) (fun (b6 : Int32) => [.int b6, .int s2.1]) (fun (b6 : Int32) => (hh X g I)) (fun b6 => ?_) ?_
        ·
          refine Go_blk 4 (pc' := 13) (L' := [(4, .int (s2.2 + (1 : Int32))), (3, .int (s2.1 + b6)), (0, .ref 47), (1, .int p1), (2, .int s1)]) (S' := []) (h' := (hh X g I)) rfl ?_
          exact Go_jmp [(0, .ref 47), (1, .int p1), (2, .int s1), (3, .int (s2.1 + b6)), (4, .int (s2.2 + (1 : Int32)))] rfl ⟨rfl, rfl, rfl, rfl, rfl, trivial⟩ (fun _ h => h)
        ·
          refine Go_cmz rfl rfl rfl ?_ ?_
          ·
            refine Go_blk 1 (pc' := 60) (L' := [(0, .ref 47), (1, .int p1), (2, .int s1), (3, .int s2.1), (4, .int s2.2)]) (S' := [.int (0 : Int32), .int s2.1]) (h' := (hh X g I)) rfl ?_
            exact Go_jmp [(0, .ref 47), (1, .int p1), (2, .int s1), (4, .int s2.2)] rfl ⟨rfl, rfl, rfl, rfl, trivial⟩ (fun _ h => h)
          ·
            refine Go_blk 3 (pc' := 40) (L' := [(0, .ref 47), (1, .int p1), (2, .int s1), (3, .int s2.1), (4, .int s2.2)]) (S' := [.int s2.2, .ref 119, .int s2.1]) (h' := (hh X g I)) rfl ?_
            refine Go_aald rfl fun r7 => ?_
            refine Go_blk 1 (pc' := 42) (L' := [(0, .ref 47), (1, .int p1), (2, .int s1), (3, .int s2.1), (4, .int s2.2)]) (S' := [.int (2 : Int32), .ref r7, .int s2.1]) (h' := (hh X g I)) rfl ?_
            refine Go_iald rfl fun v8 => ?_
            refine Go_blk 1 (pc' := 44) (L' := [(0, .ref 47), (1, .int p1), (2, .int s1), (3, .int s2.1), (4, .int s2.2)]) (S' := [.int s1, .int v8, .int s2.1]) (h' := (hh X g I)) rfl ?_
            refine Go_cmp rfl rfl rfl ?_ ?_
            ·
              refine Go_blk 1 (pc' := 60) (L' := [(0, .ref 47), (1, .int p1), (2, .int s1), (3, .int s2.1), (4, .int s2.2)]) (S' := [.int (0 : Int32), .int s2.1]) (h' := (hh X g I)) rfl ?_
              exact Go_jmp [(0, .ref 47), (1, .int p1), (2, .int s1), (4, .int s2.2)] rfl ⟨rfl, rfl, rfl, rfl, trivial⟩ (fun _ h => h)
            ·
              refine Go_blk 3 (pc' := 53) (L' := [(0, .ref 47), (1, .int p1), (2, .int s1), (3, .int s2.1), (4, .int s2.2)]) (S' := [.int s2.2, .ref 119, .int s2.1]) (h' := (hh X g I)) rfl ?_
              refine Go_aald rfl fun r9 => ?_
              refine Go_blk 1 (pc' := 55) (L' := [(0, .ref 47), (1, .int p1), (2, .int s1), (3, .int s2.1), (4, .int s2.2)]) (S' := [.int (4 : Int32), .ref r9, .int s2.1]) (h' := (hh X g I)) rfl ?_
              refine Go_iald rfl fun v10 => ?_
              refine Go_blk 1 (pc' := 60) (L' := [(0, .ref 47), (1, .int p1), (2, .int s1), (3, .int s2.1), (4, .int s2.2)]) (S' := [.int v10, .int s2.1]) (h' := (hh X g I)) rfl ?_
              exact Go_jmp [(0, .ref 47), (1, .int p1), (2, .int s1), (4, .int s2.2)] rfl ⟨rfl, rfl, rfl, rfl, trivial⟩ (fun _ h => h)
      ·
        exact Go_jmp [(0, .ref 47), (1, .int p1), (2, .int s1), (3, .int s2.1)] rfl ⟨rfl, rfl, rfl, rfl, trivial⟩ (fun _ h => h)
set_option maxRecDepth 1000000 in
set_option maxHeartbeats 4000000 in
theorem g_m_sewn357 (p1 : Int32) (p2 : Int32) {X : XX} {g : GG} {I : MJ} {d : Nat} (hd : 2 ≤ d) : Go d 357 0 (lv_args 0 [.ref 47, .int p1, .int p2]) [] (hh X g I) (f_m_sewn357 p1 p2 I) (pW X g) := by
  obtain ⟨d, rfl⟩ : ∃ k, d = k + 1 := ⟨d - 1, by omega⟩
  unfold f_m_sewn357
  refine Go_blk 6 (pc' := 8) (L' := [(0, .ref 47), (1, .int p1), (2, .int p2)]) (S' := [.int p1, .ref 47, .ref 47]) (h' := (hh X g (ab_up1 I 47 0 (0 : Int32)))) rfl ?_
  refine Go_cR (y' := 353) (As := [.ref 47, .int p1]) (r := [.ref 47]) rfl (g_m_areOrders353 p1 (by omega)) fun v1 => ?_
  refine Go_seq (pcj := 28) (fun (b2 : Int32) => [(0, .ref 47), (1, .int p1), (2, .int p2)]) (fun (b2 : Int32) => [.int b2, .ref 47]) (fun (b2 : Int32) => (hh X g (ab_up1 I 47 0 (0 : Int32)))) (fun b2 => ?_) ?_
  ·
    refine Go_blk 2 (pc' := 30) (L' := [(0, .ref 47), (1, .int p1), (2, .int p2)]) (S' := [.int (1 : Int32), .int (1 : Int32), .int b2, .ref 47]) (h' := (hh X g (ab_up1 I 47 0 (0 : Int32)))) rfl ?_
    refine Go_cW (y' := 268) (As := [.ref 47, .int b2, .int (1 : Int32), .int (1 : Int32)]) (r := []) rfl (g_m_bad268 b2 (1 : Int32) (1 : Int32) (by omega)) fun w3 => ?_
    refine Go_cmz rfl rfl rfl ?_ ?_
    ·
      refine Go_blk 8 (pc' := 49) (L' := [(6, .int (0 : Int32)), (5, .int (0 : Int32)), (4, .int (-1 : Int32)), (3, .int (0 : Int32)), (0, .ref 47), (1, .int p1), (2, .int p2)]) (S' := []) (h' := (hh X g w3.2)) rfl ?_
      refine Go_lcs [(0, .ref 47), (1, .int p1), (2, .int p2), (3, .int (0 : Int32)), (4, .int (-1 : Int32)), (5, .int (0 : Int32)), (6, .int (0 : Int32))] rfl ⟨rfl, rfl, rfl, rfl, rfl, rfl, rfl, trivial⟩ ?_
      refine Go_seq (pcj := 150) (fun (b5 : Int32 × Int32) => [(0, .ref 47), (2, .int p2), (3, .int b5.1), (4, .int b5.2), (5, .int (0 : Int32))]) (fun (b5 : Int32 × Int32) => []) (fun (b5 : Int32 × Int32) => (hh X g w3.2)) (fun b5 => ?_) ?_
      ·
        refine Go_blk 2 (pc' := 153) (L' := [(6, .int (0 : Int32)), (0, .ref 47), (2, .int p2), (3, .int b5.1), (4, .int b5.2), (5, .int (0 : Int32))]) (S' := []) (h' := (hh X g w3.2)) rfl ?_
        refine Go_lcs [(0, .ref 47), (2, .int p2), (3, .int b5.1), (4, .int b5.2), (5, .int (0 : Int32)), (6, .int (0 : Int32))] rfl ⟨rfl, rfl, rfl, rfl, rfl, rfl, trivial⟩ ?_
        refine Go_seq (pcj := 197) (fun (b7 : Int32) => [(2, .int p2), (3, .int b5.1), (4, .int b5.2), (5, .int b7)]) (fun (b7 : Int32) => []) (fun (b7 : Int32) => (hh X g w3.2)) (fun b7 => ?_) ?_
        ·
          refine Go_blk 1 (pc' := 198) (L' := [(2, .int p2), (3, .int b5.1), (4, .int b5.2), (5, .int b7)]) (S' := [.int p2]) (h' := (hh X g w3.2)) rfl ?_
          refine Go_seq (pcj := 217) (fun (b8 : Int32) => []) (fun (b8 : Int32) => [.int b8]) (fun (b8 : Int32) => (hh X g w3.2)) (fun b8 => ?_) ?_
          ·
            exact Go_ret (fun _ h => h) rfl
          ·
            refine Go_cmzn rfl rfl rfl ?_ ?_
            ·
              refine Go_blk 2 (pc' := 217) (L' := [(2, .int p2), (3, .int b5.1), (4, .int b5.2), (5, .int b7)]) (S' := [.int b5.2]) (h' := (hh X g w3.2)) rfl ?_
              exact Go_jmp [] rfl trivial (fun _ h => h)
            ·
              refine Go_blk 2 (pc' := 208) (L' := [(2, .int p2), (3, .int b5.1), (4, .int b5.2), (5, .int b7)]) (S' := [.int (1 : Int32), .int p2]) (h' := (hh X g w3.2)) rfl ?_
              refine Go_cmpn rfl rfl rfl ?_ ?_
              ·
                refine Go_blk 2 (pc' := 217) (L' := [(2, .int p2), (3, .int b5.1), (4, .int b5.2), (5, .int b7)]) (S' := [.int b5.1]) (h' := (hh X g w3.2)) rfl ?_
                exact Go_jmp [] rfl trivial (fun _ h => h)
              ·
                refine Go_blk 1 (pc' := 217) (L' := [(2, .int p2), (3, .int b5.1), (4, .int b5.2), (5, .int b7)]) (S' := [.int b7]) (h' := (hh X g w3.2)) rfl ?_
                exact Go_jmp [] rfl trivial (fun _ h => h)
        ·
          refine Go_wh (fun (s6 : Int32 × Int32) => [(0, .ref 47), (2, .int p2), (3, .int b5.1), (4, .int b5.2), (5, .int s6.1), (6, .int s6.2)]) (fun _ => []) (fun (s6 : Int32 × Int32) => (hh X g w3.2)) (fun s6 => ?_) ((0 : Int32), (0 : Int32))
          refine Go_blk 5 (pc' := 161) (L' := [(0, .ref 47), (2, .int p2), (3, .int b5.1), (4, .int b5.2), (5, .int s6.1), (6, .int s6.2)]) (S' := [.int (w3.2 51 3), .int s6.2]) (h' := (hh X g w3.2)) rfl ?_
          refine Go_cmpn rfl rfl (ab_cge _ _) ?_ ?_
          ·
            refine Go_blk 3 (pc' := 169) (L' := [(0, .ref 47), (2, .int p2), (3, .int b5.1), (4, .int b5.2), (5, .int s6.1), (6, .int s6.2)]) (S' := [.int s6.2, .int b5.1, .int s6.1]) (h' := (hh X g w3.2)) rfl ?_
            refine Go_cR (y' := 313) (As := [.int b5.1, .int s6.2]) (r := [.int s6.1]) rfl (g_m_has313 b5.1 s6.2 (by omega)) fun v9 => ?_
            refine Go_seq (pcj := 188) (fun (b10 : Int32) => [(0, .ref 47), (2, .int p2), (3, .int b5.1), (4, .int b5.2), (6, .int s6.2)]) (fun (b10 : Int32) => [.int b10, .int s6.1]) (fun (b10 : Int32) => (hh X g w3.2)) (fun b10 => ?_) ?_
            ·
              refine Go_blk 4 (pc' := 153) (L' := [(6, .int (s6.2 + (1 : Int32))), (5, .int (s6.1 + b10)), (0, .ref 47), (2, .int p2), (3, .int b5.1), (4, .int b5.2)]) (S' := []) (h' := (hh X g w3.2)) rfl ?_
              exact Go_jmp [(0, .ref 47), (2, .int p2), (3, .int b5.1), (4, .int b5.2), (5, .int (s6.1 + b10)), (6, .int (s6.2 + (1 : Int32)))] rfl ⟨rfl, rfl, rfl, rfl, rfl, rfl, trivial⟩ (fun _ h => h)
            ·
              refine Go_cmz rfl rfl rfl ?_ ?_
              ·
                refine Go_blk 1 (pc' := 188) (L' := [(0, .ref 47), (2, .int p2), (3, .int b5.1), (4, .int b5.2), (5, .int s6.1), (6, .int s6.2)]) (S' := [.int (0 : Int32), .int s6.1]) (h' := (hh X g w3.2)) rfl ?_
                exact Go_jmp [(0, .ref 47), (2, .int p2), (3, .int b5.1), (4, .int b5.2), (6, .int s6.2)] rfl ⟨rfl, rfl, rfl, rfl, rfl, trivial⟩ (fun _ h => h)
              ·
                refine Go_blk 3 (pc' := 181) (L' := [(0, .ref 47), (2, .int p2), (3, .int b5.1), (4, .int b5.2), (5, .int s6.1), (6, .int s6.2)]) (S' := [.int s6.2, .ref 119, .int s6.1]) (h' := (hh X g w3.2)) rfl ?_
                refine Go_aald rfl fun r11 => ?_
                refine Go_blk 1 (pc' := 183) (L' := [(0, .ref 47), (2, .int p2), (3, .int b5.1), (4, .int b5.2), (5, .int s6.1), (6, .int s6.2)]) (S' := [.int (4 : Int32), .ref r11, .int s6.1]) (h' := (hh X g w3.2)) rfl ?_
                refine Go_iald rfl fun v12 => ?_
                refine Go_blk 1 (pc' := 188) (L' := [(0, .ref 47), (2, .int p2), (3, .int b5.1), (4, .int b5.2), (5, .int s6.1), (6, .int s6.2)]) (S' := [.int v12, .int s6.1]) (h' := (hh X g w3.2)) rfl ?_
                exact Go_jmp [(0, .ref 47), (2, .int p2), (3, .int b5.1), (4, .int b5.2), (6, .int s6.2)] rfl ⟨rfl, rfl, rfl, rfl, rfl, trivial⟩ (fun _ h => h)
          ·
            exact Go_jmp [(2, .int p2), (3, .int b5.1), (4, .int b5.2), (5, .int s6.1)] rfl ⟨rfl, rfl, rfl, rfl, trivial⟩ (fun _ h => h)
      ·
        refine Go_wh (fun (s4 : Int32 × Int32 × Int32) => [(0, .ref 47), (1, .int p1), (2, .int p2), (3, .int s4.1), (4, .int s4.2.1), (5, .int (0 : Int32)), (6, .int s4.2.2)]) (fun _ => []) (fun (s4 : Int32 × Int32 × Int32) => (hh X g w3.2)) (fun s4 => ?_) ((0 : Int32), (-1 : Int32), (0 : Int32))
        refine Go_blk 2 (pc' := 52) (L' := [(0, .ref 47), (1, .int p1), (2, .int p2), (3, .int s4.1), (4, .int s4.2.1), (5, .int (0 : Int32)), (6, .int s4.2.2)]) (S' := [.int p1, .int s4.2.2]) (h' := (hh X g w3.2)) rfl ?_
        refine Go_cmp rfl rfl rfl ?_ ?_
        ·
          exact Go_jmp [(0, .ref 47), (2, .int p2), (3, .int s4.1), (4, .int s4.2.1), (5, .int (0 : Int32))] rfl ⟨rfl, rfl, rfl, rfl, rfl, trivial⟩ (fun _ h => h)
        ·
          refine Go_blk 7 (pc' := 64) (L' := [(7, .int (0 : Int32)), (0, .ref 47), (1, .int p1), (2, .int p2), (3, .int s4.1), (4, .int s4.2.1), (5, .int (0 : Int32)), (6, .int s4.2.2)]) (S' := [.int (s4.2.2 &&& (p1 ^^^ (-1 : Int32)))]) (h' := (hh X g w3.2)) rfl ?_
          refine Go_seq (pcj := 144) (fun (b13 : Int32 × Int32) => [(0, .ref 47), (1, .int p1), (2, .int p2), (3, .int b13.1), (4, .int b13.2), (5, .int (0 : Int32)), (6, .int s4.2.2)]) (fun (b13 : Int32 × Int32) => []) (fun (b13 : Int32 × Int32) => (hh X g w3.2)) (fun b13 => ?_) ?_
          ·
            refine Go_blk 2 (pc' := 49) (L' := [(6, .int (s4.2.2 + (1 : Int32))), (0, .ref 47), (1, .int p1), (2, .int p2), (3, .int b13.1), (4, .int b13.2), (5, .int (0 : Int32))]) (S' := []) (h' := (hh X g w3.2)) rfl ?_
            exact Go_jmp [(0, .ref 47), (1, .int p1), (2, .int p2), (3, .int b13.1), (4, .int b13.2), (5, .int (0 : Int32)), (6, .int (s4.2.2 + (1 : Int32)))] rfl ⟨rfl, rfl, rfl, rfl, rfl, rfl, rfl, trivial⟩ (fun _ h => h)
          ·
            refine Go_cmzn rfl rfl rfl ?_ ?_
            ·
              refine Go_blk 2 (pc' := 70) (L' := [(7, .int (0 : Int32)), (0, .ref 47), (1, .int p1), (2, .int p2), (3, .int s4.1), (4, .int s4.2.1), (5, .int (0 : Int32)), (6, .int s4.2.2)]) (S' := [.int s4.2.2, .ref 47]) (h' := (hh X g w3.2)) rfl ?_
              refine Go_cR (y' := 358) (As := [.ref 47, .int s4.2.2]) (r := []) rfl (g_m_isSewn358 s4.2.2 (by omega)) fun v14 => ?_
              refine Go_cmzn rfl rfl rfl ?_ ?_
              ·
                refine Go_blk 1 (pc' := 144) (L' := [(7, .int (0 : Int32)), (0, .ref 47), (1, .int p1), (2, .int p2), (3, .int s4.1), (4, .int s4.2.1), (5, .int (0 : Int32)), (6, .int s4.2.2)]) (S' := []) (h' := (hh X g w3.2)) rfl ?_
                exact Go_jmp [(0, .ref 47), (1, .int p1), (2, .int p2), (3, .int s4.1), (4, .int s4.2.1), (5, .int (0 : Int32)), (6, .int s4.2.2)] rfl ⟨rfl, rfl, rfl, rfl, rfl, rfl, rfl, trivial⟩ (fun _ h => h)
              ·
                refine Go_blk 2 (pc' := 82) (L' := [(8, .int (0 : Int32)), (7, .int (0 : Int32)), (0, .ref 47), (1, .int p1), (2, .int p2), (3, .int s4.1), (4, .int s4.2.1), (5, .int (0 : Int32)), (6, .int s4.2.2)]) (S' := []) (h' := (hh X g w3.2)) rfl ?_
                refine Go_lcs [(0, .ref 47), (1, .int p1), (2, .int p2), (3, .int s4.1), (4, .int s4.2.1), (5, .int (0 : Int32)), (6, .int s4.2.2), (7, .int (0 : Int32)), (8, .int (0 : Int32))] rfl ⟨rfl, rfl, rfl, rfl, rfl, rfl, rfl, rfl, rfl, trivial⟩ ?_
                refine Go_seq (pcj := 127) (fun (b16 : Int32) => [(0, .ref 47), (1, .int p1), (2, .int p2), (3, .int s4.1), (4, .int s4.2.1), (5, .int (0 : Int32)), (6, .int s4.2.2), (7, .int b16)]) (fun (b16 : Int32) => []) (fun (b16 : Int32) => (hh X g w3.2)) (fun b16 => ?_) ?_
                ·
                  refine Go_blk 2 (pc' := 131) (L' := [(0, .ref 47), (1, .int p1), (2, .int p2), (3, .int s4.1), (4, .int s4.2.1), (5, .int (0 : Int32)), (6, .int s4.2.2), (7, .int b16)]) (S' := [.int s4.2.1, .int b16]) (h' := (hh X g w3.2)) rfl ?_
                  refine Go_cmp rfl rfl rfl ?_ ?_
                  ·
                    refine Go_blk 4 (pc' := 144) (L' := [(4, .int b16), (3, .int s4.2.2), (0, .ref 47), (1, .int p1), (2, .int p2), (5, .int (0 : Int32)), (6, .int s4.2.2), (7, .int b16)]) (S' := []) (h' := (hh X g w3.2)) rfl ?_
                    exact Go_jmp [(0, .ref 47), (1, .int p1), (2, .int p2), (3, .int s4.2.2), (4, .int b16), (5, .int (0 : Int32)), (6, .int s4.2.2)] rfl ⟨rfl, rfl, rfl, rfl, rfl, rfl, rfl, trivial⟩ (fun _ h => h)
                  ·
                    refine Go_blk 1 (pc' := 144) (L' := [(0, .ref 47), (1, .int p1), (2, .int p2), (3, .int s4.1), (4, .int s4.2.1), (5, .int (0 : Int32)), (6, .int s4.2.2), (7, .int b16)]) (S' := []) (h' := (hh X g w3.2)) rfl ?_
                    exact Go_jmp [(0, .ref 47), (1, .int p1), (2, .int p2), (3, .int s4.1), (4, .int s4.2.1), (5, .int (0 : Int32)), (6, .int s4.2.2)] rfl ⟨rfl, rfl, rfl, rfl, rfl, rfl, rfl, trivial⟩ (fun _ h => h)
                ·
                  refine Go_wh (fun (s15 : Int32 × Int32) => [(0, .ref 47), (1, .int p1), (2, .int p2), (3, .int s4.1), (4, .int s4.2.1), (5, .int (0 : Int32)), (6, .int s4.2.2), (7, .int s15.1), (8, .int s15.2)]) (fun _ => []) (fun (s15 : Int32 × Int32) => (hh X g w3.2)) (fun s15 => ?_) ((0 : Int32), (0 : Int32))
                  refine Go_blk 5 (pc' := 90) (L' := [(0, .ref 47), (1, .int p1), (2, .int p2), (3, .int s4.1), (4, .int s4.2.1), (5, .int (0 : Int32)), (6, .int s4.2.2), (7, .int s15.1), (8, .int s15.2)]) (S' := [.int (w3.2 51 3), .int s15.2]) (h' := (hh X g w3.2)) rfl ?_
                  refine Go_cmpn rfl rfl (ab_cge _ _) ?_ ?_
                  ·
                    refine Go_blk 3 (pc' := 99) (L' := [(0, .ref 47), (1, .int p1), (2, .int p2), (3, .int s4.1), (4, .int s4.2.1), (5, .int (0 : Int32)), (6, .int s4.2.2), (7, .int s15.1), (8, .int s15.2)]) (S' := [.int s15.2, .int s4.2.2, .int s15.1]) (h' := (hh X g w3.2)) rfl ?_
                    refine Go_cR (y' := 313) (As := [.int s4.2.2, .int s15.2]) (r := [.int s15.1]) rfl (g_m_has313 s4.2.2 s15.2 (by omega)) fun v17 => ?_
                    refine Go_seq (pcj := 118) (fun (b18 : Int32) => [(0, .ref 47), (1, .int p1), (2, .int p2), (3, .int s4.1), (4, .int s4.2.1), (5, .int (0 : Int32)), (6, .int s4.2.2), (8, .int s15.2)]) (fun (b18 : Int32) => [.int b18, .int s15.1]) (fun (b18 : Int32) => (hh X g w3.2)) (fun b18 => ?_) ?_
                    ·
                      refine Go_blk 4 (pc' := 82) (L' := [(8, .int (s15.2 + (1 : Int32))), (7, .int (s15.1 + b18)), (0, .ref 47), (1, .int p1), (2, .int p2), (3, .int s4.1), (4, .int s4.2.1), (5, .int (0 : Int32)), (6, .int s4.2.2)]) (S' := []) (h' := (hh X g w3.2)) rfl ?_
                      exact Go_jmp [(0, .ref 47), (1, .int p1), (2, .int p2), (3, .int s4.1), (4, .int s4.2.1), (5, .int (0 : Int32)), (6, .int s4.2.2), (7, .int (s15.1 + b18)), (8, .int (s15.2 + (1 : Int32)))] rfl ⟨rfl, rfl, rfl, rfl, rfl, rfl, rfl, rfl, rfl, trivial⟩ (fun _ h => h)
                    ·
                      refine Go_cmz rfl rfl rfl ?_ ?_
                      ·
                        refine Go_blk 1 (pc' := 118) (L' := [(0, .ref 47), (1, .int p1), (2, .int p2), (3, .int s4.1), (4, .int s4.2.1), (5, .int (0 : Int32)), (6, .int s4.2.2), (7, .int s15.1), (8, .int s15.2)]) (S' := [.int (0 : Int32), .int s15.1]) (h' := (hh X g w3.2)) rfl ?_
                        exact Go_jmp [(0, .ref 47), (1, .int p1), (2, .int p2), (3, .int s4.1), (4, .int s4.2.1), (5, .int (0 : Int32)), (6, .int s4.2.2), (8, .int s15.2)] rfl ⟨rfl, rfl, rfl, rfl, rfl, rfl, rfl, rfl, trivial⟩ (fun _ h => h)
                      ·
                        refine Go_blk 3 (pc' := 111) (L' := [(0, .ref 47), (1, .int p1), (2, .int p2), (3, .int s4.1), (4, .int s4.2.1), (5, .int (0 : Int32)), (6, .int s4.2.2), (7, .int s15.1), (8, .int s15.2)]) (S' := [.int s15.2, .ref 119, .int s15.1]) (h' := (hh X g w3.2)) rfl ?_
                        refine Go_aald rfl fun r19 => ?_
                        refine Go_blk 1 (pc' := 113) (L' := [(0, .ref 47), (1, .int p1), (2, .int p2), (3, .int s4.1), (4, .int s4.2.1), (5, .int (0 : Int32)), (6, .int s4.2.2), (7, .int s15.1), (8, .int s15.2)]) (S' := [.int (3 : Int32), .ref r19, .int s15.1]) (h' := (hh X g w3.2)) rfl ?_
                        refine Go_iald rfl fun v20 => ?_
                        refine Go_blk 1 (pc' := 118) (L' := [(0, .ref 47), (1, .int p1), (2, .int p2), (3, .int s4.1), (4, .int s4.2.1), (5, .int (0 : Int32)), (6, .int s4.2.2), (7, .int s15.1), (8, .int s15.2)]) (S' := [.int v20, .int s15.1]) (h' := (hh X g w3.2)) rfl ?_
                        exact Go_jmp [(0, .ref 47), (1, .int p1), (2, .int p2), (3, .int s4.1), (4, .int s4.2.1), (5, .int (0 : Int32)), (6, .int s4.2.2), (8, .int s15.2)] rfl ⟨rfl, rfl, rfl, rfl, rfl, rfl, rfl, rfl, trivial⟩ (fun _ h => h)
                  ·
                    exact Go_jmp [(0, .ref 47), (1, .int p1), (2, .int p2), (3, .int s4.1), (4, .int s4.2.1), (5, .int (0 : Int32)), (6, .int s4.2.2), (7, .int s15.1)] rfl ⟨rfl, rfl, rfl, rfl, rfl, rfl, rfl, rfl, trivial⟩ (fun _ h => h)
            ·
              exact Go_jmp [(0, .ref 47), (1, .int p1), (2, .int p2), (3, .int s4.1), (4, .int s4.2.1), (5, .int (0 : Int32)), (6, .int s4.2.2)] rfl ⟨rfl, rfl, rfl, rfl, rfl, rfl, rfl, trivial⟩ (fun _ h => h)
    ·
      refine Go_blk 1 (pc' := 37) (L' := [(0, .ref 47), (1, .int p1), (2, .int p2)]) (S' := [.int (0 : Int32)]) (h' := (hh X g w3.2)) rfl ?_
      exact Go_ret (fun _ h => h) rfl
  ·
    refine Go_cmz rfl rfl rfl ?_ ?_
    ·
      refine Go_blk 2 (pc' := 28) (L' := [(0, .ref 47), (1, .int p1), (2, .int p2)]) (S' := [.int (1 : Int32), .ref 47]) (h' := (hh X g (ab_up1 I 47 0 (0 : Int32)))) rfl ?_
      exact Go_jmp [(0, .ref 47), (1, .int p1), (2, .int p2)] rfl ⟨rfl, rfl, rfl, trivial⟩ (fun _ h => h)
    ·
      refine Go_blk 3 (pc' := 17) (L' := [(0, .ref 47), (1, .int p1), (2, .int p2)]) (S' := [.int (2 : Int32), .int (0 : Int32), .int p2, .ref 47]) (h' := (hh X g (ab_up1 I 47 0 (0 : Int32)))) rfl ?_
      refine Go_cR (y' := 264) (As := [.int p2, .int (0 : Int32), .int (2 : Int32)]) (r := [.ref 47]) rfl (g_m_in264 p2 (0 : Int32) (2 : Int32) (by omega)) fun v21 => ?_
      refine Go_cmzn rfl rfl rfl ?_ ?_
      ·
        refine Go_blk 2 (pc' := 28) (L' := [(0, .ref 47), (1, .int p1), (2, .int p2)]) (S' := [.int (1 : Int32), .ref 47]) (h' := (hh X g (ab_up1 I 47 0 (0 : Int32)))) rfl ?_
        exact Go_jmp [(0, .ref 47), (1, .int p1), (2, .int p2)] rfl ⟨rfl, rfl, rfl, trivial⟩ (fun _ h => h)
      ·
        refine Go_blk 1 (pc' := 28) (L' := [(0, .ref 47), (1, .int p1), (2, .int p2)]) (S' := [.int (0 : Int32), .ref 47]) (h' := (hh X g (ab_up1 I 47 0 (0 : Int32)))) rfl ?_
        exact Go_jmp [(0, .ref 47), (1, .int p1), (2, .int p2)] rfl ⟨rfl, rfl, rfl, trivial⟩ (fun _ h => h)
set_option maxRecDepth 1000000 in
set_option maxHeartbeats 4000000 in
theorem g_sta_unlikeHours221 (p1 : Int32) (p2 : Int32) {X : XX} {g : GG} {I : MJ} {d : Nat} (hd : 2 ≤ d) : Go d 221 0 (lv_args 0 [.ref 15, .int p1, .int p2]) [] (hh X g I) (f_sta_unlikeHours221 p1 p2 I) (pR X g I) := by
  obtain ⟨d, rfl⟩ : ∃ k, d = k + 1 := ⟨d - 1, by omega⟩
  unfold f_sta_unlikeHours221
  refine Go_blk 2 (pc' := 2) (L' := [(0, .ref 15), (1, .int p1), (2, .int p2)]) (S' := [.int p1, .ref 15]) (h' := (hh X g I)) rfl ?_
  refine Go_cR (y' := 108) (As := [.ref 15, .int p1]) (r := []) rfl (g_sta_hasSuit108_15 p1 (by omega)) fun v1 => ?_
  refine Go_cmz rfl rfl rfl ?_ ?_
  ·
    refine Go_blk 1 (pc' := 17) (L' := [(0, .ref 15), (1, .int p1), (2, .int p2)]) (S' := [.int (0 : Int32)]) (h' := (hh X g I)) rfl ?_
    exact Go_ret (fun _ h => h) rfl
  ·
    refine Go_blk 2 (pc' := 10) (L' := [(0, .ref 15), (1, .int p1), (2, .int p2)]) (S' := [.int p2, .ref 15]) (h' := (hh X g I)) rfl ?_
    refine Go_cR (y' := 108) (As := [.ref 15, .int p2]) (r := []) rfl (g_sta_hasSuit108_15 p2 (by omega)) fun v2 => ?_
    refine Go_cmzn rfl rfl rfl ?_ ?_
    ·
      refine Go_blk 1 (pc' := 17) (L' := [(0, .ref 15), (1, .int p1), (2, .int p2)]) (S' := [.int (0 : Int32)]) (h' := (hh X g I)) rfl ?_
      exact Go_ret (fun _ h => h) rfl
    ·
      refine Go_blk 4 (pc' := 23) (L' := [(4, .int (0 : Int32)), (3, .int (0 : Int32)), (0, .ref 15), (1, .int p1), (2, .int p2)]) (S' := []) (h' := (hh X g I)) rfl ?_
      refine Go_lcs [(0, .ref 15), (1, .int p1), (2, .int p2), (3, .int (0 : Int32)), (4, .int (0 : Int32))] rfl ⟨rfl, rfl, rfl, rfl, rfl, trivial⟩ ?_
      refine Go_seq (pcj := 83) (fun (b4 : Int32) => [(3, .int b4)]) (fun (b4 : Int32) => []) (fun (b4 : Int32) => (hh X g I)) (fun b4 => ?_) ?_
      ·
        refine Go_blk 1 (pc' := 84) (L' := [(3, .int b4)]) (S' := [.int b4]) (h' := (hh X g I)) rfl ?_
        exact Go_ret (fun _ h => h) rfl
      ·
        refine Go_wh (fun (s3 : Int32 × Int32) => [(0, .ref 15), (1, .int p1), (2, .int p2), (3, .int s3.1), (4, .int s3.2)]) (fun _ => []) (fun (s3 : Int32 × Int32) => (hh X g I)) (fun s3 => ?_) ((0 : Int32), (0 : Int32))
        refine Go_blk 2 (pc' := 27) (L' := [(0, .ref 15), (1, .int p1), (2, .int p2), (3, .int s3.1), (4, .int s3.2)]) (S' := [.int (12 : Int32), .int s3.2]) (h' := (hh X g I)) rfl ?_
        refine Go_cmpn rfl rfl (ab_cge _ _) ?_ ?_
        ·
          refine Go_blk 3 (pc' := 34) (L' := [(0, .ref 15), (1, .int p1), (2, .int p2), (3, .int s3.1), (4, .int s3.2)]) (S' := [.int s3.2, .int p1, .ref 15]) (h' := (hh X g I)) rfl ?_
          refine Go_cR (y' := 116) (As := [.ref 15, .int p1, .int s3.2]) (r := []) rfl (g_sta_wornAt116_15 p1 s3.2 (by omega)) fun v5 => ?_
          refine Go_blk 4 (pc' := 43) (L' := [(5, .int v5), (0, .ref 15), (1, .int p1), (2, .int p2), (3, .int s3.1), (4, .int s3.2)]) (S' := [.int s3.2, .int p2, .ref 15]) (h' := (hh X g I)) rfl ?_
          refine Go_cR (y' := 116) (As := [.ref 15, .int p2, .int s3.2]) (r := []) rfl (g_sta_wornAt116_15 p2 s3.2 (by omega)) fun v6 => ?_
          refine Go_blk 4 (pc' := 53) (L' := [(6, .int v6), (5, .int v5), (0, .ref 15), (1, .int p1), (2, .int p2), (3, .int s3.1), (4, .int s3.2)]) (S' := [.int v6, .int v5, .int s3.1]) (h' := (hh X g I)) rfl ?_
          refine Go_seq (pcj := 75) (fun (b7 : Int32) => [(0, .ref 15), (1, .int p1), (2, .int p2), (4, .int s3.2)]) (fun (b7 : Int32) => [.int b7, .int s3.1]) (fun (b7 : Int32) => (hh X g I)) (fun b7 => ?_) ?_
          ·
            refine Go_blk 4 (pc' := 23) (L' := [(4, .int (s3.2 + (1 : Int32))), (3, .int (s3.1 + b7)), (0, .ref 15), (1, .int p1), (2, .int p2)]) (S' := []) (h' := (hh X g I)) rfl ?_
            exact Go_jmp [(0, .ref 15), (1, .int p1), (2, .int p2), (3, .int (s3.1 + b7)), (4, .int (s3.2 + (1 : Int32)))] rfl ⟨rfl, rfl, rfl, rfl, rfl, trivial⟩ (fun _ h => h)
          ·
            refine Go_cmp rfl rfl rfl ?_ ?_
            ·
              refine Go_blk 1 (pc' := 75) (L' := [(6, .int v6), (5, .int v5), (0, .ref 15), (1, .int p1), (2, .int p2), (3, .int s3.1), (4, .int s3.2)]) (S' := [.int (0 : Int32), .int s3.1]) (h' := (hh X g I)) rfl ?_
              exact Go_jmp [(0, .ref 15), (1, .int p1), (2, .int p2), (4, .int s3.2)] rfl ⟨rfl, rfl, rfl, rfl, trivial⟩ (fun _ h => h)
            ·
              refine Go_blk 2 (pc' := 60) (L' := [(6, .int v6), (5, .int v5), (0, .ref 15), (1, .int p1), (2, .int p2), (3, .int s3.1), (4, .int s3.2)]) (S' := [.int (6 : Int32), .int v5, .int s3.1]) (h' := (hh X g I)) rfl ?_
              refine Go_cmp rfl rfl rfl ?_ ?_
              ·
                refine Go_blk 1 (pc' := 75) (L' := [(6, .int v6), (5, .int v5), (0, .ref 15), (1, .int p1), (2, .int p2), (3, .int s3.1), (4, .int s3.2)]) (S' := [.int (0 : Int32), .int s3.1]) (h' := (hh X g I)) rfl ?_
                exact Go_jmp [(0, .ref 15), (1, .int p1), (2, .int p2), (4, .int s3.2)] rfl ⟨rfl, rfl, rfl, rfl, trivial⟩ (fun _ h => h)
              ·
                refine Go_blk 2 (pc' := 67) (L' := [(6, .int v6), (5, .int v5), (0, .ref 15), (1, .int p1), (2, .int p2), (3, .int s3.1), (4, .int s3.2)]) (S' := [.int (6 : Int32), .int v6, .int s3.1]) (h' := (hh X g I)) rfl ?_
                refine Go_cmp rfl rfl rfl ?_ ?_
                ·
                  refine Go_blk 1 (pc' := 75) (L' := [(6, .int v6), (5, .int v5), (0, .ref 15), (1, .int p1), (2, .int p2), (3, .int s3.1), (4, .int s3.2)]) (S' := [.int (0 : Int32), .int s3.1]) (h' := (hh X g I)) rfl ?_
                  exact Go_jmp [(0, .ref 15), (1, .int p1), (2, .int p2), (4, .int s3.2)] rfl ⟨rfl, rfl, rfl, rfl, trivial⟩ (fun _ h => h)
                ·
                  refine Go_blk 2 (pc' := 75) (L' := [(6, .int v6), (5, .int v5), (0, .ref 15), (1, .int p1), (2, .int p2), (3, .int s3.1), (4, .int s3.2)]) (S' := [.int (1 : Int32), .int s3.1]) (h' := (hh X g I)) rfl ?_
                  exact Go_jmp [(0, .ref 15), (1, .int p1), (2, .int p2), (4, .int s3.2)] rfl ⟨rfl, rfl, rfl, rfl, trivial⟩ (fun _ h => h)
        ·
          exact Go_jmp [(3, .int s3.1)] rfl ⟨rfl, trivial⟩ (fun _ h => h)
set_option maxRecDepth 1000000 in
set_option maxHeartbeats 4000000 in
theorem g_x_words220 (p1 : Int32) {X : XX} {g : GG} {I : MJ} {d : Nat} (hd : 3 ≤ d) : Go d 220 0 (lv_args 0 [.ref 0, .int p1]) [] (hh X g I) (f_x_words220 p1 I) (pT vI X g) := by
  obtain ⟨d, rfl⟩ : ∃ k, d = k + 1 := ⟨d - 1, by omega⟩
  unfold f_x_words220
  refine Go_blk 4 (pc' := 5) (L' := [(0, .ref 0), (1, .int p1)]) (S' := [.int (9 : Int32), .int (0 : Int32), .int p1, .ref 0]) (h' := (hh X g I)) rfl ?_
  refine Go_cT (y' := 38) (As := [.ref 0, .int p1, .int (0 : Int32), .int (9 : Int32)]) (r := []) rfl rfl (g_x_needWithin38 p1 (0 : Int32) (9 : Int32) (by omega)) fun v1 I2 => ?_
  refine Go_blk 4 (pc' := 12) (L' := [(3, .int (0 : Int32)), (2, .int (0 : Int32)), (0, .ref 0), (1, .int p1)]) (S' := []) (h' := (hh X g I2)) rfl ?_
  refine Go_lcs [(0, .ref 0), (1, .int p1), (2, .int (0 : Int32)), (3, .int (0 : Int32))] rfl ⟨rfl, rfl, rfl, rfl, trivial⟩ ?_
  refine Go_seq (pcj := 90) (fun (b4 : Int32) => [(2, .int b4)]) (fun (b4 : Int32) => []) (fun (b4 : Int32) => (hh X g I2)) (fun b4 => ?_) ?_
  ·
    refine Go_blk 1 (pc' := 91) (L' := [(2, .int b4)]) (S' := [.int b4]) (h' := (hh X g I2)) rfl ?_
    exact Go_ret (fun _ h => h) rfl
  ·
    refine Go_wh (fun (s3 : Int32 × Int32) => [(0, .ref 0), (1, .int p1), (2, .int s3.1), (3, .int s3.2)]) (fun _ => []) (fun (s3 : Int32 × Int32) => (hh X g I2)) (fun s3 => ?_) ((0 : Int32), (0 : Int32))
    refine Go_blk 4 (pc' := 20) (L' := [(0, .ref 0), (1, .int p1), (2, .int s3.1), (3, .int s3.2)]) (S' := [.int (I2 3 6), .int s3.2]) (h' := (hh X g I2)) rfl ?_
    refine Go_cmpn rfl rfl (ab_cge _ _) ?_ ?_
    ·
      refine Go_blk 4 (pc' := 28) (L' := [(4, .int (s3.2 + (1 : Int32))), (0, .ref 0), (1, .int p1), (2, .int s3.1), (3, .int s3.2)]) (S' := []) (h' := (hh X g I2)) rfl ?_
      refine Go_lcs [(0, .ref 0), (1, .int p1), (2, .int s3.1), (3, .int s3.2), (4, .int (s3.2 + (1 : Int32)))] rfl ⟨rfl, rfl, rfl, rfl, rfl, trivial⟩ ?_
      refine Go_seq (pcj := 84) (fun (b6 : Int32) => [(0, .ref 0), (1, .int p1), (2, .int b6), (3, .int s3.2)]) (fun (b6 : Int32) => []) (fun (b6 : Int32) => (hh X g I2)) (fun b6 => ?_) ?_
      ·
        refine Go_blk 2 (pc' := 12) (L' := [(3, .int (s3.2 + (1 : Int32))), (0, .ref 0), (1, .int p1), (2, .int b6)]) (S' := []) (h' := (hh X g I2)) rfl ?_
        exact Go_jmp [(0, .ref 0), (1, .int p1), (2, .int b6), (3, .int (s3.2 + (1 : Int32)))] rfl ⟨rfl, rfl, rfl, rfl, trivial⟩ (fun _ h => h)
      ·
        refine Go_wh (fun (s5 : Int32 × Int32) => [(0, .ref 0), (1, .int p1), (2, .int s5.1), (3, .int s3.2), (4, .int s5.2)]) (fun _ => []) (fun (s5 : Int32 × Int32) => (hh X g I2)) (fun s5 => ?_) (s3.1, (s3.2 + (1 : Int32)))
        refine Go_blk 4 (pc' := 37) (L' := [(0, .ref 0), (1, .int p1), (2, .int s5.1), (3, .int s3.2), (4, .int s5.2)]) (S' := [.int (I2 3 6), .int s5.2]) (h' := (hh X g I2)) rfl ?_
        refine Go_cmpn rfl rfl (ab_cge _ _) ?_ ?_
        ·
          refine Go_blk 3 (pc' := 45) (L' := [(0, .ref 0), (1, .int p1), (2, .int s5.1), (3, .int s3.2), (4, .int s5.2)]) (S' := [.int s3.2, .ref 3]) (h' := (hh X g I2)) rfl ?_
          refine Go_cR (y' := 150) (As := [.ref 3, .int s3.2]) (r := []) rfl (g_sho_streetOf150 s3.2 (by omega)) fun v7 => ?_
          refine Go_blk 1 (pc' := 49) (L' := [(0, .ref 0), (1, .int p1), (2, .int s5.1), (3, .int s3.2), (4, .int s5.2)]) (S' := [.int p1, .int v7]) (h' := (hh X g I2)) rfl ?_
          refine Go_seq (pcj := 78) (fun (b8 : Int32) => [(0, .ref 0), (1, .int p1), (2, .int b8), (3, .int s3.2), (4, .int s5.2)]) (fun (b8 : Int32) => []) (fun (b8 : Int32) => (hh X g I2)) (fun b8 => ?_) ?_
          ·
            refine Go_blk 2 (pc' := 28) (L' := [(4, .int (s5.2 + (1 : Int32))), (0, .ref 0), (1, .int p1), (2, .int b8), (3, .int s3.2)]) (S' := []) (h' := (hh X g I2)) rfl ?_
            exact Go_jmp [(0, .ref 0), (1, .int p1), (2, .int b8), (3, .int s3.2), (4, .int (s5.2 + (1 : Int32)))] rfl ⟨rfl, rfl, rfl, rfl, rfl, trivial⟩ (fun _ h => h)
          ·
            refine Go_cmpn rfl rfl rfl ?_ ?_
            ·
              refine Go_blk 3 (pc' := 58) (L' := [(0, .ref 0), (1, .int p1), (2, .int s5.1), (3, .int s3.2), (4, .int s5.2)]) (S' := [.int s5.2, .ref 3]) (h' := (hh X g I2)) rfl ?_
              refine Go_cR (y' := 150) (As := [.ref 3, .int s5.2]) (r := []) rfl (g_sho_streetOf150 s5.2 (by omega)) fun v9 => ?_
              refine Go_blk 1 (pc' := 62) (L' := [(0, .ref 0), (1, .int p1), (2, .int s5.1), (3, .int s3.2), (4, .int s5.2)]) (S' := [.int p1, .int v9]) (h' := (hh X g I2)) rfl ?_
              refine Go_cmpn rfl rfl rfl ?_ ?_
              ·
                refine Go_blk 5 (pc' := 73) (L' := [(0, .ref 0), (1, .int p1), (2, .int s5.1), (3, .int s3.2), (4, .int s5.2)]) (S' := [.int s5.2, .int s3.2, .ref 15, .int s5.1]) (h' := (hh X g I2)) rfl ?_
                refine Go_cR (y' := 221) (As := [.ref 15, .int s3.2, .int s5.2]) (r := [.int s5.1]) rfl (g_sta_unlikeHours221 s3.2 s5.2 (by omega)) fun v10 => ?_
                refine Go_blk 2 (pc' := 78) (L' := [(2, .int (s5.1 + v10)), (0, .ref 0), (1, .int p1), (3, .int s3.2), (4, .int s5.2)]) (S' := []) (h' := (hh X g I2)) rfl ?_
                exact Go_jmp [(0, .ref 0), (1, .int p1), (2, .int (s5.1 + v10)), (3, .int s3.2), (4, .int s5.2)] rfl ⟨rfl, rfl, rfl, rfl, rfl, trivial⟩ (fun _ h => h)
              ·
                exact Go_jmp [(0, .ref 0), (1, .int p1), (2, .int s5.1), (3, .int s3.2), (4, .int s5.2)] rfl ⟨rfl, rfl, rfl, rfl, rfl, trivial⟩ (fun _ h => h)
            ·
              exact Go_jmp [(0, .ref 0), (1, .int p1), (2, .int s5.1), (3, .int s3.2), (4, .int s5.2)] rfl ⟨rfl, rfl, rfl, rfl, rfl, trivial⟩ (fun _ h => h)
        ·
          exact Go_jmp [(0, .ref 0), (1, .int p1), (2, .int s5.1), (3, .int s3.2)] rfl ⟨rfl, rfl, rfl, rfl, trivial⟩ (fun _ h => h)
    ·
      exact Go_jmp [(2, .int s3.1)] rfl ⟨rfl, trivial⟩ (fun _ h => h)
set_option maxRecDepth 1000000 in
set_option maxHeartbeats 4000000 in
theorem g_l_words219 (p1 : Int32) {X : XX} {g : GG} {I : MJ} {d : Nat} (hd : 4 ≤ d) : Go d 219 0 (lv_args 0 [.ref 0, .int p1, .ref 698]) [] (hh X g I) (f_l_words219 p1 I g) (pG X) := by
  obtain ⟨d, rfl⟩ : ∃ k, d = k + 1 := ⟨d - 1, by omega⟩
  unfold f_l_words219
  refine Go_blk 4 (pc' := 4) (L' := [(0, .ref 0), (1, .int p1), (2, .ref 698)]) (S' := [.int p1, .ref 0, .int (0 : Int32), .ref 698]) (h' := (hh X g I)) rfl ?_
  refine Go_try (y' := 220) (As := [.ref 0, .int p1]) (r := [.int (0 : Int32), .ref 698]) rfl (g_x_words220 p1 (by omega)) (fun v1 I2 => ?_) (fun E2 I2 => ?_)
  ·
    refine Go_blk 1 (pc' := 8) (L' := [(0, .ref 0), (1, .int p1), (2, .ref 698)]) (S' := [.long (v1.toInt64), .int (0 : Int32), .ref 698]) (h' := (hh X g I2)) rfl ?_
    refine Go_last rfl fun g3 => ?_
    refine Go_blk 2 (pc' := 16) (L' := [(0, .ref 0), (1, .int p1), (2, .ref 698)]) (S' := [.int (0 : Int32)]) (h' := (hh X g3 I2)) rfl ?_
    exact Go_ret (fun _ h => h) rfl
  ·
    refine GX_ite ?_ ?_
    ·
      refine GX_go rfl (t := 13) (k := 3) rfl ?_
      refine Go_blk 1 (pc' := 14) (L' := [(0, .ref 0), (1, .int p1), (2, .ref 698)]) (S' := [.int (1 : Int32)]) (h' := (hh X (thr g) I2)) rfl ?_
      exact Go_ret (fun _ h => h) rfl
    exact GX_none
set_option maxRecDepth 1000000 in
set_option maxHeartbeats 4000000 in
theorem g_m_words359 (p1 : Int32) {X : XX} {g : GG} {I : MJ} {d : Nat} (hd : 1 ≤ d) : Go d 359 0 (lv_args 0 [.ref 47, .int p1]) [] (hh X g I) (f_m_words359 p1 I) (pW X g) := by
  obtain ⟨d, rfl⟩ : ∃ k, d = k + 1 := ⟨d - 1, by omega⟩
  unfold f_m_words359
  refine Go_blk 7 (pc' := 10) (L' := [(0, .ref 47), (1, .int p1)]) (S' := [.int (9 : Int32), .int (0 : Int32), .int p1, .ref 47]) (h' := (hh X g (ab_up1 I 47 0 (0 : Int32)))) rfl ?_
  refine Go_cR (y' := 264) (As := [.int p1, .int (0 : Int32), .int (9 : Int32)]) (r := [.ref 47]) rfl (g_m_in264 p1 (0 : Int32) (9 : Int32) (by omega)) fun v1 => ?_
  refine Go_seq (pcj := 21) (fun (b2 : Int32) => [(0, .ref 47), (1, .int p1)]) (fun (b2 : Int32) => [.int b2, .ref 47]) (fun (b2 : Int32) => (hh X g (ab_up1 I 47 0 (0 : Int32)))) (fun b2 => ?_) ?_
  ·
    refine Go_blk 2 (pc' := 23) (L' := [(0, .ref 47), (1, .int p1)]) (S' := [.int (1 : Int32), .int (1 : Int32), .int b2, .ref 47]) (h' := (hh X g (ab_up1 I 47 0 (0 : Int32)))) rfl ?_
    refine Go_cW (y' := 268) (As := [.ref 47, .int b2, .int (1 : Int32), .int (1 : Int32)]) (r := []) rfl (g_m_bad268 b2 (1 : Int32) (1 : Int32) (by omega)) fun w3 => ?_
    refine Go_cmz rfl rfl rfl ?_ ?_
    ·
      refine Go_blk 4 (pc' := 35) (L' := [(3, .int (0 : Int32)), (2, .int (0 : Int32)), (0, .ref 47), (1, .int p1)]) (S' := []) (h' := (hh X g w3.2)) rfl ?_
      refine Go_lcs [(0, .ref 47), (1, .int p1), (2, .int (0 : Int32)), (3, .int (0 : Int32))] rfl ⟨rfl, rfl, rfl, rfl, trivial⟩ ?_
      refine Go_seq (pcj := 187) (fun (b5 : Int32) => [(2, .int b5)]) (fun (b5 : Int32) => []) (fun (b5 : Int32) => (hh X g w3.2)) (fun b5 => ?_) ?_
      ·
        refine Go_blk 1 (pc' := 188) (L' := [(2, .int b5)]) (S' := [.int b5]) (h' := (hh X g w3.2)) rfl ?_
        exact Go_ret (fun _ h => h) rfl
      ·
        refine Go_wh (fun (s4 : Int32 × Int32) => [(0, .ref 47), (1, .int p1), (2, .int s4.1), (3, .int s4.2)]) (fun _ => []) (fun (s4 : Int32 × Int32) => (hh X g w3.2)) (fun s4 => ?_) ((0 : Int32), (0 : Int32))
        refine Go_blk 5 (pc' := 42) (L' := [(0, .ref 47), (1, .int p1), (2, .int s4.1), (3, .int s4.2)]) (S' := [.int (w3.2 51 1), .int s4.2]) (h' := (hh X g w3.2)) rfl ?_
        refine Go_cmpn rfl rfl (ab_cge _ _) ?_ ?_
        ·
          refine Go_blk 2 (pc' := 48) (L' := [(4, .int (0 : Int32)), (0, .ref 47), (1, .int p1), (2, .int s4.1), (3, .int s4.2)]) (S' := []) (h' := (hh X g w3.2)) rfl ?_
          refine Go_lcs [(0, .ref 47), (1, .int p1), (2, .int s4.1), (3, .int s4.2), (4, .int (0 : Int32))] rfl ⟨rfl, rfl, rfl, rfl, rfl, trivial⟩ ?_
          refine Go_seq (pcj := 181) (fun (b7 : Int32) => [(0, .ref 47), (1, .int p1), (2, .int b7), (3, .int s4.2)]) (fun (b7 : Int32) => []) (fun (b7 : Int32) => (hh X g w3.2)) (fun b7 => ?_) ?_
          ·
            refine Go_blk 2 (pc' := 35) (L' := [(3, .int (s4.2 + (1 : Int32))), (0, .ref 47), (1, .int p1), (2, .int b7)]) (S' := []) (h' := (hh X g w3.2)) rfl ?_
            exact Go_jmp [(0, .ref 47), (1, .int p1), (2, .int b7), (3, .int (s4.2 + (1 : Int32)))] rfl ⟨rfl, rfl, rfl, rfl, trivial⟩ (fun _ h => h)
          ·
            refine Go_wh (fun (s6 : Int32 × Int32) => [(0, .ref 47), (1, .int p1), (2, .int s6.1), (3, .int s4.2), (4, .int s6.2)]) (fun _ => []) (fun (s6 : Int32 × Int32) => (hh X g w3.2)) (fun s6 => ?_) (s4.1, (0 : Int32))
            refine Go_blk 2 (pc' := 51) (L' := [(0, .ref 47), (1, .int p1), (2, .int s6.1), (3, .int s4.2), (4, .int s6.2)]) (S' := [.int s4.2, .int s6.2]) (h' := (hh X g w3.2)) rfl ?_
            refine Go_cmpn rfl rfl (ab_cge _ _) ?_ ?_
            ·
              refine Go_blk 3 (pc' := 59) (L' := [(0, .ref 47), (1, .int p1), (2, .int s6.1), (3, .int s4.2), (4, .int s6.2)]) (S' := [.int s4.2, .ref 53]) (h' := (hh X g w3.2)) rfl ?_
              refine Go_iald rfl fun v8 => ?_
              refine Go_blk 1 (pc' := 61) (L' := [(0, .ref 47), (1, .int p1), (2, .int s6.1), (3, .int s4.2), (4, .int s6.2)]) (S' := [.int p1, .int v8]) (h' := (hh X g w3.2)) rfl ?_
              refine Go_seq (pcj := 175) (fun (b9 : Int32) => [(0, .ref 47), (1, .int p1), (2, .int b9), (3, .int s4.2), (4, .int s6.2)]) (fun (b9 : Int32) => []) (fun (b9 : Int32) => (hh X g w3.2)) (fun b9 => ?_) ?_
              ·
                refine Go_blk 2 (pc' := 48) (L' := [(4, .int (s6.2 + (1 : Int32))), (0, .ref 47), (1, .int p1), (2, .int b9), (3, .int s4.2)]) (S' := []) (h' := (hh X g w3.2)) rfl ?_
                exact Go_jmp [(0, .ref 47), (1, .int p1), (2, .int b9), (3, .int s4.2), (4, .int (s6.2 + (1 : Int32)))] rfl ⟨rfl, rfl, rfl, rfl, rfl, trivial⟩ (fun _ h => h)
              ·
                refine Go_cmpn rfl rfl rfl ?_ ?_
                ·
                  refine Go_blk 3 (pc' := 70) (L' := [(0, .ref 47), (1, .int p1), (2, .int s6.1), (3, .int s4.2), (4, .int s6.2)]) (S' := [.int s6.2, .ref 53]) (h' := (hh X g w3.2)) rfl ?_
                  refine Go_iald rfl fun v10 => ?_
                  refine Go_blk 1 (pc' := 72) (L' := [(0, .ref 47), (1, .int p1), (2, .int s6.1), (3, .int s4.2), (4, .int s6.2)]) (S' := [.int p1, .int v10]) (h' := (hh X g w3.2)) rfl ?_
                  refine Go_cmpn rfl rfl rfl ?_ ?_
                  ·
                    refine Go_blk 3 (pc' := 80) (L' := [(0, .ref 47), (1, .int p1), (2, .int s6.1), (3, .int s4.2), (4, .int s6.2)]) (S' := [.int s4.2, .ref 576]) (h' := (hh X g w3.2)) rfl ?_
                    refine Go_cR (y' := 305) (As := [.ref 576, .int s4.2]) (r := []) rfl (g_m_hasSuit305 576 s4.2 (by omega)) fun v11 => ?_
                    refine Go_cmz rfl rfl rfl ?_ ?_
                    ·
                      exact Go_jmp [(0, .ref 47), (1, .int p1), (2, .int s6.1), (3, .int s4.2), (4, .int s6.2)] rfl ⟨rfl, rfl, rfl, rfl, rfl, trivial⟩ (fun _ h => h)
                    ·
                      refine Go_blk 3 (pc' := 92) (L' := [(0, .ref 47), (1, .int p1), (2, .int s6.1), (3, .int s4.2), (4, .int s6.2)]) (S' := [.int s6.2, .ref 576]) (h' := (hh X g w3.2)) rfl ?_
                      refine Go_cR (y' := 305) (As := [.ref 576, .int s6.2]) (r := []) rfl (g_m_hasSuit305 576 s6.2 (by omega)) fun v12 => ?_
                      refine Go_cmzn rfl rfl rfl ?_ ?_
                      ·
                        refine Go_blk 1 (pc' := 175) (L' := [(0, .ref 47), (1, .int p1), (2, .int s6.1), (3, .int s4.2), (4, .int s6.2)]) (S' := []) (h' := (hh X g w3.2)) rfl ?_
                        exact Go_jmp [(0, .ref 47), (1, .int p1), (2, .int s6.1), (3, .int s4.2), (4, .int s6.2)] rfl ⟨rfl, rfl, rfl, rfl, rfl, trivial⟩ (fun _ h => h)
                      ·
                        refine Go_blk 2 (pc' := 104) (L' := [(5, .int (0 : Int32)), (0, .ref 47), (1, .int p1), (2, .int s6.1), (3, .int s4.2), (4, .int s6.2)]) (S' := []) (h' := (hh X g w3.2)) rfl ?_
                        refine Go_lcs [(0, .ref 47), (1, .int p1), (2, .int s6.1), (3, .int s4.2), (4, .int s6.2), (5, .int (0 : Int32))] rfl ⟨rfl, rfl, rfl, rfl, rfl, rfl, trivial⟩ ?_
                        refine Go_seq (pcj := 175) (fun (b14 : Int32) => [(0, .ref 47), (1, .int p1), (2, .int b14), (3, .int s4.2), (4, .int s6.2)]) (fun (b14 : Int32) => []) (fun (b14 : Int32) => (hh X g w3.2)) (fun b14 => ?_) ?_
                        ·
                          exact Go_jmp [(0, .ref 47), (1, .int p1), (2, .int b14), (3, .int s4.2), (4, .int s6.2)] rfl ⟨rfl, rfl, rfl, rfl, rfl, trivial⟩ (fun _ h => h)
                        ·
                          refine Go_wh (fun (s13 : Int32 × Int32) => [(0, .ref 47), (1, .int p1), (2, .int s13.1), (3, .int s4.2), (4, .int s6.2), (5, .int s13.2)]) (fun _ => []) (fun (s13 : Int32 × Int32) => (hh X g w3.2)) (fun s13 => ?_) (s6.1, (0 : Int32))
                          refine Go_blk 2 (pc' := 108) (L' := [(0, .ref 47), (1, .int p1), (2, .int s13.1), (3, .int s4.2), (4, .int s6.2), (5, .int s13.2)]) (S' := [.int (12 : Int32), .int s13.2]) (h' := (hh X g w3.2)) rfl ?_
                          refine Go_cmpn rfl rfl (ab_cge _ _) ?_ ?_
                          ·
                            refine Go_blk 3 (pc' := 116) (L' := [(0, .ref 47), (1, .int p1), (2, .int s13.1), (3, .int s4.2), (4, .int s6.2), (5, .int s13.2)]) (S' := [.int s4.2, .ref 576]) (h' := (hh X g w3.2)) rfl ?_
                            refine Go_cR (y' := 310) (As := [.int s4.2]) (r := [.ref 576]) rfl (g_m_suitOf310 s4.2 (by omega)) fun v15 => ?_
                            refine Go_blk 2 (pc' := 122) (L' := [(0, .ref 47), (1, .int p1), (2, .int s13.1), (3, .int s4.2), (4, .int s6.2), (5, .int s13.2)]) (S' := [.int (v15 + s13.2), .ref 576]) (h' := (hh X g w3.2)) rfl ?_
                            refine Go_iald rfl fun v16 => ?_
                            refine Go_blk 4 (pc' := 131) (L' := [(6, .int v16), (0, .ref 47), (1, .int p1), (2, .int s13.1), (3, .int s4.2), (4, .int s6.2), (5, .int s13.2)]) (S' := [.int s6.2, .ref 576]) (h' := (hh X g w3.2)) rfl ?_
                            refine Go_cR (y' := 310) (As := [.int s6.2]) (r := [.ref 576]) rfl (g_m_suitOf310 s6.2 (by omega)) fun v17 => ?_
                            refine Go_blk 2 (pc' := 137) (L' := [(6, .int v16), (0, .ref 47), (1, .int p1), (2, .int s13.1), (3, .int s4.2), (4, .int s6.2), (5, .int s13.2)]) (S' := [.int (v17 + s13.2), .ref 576]) (h' := (hh X g w3.2)) rfl ?_
                            refine Go_iald rfl fun v18 => ?_
                            refine Go_blk 4 (pc' := 145) (L' := [(7, .int v18), (6, .int v16), (0, .ref 47), (1, .int p1), (2, .int s13.1), (3, .int s4.2), (4, .int s6.2), (5, .int s13.2)]) (S' := [.int v18, .int v16, .int s13.1]) (h' := (hh X g w3.2)) rfl ?_
                            refine Go_seq (pcj := 167) (fun (b19 : Int32) => [(0, .ref 47), (1, .int p1), (3, .int s4.2), (4, .int s6.2), (5, .int s13.2)]) (fun (b19 : Int32) => [.int b19, .int s13.1]) (fun (b19 : Int32) => (hh X g w3.2)) (fun b19 => ?_) ?_
                            ·
                              refine Go_blk 4 (pc' := 104) (L' := [(5, .int (s13.2 + (1 : Int32))), (2, .int (s13.1 + b19)), (0, .ref 47), (1, .int p1), (3, .int s4.2), (4, .int s6.2)]) (S' := []) (h' := (hh X g w3.2)) rfl ?_
                              exact Go_jmp [(0, .ref 47), (1, .int p1), (2, .int (s13.1 + b19)), (3, .int s4.2), (4, .int s6.2), (5, .int (s13.2 + (1 : Int32)))] rfl ⟨rfl, rfl, rfl, rfl, rfl, rfl, trivial⟩ (fun _ h => h)
                            ·
                              refine Go_cmp rfl rfl rfl ?_ ?_
                              ·
                                refine Go_blk 1 (pc' := 167) (L' := [(7, .int v18), (6, .int v16), (0, .ref 47), (1, .int p1), (2, .int s13.1), (3, .int s4.2), (4, .int s6.2), (5, .int s13.2)]) (S' := [.int (0 : Int32), .int s13.1]) (h' := (hh X g w3.2)) rfl ?_
                                exact Go_jmp [(0, .ref 47), (1, .int p1), (3, .int s4.2), (4, .int s6.2), (5, .int s13.2)] rfl ⟨rfl, rfl, rfl, rfl, rfl, trivial⟩ (fun _ h => h)
                              ·
                                refine Go_blk 2 (pc' := 152) (L' := [(7, .int v18), (6, .int v16), (0, .ref 47), (1, .int p1), (2, .int s13.1), (3, .int s4.2), (4, .int s6.2), (5, .int s13.2)]) (S' := [.int (6 : Int32), .int v16, .int s13.1]) (h' := (hh X g w3.2)) rfl ?_
                                refine Go_cmp rfl rfl rfl ?_ ?_
                                ·
                                  refine Go_blk 1 (pc' := 167) (L' := [(7, .int v18), (6, .int v16), (0, .ref 47), (1, .int p1), (2, .int s13.1), (3, .int s4.2), (4, .int s6.2), (5, .int s13.2)]) (S' := [.int (0 : Int32), .int s13.1]) (h' := (hh X g w3.2)) rfl ?_
                                  exact Go_jmp [(0, .ref 47), (1, .int p1), (3, .int s4.2), (4, .int s6.2), (5, .int s13.2)] rfl ⟨rfl, rfl, rfl, rfl, rfl, trivial⟩ (fun _ h => h)
                                ·
                                  refine Go_blk 2 (pc' := 159) (L' := [(7, .int v18), (6, .int v16), (0, .ref 47), (1, .int p1), (2, .int s13.1), (3, .int s4.2), (4, .int s6.2), (5, .int s13.2)]) (S' := [.int (6 : Int32), .int v18, .int s13.1]) (h' := (hh X g w3.2)) rfl ?_
                                  refine Go_cmp rfl rfl rfl ?_ ?_
                                  ·
                                    refine Go_blk 1 (pc' := 167) (L' := [(7, .int v18), (6, .int v16), (0, .ref 47), (1, .int p1), (2, .int s13.1), (3, .int s4.2), (4, .int s6.2), (5, .int s13.2)]) (S' := [.int (0 : Int32), .int s13.1]) (h' := (hh X g w3.2)) rfl ?_
                                    exact Go_jmp [(0, .ref 47), (1, .int p1), (3, .int s4.2), (4, .int s6.2), (5, .int s13.2)] rfl ⟨rfl, rfl, rfl, rfl, rfl, trivial⟩ (fun _ h => h)
                                  ·
                                    refine Go_blk 2 (pc' := 167) (L' := [(7, .int v18), (6, .int v16), (0, .ref 47), (1, .int p1), (2, .int s13.1), (3, .int s4.2), (4, .int s6.2), (5, .int s13.2)]) (S' := [.int (1 : Int32), .int s13.1]) (h' := (hh X g w3.2)) rfl ?_
                                    exact Go_jmp [(0, .ref 47), (1, .int p1), (3, .int s4.2), (4, .int s6.2), (5, .int s13.2)] rfl ⟨rfl, rfl, rfl, rfl, rfl, trivial⟩ (fun _ h => h)
                          ·
                            exact Go_jmp [(0, .ref 47), (1, .int p1), (2, .int s13.1), (3, .int s4.2), (4, .int s6.2)] rfl ⟨rfl, rfl, rfl, rfl, rfl, trivial⟩ (fun _ h => h)
                  ·
                    exact Go_jmp [(0, .ref 47), (1, .int p1), (2, .int s6.1), (3, .int s4.2), (4, .int s6.2)] rfl ⟨rfl, rfl, rfl, rfl, rfl, trivial⟩ (fun _ h => h)
                ·
                  exact Go_jmp [(0, .ref 47), (1, .int p1), (2, .int s6.1), (3, .int s4.2), (4, .int s6.2)] rfl ⟨rfl, rfl, rfl, rfl, rfl, trivial⟩ (fun _ h => h)
            ·
              exact Go_jmp [(0, .ref 47), (1, .int p1), (2, .int s6.1), (3, .int s4.2)] rfl ⟨rfl, rfl, rfl, rfl, trivial⟩ (fun _ h => h)
        ·
          exact Go_jmp [(2, .int s4.1)] rfl ⟨rfl, trivial⟩ (fun _ h => h)
    ·
      refine Go_blk 1 (pc' := 30) (L' := [(0, .ref 47), (1, .int p1)]) (S' := [.int (0 : Int32)]) (h' := (hh X g w3.2)) rfl ?_
      exact Go_ret (fun _ h => h) rfl
  ·
    refine Go_cmzn rfl rfl rfl ?_ ?_
    ·
      refine Go_blk 2 (pc' := 21) (L' := [(0, .ref 47), (1, .int p1)]) (S' := [.int (1 : Int32), .ref 47]) (h' := (hh X g (ab_up1 I 47 0 (0 : Int32)))) rfl ?_
      exact Go_jmp [(0, .ref 47), (1, .int p1)] rfl ⟨rfl, rfl, trivial⟩ (fun _ h => h)
    ·
      refine Go_blk 1 (pc' := 21) (L' := [(0, .ref 47), (1, .int p1)]) (S' := [.int (0 : Int32), .ref 47]) (h' := (hh X g (ab_up1 I 47 0 (0 : Int32)))) rfl ?_
      exact Go_jmp [(0, .ref 47), (1, .int p1)] rfl ⟨rfl, rfl, trivial⟩ (fun _ h => h)
set_option maxRecDepth 1000000 in
set_option maxHeartbeats 4000000 in
theorem g_x_wholeOf225 (p0 : Int64) (p2 : Int64) {X : XX} {g : GG} {I : MJ} {d : Nat} (hd : 0 ≤ d) : Go d 225 0 (lv_args 0 [.long p0, .long p2]) [] (hh X g I) (f_x_wholeOf225 p0 p2 I) (pR X g I) := by
  unfold f_x_wholeOf225
  refine Go_blk 3 (pc' := 3) (L' := [(0, .long p0), (2, .long p2)]) (S' := [.int (lg_cmp p2 (0 : Int64))]) (h' := (hh X g I)) rfl ?_
  refine Go_seq (pcj := 14) (fun (b1 : Int32) => []) (fun (b1 : Int32) => [.int b1]) (fun (b1 : Int32) => (hh X g I)) (fun b1 => ?_) ?_
  ·
    exact Go_ret (fun _ h => h) rfl
  ·
    refine Go_cmzn rfl rfl (ab_cle0 _) ?_ ?_
    ·
      refine Go_blk 2 (pc' := 8) (L' := [(0, .long p0), (2, .long p2)]) (S' := [.long p2, .long p0]) (h' := (hh X g I)) rfl ?_
      refine Go_ldiv rfl fun v2 => ?_
      refine Go_blk 2 (pc' := 14) (L' := [(0, .long p0), (2, .long p2)]) (S' := [.int (v2.toInt32)]) (h' := (hh X g I)) rfl ?_
      exact Go_jmp [] rfl trivial (fun _ h => h)
    ·
      refine Go_blk 1 (pc' := 14) (L' := [(0, .long p0), (2, .long p2)]) (S' := [.int (0 : Int32)]) (h' := (hh X g I)) rfl ?_
      exact Go_jmp [] rfl trivial (fun _ h => h)
set_option maxRecDepth 1000000 in
set_option maxHeartbeats 4000000 in
theorem g_x_commonPart226 (p0 : Int64) (p2 : Int64) {X : XX} {g : GG} {I : MJ} {d : Nat} (hd : 0 ≤ d) : Go d 226 0 (lv_args 0 [.long p0, .long p2]) [] (hh X g I) (f_x_commonPart226 p0 p2 I) (pL X g I) := by
  unfold f_x_commonPart226
  refine Go_blk 6 (pc' := 9) (L' := [(8, .int (0 : Int32)), (6, .long p2), (4, .long p0), (0, .long p0), (2, .long p2)]) (S' := []) (h' := (hh X g I)) rfl ?_
  refine Go_lcs [(4, .long p0), (6, .long p2), (8, .int (0 : Int32))] rfl ⟨rfl, rfl, rfl, trivial⟩ ?_
  refine Go_seq (pcj := 45) (fun (b2 : Int64) => [(4, .long b2)]) (fun (b2 : Int64) => []) (fun (b2 : Int64) => (hh X g I)) (fun b2 => ?_) ?_
  ·
    refine Go_blk 1 (pc' := 47) (L' := [(4, .long b2)]) (S' := [.long b2]) (h' := (hh X g I)) rfl ?_
    exact Go_ret (fun _ h => h) rfl
  ·
    refine Go_wh (fun (s1 : Int64 × Int64 × Int32) => [(4, .long s1.1), (6, .long s1.2.1), (8, .int s1.2.2)]) (fun _ => []) (fun (s1 : Int64 × Int64 × Int32) => (hh X g I)) (fun s1 => ?_) (p0, p2, (0 : Int32))
    refine Go_blk 2 (pc' := 14) (L' := [(4, .long s1.1), (6, .long s1.2.1), (8, .int s1.2.2)]) (S' := [.int (1000 : Int32), .int s1.2.2]) (h' := (hh X g I)) rfl ?_
    refine Go_cmpn rfl rfl (ab_cge _ _) ?_ ?_
    ·
      refine Go_blk 3 (pc' := 21) (L' := [(4, .long s1.1), (6, .long s1.2.1), (8, .int s1.2.2)]) (S' := [.int (lg_cmp s1.2.1 (0 : Int64))]) (h' := (hh X g I)) rfl ?_
      refine Go_cmz rfl rfl rfl ?_ ?_
      ·
        exact Go_jmp [(4, .long s1.1)] rfl ⟨rfl, trivial⟩ (fun _ h => h)
      ·
        refine Go_blk 2 (pc' := 28) (L' := [(4, .long s1.1), (6, .long s1.2.1), (8, .int s1.2.2)]) (S' := [.long s1.2.1, .long s1.1]) (h' := (hh X g I)) rfl ?_
        refine Go_lrem rfl fun v3 => ?_
        refine Go_blk 7 (pc' := 9) (L' := [(8, .int (s1.2.2 + (1 : Int32))), (6, .long v3), (4, .long s1.2.1), (9, .long v3)]) (S' := []) (h' := (hh X g I)) rfl ?_
        exact Go_jmp [(4, .long s1.2.1), (6, .long v3), (8, .int (s1.2.2 + (1 : Int32)))] rfl ⟨rfl, rfl, rfl, trivial⟩ (fun _ h => h)
    ·
      exact Go_jmp [(4, .long s1.1)] rfl ⟨rfl, trivial⟩ (fun _ h => h)
set_option maxRecDepth 1000000 in
set_option maxHeartbeats 4000000 in
theorem g_x_meanPrice224 (p0 : Int32) (p1 : Int32) {X : XX} {g : GG} {I : MJ} {d : Nat} (hd : 1 ≤ d) : Go d 224 0 (lv_args 0 [.int p0, .int p1]) [] (hh X g I) (f_x_meanPrice224 p0 p1 I) (pL X g I) := by
  obtain ⟨d, rfl⟩ : ∃ k, d = k + 1 := ⟨d - 1, by omega⟩
  unfold f_x_meanPrice224
  refine Go_blk 6 (pc' := 12) (L' := [(6, .int (1 : Int32)), (4, .long (2 : Int64)), (2, .long (9 : Int64)), (0, .int p0), (1, .int p1)]) (S' := []) (h' := (hh X g I)) rfl ?_
  refine Go_lcs [(0, .int p0), (1, .int p1), (2, .long (9 : Int64)), (4, .long (2 : Int64)), (6, .int (1 : Int32))] rfl ⟨rfl, rfl, rfl, rfl, rfl, trivial⟩ ?_
  refine Go_seq (pcj := 113) (fun (b2 : Int64 × Int64) => [(1, .int p1), (2, .long b2.1), (4, .long b2.2)]) (fun (b2 : Int64 × Int64) => []) (fun (b2 : Int64 × Int64) => (hh X g I)) (fun b2 => ?_) ?_
  ·
    refine Go_blk 1 (pc' := 114) (L' := [(1, .int p1), (2, .long b2.1), (4, .long b2.2)]) (S' := [.int p1]) (h' := (hh X g I)) rfl ?_
    refine Go_seq (pcj := 123) (fun (b3 : Int64) => []) (fun (b3 : Int64) => [.long b3]) (fun (b3 : Int64) => (hh X g I)) (fun b3 => ?_) ?_
    ·
      exact Go_ret (fun _ h => h) rfl
    ·
      refine Go_cmzn rfl rfl rfl ?_ ?_
      ·
        refine Go_blk 2 (pc' := 123) (L' := [(1, .int p1), (2, .long b2.1), (4, .long b2.2)]) (S' := [.long b2.1]) (h' := (hh X g I)) rfl ?_
        exact Go_jmp [] rfl trivial (fun _ h => h)
      ·
        refine Go_blk 1 (pc' := 123) (L' := [(1, .int p1), (2, .long b2.1), (4, .long b2.2)]) (S' := [.long b2.2]) (h' := (hh X g I)) rfl ?_
        exact Go_jmp [] rfl trivial (fun _ h => h)
  ·
    refine Go_wh (fun (s1 : Int64 × Int64 × Int32) => [(0, .int p0), (1, .int p1), (2, .long s1.1), (4, .long s1.2.1), (6, .int s1.2.2)]) (fun _ => []) (fun (s1 : Int64 × Int64 × Int32) => (hh X g I)) (fun s1 => ?_) ((9 : Int64), (2 : Int64), (1 : Int32))
    refine Go_blk 2 (pc' := 15) (L' := [(0, .int p0), (1, .int p1), (2, .long s1.1), (4, .long s1.2.1), (6, .int s1.2.2)]) (S' := [.int p0, .int s1.2.2]) (h' := (hh X g I)) rfl ?_
    refine Go_cmpn rfl rfl (ab_cge _ _) ?_ ?_
    ·
      refine Go_blk 2 (pc' := 21) (L' := [(0, .int p0), (1, .int p1), (2, .long s1.1), (4, .long s1.2.1), (6, .int s1.2.2)]) (S' := [.long s1.2.1, .long s1.1]) (h' := (hh X g I)) rfl ?_
      refine Go_cR (y' := 225) (As := [.long s1.1, .long s1.2.1]) (r := []) rfl (g_x_wholeOf225 s1.1 s1.2.1 (by omega)) fun v4 => ?_
      refine Go_blk 9 (pc' := 38) (L' := [(7, .int v4), (0, .int p0), (1, .int p1), (2, .long s1.1), (4, .long s1.2.1), (6, .int s1.2.2)]) (S' := [.long (2 : Int64), .long ((v4.toInt64) * ((v4 + (1 : Int32)).toInt64))]) (h' := (hh X g I)) rfl ?_
      refine Go_ldiv rfl fun v5 => ?_
      refine Go_blk 18 (pc' := 67) (L' := [(4, .long (s1.2.1 * (10 : Int64))), (2, .long ((v5 * s1.2.1) + ((((9 : Int32) - v4).toInt64) * s1.1))), (8, .long v5), (7, .int v4), (0, .int p0), (1, .int p1), (6, .int s1.2.2)]) (S' := [.long (s1.2.1 * (10 : Int64)), .long ((v5 * s1.2.1) + ((((9 : Int32) - v4).toInt64) * s1.1))]) (h' := (hh X g I)) rfl ?_
      refine Go_cJ (y' := 226) (As := [.long ((v5 * s1.2.1) + ((((9 : Int32) - v4).toInt64) * s1.1)), .long (s1.2.1 * (10 : Int64))]) (r := []) rfl (g_x_commonPart226 ((v5 * s1.2.1) + ((((9 : Int32) - v4).toInt64) * s1.1)) (s1.2.1 * (10 : Int64)) (by omega)) fun v6 => ?_
      refine Go_blk 4 (pc' := 76) (L' := [(10, .long v6), (4, .long (s1.2.1 * (10 : Int64))), (2, .long ((v5 * s1.2.1) + ((((9 : Int32) - v4).toInt64) * s1.1))), (8, .long v5), (7, .int v4), (0, .int p0), (1, .int p1), (6, .int s1.2.2)]) (S' := [.int (lg_cmp v6 (0 : Int64))]) (h' := (hh X g I)) rfl ?_
      refine Go_seq (pcj := 87) (fun (b7 : Int64) => [(0, .int p0), (1, .int p1), (4, .long (s1.2.1 * (10 : Int64))), (6, .int s1.2.2), (10, .long v6)]) (fun (b7 : Int64) => [.long b7]) (fun (b7 : Int64) => (hh X g I)) (fun b7 => ?_) ?_
      ·
        refine Go_blk 4 (pc' := 92) (L' := [(2, .long b7), (0, .int p0), (1, .int p1), (4, .long (s1.2.1 * (10 : Int64))), (6, .int s1.2.2), (10, .long v6)]) (S' := [.int (lg_cmp v6 (0 : Int64))]) (h' := (hh X g I)) rfl ?_
        refine Go_seq (pcj := 105) (fun (b8 : Int64) => [(0, .int p0), (1, .int p1), (2, .long b7), (6, .int s1.2.2)]) (fun (b8 : Int64) => [.long b8]) (fun (b8 : Int64) => (hh X g I)) (fun b8 => ?_) ?_
        ·
          refine Go_blk 3 (pc' := 12) (L' := [(6, .int (s1.2.2 + (1 : Int32))), (4, .long b8), (0, .int p0), (1, .int p1), (2, .long b7)]) (S' := []) (h' := (hh X g I)) rfl ?_
          exact Go_jmp [(0, .int p0), (1, .int p1), (2, .long b7), (4, .long b8), (6, .int (s1.2.2 + (1 : Int32)))] rfl ⟨rfl, rfl, rfl, rfl, rfl, trivial⟩ (fun _ h => h)
        ·
          refine Go_cmzn rfl rfl (ab_cle0 _) ?_ ?_
          ·
            refine Go_blk 2 (pc' := 99) (L' := [(2, .long b7), (0, .int p0), (1, .int p1), (4, .long (s1.2.1 * (10 : Int64))), (6, .int s1.2.2), (10, .long v6)]) (S' := [.long v6, .long (s1.2.1 * (10 : Int64))]) (h' := (hh X g I)) rfl ?_
            refine Go_ldiv rfl fun v9 => ?_
            refine Go_blk 1 (pc' := 105) (L' := [(2, .long b7), (0, .int p0), (1, .int p1), (4, .long (s1.2.1 * (10 : Int64))), (6, .int s1.2.2), (10, .long v6)]) (S' := [.long v9]) (h' := (hh X g I)) rfl ?_
            exact Go_jmp [(0, .int p0), (1, .int p1), (2, .long b7), (6, .int s1.2.2)] rfl ⟨rfl, rfl, rfl, rfl, trivial⟩ (fun _ h => h)
          ·
            refine Go_blk 1 (pc' := 105) (L' := [(2, .long b7), (0, .int p0), (1, .int p1), (4, .long (s1.2.1 * (10 : Int64))), (6, .int s1.2.2), (10, .long v6)]) (S' := [.long (s1.2.1 * (10 : Int64))]) (h' := (hh X g I)) rfl ?_
            exact Go_jmp [(0, .int p0), (1, .int p1), (2, .long b7), (6, .int s1.2.2)] rfl ⟨rfl, rfl, rfl, rfl, trivial⟩ (fun _ h => h)
      ·
        refine Go_cmzn rfl rfl (ab_cle0 _) ?_ ?_
        ·
          refine Go_blk 2 (pc' := 82) (L' := [(10, .long v6), (4, .long (s1.2.1 * (10 : Int64))), (2, .long ((v5 * s1.2.1) + ((((9 : Int32) - v4).toInt64) * s1.1))), (8, .long v5), (7, .int v4), (0, .int p0), (1, .int p1), (6, .int s1.2.2)]) (S' := [.long v6, .long ((v5 * s1.2.1) + ((((9 : Int32) - v4).toInt64) * s1.1))]) (h' := (hh X g I)) rfl ?_
          refine Go_ldiv rfl fun v10 => ?_
          refine Go_blk 1 (pc' := 87) (L' := [(10, .long v6), (4, .long (s1.2.1 * (10 : Int64))), (2, .long ((v5 * s1.2.1) + ((((9 : Int32) - v4).toInt64) * s1.1))), (8, .long v5), (7, .int v4), (0, .int p0), (1, .int p1), (6, .int s1.2.2)]) (S' := [.long v10]) (h' := (hh X g I)) rfl ?_
          exact Go_jmp [(0, .int p0), (1, .int p1), (4, .long (s1.2.1 * (10 : Int64))), (6, .int s1.2.2), (10, .long v6)] rfl ⟨rfl, rfl, rfl, rfl, rfl, trivial⟩ (fun _ h => h)
        ·
          refine Go_blk 1 (pc' := 87) (L' := [(10, .long v6), (4, .long (s1.2.1 * (10 : Int64))), (2, .long ((v5 * s1.2.1) + ((((9 : Int32) - v4).toInt64) * s1.1))), (8, .long v5), (7, .int v4), (0, .int p0), (1, .int p1), (6, .int s1.2.2)]) (S' := [.long ((v5 * s1.2.1) + ((((9 : Int32) - v4).toInt64) * s1.1))]) (h' := (hh X g I)) rfl ?_
          exact Go_jmp [(0, .int p0), (1, .int p1), (4, .long (s1.2.1 * (10 : Int64))), (6, .int s1.2.2), (10, .long v6)] rfl ⟨rfl, rfl, rfl, rfl, rfl, trivial⟩ (fun _ h => h)
    ·
      exact Go_jmp [(1, .int p1), (2, .long s1.1), (4, .long s1.2.1)] rfl ⟨rfl, rfl, rfl, trivial⟩ (fun _ h => h)
set_option maxRecDepth 1000000 in
set_option maxHeartbeats 4000000 in
theorem g_x_offers223 (p1 : Int32) (p2 : Int32) {X : XX} {g : GG} {I : MJ} {d : Nat} (hd : 2 ≤ d) : Go d 223 0 (lv_args 0 [.ref 0, .int p1, .int p2]) [] (hh X g I) (f_x_offers223 p1 p2 I) (pT vJ X g) := by
  obtain ⟨d, rfl⟩ : ∃ k, d = k + 1 := ⟨d - 1, by omega⟩
  unfold f_x_offers223
  refine Go_blk 4 (pc' := 5) (L' := [(0, .ref 0), (1, .int p1), (2, .int p2)]) (S' := [.int (8 : Int32), .int (1 : Int32), .int p1, .ref 0]) (h' := (hh X g I)) rfl ?_
  refine Go_cT (y' := 38) (As := [.ref 0, .int p1, .int (1 : Int32), .int (8 : Int32)]) (r := []) rfl rfl (g_x_needWithin38 p1 (1 : Int32) (8 : Int32) (by omega)) fun v1 I2 => ?_
  refine Go_blk 4 (pc' := 12) (L' := [(0, .ref 0), (1, .int p1), (2, .int p2)]) (S' := [.int (1 : Int32), .int (0 : Int32), .int p2, .ref 0]) (h' := (hh X g I2)) rfl ?_
  refine Go_cT (y' := 38) (As := [.ref 0, .int p2, .int (0 : Int32), .int (1 : Int32)]) (r := []) rfl rfl (g_x_needWithin38 p2 (0 : Int32) (1 : Int32) (by omega)) fun v3 I4 => ?_
  refine Go_blk 2 (pc' := 17) (L' := [(0, .ref 0), (1, .int p1), (2, .int p2)]) (S' := [.int p2, .int p1]) (h' := (hh X g I4)) rfl ?_
  refine Go_cJ (y' := 224) (As := [.int p1, .int p2]) (r := []) rfl (g_x_meanPrice224 p1 p2 (by omega)) fun v5 => ?_
  exact Go_ret (fun _ h => h) rfl
set_option maxRecDepth 1000000 in
set_option maxHeartbeats 4000000 in
theorem g_l_offers222 (p1 : Int32) (p2 : Int32) {X : XX} {g : GG} {I : MJ} {d : Nat} (hd : 3 ≤ d) : Go d 222 0 (lv_args 0 [.ref 0, .int p1, .int p2, .ref 698]) [] (hh X g I) (f_l_offers222 p1 p2 I g) (pG X) := by
  obtain ⟨d, rfl⟩ : ∃ k, d = k + 1 := ⟨d - 1, by omega⟩
  unfold f_l_offers222
  refine Go_blk 5 (pc' := 5) (L' := [(0, .ref 0), (1, .int p1), (2, .int p2), (3, .ref 698)]) (S' := [.int p2, .int p1, .ref 0, .int (0 : Int32), .ref 698]) (h' := (hh X g I)) rfl ?_
  refine Go_try (y' := 223) (As := [.ref 0, .int p1, .int p2]) (r := [.int (0 : Int32), .ref 698]) rfl (g_x_offers223 p1 p2 (by omega)) (fun v1 I2 => ?_) (fun E2 I2 => ?_)
  ·
    refine Go_last rfl fun g3 => ?_
    refine Go_blk 2 (pc' := 17) (L' := [(0, .ref 0), (1, .int p1), (2, .int p2), (3, .ref 698)]) (S' := [.int (0 : Int32)]) (h' := (hh X g3 I2)) rfl ?_
    exact Go_ret (fun _ h => h) rfl
  ·
    refine GX_ite ?_ ?_
    ·
      refine GX_go rfl (t := 14) (k := 4) rfl ?_
      refine Go_blk 1 (pc' := 15) (L' := [(0, .ref 0), (1, .int p1), (2, .int p2), (3, .ref 698)]) (S' := [.int (1 : Int32)]) (h' := (hh X (thr g) I2)) rfl ?_
      exact Go_ret (fun _ h => h) rfl
    exact GX_none
