/-! the machine runs them (written by wip/whole/dec.py) -/
set_option maxRecDepth 1000000 in
set_option maxHeartbeats 4000000 in
theorem g_m_shop267 (p1 : Int32) {X : XX} {g : GG} {I : MJ} {d : Nat} (hd : 7 ≤ d) : Go d 267 0 (lv_args 0 [.ref 47, .int p1]) [] (hh X g I) (f_m_shop267 p1 I) (pW X g) := by
  obtain ⟨d, rfl⟩ : ∃ k, d = k + 1 := ⟨d - 1, by omega⟩
  unfold f_m_shop267
  refine Go_blk 8 (pc' := 12) (L' := [(0, .ref 47), (1, .int p1)]) (S' := [.int (I 47 1), .int (0 : Int32), .int p1, .ref 47]) (h' := (hh X g (ab_up1 I 47 0 (0 : Int32)))) rfl ?_
  refine Go_cR (y' := 264) (As := [.int p1, .int (0 : Int32), .int (I 47 1)]) (r := [.ref 47]) rfl (g_m_in264 p1 (0 : Int32) (I 47 1) (by omega)) fun v1 => ?_
  refine Go_seq (pcj := 23) (fun (b2 : Int32) => [(0, .ref 47), (1, .int p1)]) (fun (b2 : Int32) => [.int b2, .ref 47]) (fun (b2 : Int32) => (hh X g (ab_up1 I 47 0 (0 : Int32)))) (fun b2 => ?_) ?_
  ·
    refine Go_blk 2 (pc' := 25) (L' := [(0, .ref 47), (1, .int p1)]) (S' := [.int (1 : Int32), .int (1 : Int32), .int b2, .ref 47]) (h' := (hh X g (ab_up1 I 47 0 (0 : Int32)))) rfl ?_
    refine Go_cW (y' := 268) (As := [.ref 47, .int b2, .int (1 : Int32), .int (1 : Int32)]) (r := []) rfl (g_m_bad268 b2 (1 : Int32) (1 : Int32) (by omega)) fun w3 => ?_
    refine Go_cmz rfl rfl rfl ?_ ?_
    ·
      refine Go_blk 2 (pc' := 35) (L' := [(0, .ref 47), (1, .int p1)]) (S' := [.int p1, .ref 47]) (h' := (hh X g w3.2)) rfl ?_
      refine Go_cV (y' := 269) (As := [.ref 47, .int p1]) (r := []) rfl (g_m_starts269 p1 (by omega)) fun I4 => ?_
      refine Go_blk 1 (pc' := 39) (L' := [(0, .ref 47), (1, .int p1)]) (S' := [.ref 47]) (h' := (hh X g I4)) rfl ?_
      refine Go_cV (y' := 261) (As := [.ref 47]) (r := []) rfl (g_m_tellsNothing261  (by omega)) fun I5 => ?_
      refine Go_lcs [(0, .ref 47)] rfl ⟨rfl, trivial⟩ ?_
      refine Go_seq (pcj := 71) (fun (b7 : MJ) => [(0, .ref 47)]) (fun (b7 : MJ) => []) (fun (b7 : MJ) => (hh X g b7)) (fun b7 => ?_) ?_
      ·
        refine Go_blk 2 (pc' := 75) (L' := [(0, .ref 47)]) (S' := [.int (b7 47 5)]) (h' := (hh X g b7)) rfl ?_
        refine Go_cmz rfl rfl rfl ?_ ?_
        ·
          refine Go_blk 4 (pc' := 89) (L' := [(0, .ref 47)]) (S' := [.ref 47]) (h' := (hh X g (ab_up1 b7 47 3 (-1 : Int32)))) rfl ?_
          refine Go_cV (y' := 262) (As := [.ref 47]) (r := []) rfl (g_m_stands262  (by omega)) fun I8 => ?_
          refine Go_blk 4 (pc' := 98) (L' := [(0, .ref 47)]) (S' := [.int (I8 51 1)]) (h' := (hh X g I8)) rfl ?_
          exact Go_ret (fun _ h => h) rfl
        ·
          refine Go_blk 1 (pc' := 79) (L' := [(0, .ref 47)]) (S' := [.ref 47]) (h' := (hh X g b7)) rfl ?_
          refine Go_cW (y' := 286) (As := [.ref 47]) (r := []) rfl (g_m_ends286  (by omega)) fun w9 => ?_
          exact Go_ret (fun _ h => h) rfl
      ·
        refine Go_wh (fun (s6 : MJ) => [(0, .ref 47)]) (fun _ => []) (fun (s6 : MJ) => (hh X g s6)) (fun s6 => ?_) I5
        refine Go_blk 2 (pc' := 46) (L' := [(0, .ref 47)]) (S' := [.int (s6 47 5)]) (h' := (hh X g s6)) rfl ?_
        refine Go_cmzn rfl rfl rfl ?_ ?_
        ·
          refine Go_blk 4 (pc' := 57) (L' := [(0, .ref 47)]) (S' := [.int (s6 47 2), .int (s6 47 4)]) (h' := (hh X g s6)) rfl ?_
          refine Go_cmpn rfl rfl (ab_cge _ _) ?_ ?_
          ·
            refine Go_blk 1 (pc' := 61) (L' := [(0, .ref 47)]) (S' := [.ref 47]) (h' := (hh X g s6)) rfl ?_
            refine Go_cV (y' := 272) (As := [.ref 47]) (r := []) rfl (g_m_clause272  (by omega)) fun I10 => ?_
            refine Go_blk 1 (pc' := 65) (L' := [(0, .ref 47)]) (S' := [.ref 47]) (h' := (hh X g I10)) rfl ?_
            refine Go_cV (y' := 270) (As := [.ref 47]) (r := []) rfl (g_m_blanks270  (by omega)) fun I11 => ?_
            refine Go_blk 1 (pc' := 42) (L' := [(0, .ref 47)]) (S' := []) (h' := (hh X g I11)) rfl ?_
            exact Go_jmp [(0, .ref 47)] rfl ⟨rfl, trivial⟩ (fun _ h => h)
          ·
            exact Go_jmp [(0, .ref 47)] rfl ⟨rfl, trivial⟩ (fun _ h => h)
        ·
          exact Go_jmp [(0, .ref 47)] rfl ⟨rfl, trivial⟩ (fun _ h => h)
    ·
      refine Go_blk 1 (pc' := 32) (L' := [(0, .ref 47), (1, .int p1)]) (S' := [.int (0 : Int32)]) (h' := (hh X g w3.2)) rfl ?_
      exact Go_ret (fun _ h => h) rfl
  ·
    refine Go_cmzn rfl rfl rfl ?_ ?_
    ·
      refine Go_blk 2 (pc' := 23) (L' := [(0, .ref 47), (1, .int p1)]) (S' := [.int (1 : Int32), .ref 47]) (h' := (hh X g (ab_up1 I 47 0 (0 : Int32)))) rfl ?_
      exact Go_jmp [(0, .ref 47), (1, .int p1)] rfl ⟨rfl, rfl, trivial⟩ (fun _ h => h)
    ·
      refine Go_blk 1 (pc' := 23) (L' := [(0, .ref 47), (1, .int p1)]) (S' := [.int (0 : Int32), .ref 47]) (h' := (hh X g (ab_up1 I 47 0 (0 : Int32)))) rfl ?_
      exact Go_jmp [(0, .ref 47), (1, .int p1)] rfl ⟨rfl, rfl, trivial⟩ (fun _ h => h)
set_option maxRecDepth 1000000 in
set_option maxHeartbeats 4000000 in
theorem g_m_thrown265  {X : XX} {g : GG} {I : MJ} {d : Nat} (hd : 0 ≤ d) : Go d 265 0 (lv_args 0 [.ref 47]) [] (hh X g I) (f_m_thrown265  I) (pR X g I) := by
  unfold f_m_thrown265
  refine Go_blk 2 (pc' := 4) (L' := [(0, .ref 47)]) (S' := [.int (I 47 0)]) (h' := (hh X g I)) rfl ?_
  exact Go_ret (fun _ h => h) rfl
set_option maxRecDepth 1000000 in
set_option maxHeartbeats 4000000 in
theorem g_x_refuseElement70  {X : XX} {g : GG} {I : MJ} {d : Nat} (hd : 0 ≤ d) : Go d 70 0 (lv_args 0 [.ref 0]) [] (hh X g I) (f_x_refuseElement70  I) (pT vU X g) := by
  unfold f_x_refuseElement70
  refine Go_blk 6 (pc' := 10) (L' := [(0, .ref 0)]) (S' := []) (h' := (hh X g (ab_up1 I 0 14 ((I 0 14) + (1 : Int32))))) rfl ?_
  exact Go_ret (fun _ h => h) rfl
set_option maxRecDepth 1000000 in
set_option maxHeartbeats 4000000 in
theorem g_x_needElement69 (p1 : Int32) (p2 : Int32) {X : XX} {g : GG} {I : MJ} {d : Nat} (hd : 1 ≤ d) : Go d 69 0 (lv_args 0 [.ref 0, .int p1, .int p2]) [] (hh X g I) (f_x_needElement69 p1 p2 I) (pT vU X g) := by
  obtain ⟨d, rfl⟩ : ∃ k, d = k + 1 := ⟨d - 1, by omega⟩
  unfold f_x_needElement69
  refine Go_blk 1 (pc' := 1) (L' := [(0, .ref 0), (1, .int p1), (2, .int p2)]) (S' := [.int p1]) (h' := (hh X g I)) rfl ?_
  refine Go_cmz rfl rfl rfl ?_ ?_
  ·
    refine Go_blk 1 (pc' := 10) (L' := [(0, .ref 0), (1, .int p1), (2, .int p2)]) (S' := [.ref 0]) (h' := (hh X g I)) rfl ?_
    refine Go_cT (y' := 70) (As := [.ref 0]) (r := []) rfl rfl (g_x_refuseElement70  (by omega)) fun v1 I2 => ?_
    exact Go_ret (fun _ h => h) rfl
  ·
    refine Go_blk 2 (pc' := 6) (L' := [(0, .ref 0), (1, .int p1), (2, .int p2)]) (S' := [.int p2, .int p1]) (h' := (hh X g I)) rfl ?_
    refine Go_cmp rfl rfl rfl ?_ ?_
    ·
      exact Go_ret (fun _ h => h) rfl
    ·
      refine Go_blk 1 (pc' := 10) (L' := [(0, .ref 0), (1, .int p1), (2, .int p2)]) (S' := [.ref 0]) (h' := (hh X g I)) rfl ?_
      refine Go_cT (y' := 70) (As := [.ref 0]) (r := []) rfl rfl (g_x_refuseElement70  (by omega)) fun v3 I4 => ?_
      exact Go_ret (fun _ h => h) rfl
set_option maxRecDepth 1000000 in
set_option maxHeartbeats 4000000 in
theorem g_x_needPattern68 (p1 : Int32) {X : XX} {g : GG} {I : MJ} {d : Nat} (hd : 2 ≤ d) : Go d 68 0 (lv_args 0 [.ref 0, .int p1]) [] (hh X g I) (f_x_needPattern68 p1 I) (pT vU X g) := by
  obtain ⟨d, rfl⟩ : ∃ k, d = k + 1 := ⟨d - 1, by omega⟩
  unfold f_x_needPattern68
  refine Go_blk 3 (pc' := 4) (L' := [(0, .ref 0), (1, .int p1)]) (S' := [.int (6 : Int32), .int p1, .ref 0]) (h' := (hh X g I)) rfl ?_
  refine Go_cT (y' := 69) (As := [.ref 0, .int p1, .int (6 : Int32)]) (r := []) rfl rfl (g_x_needElement69 p1 (6 : Int32) (by omega)) fun v1 I2 => ?_
  exact Go_ret (fun _ h => h) rfl
set_option maxRecDepth 1000000 in
set_option maxHeartbeats 4000000 in
theorem g_tap_isNext73 (p1 : Int32) {X : XX} {g : GG} {I : MJ} {d : Nat} (hd : 1 ≤ d) : Go d 73 0 (lv_args 0 [.ref 1, .int p1]) [] (hh X g I) (f_tap_isNext73 p1 I) (pW X g) := by
  obtain ⟨d, rfl⟩ : ∃ k, d = k + 1 := ⟨d - 1, by omega⟩
  unfold f_tap_isNext73
  refine Go_blk 2 (pc' := 4) (L' := [(0, .ref 1), (1, .int p1)]) (S' := [.int (I 1 5)]) (h' := (hh X g I)) rfl ?_
  refine Go_seq (pcj := 20) (fun (b1 : Int32 × MJ) => []) (fun (b1 : Int32 × MJ) => [.int b1.1]) (fun (b1 : Int32 × MJ) => (hh X g b1.2)) (fun b1 => ?_) ?_
  ·
    exact Go_ret (fun _ h => h) rfl
  ·
    refine Go_cmzn rfl rfl rfl ?_ ?_
    ·
      refine Go_blk 1 (pc' := 8) (L' := [(0, .ref 1), (1, .int p1)]) (S' := [.ref 1]) (h' := (hh X g I)) rfl ?_
      refine Go_cW (y' := 43) (As := [.ref 1]) (r := []) rfl (g_tap_next43  (by omega)) fun w2 => ?_
      refine Go_blk 1 (pc' := 12) (L' := [(0, .ref 1), (1, .int p1)]) (S' := [.int p1, .int w2.1]) (h' := (hh X g w2.2)) rfl ?_
      refine Go_cmpn rfl rfl rfl ?_ ?_
      ·
        refine Go_blk 2 (pc' := 20) (L' := [(0, .ref 1), (1, .int p1)]) (S' := [.int (1 : Int32)]) (h' := (hh X g w2.2)) rfl ?_
        exact Go_jmp [] rfl trivial (fun _ h => h)
      ·
        refine Go_blk 1 (pc' := 20) (L' := [(0, .ref 1), (1, .int p1)]) (S' := [.int (0 : Int32)]) (h' := (hh X g w2.2)) rfl ?_
        exact Go_jmp [] rfl trivial (fun _ h => h)
    ·
      refine Go_blk 1 (pc' := 20) (L' := [(0, .ref 1), (1, .int p1)]) (S' := [.int (0 : Int32)]) (h' := (hh X g I)) rfl ?_
      exact Go_jmp [] rfl trivial (fun _ h => h)
set_option maxRecDepth 1000000 in
set_option maxHeartbeats 4000000 in
theorem g_tap_isNumberNext74  {X : XX} {g : GG} {I : MJ} {d : Nat} (hd : 1 ≤ d) : Go d 74 0 (lv_args 0 [.ref 1]) [] (hh X g I) (f_tap_isNumberNext74  I) (pW X g) := by
  obtain ⟨d, rfl⟩ : ∃ k, d = k + 1 := ⟨d - 1, by omega⟩
  unfold f_tap_isNumberNext74
  refine Go_blk 2 (pc' := 4) (L' := [(0, .ref 1)]) (S' := [.int (I 1 5)]) (h' := (hh X g I)) rfl ?_
  refine Go_seq (pcj := 22) (fun (b1 : Int32 × MJ) => []) (fun (b1 : Int32 × MJ) => [.int b1.1]) (fun (b1 : Int32 × MJ) => (hh X g b1.2)) (fun b1 => ?_) ?_
  ·
    exact Go_ret (fun _ h => h) rfl
  ·
    refine Go_cmzn rfl rfl rfl ?_ ?_
    ·
      refine Go_blk 1 (pc' := 8) (L' := [(0, .ref 1)]) (S' := [.ref 1]) (h' := (hh X g I)) rfl ?_
      refine Go_cW (y' := 43) (As := [.ref 1]) (r := []) rfl (g_tap_next43  (by omega)) fun w2 => ?_
      refine Go_cR (y' := 54) (As := [.int w2.1]) (r := []) rfl (g_tap_isDigit54 w2.1 (by omega)) fun v3 => ?_
      refine Go_cmz rfl rfl rfl ?_ ?_
      ·
        refine Go_blk 1 (pc' := 22) (L' := [(0, .ref 1)]) (S' := [.int (0 : Int32)]) (h' := (hh X g w2.2)) rfl ?_
        exact Go_jmp [] rfl trivial (fun _ h => h)
      ·
        refine Go_blk 2 (pc' := 22) (L' := [(0, .ref 1)]) (S' := [.int (1 : Int32)]) (h' := (hh X g w2.2)) rfl ?_
        exact Go_jmp [] rfl trivial (fun _ h => h)
    ·
      refine Go_blk 1 (pc' := 22) (L' := [(0, .ref 1)]) (S' := [.int (0 : Int32)]) (h' := (hh X g I)) rfl ?_
      exact Go_jmp [] rfl trivial (fun _ h => h)
set_option maxRecDepth 1000000 in
set_option maxHeartbeats 4000000 in
theorem g_pat_addHour76 (p1 : Int32) (p2 : Int32) {X : XX} {g : GG} {I : MJ} {d : Nat} (hd : 1 ≤ d) : Go d 76 0 (lv_args 0 [.ref 19, .int p1, .int p2]) [] (hh X g I) (f_pat_addHour76 p1 p2 I) (pV X g) := by
  obtain ⟨d, rfl⟩ : ∃ k, d = k + 1 := ⟨d - 1, by omega⟩
  unfold f_pat_addHour76
  refine Go_blk 3 (pc' := 5) (L' := [(0, .ref 19), (1, .int p1), (2, .int p2)]) (S' := [.int p1, .ref 22]) (h' := (hh X g I)) rfl ?_
  refine Go_cR (y' := 16) (As := [.ref 22, .int p1]) (r := []) rfl (g_x_at16 22 p1 (by omega)) fun v1 => ?_
  refine Go_blk 3 (pc' := 12) (L' := [(3, .int v1), (0, .ref 19), (1, .int p1), (2, .int p2)]) (S' := [.int (12 : Int32), .int v1]) (h' := (hh X g I)) rfl ?_
  refine Go_seq (pcj := 40) (fun (b2 : MJ) => []) (fun (b2 : MJ) => []) (fun (b2 : MJ) => (hh X g b2)) (fun b2 => ?_) ?_
  ·
    exact Go_ret (fun _ h => h) rfl
  ·
    refine Go_cmpn rfl rfl (ab_cge _ _) ?_ ?_
    ·
      refine Go_blk 8 (pc' := 26) (L' := [(3, .int v1), (0, .ref 19), (1, .int p1), (2, .int p2)]) (S' := [.int p2, .int ((p1 * (12 : Int32)) + v1), .ref 21]) (h' := (hh X g I)) rfl ?_
      refine Go_cV (y' := 15) (As := [.ref 21, .int ((p1 * (12 : Int32)) + v1), .int p2]) (r := []) rfl (g_x_put15 21 ((p1 * (12 : Int32)) + v1) p2 (by omega)) fun I3 => ?_
      refine Go_blk 6 (pc' := 37) (L' := [(3, .int v1), (0, .ref 19), (1, .int p1), (2, .int p2)]) (S' := [.int (v1 + (1 : Int32)), .int p1, .ref 22]) (h' := (hh X g I3)) rfl ?_
      refine Go_cV (y' := 15) (As := [.ref 22, .int p1, .int (v1 + (1 : Int32))]) (r := []) rfl (g_x_put15 22 p1 (v1 + (1 : Int32)) (by omega)) fun I4 => ?_
      exact Go_jmp [] rfl trivial (fun _ h => h)
    ·
      exact Go_jmp [] rfl trivial (fun _ h => h)
set_option maxRecDepth 1000000 in
set_option maxHeartbeats 4000000 in
theorem g_pat_readHours75 (p2 : Int32) {X : XX} {g : GG} {I : MJ} {d : Nat} (hd : 3 ≤ d) : Go d 75 0 (lv_args 0 [.ref 19, .ref 1, .int p2]) [] (hh X g I) (f_pat_readHours75 p2 I) (pV X g) := by
  obtain ⟨d, rfl⟩ : ∃ k, d = k + 1 := ⟨d - 1, by omega⟩
  unfold f_pat_readHours75
  refine Go_blk 3 (pc' := 4) (L' := [(0, .ref 19), (1, .ref 1), (2, .int p2)]) (S' := [.int (12 : Int32), .int (1 : Int32), .ref 1]) (h' := (hh X g I)) rfl ?_
  refine Go_cW (y' := 53) (As := [.ref 1, .int (1 : Int32), .int (12 : Int32)]) (r := []) rfl (g_tap_number53 (1 : Int32) (12 : Int32) (by omega)) fun w1 => ?_
  refine Go_blk 4 (pc' := 13) (L' := [(3, .int w1.1), (0, .ref 19), (1, .ref 1), (2, .int p2)]) (S' := [.int p2, .ref 22]) (h' := (hh X g w1.2)) rfl ?_
  refine Go_cR (y' := 16) (As := [.ref 22, .int p2]) (r := []) rfl (g_x_at16 22 p2 (by omega)) fun v2 => ?_
  refine Go_blk 3 (pc' := 20) (L' := [(3, .int w1.1), (0, .ref 19), (1, .ref 1), (2, .int p2)]) (S' := [.int (12 : Int32), .int (v2 + w1.1)]) (h' := (hh X g w1.2)) rfl ?_
  refine Go_seq (pcj := 32) (fun (b3 : MJ) => [(0, .ref 19), (1, .ref 1), (2, .int p2), (3, .int w1.1)]) (fun (b3 : MJ) => []) (fun (b3 : MJ) => (hh X g b3)) (fun b3 => ?_) ?_
  ·
    refine Go_blk 2 (pc' := 35) (L' := [(0, .ref 19), (1, .ref 1), (2, .int p2), (3, .int w1.1)]) (S' := [.ref 2000002, .ref 1]) (h' := (hh X g b3)) rfl ?_
    refine Go_cW (y' := 45) (As := [.ref 1, .ref 2000002]) (r := []) rfl (g_tap_word45 2000002 (by omega)) fun w4 => ?_
    refine Go_blk 3 (pc' := 43) (L' := [(5, .int (0 : Int32)), (4, .int w4.1), (0, .ref 19), (1, .ref 1), (2, .int p2), (3, .int w1.1)]) (S' := []) (h' := (hh X g w4.2)) rfl ?_
    refine Go_lcs [(0, .ref 19), (1, .ref 1), (2, .int p2), (3, .int w1.1), (4, .int w4.1), (5, .int (0 : Int32))] rfl ⟨rfl, rfl, rfl, rfl, rfl, rfl, trivial⟩ ?_
    refine Go_seq (pcj := 69) (fun (b6 : MJ) => []) (fun (b6 : MJ) => []) (fun (b6 : MJ) => (hh X g b6)) (fun b6 => ?_) ?_
    ·
      exact Go_ret (fun _ h => h) rfl
    ·
      refine Go_wh (fun (s5 : Int32 × MJ) => [(0, .ref 19), (1, .ref 1), (2, .int p2), (3, .int w1.1), (4, .int w4.1), (5, .int s5.1)]) (fun _ => []) (fun (s5 : Int32 × MJ) => (hh X g s5.2)) (fun s5 => ?_) ((0 : Int32), w4.2)
      refine Go_blk 2 (pc' := 46) (L' := [(0, .ref 19), (1, .ref 1), (2, .int p2), (3, .int w1.1), (4, .int w4.1), (5, .int s5.1)]) (S' := [.int w1.1, .int s5.1]) (h' := (hh X g s5.2)) rfl ?_
      refine Go_cmpn rfl rfl (ab_cge _ _) ?_ ?_
      ·
        refine Go_blk 1 (pc' := 50) (L' := [(0, .ref 19), (1, .ref 1), (2, .int p2), (3, .int w1.1), (4, .int w4.1), (5, .int s5.1)]) (S' := [.ref 1]) (h' := (hh X g s5.2)) rfl ?_
        refine Go_cR (y' := 59) (As := [.ref 1]) (r := []) rfl (g_tap_isSound59  (by omega)) fun v7 => ?_
        refine Go_cmz rfl rfl rfl ?_ ?_
        ·
          exact Go_jmp [] rfl trivial (fun _ h => h)
        ·
          refine Go_blk 3 (pc' := 60) (L' := [(0, .ref 19), (1, .ref 1), (2, .int p2), (3, .int w1.1), (4, .int w4.1), (5, .int s5.1)]) (S' := [.int w4.1, .int p2, .ref 19]) (h' := (hh X g s5.2)) rfl ?_
          refine Go_cV (y' := 76) (As := [.ref 19, .int p2, .int w4.1]) (r := []) rfl (g_pat_addHour76 p2 w4.1 (by omega)) fun I8 => ?_
          refine Go_blk 2 (pc' := 43) (L' := [(5, .int (s5.1 + (1 : Int32))), (0, .ref 19), (1, .ref 1), (2, .int p2), (3, .int w1.1), (4, .int w4.1)]) (S' := []) (h' := (hh X g I8)) rfl ?_
          exact Go_jmp [(0, .ref 19), (1, .ref 1), (2, .int p2), (3, .int w1.1), (4, .int w4.1), (5, .int (s5.1 + (1 : Int32)))] rfl ⟨rfl, rfl, rfl, rfl, rfl, rfl, trivial⟩ (fun _ h => h)
      ·
        exact Go_jmp [] rfl trivial (fun _ h => h)
  ·
    refine Go_cmpn rfl rfl (ab_cle _ _) ?_ ?_
    ·
      refine Go_blk 4 (pc' := 29) (L' := [(3, .int w1.1), (0, .ref 19), (1, .ref 1), (2, .int p2)]) (S' := [.int (w1.2 1 4), .int (4 : Int32), .ref 1]) (h' := (hh X g w1.2)) rfl ?_
      refine Go_cV (y' := 50) (As := [.ref 1, .int (4 : Int32), .int (w1.2 1 4)]) (r := []) rfl (g_tap_fail50 (4 : Int32) (w1.2 1 4) (by omega)) fun I9 => ?_
      exact Go_jmp [(0, .ref 19), (1, .ref 1), (2, .int p2), (3, .int w1.1)] rfl ⟨rfl, rfl, rfl, rfl, trivial⟩ (fun _ h => h)
    ·
      exact Go_jmp [(0, .ref 19), (1, .ref 1), (2, .int p2), (3, .int w1.1)] rfl ⟨rfl, rfl, rfl, rfl, trivial⟩ (fun _ h => h)
set_option maxRecDepth 1000000 in
set_option maxHeartbeats 4000000 in
theorem G_pat_readAgain77 (r : Int32 → MJ → Option (MJ)) (dr : Nat) (hM : 3 ≤ dr) (hr : ∀ (p2 : Int32) (X : XX) (g : GG) (I : MJ), Go dr 72 0 (lv_args 0 [.ref 19, .ref 1, .int p2]) [] (hh X g I) (r p2 I) (pV X g)) (p2 : Int32) {X : XX} {g : GG} {I : MJ} {d : Nat} (hd : dr + 1 ≤ d) : Go d 77 0 (lv_args 0 [.ref 19, .ref 1, .int p2]) [] (hh X g I) (F_pat_readAgain77 r p2 I) (pV X g) := by
  obtain ⟨d, rfl⟩ : ∃ k, d = k + 1 := ⟨d - 1, by omega⟩
  unfold F_pat_readAgain77
  refine Go_blk 2 (pc' := 3) (L' := [(0, .ref 19), (1, .ref 1), (2, .int p2)]) (S' := [.ref 2000003, .ref 1]) (h' := (hh X g I)) rfl ?_
  refine Go_cW (y' := 45) (As := [.ref 1, .ref 2000003]) (r := []) rfl (g_tap_word45 2000003 (by omega)) fun w1 => ?_
  refine Go_blk 6 (pc' := 15) (L' := [(3, .int (w1.2 1 4)), (0, .ref 19), (1, .ref 1), (2, .int p2)]) (S' := [.int (6 : Int32), .int p2]) (h' := (hh X g w1.2)) rfl ?_
  refine Go_seq (pcj := 24) (fun (b2 : MJ) => [(0, .ref 19), (1, .ref 1), (2, .int p2), (3, .int (w1.2 1 4))]) (fun (b2 : MJ) => []) (fun (b2 : MJ) => (hh X g b2)) (fun b2 => ?_) ?_
  ·
    refine Go_blk 3 (pc' := 28) (L' := [(0, .ref 19), (1, .ref 1), (2, .int p2), (3, .int (w1.2 1 4))]) (S' := [.int (12 : Int32), .int (0 : Int32), .ref 1]) (h' := (hh X g b2)) rfl ?_
    refine Go_cW (y' := 53) (As := [.ref 1, .int (0 : Int32), .int (12 : Int32)]) (r := []) rfl (g_tap_number53 (0 : Int32) (12 : Int32) (by omega)) fun w3 => ?_
    refine Go_blk 3 (pc' := 36) (L' := [(4, .int w3.1), (0, .ref 19), (1, .ref 1), (2, .int p2), (3, .int (w1.2 1 4))]) (S' := [.int (91 : Int32), .ref 1]) (h' := (hh X g w3.2)) rfl ?_
    refine Go_cV (y' := 58) (As := [.ref 1, .int (91 : Int32)]) (r := []) rfl (g_tap_sign58 (91 : Int32) (by omega)) fun I4 => ?_
    refine Go_blk 1 (pc' := 40) (L' := [(4, .int w3.1), (0, .ref 19), (1, .ref 1), (2, .int p2), (3, .int (w1.2 1 4))]) (S' := [.ref 1]) (h' := (hh X g I4)) rfl ?_
    refine Go_cR (y' := 59) (As := [.ref 1]) (r := []) rfl (g_tap_isSound59  (by omega)) fun v5 => ?_
    refine Go_cmzn rfl rfl rfl ?_ ?_
    ·
      exact Go_ret (fun _ h => h) rfl
    ·
      refine Go_blk 5 (pc' := 52) (L' := [(4, .int w3.1), (0, .ref 19), (1, .ref 1), (2, .int p2), (3, .int (w1.2 1 4))]) (S' := [.int (p2 + (1 : Int32)), .ref 1, .ref 19]) (h' := (hh X g I4)) rfl ?_
      refine Go_cV (y' := 72) (As := [.ref 19, .ref 1, .int (p2 + (1 : Int32))]) (r := []) rfl (Go_dep (by omega) (hr (p2 + (1 : Int32)) X g _)) fun I6 => ?_
      refine Go_blk 2 (pc' := 58) (L' := [(4, .int w3.1), (0, .ref 19), (1, .ref 1), (2, .int p2), (3, .int (w1.2 1 4))]) (S' := [.int (93 : Int32), .ref 1]) (h' := (hh X g I6)) rfl ?_
      refine Go_cV (y' := 58) (As := [.ref 1, .int (93 : Int32)]) (r := []) rfl (g_tap_sign58 (93 : Int32) (by omega)) fun I7 => ?_
      refine Go_blk 5 (pc' := 68) (L' := [(4, .int w3.1), (0, .ref 19), (1, .ref 1), (2, .int p2), (3, .int (w1.2 1 4))]) (S' := [.int (p2 + (1 : Int32)), .ref 22]) (h' := (hh X g I7)) rfl ?_
      refine Go_cR (y' := 16) (As := [.ref 22, .int (p2 + (1 : Int32))]) (r := []) rfl (g_x_at16 22 (p2 + (1 : Int32)) (by omega)) fun v8 => ?_
      refine Go_blk 4 (pc' := 78) (L' := [(5, .int v8), (4, .int w3.1), (0, .ref 19), (1, .ref 1), (2, .int p2), (3, .int (w1.2 1 4))]) (S' := [.int p2, .ref 22]) (h' := (hh X g I7)) rfl ?_
      refine Go_cR (y' := 16) (As := [.ref 22, .int p2]) (r := []) rfl (g_x_at16 22 p2 (by omega)) fun v9 => ?_
      refine Go_blk 5 (pc' := 89) (L' := [(5, .int v8), (4, .int w3.1), (0, .ref 19), (1, .ref 1), (2, .int p2), (3, .int (w1.2 1 4))]) (S' := [.int (12 : Int32), .int (v9 + (w3.1 * v8))]) (h' := (hh X g I7)) rfl ?_
      refine Go_seq (pcj := 98) (fun (b10 : MJ) => [(0, .ref 19), (1, .ref 1), (2, .int p2), (4, .int w3.1), (5, .int v8)]) (fun (b10 : MJ) => []) (fun (b10 : MJ) => (hh X g b10)) (fun b10 => ?_) ?_
      ·
        refine Go_blk 2 (pc' := 101) (L' := [(6, .int (0 : Int32)), (0, .ref 19), (1, .ref 1), (2, .int p2), (4, .int w3.1), (5, .int v8)]) (S' := []) (h' := (hh X g b10)) rfl ?_
        refine Go_lcs [(0, .ref 19), (1, .ref 1), (2, .int p2), (4, .int w3.1), (5, .int v8), (6, .int (0 : Int32))] rfl ⟨rfl, rfl, rfl, rfl, rfl, rfl, trivial⟩ ?_
        refine Go_seq (pcj := 157) (fun (b12 : MJ) => []) (fun (b12 : MJ) => []) (fun (b12 : MJ) => (hh X g b12)) (fun b12 => ?_) ?_
        ·
          exact Go_ret (fun _ h => h) rfl
        ·
          refine Go_wh (fun (s11 : Int32 × MJ) => [(0, .ref 19), (1, .ref 1), (2, .int p2), (4, .int w3.1), (5, .int v8), (6, .int s11.1)]) (fun _ => []) (fun (s11 : Int32 × MJ) => (hh X g s11.2)) (fun s11 => ?_) ((0 : Int32), b10)
          refine Go_blk 4 (pc' := 108) (L' := [(0, .ref 19), (1, .ref 1), (2, .int p2), (4, .int w3.1), (5, .int v8), (6, .int s11.1)]) (S' := [.int (w3.1 * v8), .int s11.1]) (h' := (hh X g s11.2)) rfl ?_
          refine Go_cmpn rfl rfl (ab_cge _ _) ?_ ?_
          ·
            refine Go_blk 1 (pc' := 112) (L' := [(0, .ref 19), (1, .ref 1), (2, .int p2), (4, .int w3.1), (5, .int v8), (6, .int s11.1)]) (S' := [.ref 1]) (h' := (hh X g s11.2)) rfl ?_
            refine Go_cR (y' := 59) (As := [.ref 1]) (r := []) rfl (g_tap_isSound59  (by omega)) fun v13 => ?_
            refine Go_cmz rfl rfl rfl ?_ ?_
            ·
              exact Go_jmp [] rfl trivial (fun _ h => h)
            ·
              refine Go_blk 10 (pc' := 132) (L' := [(0, .ref 19), (1, .ref 1), (2, .int p2), (4, .int w3.1), (5, .int v8), (6, .int s11.1)]) (S' := [.int v8, .int ((p2 + (1 : Int32)) * (12 : Int32)), .ref 21, .int p2, .ref 19]) (h' := (hh X g s11.2)) rfl ?_
              refine Go_seq (pcj := 144) (fun (b14 : Int32) => [(0, .ref 19), (1, .ref 1), (2, .int p2), (4, .int w3.1), (5, .int v8), (6, .int s11.1)]) (fun (b14 : Int32) => [.int b14, .int ((p2 + (1 : Int32)) * (12 : Int32)), .ref 21, .int p2, .ref 19]) (fun (b14 : Int32) => (hh X g s11.2)) (fun b14 => ?_) ?_
              ·
                refine Go_blk 1 (pc' := 145) (L' := [(0, .ref 19), (1, .ref 1), (2, .int p2), (4, .int w3.1), (5, .int v8), (6, .int s11.1)]) (S' := [.int (((p2 + (1 : Int32)) * (12 : Int32)) + b14), .ref 21, .int p2, .ref 19]) (h' := (hh X g s11.2)) rfl ?_
                refine Go_cR (y' := 16) (As := [.ref 21, .int (((p2 + (1 : Int32)) * (12 : Int32)) + b14)]) (r := [.int p2, .ref 19]) rfl (g_x_at16 21 (((p2 + (1 : Int32)) * (12 : Int32)) + b14) (by omega)) fun v15 => ?_
                refine Go_cV (y' := 76) (As := [.ref 19, .int p2, .int v15]) (r := []) rfl (g_pat_addHour76 p2 v15 (by omega)) fun I16 => ?_
                refine Go_blk 2 (pc' := 101) (L' := [(6, .int (s11.1 + (1 : Int32))), (0, .ref 19), (1, .ref 1), (2, .int p2), (4, .int w3.1), (5, .int v8)]) (S' := []) (h' := (hh X g I16)) rfl ?_
                exact Go_jmp [(0, .ref 19), (1, .ref 1), (2, .int p2), (4, .int w3.1), (5, .int v8), (6, .int (s11.1 + (1 : Int32)))] rfl ⟨rfl, rfl, rfl, rfl, rfl, rfl, trivial⟩ (fun _ h => h)
              ·
                refine Go_cmzn rfl rfl (ab_cle0 _) ?_ ?_
                ·
                  refine Go_blk 2 (pc' := 139) (L' := [(0, .ref 19), (1, .ref 1), (2, .int p2), (4, .int w3.1), (5, .int v8), (6, .int s11.1)]) (S' := [.int v8, .int s11.1, .int ((p2 + (1 : Int32)) * (12 : Int32)), .ref 21, .int p2, .ref 19]) (h' := (hh X g s11.2)) rfl ?_
                  refine Go_irem rfl fun v17 => ?_
                  refine Go_blk 1 (pc' := 144) (L' := [(0, .ref 19), (1, .ref 1), (2, .int p2), (4, .int w3.1), (5, .int v8), (6, .int s11.1)]) (S' := [.int v17, .int ((p2 + (1 : Int32)) * (12 : Int32)), .ref 21, .int p2, .ref 19]) (h' := (hh X g s11.2)) rfl ?_
                  exact Go_jmp [(0, .ref 19), (1, .ref 1), (2, .int p2), (4, .int w3.1), (5, .int v8), (6, .int s11.1)] rfl ⟨rfl, rfl, rfl, rfl, rfl, rfl, trivial⟩ (fun _ h => h)
                ·
                  refine Go_blk 1 (pc' := 144) (L' := [(0, .ref 19), (1, .ref 1), (2, .int p2), (4, .int w3.1), (5, .int v8), (6, .int s11.1)]) (S' := [.int (0 : Int32), .int ((p2 + (1 : Int32)) * (12 : Int32)), .ref 21, .int p2, .ref 19]) (h' := (hh X g s11.2)) rfl ?_
                  exact Go_jmp [(0, .ref 19), (1, .ref 1), (2, .int p2), (4, .int w3.1), (5, .int v8), (6, .int s11.1)] rfl ⟨rfl, rfl, rfl, rfl, rfl, rfl, trivial⟩ (fun _ h => h)
          ·
            exact Go_jmp [] rfl trivial (fun _ h => h)
      ·
        refine Go_cmpn rfl rfl (ab_cle _ _) ?_ ?_
        ·
          refine Go_blk 3 (pc' := 95) (L' := [(5, .int v8), (4, .int w3.1), (0, .ref 19), (1, .ref 1), (2, .int p2), (3, .int (w1.2 1 4))]) (S' := [.int (w1.2 1 4), .int (4 : Int32), .ref 1]) (h' := (hh X g I7)) rfl ?_
          refine Go_cV (y' := 50) (As := [.ref 1, .int (4 : Int32), .int (w1.2 1 4)]) (r := []) rfl (g_tap_fail50 (4 : Int32) (w1.2 1 4) (by omega)) fun I18 => ?_
          exact Go_jmp [(0, .ref 19), (1, .ref 1), (2, .int p2), (4, .int w3.1), (5, .int v8)] rfl ⟨rfl, rfl, rfl, rfl, rfl, trivial⟩ (fun _ h => h)
        ·
          exact Go_jmp [(0, .ref 19), (1, .ref 1), (2, .int p2), (4, .int w3.1), (5, .int v8)] rfl ⟨rfl, rfl, rfl, rfl, rfl, trivial⟩ (fun _ h => h)
  ·
    refine Go_cmp rfl rfl rfl ?_ ?_
    ·
      exact Go_jmp [(0, .ref 19), (1, .ref 1), (2, .int p2), (3, .int (w1.2 1 4))] rfl ⟨rfl, rfl, rfl, rfl, trivial⟩ (fun _ h => h)
    ·
      refine Go_blk 3 (pc' := 21) (L' := [(3, .int (w1.2 1 4)), (0, .ref 19), (1, .ref 1), (2, .int p2)]) (S' := [.int (w1.2 1 4), .int (3 : Int32), .ref 1]) (h' := (hh X g w1.2)) rfl ?_
      refine Go_cV (y' := 50) (As := [.ref 1, .int (3 : Int32), .int (w1.2 1 4)]) (r := []) rfl (g_tap_fail50 (3 : Int32) (w1.2 1 4) (by omega)) fun I19 => ?_
      exact Go_jmp [(0, .ref 19), (1, .ref 1), (2, .int p2), (3, .int (w1.2 1 4))] rfl ⟨rfl, rfl, rfl, rfl, trivial⟩ (fun _ h => h)
set_option maxRecDepth 1000000 in
set_option maxHeartbeats 4000000 in
theorem G_pat_readParts72 (r : Int32 → MJ → Option (MJ)) (dr : Nat) (hM : 3 ≤ dr) (hr : ∀ (p2 : Int32) (X : XX) (g : GG) (I : MJ), Go dr 72 0 (lv_args 0 [.ref 19, .ref 1, .int p2]) [] (hh X g I) (r p2 I) (pV X g)) (p2 : Int32) {X : XX} {g : GG} {I : MJ} {d : Nat} (hd : dr + 2 ≤ d) : Go d 72 0 (lv_args 0 [.ref 19, .ref 1, .int p2]) [] (hh X g I) (F_pat_readParts72 r p2 I) (pV X g) := by
  obtain ⟨d, rfl⟩ : ∃ k, d = k + 1 := ⟨d - 1, by omega⟩
  unfold F_pat_readParts72
  refine Go_blk 4 (pc' := 6) (L' := [(0, .ref 19), (1, .ref 1), (2, .int p2)]) (S' := [.int (0 : Int32), .int p2, .ref 22]) (h' := (hh X g I)) rfl ?_
  refine Go_cV (y' := 15) (As := [.ref 22, .int p2, .int (0 : Int32)]) (r := []) rfl (g_x_put15 22 p2 (0 : Int32) (by omega)) fun I1 => ?_
  refine Go_blk 2 (pc' := 11) (L' := [(3, .int (0 : Int32)), (0, .ref 19), (1, .ref 1), (2, .int p2)]) (S' := []) (h' := (hh X g I1)) rfl ?_
  refine Go_lcs [(0, .ref 19), (1, .ref 1), (2, .int p2), (3, .int (0 : Int32))] rfl ⟨rfl, rfl, rfl, rfl, trivial⟩ ?_
  refine Go_seq (pcj := 71) (fun (b3 : MJ) => []) (fun (b3 : MJ) => []) (fun (b3 : MJ) => (hh X g b3)) (fun b3 => ?_) ?_
  ·
    exact Go_ret (fun _ h => h) rfl
  ·
    refine Go_wh (fun (s2 : Int32 × MJ) => [(0, .ref 19), (1, .ref 1), (2, .int p2), (3, .int s2.1)]) (fun _ => []) (fun (s2 : Int32 × MJ) => (hh X g s2.2)) (fun s2 => ?_) ((0 : Int32), I1)
    refine Go_blk 2 (pc' := 14) (L' := [(0, .ref 19), (1, .ref 1), (2, .int p2), (3, .int s2.1)]) (S' := [.int (100 : Int32), .int s2.1]) (h' := (hh X g s2.2)) rfl ?_
    refine Go_cmp rfl rfl rfl ?_ ?_
    ·
      exact Go_jmp [] rfl trivial (fun _ h => h)
    ·
      refine Go_blk 1 (pc' := 18) (L' := [(0, .ref 19), (1, .ref 1), (2, .int p2), (3, .int s2.1)]) (S' := [.ref 1]) (h' := (hh X g s2.2)) rfl ?_
      refine Go_cW (y' := 42) (As := [.ref 1]) (r := []) rfl (g_tap_hasMore42  (by omega)) fun w4 => ?_
      refine Go_cmz rfl rfl rfl ?_ ?_
      ·
        exact Go_jmp [] rfl trivial (fun _ h => h)
      ·
        refine Go_blk 1 (pc' := 25) (L' := [(0, .ref 19), (1, .ref 1), (2, .int p2), (3, .int s2.1)]) (S' := [.int p2]) (h' := (hh X g w4.2)) rfl ?_
        refine Go_cmzn rfl rfl (ab_cle0 _) ?_ ?_
        ·
          refine Go_blk 2 (pc' := 31) (L' := [(0, .ref 19), (1, .ref 1), (2, .int p2), (3, .int s2.1)]) (S' := [.int (93 : Int32), .ref 1]) (h' := (hh X g w4.2)) rfl ?_
          refine Go_cW (y' := 73) (As := [.ref 1, .int (93 : Int32)]) (r := []) rfl (g_tap_isNext73 (93 : Int32) (by omega)) fun w5 => ?_
          refine Go_cmzn rfl rfl rfl ?_ ?_
          ·
            refine Go_blk 1 (pc' := 38) (L' := [(0, .ref 19), (1, .ref 1), (2, .int p2), (3, .int s2.1)]) (S' := [.ref 1]) (h' := (hh X g w5.2)) rfl ?_
            refine Go_cW (y' := 74) (As := [.ref 1]) (r := []) rfl (g_tap_isNumberNext74  (by omega)) fun w6 => ?_
            refine Go_seq (pcj := 59) (fun (b7 : MJ) => [(0, .ref 19), (1, .ref 1), (2, .int p2), (3, .int s2.1)]) (fun (b7 : MJ) => []) (fun (b7 : MJ) => (hh X g b7)) (fun b7 => ?_) ?_
            ·
              refine Go_blk 2 (pc' := 62) (L' := [(0, .ref 19), (1, .ref 1), (2, .int p2), (3, .int s2.1)]) (S' := [.int (59 : Int32), .ref 1]) (h' := (hh X g b7)) rfl ?_
              refine Go_cV (y' := 58) (As := [.ref 1, .int (59 : Int32)]) (r := []) rfl (g_tap_sign58 (59 : Int32) (by omega)) fun I8 => ?_
              refine Go_blk 2 (pc' := 11) (L' := [(3, .int (s2.1 + (1 : Int32))), (0, .ref 19), (1, .ref 1), (2, .int p2)]) (S' := []) (h' := (hh X g I8)) rfl ?_
              exact Go_jmp [(0, .ref 19), (1, .ref 1), (2, .int p2), (3, .int (s2.1 + (1 : Int32)))] rfl ⟨rfl, rfl, rfl, rfl, trivial⟩ (fun _ h => h)
            ·
              refine Go_cmz rfl rfl rfl ?_ ?_
              ·
                refine Go_blk 3 (pc' := 56) (L' := [(0, .ref 19), (1, .ref 1), (2, .int p2), (3, .int s2.1)]) (S' := [.int p2, .ref 1, .ref 19]) (h' := (hh X g w6.2)) rfl ?_
                refine Go_cV (y' := 77) (As := [.ref 19, .ref 1, .int p2]) (r := []) rfl (G_pat_readAgain77 r dr hM hr p2 (by omega)) fun I9 => ?_
                exact Go_jmp [(0, .ref 19), (1, .ref 1), (2, .int p2), (3, .int s2.1)] rfl ⟨rfl, rfl, rfl, rfl, trivial⟩ (fun _ h => h)
              ·
                refine Go_blk 3 (pc' := 47) (L' := [(0, .ref 19), (1, .ref 1), (2, .int p2), (3, .int s2.1)]) (S' := [.int p2, .ref 1, .ref 19]) (h' := (hh X g w6.2)) rfl ?_
                refine Go_cV (y' := 75) (As := [.ref 19, .ref 1, .int p2]) (r := []) rfl (g_pat_readHours75 p2 (by omega)) fun I10 => ?_
                refine Go_blk 1 (pc' := 59) (L' := [(0, .ref 19), (1, .ref 1), (2, .int p2), (3, .int s2.1)]) (S' := []) (h' := (hh X g I10)) rfl ?_
                exact Go_jmp [(0, .ref 19), (1, .ref 1), (2, .int p2), (3, .int s2.1)] rfl ⟨rfl, rfl, rfl, rfl, trivial⟩ (fun _ h => h)
          ·
            exact Go_jmp [] rfl trivial (fun _ h => h)
        ·
          refine Go_blk 1 (pc' := 38) (L' := [(0, .ref 19), (1, .ref 1), (2, .int p2), (3, .int s2.1)]) (S' := [.ref 1]) (h' := (hh X g w4.2)) rfl ?_
          refine Go_cW (y' := 74) (As := [.ref 1]) (r := []) rfl (g_tap_isNumberNext74  (by omega)) fun w11 => ?_
          refine Go_seq (pcj := 59) (fun (b12 : MJ) => [(0, .ref 19), (1, .ref 1), (2, .int p2), (3, .int s2.1)]) (fun (b12 : MJ) => []) (fun (b12 : MJ) => (hh X g b12)) (fun b12 => ?_) ?_
          ·
            refine Go_blk 2 (pc' := 62) (L' := [(0, .ref 19), (1, .ref 1), (2, .int p2), (3, .int s2.1)]) (S' := [.int (59 : Int32), .ref 1]) (h' := (hh X g b12)) rfl ?_
            refine Go_cV (y' := 58) (As := [.ref 1, .int (59 : Int32)]) (r := []) rfl (g_tap_sign58 (59 : Int32) (by omega)) fun I13 => ?_
            refine Go_blk 2 (pc' := 11) (L' := [(3, .int (s2.1 + (1 : Int32))), (0, .ref 19), (1, .ref 1), (2, .int p2)]) (S' := []) (h' := (hh X g I13)) rfl ?_
            exact Go_jmp [(0, .ref 19), (1, .ref 1), (2, .int p2), (3, .int (s2.1 + (1 : Int32)))] rfl ⟨rfl, rfl, rfl, rfl, trivial⟩ (fun _ h => h)
          ·
            refine Go_cmz rfl rfl rfl ?_ ?_
            ·
              refine Go_blk 3 (pc' := 56) (L' := [(0, .ref 19), (1, .ref 1), (2, .int p2), (3, .int s2.1)]) (S' := [.int p2, .ref 1, .ref 19]) (h' := (hh X g w11.2)) rfl ?_
              refine Go_cV (y' := 77) (As := [.ref 19, .ref 1, .int p2]) (r := []) rfl (G_pat_readAgain77 r dr hM hr p2 (by omega)) fun I14 => ?_
              exact Go_jmp [(0, .ref 19), (1, .ref 1), (2, .int p2), (3, .int s2.1)] rfl ⟨rfl, rfl, rfl, rfl, trivial⟩ (fun _ h => h)
            ·
              refine Go_blk 3 (pc' := 47) (L' := [(0, .ref 19), (1, .ref 1), (2, .int p2), (3, .int s2.1)]) (S' := [.int p2, .ref 1, .ref 19]) (h' := (hh X g w11.2)) rfl ?_
              refine Go_cV (y' := 75) (As := [.ref 19, .ref 1, .int p2]) (r := []) rfl (g_pat_readHours75 p2 (by omega)) fun I15 => ?_
              refine Go_blk 1 (pc' := 59) (L' := [(0, .ref 19), (1, .ref 1), (2, .int p2), (3, .int s2.1)]) (S' := []) (h' := (hh X g I15)) rfl ?_
              exact Go_jmp [(0, .ref 19), (1, .ref 1), (2, .int p2), (3, .int s2.1)] rfl ⟨rfl, rfl, rfl, rfl, trivial⟩ (fun _ h => h)
theorem g_pat_readParts72 (k : Nat) : ∀ (p2 : Int32) {X : XX} {g : GG} {I : MJ} {d : Nat}, 3 + 2 * k ≤ d → Go d 72 0 (lv_args 0 [.ref 19, .ref 1, .int p2]) [] (hh X g I) (f_pat_readParts72 k p2 I) (pV X g) := by
  induction k with
  | zero => intros; exact Go_none
  | succ k ih =>
    intro p2 X g I d hd
    exact G_pat_readParts72 (f_pat_readParts72 k) (3 + 2 * k) (by omega) (fun p2 X g I => ih p2 (Nat.le_refl _)) p2 (by omega)
set_option maxRecDepth 1000000 in
set_option maxHeartbeats 4000000 in
theorem g_pat_readFrom71  {X : XX} {g : GG} {I : MJ} {d : Nat} (hd : 36 ≤ d) : Go d 71 0 (lv_args 0 [.ref 19, .ref 1]) [] (hh X g I) (f_pat_readFrom71  I) (pV X g) := by
  obtain ⟨d, rfl⟩ : ∃ k, d = k + 1 := ⟨d - 1, by omega⟩
  unfold f_pat_readFrom71
  refine Go_blk 3 (pc' := 3) (L' := [(0, .ref 19), (1, .ref 1)]) (S' := [.int (0 : Int32), .ref 1, .ref 19]) (h' := (hh X g I)) rfl ?_
  refine Go_cV (y' := 72) (As := [.ref 19, .ref 1, .int (0 : Int32)]) (r := []) rfl (g_pat_readParts72 16 (0 : Int32) (by omega)) fun I1 => ?_
  refine Go_blk 3 (pc' := 11) (L' := [(0, .ref 19), (1, .ref 1)]) (S' := [.int (0 : Int32), .ref 22]) (h' := (hh X g I1)) rfl ?_
  refine Go_cR (y' := 16) (As := [.ref 22, .int (0 : Int32)]) (r := []) rfl (g_x_at16 22 (0 : Int32) (by omega)) fun v2 => ?_
  refine Go_blk 1 (pc' := 16) (L' := [(0, .ref 19), (1, .ref 1)]) (S' := [.int (12 : Int32), .int v2]) (h' := (hh X g I1)) rfl ?_
  refine Go_seq (pcj := 28) (fun (b3 : MJ) => []) (fun (b3 : MJ) => []) (fun (b3 : MJ) => (hh X g b3)) (fun b3 => ?_) ?_
  ·
    exact Go_ret (fun _ h => h) rfl
  ·
    refine Go_cmpn rfl rfl (ab_cge _ _) ?_ ?_
    ·
      refine Go_blk 4 (pc' := 25) (L' := [(0, .ref 19), (1, .ref 1)]) (S' := [.int (I1 1 3), .int (4 : Int32), .ref 1]) (h' := (hh X g I1)) rfl ?_
      refine Go_cV (y' := 50) (As := [.ref 1, .int (4 : Int32), .int (I1 1 3)]) (r := []) rfl (g_tap_fail50 (4 : Int32) (I1 1 3) (by omega)) fun I4 => ?_
      exact Go_jmp [] rfl trivial (fun _ h => h)
    ·
      exact Go_jmp [] rfl trivial (fun _ h => h)
set_option maxRecDepth 1000000 in
set_option maxHeartbeats 4000000 in
theorem g_pat_keep78 (p1 : Int32) {X : XX} {g : GG} {I : MJ} {d : Nat} (hd : 1 ≤ d) : Go d 78 0 (lv_args 0 [.ref 19, .int p1]) [] (hh X g I) (f_pat_keep78 p1 I) (pV X g) := by
  obtain ⟨d, rfl⟩ : ∃ k, d = k + 1 := ⟨d - 1, by omega⟩
  unfold f_pat_keep78
  refine Go_blk 17 (pc' := 27) (L' := [(0, .ref 19), (1, .int p1)]) (S' := [.int (12 : Int32), .int ((12 : Int32) * p1), .ref 20, .int (0 : Int32), .ref 21]) (h' := (hh X g (ab_up1 I 19 3 ((I 19 3) ||| ((1 : Int32) <<< (p1 &&& 31)))))) rfl ?_
  refine Go_cV (y' := 22) (As := [.ref 21, .int (0 : Int32), .ref 20, .int ((12 : Int32) * p1), .int (12 : Int32)]) (r := []) rfl (g_x_copy22 21 (0 : Int32) 20 ((12 : Int32) * p1) (12 : Int32) (by omega)) fun I1 => ?_
  exact Go_ret (fun _ h => h) rfl
set_option maxRecDepth 1000000 in
set_option maxHeartbeats 4000000 in
theorem g_x_runsOf79 (p0 : Nat) (p1 : Int32) {X : XX} {g : GG} {I : MJ} {d : Nat} (hd : 1 ≤ d) : Go d 79 0 (lv_args 0 [.ref p0, .int p1]) [] (hh X g I) (f_x_runsOf79 p0 p1 I) (pR X g I) := by
  obtain ⟨d, rfl⟩ : ∃ k, d = k + 1 := ⟨d - 1, by omega⟩
  unfold f_x_runsOf79
  refine Go_blk 4 (pc' := 4) (L' := [(3, .int (0 : Int32)), (2, .int (0 : Int32)), (0, .ref p0), (1, .int p1)]) (S' := []) (h' := (hh X g I)) rfl ?_
  refine Go_lcs [(0, .ref p0), (1, .int p1), (2, .int (0 : Int32)), (3, .int (0 : Int32))] rfl ⟨rfl, rfl, rfl, rfl, trivial⟩ ?_
  refine Go_seq (pcj := 70) (fun (b2 : Int32) => [(2, .int b2)]) (fun (b2 : Int32) => []) (fun (b2 : Int32) => (hh X g I)) (fun b2 => ?_) ?_
  ·
    refine Go_blk 1 (pc' := 71) (L' := [(2, .int b2)]) (S' := [.int b2]) (h' := (hh X g I)) rfl ?_
    exact Go_ret (fun _ h => h) rfl
  ·
    refine Go_wh (fun (s1 : Int32 × Int32) => [(0, .ref p0), (1, .int p1), (2, .int s1.1), (3, .int s1.2)]) (fun _ => []) (fun (s1 : Int32 × Int32) => (hh X g I)) (fun s1 => ?_) ((0 : Int32), (0 : Int32))
    refine Go_blk 2 (pc' := 7) (L' := [(0, .ref p0), (1, .int p1), (2, .int s1.1), (3, .int s1.2)]) (S' := [.int (12 : Int32), .int s1.2]) (h' := (hh X g I)) rfl ?_
    refine Go_cmpn rfl rfl (ab_cge _ _) ?_ ?_
    ·
      refine Go_blk 4 (pc' := 14) (L' := [(0, .ref p0), (1, .int p1), (2, .int s1.1), (3, .int s1.2)]) (S' := [.int (p1 + s1.2), .ref p0]) (h' := (hh X g I)) rfl ?_
      refine Go_cR (y' := 16) (As := [.ref p0, .int (p1 + s1.2)]) (r := []) rfl (g_x_at16 p0 (p1 + s1.2) (by omega)) fun v3 => ?_
      refine Go_blk 2 (pc' := 20) (L' := [(4, .int v3), (0, .ref p0), (1, .int p1), (2, .int s1.1), (3, .int s1.2)]) (S' := [.int s1.2]) (h' := (hh X g I)) rfl ?_
      refine Go_seq (pcj := 42) (fun (b4 : Int32) => [(0, .ref p0), (1, .int p1), (2, .int s1.1), (3, .int s1.2), (4, .int v3)]) (fun (b4 : Int32) => [.int b4]) (fun (b4 : Int32) => (hh X g I)) (fun b4 => ?_) ?_
      ·
        refine Go_blk 3 (pc' := 47) (L' := [(5, .int b4), (0, .ref p0), (1, .int p1), (2, .int s1.1), (3, .int s1.2), (4, .int v3)]) (S' := [.int b4, .int s1.1]) (h' := (hh X g I)) rfl ?_
        refine Go_seq (pcj := 62) (fun (b5 : Int32) => [(0, .ref p0), (1, .int p1), (3, .int s1.2)]) (fun (b5 : Int32) => [.int b5, .int s1.1]) (fun (b5 : Int32) => (hh X g I)) (fun b5 => ?_) ?_
        ·
          refine Go_blk 4 (pc' := 4) (L' := [(3, .int (s1.2 + (1 : Int32))), (2, .int (s1.1 + b5)), (0, .ref p0), (1, .int p1)]) (S' := []) (h' := (hh X g I)) rfl ?_
          exact Go_jmp [(0, .ref p0), (1, .int p1), (2, .int (s1.1 + b5)), (3, .int (s1.2 + (1 : Int32)))] rfl ⟨rfl, rfl, rfl, rfl, trivial⟩ (fun _ h => h)
        ·
          refine Go_cmz rfl rfl rfl ?_ ?_
          ·
            refine Go_blk 1 (pc' := 62) (L' := [(5, .int b4), (0, .ref p0), (1, .int p1), (2, .int s1.1), (3, .int s1.2), (4, .int v3)]) (S' := [.int (0 : Int32), .int s1.1]) (h' := (hh X g I)) rfl ?_
            exact Go_jmp [(0, .ref p0), (1, .int p1), (3, .int s1.2)] rfl ⟨rfl, rfl, rfl, trivial⟩ (fun _ h => h)
          ·
            refine Go_blk 2 (pc' := 54) (L' := [(5, .int b4), (0, .ref p0), (1, .int p1), (2, .int s1.1), (3, .int s1.2), (4, .int v3)]) (S' := [.int (6 : Int32), .int v3, .int s1.1]) (h' := (hh X g I)) rfl ?_
            refine Go_cmp rfl rfl rfl ?_ ?_
            ·
              refine Go_blk 1 (pc' := 62) (L' := [(5, .int b4), (0, .ref p0), (1, .int p1), (2, .int s1.1), (3, .int s1.2), (4, .int v3)]) (S' := [.int (0 : Int32), .int s1.1]) (h' := (hh X g I)) rfl ?_
              exact Go_jmp [(0, .ref p0), (1, .int p1), (3, .int s1.2)] rfl ⟨rfl, rfl, rfl, trivial⟩ (fun _ h => h)
            ·
              refine Go_blk 2 (pc' := 62) (L' := [(5, .int b4), (0, .ref p0), (1, .int p1), (2, .int s1.1), (3, .int s1.2), (4, .int v3)]) (S' := [.int (1 : Int32), .int s1.1]) (h' := (hh X g I)) rfl ?_
              exact Go_jmp [(0, .ref p0), (1, .int p1), (3, .int s1.2)] rfl ⟨rfl, rfl, rfl, trivial⟩ (fun _ h => h)
      ·
        refine Go_cmz rfl rfl rfl ?_ ?_
        ·
          refine Go_blk 2 (pc' := 42) (L' := [(4, .int v3), (0, .ref p0), (1, .int p1), (2, .int s1.1), (3, .int s1.2)]) (S' := [.int (1 : Int32)]) (h' := (hh X g I)) rfl ?_
          exact Go_jmp [(0, .ref p0), (1, .int p1), (2, .int s1.1), (3, .int s1.2), (4, .int v3)] rfl ⟨rfl, rfl, rfl, rfl, rfl, trivial⟩ (fun _ h => h)
        ·
          refine Go_blk 7 (pc' := 31) (L' := [(4, .int v3), (0, .ref p0), (1, .int p1), (2, .int s1.1), (3, .int s1.2)]) (S' := [.int ((p1 + s1.2) - (1 : Int32)), .ref p0, .int v3]) (h' := (hh X g I)) rfl ?_
          refine Go_cR (y' := 16) (As := [.ref p0, .int ((p1 + s1.2) - (1 : Int32))]) (r := [.int v3]) rfl (g_x_at16 p0 ((p1 + s1.2) - (1 : Int32)) (by omega)) fun v6 => ?_
          refine Go_cmp rfl rfl rfl ?_ ?_
          ·
            refine Go_blk 1 (pc' := 42) (L' := [(4, .int v3), (0, .ref p0), (1, .int p1), (2, .int s1.1), (3, .int s1.2)]) (S' := [.int (0 : Int32)]) (h' := (hh X g I)) rfl ?_
            exact Go_jmp [(0, .ref p0), (1, .int p1), (2, .int s1.1), (3, .int s1.2), (4, .int v3)] rfl ⟨rfl, rfl, rfl, rfl, rfl, trivial⟩ (fun _ h => h)
          ·
            refine Go_blk 2 (pc' := 42) (L' := [(4, .int v3), (0, .ref p0), (1, .int p1), (2, .int s1.1), (3, .int s1.2)]) (S' := [.int (1 : Int32)]) (h' := (hh X g I)) rfl ?_
            exact Go_jmp [(0, .ref p0), (1, .int p1), (2, .int s1.1), (3, .int s1.2), (4, .int v3)] rfl ⟨rfl, rfl, rfl, rfl, rfl, trivial⟩ (fun _ h => h)
    ·
      exact Go_jmp [(2, .int s1.1)] rfl ⟨rfl, trivial⟩ (fun _ h => h)
set_option maxRecDepth 1000000 in
set_option maxHeartbeats 4000000 in
theorem g_x_pattern67 (p1 : Int32) (p2 : Int32) {X : XX} {g : GG} {I : MJ} {d : Nat} (hd : 37 ≤ d) : Go d 67 0 (lv_args 0 [.ref 0, .int p1, .int p2]) [] (hh X g I) (f_x_pattern67 p1 p2 I) (pT vI X g) := by
  obtain ⟨d, rfl⟩ : ∃ k, d = k + 1 := ⟨d - 1, by omega⟩
  unfold f_x_pattern67
  refine Go_blk 2 (pc' := 2) (L' := [(0, .ref 0), (1, .int p1), (2, .int p2)]) (S' := [.int p1, .ref 0]) (h' := (hh X g I)) rfl ?_
  refine Go_cT (y' := 68) (As := [.ref 0, .int p1]) (r := []) rfl rfl (g_x_needPattern68 p1 (by omega)) fun v1 I2 => ?_
  refine Go_blk 3 (pc' := 9) (L' := [(0, .ref 0), (1, .int p1), (2, .int p2)]) (S' := [.int (100 : Int32), .int p2, .ref 0]) (h' := (hh X g I2)) rfl ?_
  refine Go_cT (y' := 37) (As := [.ref 0, .int p2, .int (100 : Int32)]) (r := []) rfl rfl (g_x_needText37 p2 (100 : Int32) (by omega)) fun v3 I4 => ?_
  refine Go_blk 3 (pc' := 17) (L' := [(0, .ref 0), (1, .int p1), (2, .int p2)]) (S' := [.int p2, .ref 1]) (h' := (hh X g I4)) rfl ?_
  refine Go_cV (y' := 40) (As := [.ref 1, .int p2]) (r := []) rfl (g_tap_open40 p2 (by omega)) fun I5 => ?_
  refine Go_blk 4 (pc' := 28) (L' := [(0, .ref 0), (1, .int p1), (2, .int p2)]) (S' := [.ref 1, .ref 19]) (h' := (hh X g I5)) rfl ?_
  refine Go_cV (y' := 71) (As := [.ref 19, .ref 1]) (r := []) rfl (g_pat_readFrom71  (by omega)) fun I6 => ?_
  refine Go_blk 2 (pc' := 35) (L' := [(0, .ref 0), (1, .int p1), (2, .int p2)]) (S' := [.ref 1]) (h' := (hh X g I6)) rfl ?_
  refine Go_cR (y' := 59) (As := [.ref 1]) (r := []) rfl (g_tap_isSound59  (by omega)) fun v7 => ?_
  refine Go_seq (pcj := 49) (fun (b8 : MJ) => [(0, .ref 0), (1, .int p1)]) (fun (b8 : MJ) => []) (fun (b8 : MJ) => (hh X g b8)) (fun b8 => ?_) ?_
  ·
    refine Go_blk 8 (pc' := 64) (L' := [(0, .ref 0), (1, .int p1)]) (S' := [.int ((12 : Int32) * p1), .ref 20, .ref 1]) (h' := (hh X g b8)) rfl ?_
    refine Go_cR (y' := 79) (As := [.ref 20, .int ((12 : Int32) * p1)]) (r := [.ref 1]) rfl (g_x_runsOf79 20 ((12 : Int32) * p1) (by omega)) fun v9 => ?_
    refine Go_cW (y' := 65) (As := [.ref 1, .int v9]) (r := []) rfl (g_tap_close65 v9 (by omega)) fun w10 => ?_
    exact Go_ret (fun _ h => h) rfl
  ·
    refine Go_cmz rfl rfl rfl ?_ ?_
    ·
      exact Go_jmp [(0, .ref 0), (1, .int p1)] rfl ⟨rfl, rfl, trivial⟩ (fun _ h => h)
    ·
      refine Go_blk 3 (pc' := 46) (L' := [(0, .ref 0), (1, .int p1), (2, .int p2)]) (S' := [.int p1, .ref 19]) (h' := (hh X g I6)) rfl ?_
      refine Go_cV (y' := 78) (As := [.ref 19, .int p1]) (r := []) rfl (g_pat_keep78 p1 (by omega)) fun I11 => ?_
      exact Go_jmp [(0, .ref 0), (1, .int p1)] rfl ⟨rfl, rfl, trivial⟩ (fun _ h => h)
set_option maxRecDepth 1000000 in
set_option maxHeartbeats 4000000 in
theorem g_l_pattern66 (p1 : Int32) (p2 : Int32) {X : XX} {g : GG} {I : MJ} {d : Nat} (hd : 38 ≤ d) : Go d 66 0 (lv_args 0 [.ref 0, .int p1, .int p2, .ref 698]) [] (hh X g I) (f_l_pattern66 p1 p2 I g) (pG X) := by
  obtain ⟨d, rfl⟩ : ∃ k, d = k + 1 := ⟨d - 1, by omega⟩
  unfold f_l_pattern66
  refine Go_blk 5 (pc' := 5) (L' := [(0, .ref 0), (1, .int p1), (2, .int p2), (3, .ref 698)]) (S' := [.int p2, .int p1, .ref 0, .int (0 : Int32), .ref 698]) (h' := (hh X g I)) rfl ?_
  refine Go_try (y' := 67) (As := [.ref 0, .int p1, .int p2]) (r := [.int (0 : Int32), .ref 698]) rfl (g_x_pattern67 p1 p2 (by omega)) (fun v1 I2 => ?_) (fun E2 I2 => ?_)
  ·
    refine Go_blk 1 (pc' := 9) (L' := [(0, .ref 0), (1, .int p1), (2, .int p2), (3, .ref 698)]) (S' := [.long (v1.toInt64), .int (0 : Int32), .ref 698]) (h' := (hh X g I2)) rfl ?_
    refine Go_last rfl fun g3 => ?_
    refine Go_blk 2 (pc' := 22) (L' := [(0, .ref 0), (1, .int p1), (2, .int p2), (3, .ref 698)]) (S' := [.int (0 : Int32)]) (h' := (hh X g3 I2)) rfl ?_
    exact Go_ret (fun _ h => h) rfl
  ·
    refine GX_ite ?_ ?_
    ·
      refine GX_go rfl (t := 15) (k := 4) rfl ?_
      refine Go_blk 1 (pc' := 16) (L' := [(0, .ref 0), (1, .int p1), (2, .int p2), (3, .ref 698)]) (S' := [.int (1 : Int32)]) (h' := (hh X (thr g) I2)) rfl ?_
      exact Go_ret (fun _ h => h) rfl
    refine GX_ite ?_ ?_
    ·
      refine GX_go rfl (t := 19) (k := 4) rfl ?_
      refine Go_blk 1 (pc' := 20) (L' := [(0, .ref 0), (1, .int p1), (2, .int p2), (3, .ref 698)]) (S' := [.int (2 : Int32)]) (h' := (hh X (thr g) I2)) rfl ?_
      exact Go_ret (fun _ h => h) rfl
    exact GX_none
set_option maxRecDepth 1000000 in
set_option maxHeartbeats 4000000 in
theorem g_m_isPattern288 (p1 : Int32) {X : XX} {g : GG} {I : MJ} {d : Nat} (hd : 1 ≤ d) : Go d 288 0 (lv_args 0 [.ref 47, .int p1]) [] (hh X g I) (f_m_isPattern288 p1 I) (pR X g I) := by
  obtain ⟨d, rfl⟩ : ∃ k, d = k + 1 := ⟨d - 1, by omega⟩
  unfold f_m_isPattern288
  refine Go_blk 3 (pc' := 3) (L' := [(0, .ref 47), (1, .int p1)]) (S' := [.int (5 : Int32), .int (0 : Int32), .int p1]) (h' := (hh X g I)) rfl ?_
  refine Go_cR (y' := 264) (As := [.int p1, .int (0 : Int32), .int (5 : Int32)]) (r := []) rfl (g_m_in264 p1 (0 : Int32) (5 : Int32) (by omega)) fun v1 => ?_
  exact Go_ret (fun _ h => h) rfl
set_option maxRecDepth 1000000 in
set_option maxHeartbeats 4000000 in
theorem g_m_opens290  {X : XX} {g : GG} {I : MJ} {d : Nat} (hd : 1 ≤ d) : Go d 290 0 (lv_args 0 [.ref 47]) [] (hh X g I) (f_m_opens290  I) (pW X g) := by
  obtain ⟨d, rfl⟩ : ∃ k, d = k + 1 := ⟨d - 1, by omega⟩
  unfold f_m_opens290
  refine Go_blk 2 (pc' := 4) (L' := [(0, .ref 47)]) (S' := [.int (I 47 5)]) (h' := (hh X g I)) rfl ?_
  refine Go_seq (pcj := 45) (fun (b1 : MJ) => [(0, .ref 47)]) (fun (b1 : MJ) => []) (fun (b1 : MJ) => (hh X g b1)) (fun b1 => ?_) ?_
  ·
    refine Go_blk 2 (pc' := 49) (L' := [(0, .ref 47)]) (S' := [.int (b1 47 5)]) (h' := (hh X g b1)) rfl ?_
    refine Go_seq (pcj := 57) (fun (b2 : Int32) => []) (fun (b2 : Int32) => [.int b2]) (fun (b2 : Int32) => (hh X g b1)) (fun b2 => ?_) ?_
    ·
      exact Go_ret (fun _ h => h) rfl
    ·
      refine Go_cmzn rfl rfl rfl ?_ ?_
      ·
        refine Go_blk 2 (pc' := 57) (L' := [(0, .ref 47)]) (S' := [.int (1 : Int32)]) (h' := (hh X g b1)) rfl ?_
        exact Go_jmp [] rfl trivial (fun _ h => h)
      ·
        refine Go_blk 1 (pc' := 57) (L' := [(0, .ref 47)]) (S' := [.int (0 : Int32)]) (h' := (hh X g b1)) rfl ?_
        exact Go_jmp [] rfl trivial (fun _ h => h)
  ·
    refine Go_cmzn rfl rfl rfl ?_ ?_
    ·
      refine Go_blk 3 (pc' := 13) (L' := [(0, .ref 47)]) (S' := [.int (6 : Int32), .int (I 47 8)]) (h' := (hh X g I)) rfl ?_
      refine Go_cmpn rfl rfl rfl ?_ ?_
      ·
        refine Go_blk 4 (pc' := 22) (L' := [(0, .ref 47)]) (S' := [.int (I 47 4), .int (3 : Int32), .ref 47]) (h' := (hh X g I)) rfl ?_
        refine Go_cV (y' := 278) (As := [.ref 47, .int (3 : Int32), .int (I 47 4)]) (r := []) rfl (g_m_wrong278 (3 : Int32) (I 47 4) (by omega)) fun I3 => ?_
        refine Go_blk 1 (pc' := 45) (L' := [(0, .ref 47)]) (S' := []) (h' := (hh X g I3)) rfl ?_
        exact Go_jmp [(0, .ref 47)] rfl ⟨rfl, trivial⟩ (fun _ h => h)
      ·
        refine Go_blk 2 (pc' := 32) (L' := [(0, .ref 47)]) (S' := [.int (I 47 5)]) (h' := (hh X g I)) rfl ?_
        refine Go_cmzn rfl rfl rfl ?_ ?_
        ·
          refine Go_blk 6 (pc' := 45) (L' := [(0, .ref 47)]) (S' := []) (h' := (hh X g (ab_up1 I 47 8 ((I 47 8) + (1 : Int32))))) rfl ?_
          exact Go_jmp [(0, .ref 47)] rfl ⟨rfl, trivial⟩ (fun _ h => h)
        ·
          exact Go_jmp [(0, .ref 47)] rfl ⟨rfl, trivial⟩ (fun _ h => h)
    ·
      refine Go_blk 2 (pc' := 32) (L' := [(0, .ref 47)]) (S' := [.int (I 47 5)]) (h' := (hh X g I)) rfl ?_
      refine Go_cmzn rfl rfl rfl ?_ ?_
      ·
        refine Go_blk 6 (pc' := 45) (L' := [(0, .ref 47)]) (S' := []) (h' := (hh X g (ab_up1 I 47 8 ((I 47 8) + (1 : Int32))))) rfl ?_
        exact Go_jmp [(0, .ref 47)] rfl ⟨rfl, trivial⟩ (fun _ h => h)
      ·
        exact Go_jmp [(0, .ref 47)] rfl ⟨rfl, trivial⟩ (fun _ h => h)
set_option maxRecDepth 1000000 in
set_option maxHeartbeats 4000000 in
theorem G_m_part289 (r : Int32 → MJ → Option (MJ)) (dr : Nat) (hM : 5 ≤ dr) (hr : ∀ (p1 : Int32) (X : XX) (g : GG) (I : MJ), Go dr 289 0 (lv_args 0 [.ref 47, .int p1]) [] (hh X g I) (r p1 I) (pV X g)) (p1 : Int32) {X : XX} {g : GG} {I : MJ} {d : Nat} (hd : dr + 1 ≤ d) : Go d 289 0 (lv_args 0 [.ref 47, .int p1]) [] (hh X g I) (F_m_part289 r p1 I) (pV X g) := by
  obtain ⟨d, rfl⟩ : ∃ k, d = k + 1 := ⟨d - 1, by omega⟩
  unfold F_m_part289
  refine Go_blk 1 (pc' := 1) (L' := [(0, .ref 47), (1, .int p1)]) (S' := [.ref 47]) (h' := (hh X g I)) rfl ?_
  refine Go_cV (y' := 270) (As := [.ref 47]) (r := []) rfl (g_m_blanks270  (by omega)) fun I1 => ?_
  refine Go_blk 7 (pc' := 14) (L' := [(0, .ref 47), (1, .int p1)]) (S' := [.int (0 : Int32), .int (14 : Int32), .int (9 : Int32), .int (1 : Int32), .int (7 : Int32), .int (1 : Int32), .ref 47]) (h' := (hh X g I1)) rfl ?_
  refine Go_cW (y' := 274) (As := [.ref 47, .int (1 : Int32), .int (7 : Int32), .int (1 : Int32), .int (9 : Int32), .int (14 : Int32), .int (0 : Int32)]) (r := []) rfl (g_m_isWord274 (1 : Int32) (7 : Int32) (1 : Int32) (9 : Int32) (14 : Int32) (0 : Int32) (by omega)) fun w2 => ?_
  refine Go_cmz rfl rfl rfl ?_ ?_
  ·
    refine Go_blk 6 (pc' := 239) (L' := [(2, .int (w2.2 47 4)), (0, .ref 47), (1, .int p1)]) (S' := [.int (12 : Int32), .int (1 : Int32), .ref 47]) (h' := (hh X g w2.2)) rfl ?_
    refine Go_cW (y' := 283) (As := [.ref 47, .int (1 : Int32), .int (12 : Int32)]) (r := []) rfl (g_m_number283 (1 : Int32) (12 : Int32) (by omega)) fun w3 => ?_
    refine Go_blk 3 (pc' := 247) (L' := [(3, .int w3.1), (2, .int (w2.2 47 4)), (0, .ref 47), (1, .int p1)]) (S' := [.int (w3.2 47 5)]) (h' := (hh X g w3.2)) rfl ?_
    refine Go_seq (pcj := 269) (fun (b4 : MJ) => [(0, .ref 47), (1, .int p1), (3, .int w3.1)]) (fun (b4 : MJ) => []) (fun (b4 : MJ) => (hh X g b4)) (fun b4 => ?_) ?_
    ·
      refine Go_blk 2 (pc' := 273) (L' := [(0, .ref 47), (1, .int p1), (3, .int w3.1)]) (S' := [.int (b4 47 5)]) (h' := (hh X g b4)) rfl ?_
      refine Go_seq (pcj := 284) (fun (b5 : Int32 × MJ) => [(0, .ref 47), (1, .int p1), (3, .int w3.1)]) (fun (b5 : Int32 × MJ) => [.int b5.1]) (fun (b5 : Int32 × MJ) => (hh X g b5.2)) (fun b5 => ?_) ?_
      ·
        refine Go_blk 3 (pc' := 289) (L' := [(5, .int (0 : Int32)), (4, .int b5.1), (0, .ref 47), (1, .int p1), (3, .int w3.1)]) (S' := []) (h' := (hh X g b5.2)) rfl ?_
        refine Go_lcs [(0, .ref 47), (1, .int p1), (3, .int w3.1), (4, .int b5.1), (5, .int (0 : Int32))] rfl ⟨rfl, rfl, rfl, rfl, rfl, trivial⟩ ?_
        refine Go_seq (pcj := 333) (fun (b7 : MJ) => [(0, .ref 47)]) (fun (b7 : MJ) => []) (fun (b7 : MJ) => (hh X g b7)) (fun b7 => ?_) ?_
        ·
          refine Go_blk 2 (pc' := 336) (L' := [(0, .ref 47)]) (S' := [.int (59 : Int32), .ref 47]) (h' := (hh X g b7)) rfl ?_
          refine Go_cV (y' := 285) (As := [.ref 47, .int (59 : Int32)]) (r := []) rfl (g_m_sign285 (59 : Int32) (by omega)) fun I8 => ?_
          exact Go_ret (fun _ h => h) rfl
        ·
          refine Go_wh (fun (s6 : Int32 × MJ) => [(0, .ref 47), (1, .int p1), (3, .int w3.1), (4, .int b5.1), (5, .int s6.1)]) (fun _ => []) (fun (s6 : Int32 × MJ) => (hh X g s6.2)) (fun s6 => ?_) ((0 : Int32), b5.2)
          refine Go_blk 2 (pc' := 292) (L' := [(0, .ref 47), (1, .int p1), (3, .int w3.1), (4, .int b5.1), (5, .int s6.1)]) (S' := [.int w3.1, .int s6.1]) (h' := (hh X g s6.2)) rfl ?_
          refine Go_cmpn rfl rfl (ab_cge _ _) ?_ ?_
          ·
            refine Go_blk 2 (pc' := 299) (L' := [(0, .ref 47), (1, .int p1), (3, .int w3.1), (4, .int b5.1), (5, .int s6.1)]) (S' := [.int (s6.2 47 5)]) (h' := (hh X g s6.2)) rfl ?_
            refine Go_cmzn rfl rfl rfl ?_ ?_
            ·
              refine Go_blk 3 (pc' := 307) (L' := [(0, .ref 47), (1, .int p1), (3, .int w3.1), (4, .int b5.1), (5, .int s6.1)]) (S' := [.int p1, .ref 136]) (h' := (hh X g s6.2)) rfl ?_
              refine Go_aald rfl fun r9 => ?_
              refine Go_blk 3 (pc' := 313) (L' := [(0, .ref 47), (1, .int p1), (3, .int w3.1), (4, .int b5.1), (5, .int s6.1)]) (S' := [.int p1, .ref 144, .ref r9]) (h' := (hh X g s6.2)) rfl ?_
              refine Go_iald rfl fun v10 => ?_
              refine Go_blk 1 (pc' := 316) (L' := [(0, .ref 47), (1, .int p1), (3, .int w3.1), (4, .int b5.1), (5, .int s6.1)]) (S' := [.int b5.1, .int v10, .ref r9]) (h' := (hh X g s6.2)) rfl ?_
              refine Go_iast rfl fun I11 => ?_
              refine Go_blk 4 (pc' := 323) (L' := [(0, .ref 47), (1, .int p1), (3, .int w3.1), (4, .int b5.1), (5, .int s6.1)]) (S' := [.int p1, .ref 144, .int p1, .ref 144]) (h' := (hh X g I11)) rfl ?_
              refine Go_iald rfl fun v12 => ?_
              refine Go_blk 2 (pc' := 326) (L' := [(0, .ref 47), (1, .int p1), (3, .int w3.1), (4, .int b5.1), (5, .int s6.1)]) (S' := [.int (v12 + (1 : Int32)), .int p1, .ref 144]) (h' := (hh X g I11)) rfl ?_
              refine Go_iast rfl fun I13 => ?_
              refine Go_blk 2 (pc' := 289) (L' := [(5, .int (s6.1 + (1 : Int32))), (0, .ref 47), (1, .int p1), (3, .int w3.1), (4, .int b5.1)]) (S' := []) (h' := (hh X g I13)) rfl ?_
              exact Go_jmp [(0, .ref 47), (1, .int p1), (3, .int w3.1), (4, .int b5.1), (5, .int (s6.1 + (1 : Int32)))] rfl ⟨rfl, rfl, rfl, rfl, rfl, trivial⟩ (fun _ h => h)
            ·
              exact Go_jmp [(0, .ref 47)] rfl ⟨rfl, trivial⟩ (fun _ h => h)
          ·
            exact Go_jmp [(0, .ref 47)] rfl ⟨rfl, trivial⟩ (fun _ h => h)
      ·
        refine Go_cmzn rfl rfl rfl ?_ ?_
        ·
          refine Go_blk 1 (pc' := 277) (L' := [(0, .ref 47), (1, .int p1), (3, .int w3.1)]) (S' := [.ref 47]) (h' := (hh X g b4)) rfl ?_
          refine Go_cW (y' := 281) (As := [.ref 47]) (r := []) rfl (g_m_skyHere281  (by omega)) fun w14 => ?_
          refine Go_blk 1 (pc' := 284) (L' := [(0, .ref 47), (1, .int p1), (3, .int w3.1)]) (S' := [.int w14.1]) (h' := (hh X g w14.2)) rfl ?_
          exact Go_jmp [(0, .ref 47), (1, .int p1), (3, .int w3.1)] rfl ⟨rfl, rfl, rfl, trivial⟩ (fun _ h => h)
        ·
          refine Go_blk 1 (pc' := 284) (L' := [(0, .ref 47), (1, .int p1), (3, .int w3.1)]) (S' := [.int (0 : Int32)]) (h' := (hh X g b4)) rfl ?_
          exact Go_jmp [(0, .ref 47), (1, .int p1), (3, .int w3.1)] rfl ⟨rfl, rfl, rfl, trivial⟩ (fun _ h => h)
    ·
      refine Go_cmzn rfl rfl rfl ?_ ?_
      ·
        refine Go_blk 3 (pc' := 255) (L' := [(3, .int w3.1), (2, .int (w2.2 47 4)), (0, .ref 47), (1, .int p1)]) (S' := [.int p1, .ref 144]) (h' := (hh X g w3.2)) rfl ?_
        refine Go_iald rfl fun v15 => ?_
        refine Go_blk 3 (pc' := 260) (L' := [(3, .int w3.1), (2, .int (w2.2 47 4)), (0, .ref 47), (1, .int p1)]) (S' := [.int (12 : Int32), .int (v15 + w3.1)]) (h' := (hh X g w3.2)) rfl ?_
        refine Go_cmpn rfl rfl (ab_cle _ _) ?_ ?_
        ·
          refine Go_blk 3 (pc' := 266) (L' := [(3, .int w3.1), (2, .int (w2.2 47 4)), (0, .ref 47), (1, .int p1)]) (S' := [.int (w2.2 47 4), .int (4 : Int32), .ref 47]) (h' := (hh X g w3.2)) rfl ?_
          refine Go_cV (y' := 278) (As := [.ref 47, .int (4 : Int32), .int (w2.2 47 4)]) (r := []) rfl (g_m_wrong278 (4 : Int32) (w2.2 47 4) (by omega)) fun I16 => ?_
          exact Go_jmp [(0, .ref 47), (1, .int p1), (3, .int w3.1)] rfl ⟨rfl, rfl, rfl, trivial⟩ (fun _ h => h)
        ·
          exact Go_jmp [(0, .ref 47), (1, .int p1), (3, .int w3.1)] rfl ⟨rfl, rfl, rfl, trivial⟩ (fun _ h => h)
      ·
        exact Go_jmp [(0, .ref 47), (1, .int p1), (3, .int w3.1)] rfl ⟨rfl, rfl, rfl, trivial⟩ (fun _ h => h)
  ·
    refine Go_blk 4 (pc' := 26) (L' := [(2, .int (w2.2 47 4)), (0, .ref 47), (1, .int p1)]) (S' := [.ref 47]) (h' := (hh X g w2.2)) rfl ?_
    refine Go_cW (y' := 290) (As := [.ref 47]) (r := []) rfl (g_m_opens290  (by omega)) fun w17 => ?_
    refine Go_cmzn rfl rfl rfl ?_ ?_
    ·
      exact Go_ret (fun _ h => h) rfl
    ·
      refine Go_blk 1 (pc' := 34) (L' := [(2, .int (w2.2 47 4)), (0, .ref 47), (1, .int p1)]) (S' := [.ref 47]) (h' := (hh X g w17.2)) rfl ?_
      refine Go_cV (y' := 280) (As := [.ref 47]) (r := []) rfl (g_m_skipWord280  (by omega)) fun I18 => ?_
      refine Go_blk 3 (pc' := 41) (L' := [(2, .int (w2.2 47 4)), (0, .ref 47), (1, .int p1)]) (S' := [.int (12 : Int32), .int (0 : Int32), .ref 47]) (h' := (hh X g I18)) rfl ?_
      refine Go_cW (y' := 283) (As := [.ref 47, .int (0 : Int32), .int (12 : Int32)]) (r := []) rfl (g_m_number283 (0 : Int32) (12 : Int32) (by omega)) fun w19 => ?_
      refine Go_blk 3 (pc' := 48) (L' := [(3, .int w19.1), (2, .int (w2.2 47 4)), (0, .ref 47), (1, .int p1)]) (S' := [.int (91 : Int32), .ref 47]) (h' := (hh X g w19.2)) rfl ?_
      refine Go_cV (y' := 285) (As := [.ref 47, .int (91 : Int32)]) (r := []) rfl (g_m_sign285 (91 : Int32) (by omega)) fun I20 => ?_
      refine Go_blk 6 (pc' := 59) (L' := [(3, .int w19.1), (2, .int (w2.2 47 4)), (0, .ref 47), (1, .int p1)]) (S' := [.int (0 : Int32), .int (p1 + (1 : Int32)), .ref 144]) (h' := (hh X g I20)) rfl ?_
      refine Go_iast rfl fun I21 => ?_
      refine Go_blk 1 (pc' := 61) (L' := [(3, .int w19.1), (2, .int (w2.2 47 4)), (0, .ref 47), (1, .int p1)]) (S' := [.ref 47]) (h' := (hh X g I21)) rfl ?_
      refine Go_cV (y' := 270) (As := [.ref 47]) (r := []) rfl (g_m_blanks270  (by omega)) fun I22 => ?_
      refine Go_lcs [(0, .ref 47), (1, .int p1), (2, .int (w2.2 47 4)), (3, .int w19.1)] rfl ⟨rfl, rfl, rfl, rfl, trivial⟩ ?_
      refine Go_seq (pcj := 98) (fun (b24 : MJ) => [(0, .ref 47), (1, .int p1), (2, .int (w2.2 47 4)), (3, .int w19.1)]) (fun (b24 : MJ) => []) (fun (b24 : MJ) => (hh X g b24)) (fun b24 => ?_) ?_
      ·
        refine Go_blk 2 (pc' := 101) (L' := [(0, .ref 47), (1, .int p1), (2, .int (w2.2 47 4)), (3, .int w19.1)]) (S' := [.int (93 : Int32), .ref 47]) (h' := (hh X g b24)) rfl ?_
        refine Go_cV (y' := 285) (As := [.ref 47, .int (93 : Int32)]) (r := []) rfl (g_m_sign285 (93 : Int32) (by omega)) fun I25 => ?_
        refine Go_blk 2 (pc' := 108) (L' := [(0, .ref 47), (1, .int p1), (2, .int (w2.2 47 4)), (3, .int w19.1)]) (S' := [.int (I25 47 5)]) (h' := (hh X g I25)) rfl ?_
        refine Go_seq (pcj := 139) (fun (b26 : MJ) => [(0, .ref 47), (1, .int p1), (3, .int w19.1)]) (fun (b26 : MJ) => []) (fun (b26 : MJ) => (hh X g b26)) (fun b26 => ?_) ?_
        ·
          refine Go_blk 2 (pc' := 142) (L' := [(4, .int (0 : Int32)), (0, .ref 47), (1, .int p1), (3, .int w19.1)]) (S' := []) (h' := (hh X g b26)) rfl ?_
          refine Go_lcs [(0, .ref 47), (1, .int p1), (3, .int w19.1), (4, .int (0 : Int32))] rfl ⟨rfl, rfl, rfl, rfl, trivial⟩ ?_
          refine Go_seq (pcj := 217) (fun (b28 : MJ) => [(0, .ref 47)]) (fun (b28 : MJ) => []) (fun (b28 : MJ) => (hh X g b28)) (fun b28 => ?_) ?_
          ·
            refine Go_blk 9 (pc' := 336) (L' := [(0, .ref 47)]) (S' := [.int (59 : Int32), .ref 47]) (h' := (hh X g (ab_up1 b28 47 8 ((b28 47 8) - (1 : Int32))))) rfl ?_
            refine Go_cV (y' := 285) (As := [.ref 47, .int (59 : Int32)]) (r := []) rfl (g_m_sign285 (59 : Int32) (by omega)) fun I29 => ?_
            exact Go_ret (fun _ h => h) rfl
          ·
            refine Go_wh (fun (s27 : Int32 × MJ) => [(0, .ref 47), (1, .int p1), (3, .int w19.1), (4, .int s27.1)]) (fun _ => []) (fun (s27 : Int32 × MJ) => (hh X g s27.2)) (fun s27 => ?_) ((0 : Int32), b26)
            refine Go_blk 2 (pc' := 145) (L' := [(0, .ref 47), (1, .int p1), (3, .int w19.1), (4, .int s27.1)]) (S' := [.int w19.1, .int s27.1]) (h' := (hh X g s27.2)) rfl ?_
            refine Go_cmpn rfl rfl (ab_cge _ _) ?_ ?_
            ·
              refine Go_blk 2 (pc' := 152) (L' := [(0, .ref 47), (1, .int p1), (3, .int w19.1), (4, .int s27.1)]) (S' := [.int (s27.2 47 5)]) (h' := (hh X g s27.2)) rfl ?_
              refine Go_cmzn rfl rfl rfl ?_ ?_
              ·
                refine Go_blk 2 (pc' := 158) (L' := [(5, .int (0 : Int32)), (0, .ref 47), (1, .int p1), (3, .int w19.1), (4, .int s27.1)]) (S' := []) (h' := (hh X g s27.2)) rfl ?_
                refine Go_lcs [(0, .ref 47), (1, .int p1), (3, .int w19.1), (4, .int s27.1), (5, .int (0 : Int32))] rfl ⟨rfl, rfl, rfl, rfl, rfl, trivial⟩ ?_
                refine Go_seq (pcj := 211) (fun (b31 : MJ) => [(0, .ref 47), (1, .int p1), (3, .int w19.1), (4, .int s27.1)]) (fun (b31 : MJ) => []) (fun (b31 : MJ) => (hh X g b31)) (fun b31 => ?_) ?_
                ·
                  refine Go_blk 2 (pc' := 142) (L' := [(4, .int (s27.1 + (1 : Int32))), (0, .ref 47), (1, .int p1), (3, .int w19.1)]) (S' := []) (h' := (hh X g b31)) rfl ?_
                  exact Go_jmp [(0, .ref 47), (1, .int p1), (3, .int w19.1), (4, .int (s27.1 + (1 : Int32)))] rfl ⟨rfl, rfl, rfl, rfl, trivial⟩ (fun _ h => h)
                ·
                  refine Go_wh (fun (s30 : Int32 × MJ) => [(0, .ref 47), (1, .int p1), (3, .int w19.1), (4, .int s27.1), (5, .int s30.1)]) (fun _ => []) (fun (s30 : Int32 × MJ) => (hh X g s30.2)) (fun s30 => ?_) ((0 : Int32), s27.2)
                  refine Go_blk 6 (pc' := 167) (L' := [(0, .ref 47), (1, .int p1), (3, .int w19.1), (4, .int s27.1), (5, .int s30.1)]) (S' := [.int (p1 + (1 : Int32)), .ref 144, .int s30.1]) (h' := (hh X g s30.2)) rfl ?_
                  refine Go_iald rfl fun v32 => ?_
                  refine Go_cmpn rfl rfl (ab_cge _ _) ?_ ?_
                  ·
                    refine Go_blk 3 (pc' := 176) (L' := [(0, .ref 47), (1, .int p1), (3, .int w19.1), (4, .int s27.1), (5, .int s30.1)]) (S' := [.int p1, .ref 136]) (h' := (hh X g s30.2)) rfl ?_
                    refine Go_aald rfl fun r33 => ?_
                    refine Go_blk 3 (pc' := 182) (L' := [(0, .ref 47), (1, .int p1), (3, .int w19.1), (4, .int s27.1), (5, .int s30.1)]) (S' := [.int p1, .ref 144, .ref r33]) (h' := (hh X g s30.2)) rfl ?_
                    refine Go_iald rfl fun v34 => ?_
                    refine Go_blk 5 (pc' := 190) (L' := [(0, .ref 47), (1, .int p1), (3, .int w19.1), (4, .int s27.1), (5, .int s30.1)]) (S' := [.int (p1 + (1 : Int32)), .ref 136, .int v34, .ref r33]) (h' := (hh X g s30.2)) rfl ?_
                    refine Go_aald rfl fun r35 => ?_
                    refine Go_blk 1 (pc' := 193) (L' := [(0, .ref 47), (1, .int p1), (3, .int w19.1), (4, .int s27.1), (5, .int s30.1)]) (S' := [.int s30.1, .ref r35, .int v34, .ref r33]) (h' := (hh X g s30.2)) rfl ?_
                    refine Go_iald rfl fun v36 => ?_
                    refine Go_iast rfl fun I37 => ?_
                    refine Go_blk 4 (pc' := 201) (L' := [(0, .ref 47), (1, .int p1), (3, .int w19.1), (4, .int s27.1), (5, .int s30.1)]) (S' := [.int p1, .ref 144, .int p1, .ref 144]) (h' := (hh X g I37)) rfl ?_
                    refine Go_iald rfl fun v38 => ?_
                    refine Go_blk 2 (pc' := 204) (L' := [(0, .ref 47), (1, .int p1), (3, .int w19.1), (4, .int s27.1), (5, .int s30.1)]) (S' := [.int (v38 + (1 : Int32)), .int p1, .ref 144]) (h' := (hh X g I37)) rfl ?_
                    refine Go_iast rfl fun I39 => ?_
                    refine Go_blk 2 (pc' := 158) (L' := [(5, .int (s30.1 + (1 : Int32))), (0, .ref 47), (1, .int p1), (3, .int w19.1), (4, .int s27.1)]) (S' := []) (h' := (hh X g I39)) rfl ?_
                    exact Go_jmp [(0, .ref 47), (1, .int p1), (3, .int w19.1), (4, .int s27.1), (5, .int (s30.1 + (1 : Int32)))] rfl ⟨rfl, rfl, rfl, rfl, rfl, trivial⟩ (fun _ h => h)
                  ·
                    exact Go_jmp [(0, .ref 47), (1, .int p1), (3, .int w19.1), (4, .int s27.1)] rfl ⟨rfl, rfl, rfl, rfl, trivial⟩ (fun _ h => h)
              ·
                exact Go_jmp [(0, .ref 47)] rfl ⟨rfl, trivial⟩ (fun _ h => h)
            ·
              exact Go_jmp [(0, .ref 47)] rfl ⟨rfl, trivial⟩ (fun _ h => h)
        ·
          refine Go_cmzn rfl rfl rfl ?_ ?_
          ·
            refine Go_blk 3 (pc' := 116) (L' := [(0, .ref 47), (1, .int p1), (2, .int (w2.2 47 4)), (3, .int w19.1)]) (S' := [.int p1, .ref 144]) (h' := (hh X g I25)) rfl ?_
            refine Go_iald rfl fun v40 => ?_
            refine Go_blk 6 (pc' := 125) (L' := [(0, .ref 47), (1, .int p1), (2, .int (w2.2 47 4)), (3, .int w19.1)]) (S' := [.int (p1 + (1 : Int32)), .ref 144, .int w19.1, .int v40]) (h' := (hh X g I25)) rfl ?_
            refine Go_iald rfl fun v41 => ?_
            refine Go_blk 3 (pc' := 130) (L' := [(0, .ref 47), (1, .int p1), (2, .int (w2.2 47 4)), (3, .int w19.1)]) (S' := [.int (12 : Int32), .int (v40 + (w19.1 * v41))]) (h' := (hh X g I25)) rfl ?_
            refine Go_cmpn rfl rfl (ab_cle _ _) ?_ ?_
            ·
              refine Go_blk 3 (pc' := 136) (L' := [(0, .ref 47), (1, .int p1), (2, .int (w2.2 47 4)), (3, .int w19.1)]) (S' := [.int (w2.2 47 4), .int (4 : Int32), .ref 47]) (h' := (hh X g I25)) rfl ?_
              refine Go_cV (y' := 278) (As := [.ref 47, .int (4 : Int32), .int (w2.2 47 4)]) (r := []) rfl (g_m_wrong278 (4 : Int32) (w2.2 47 4) (by omega)) fun I42 => ?_
              exact Go_jmp [(0, .ref 47), (1, .int p1), (3, .int w19.1)] rfl ⟨rfl, rfl, rfl, trivial⟩ (fun _ h => h)
            ·
              exact Go_jmp [(0, .ref 47), (1, .int p1), (3, .int w19.1)] rfl ⟨rfl, rfl, rfl, trivial⟩ (fun _ h => h)
          ·
            exact Go_jmp [(0, .ref 47), (1, .int p1), (3, .int w19.1)] rfl ⟨rfl, rfl, rfl, trivial⟩ (fun _ h => h)
      ·
        refine Go_wh (fun (s23 : MJ) => [(0, .ref 47), (1, .int p1), (2, .int (w2.2 47 4)), (3, .int w19.1)]) (fun _ => []) (fun (s23 : MJ) => (hh X g s23)) (fun s23 => ?_) I22
        refine Go_blk 2 (pc' := 68) (L' := [(0, .ref 47), (1, .int p1), (2, .int (w2.2 47 4)), (3, .int w19.1)]) (S' := [.int (s23 47 5)]) (h' := (hh X g s23)) rfl ?_
        refine Go_cmzn rfl rfl rfl ?_ ?_
        ·
          refine Go_blk 3 (pc' := 76) (L' := [(0, .ref 47), (1, .int p1), (2, .int (w2.2 47 4)), (3, .int w19.1)]) (S' := [.int (s23 47 4), .ref 47]) (h' := (hh X g s23)) rfl ?_
          refine Go_cR (y' := 271) (As := [.ref 47, .int (s23 47 4)]) (r := []) rfl (g_m_byteAt271 (s23 47 4) (by omega)) fun v43 => ?_
          refine Go_blk 1 (pc' := 81) (L' := [(0, .ref 47), (1, .int p1), (2, .int (w2.2 47 4)), (3, .int w19.1)]) (S' := [.int (93 : Int32), .int v43]) (h' := (hh X g s23)) rfl ?_
          refine Go_cmp rfl rfl rfl ?_ ?_
          ·
            exact Go_jmp [(0, .ref 47), (1, .int p1), (2, .int (w2.2 47 4)), (3, .int w19.1)] rfl ⟨rfl, rfl, rfl, rfl, trivial⟩ (fun _ h => h)
          ·
            refine Go_blk 4 (pc' := 88) (L' := [(0, .ref 47), (1, .int p1), (2, .int (w2.2 47 4)), (3, .int w19.1)]) (S' := [.int (p1 + (1 : Int32)), .ref 47]) (h' := (hh X g s23)) rfl ?_
            refine Go_cV (y' := 289) (As := [.ref 47, .int (p1 + (1 : Int32))]) (r := []) rfl (Go_dep (by omega) (hr (p1 + (1 : Int32)) X g _)) fun I44 => ?_
            refine Go_blk 1 (pc' := 92) (L' := [(0, .ref 47), (1, .int p1), (2, .int (w2.2 47 4)), (3, .int w19.1)]) (S' := [.ref 47]) (h' := (hh X g I44)) rfl ?_
            refine Go_cV (y' := 270) (As := [.ref 47]) (r := []) rfl (g_m_blanks270  (by omega)) fun I45 => ?_
            refine Go_blk 1 (pc' := 64) (L' := [(0, .ref 47), (1, .int p1), (2, .int (w2.2 47 4)), (3, .int w19.1)]) (S' := []) (h' := (hh X g I45)) rfl ?_
            exact Go_jmp [(0, .ref 47), (1, .int p1), (2, .int (w2.2 47 4)), (3, .int w19.1)] rfl ⟨rfl, rfl, rfl, rfl, trivial⟩ (fun _ h => h)
        ·
          exact Go_jmp [(0, .ref 47), (1, .int p1), (2, .int (w2.2 47 4)), (3, .int w19.1)] rfl ⟨rfl, rfl, rfl, rfl, trivial⟩ (fun _ h => h)
theorem g_m_part289 (k : Nat) : ∀ (p1 : Int32) {X : XX} {g : GG} {I : MJ} {d : Nat}, 5 + 1 * k ≤ d → Go d 289 0 (lv_args 0 [.ref 47, .int p1]) [] (hh X g I) (f_m_part289 k p1 I) (pV X g) := by
  induction k with
  | zero => intros; exact Go_none
  | succ k ih =>
    intro p1 X g I d hd
    exact G_m_part289 (f_m_part289 k) (5 + 1 * k) (by omega) (fun p1 X g I => ih p1 (Nat.le_refl _)) p1 (by omega)
set_option maxRecDepth 1000000 in
set_option maxHeartbeats 4000000 in
theorem g_m_runsOf291 (p0 : Nat) (p1 : Int32) {X : XX} {g : GG} {I : MJ} {d : Nat} (hd : 0 ≤ d) : Go d 291 0 (lv_args 0 [.ref p0, .int p1]) [] (hh X g I) (f_m_runsOf291 p0 p1 I) (pR X g I) := by
  unfold f_m_runsOf291
  refine Go_blk 4 (pc' := 4) (L' := [(3, .int (0 : Int32)), (2, .int (0 : Int32)), (0, .ref p0), (1, .int p1)]) (S' := []) (h' := (hh X g I)) rfl ?_
  refine Go_lcs [(0, .ref p0), (1, .int p1), (2, .int (0 : Int32)), (3, .int (0 : Int32))] rfl ⟨rfl, rfl, rfl, rfl, trivial⟩ ?_
  refine Go_seq (pcj := 53) (fun (b2 : Int32) => [(2, .int b2)]) (fun (b2 : Int32) => []) (fun (b2 : Int32) => (hh X g I)) (fun b2 => ?_) ?_
  ·
    refine Go_blk 1 (pc' := 54) (L' := [(2, .int b2)]) (S' := [.int b2]) (h' := (hh X g I)) rfl ?_
    exact Go_ret (fun _ h => h) rfl
  ·
    refine Go_wh (fun (s1 : Int32 × Int32) => [(0, .ref p0), (1, .int p1), (2, .int s1.1), (3, .int s1.2)]) (fun _ => []) (fun (s1 : Int32 × Int32) => (hh X g I)) (fun s1 => ?_) ((0 : Int32), (0 : Int32))
    refine Go_blk 2 (pc' := 7) (L' := [(0, .ref p0), (1, .int p1), (2, .int s1.1), (3, .int s1.2)]) (S' := [.int (12 : Int32), .int s1.2]) (h' := (hh X g I)) rfl ?_
    refine Go_cmpn rfl rfl (ab_cge _ _) ?_ ?_
    ·
      refine Go_blk 5 (pc' := 15) (L' := [(0, .ref p0), (1, .int p1), (2, .int s1.1), (3, .int s1.2)]) (S' := [.int (p1 + s1.2), .ref p0, .int s1.1]) (h' := (hh X g I)) rfl ?_
      refine Go_iald rfl fun v3 => ?_
      refine Go_blk 1 (pc' := 18) (L' := [(0, .ref p0), (1, .int p1), (2, .int s1.1), (3, .int s1.2)]) (S' := [.int (6 : Int32), .int v3, .int s1.1]) (h' := (hh X g I)) rfl ?_
      refine Go_seq (pcj := 45) (fun (b4 : Int32) => [(0, .ref p0), (1, .int p1), (3, .int s1.2)]) (fun (b4 : Int32) => [.int b4, .int s1.1]) (fun (b4 : Int32) => (hh X g I)) (fun b4 => ?_) ?_
      ·
        refine Go_blk 4 (pc' := 4) (L' := [(3, .int (s1.2 + (1 : Int32))), (2, .int (s1.1 + b4)), (0, .ref p0), (1, .int p1)]) (S' := []) (h' := (hh X g I)) rfl ?_
        exact Go_jmp [(0, .ref p0), (1, .int p1), (2, .int (s1.1 + b4)), (3, .int (s1.2 + (1 : Int32)))] rfl ⟨rfl, rfl, rfl, rfl, trivial⟩ (fun _ h => h)
      ·
        refine Go_cmp rfl rfl rfl ?_ ?_
        ·
          refine Go_blk 1 (pc' := 45) (L' := [(0, .ref p0), (1, .int p1), (2, .int s1.1), (3, .int s1.2)]) (S' := [.int (0 : Int32), .int s1.1]) (h' := (hh X g I)) rfl ?_
          exact Go_jmp [(0, .ref p0), (1, .int p1), (3, .int s1.2)] rfl ⟨rfl, rfl, rfl, trivial⟩ (fun _ h => h)
        ·
          refine Go_blk 1 (pc' := 22) (L' := [(0, .ref p0), (1, .int p1), (2, .int s1.1), (3, .int s1.2)]) (S' := [.int s1.2, .int s1.1]) (h' := (hh X g I)) rfl ?_
          refine Go_cmz rfl rfl rfl ?_ ?_
          ·
            refine Go_blk 2 (pc' := 45) (L' := [(0, .ref p0), (1, .int p1), (2, .int s1.1), (3, .int s1.2)]) (S' := [.int (1 : Int32), .int s1.1]) (h' := (hh X g I)) rfl ?_
            exact Go_jmp [(0, .ref p0), (1, .int p1), (3, .int s1.2)] rfl ⟨rfl, rfl, rfl, trivial⟩ (fun _ h => h)
          ·
            refine Go_blk 4 (pc' := 29) (L' := [(0, .ref p0), (1, .int p1), (2, .int s1.1), (3, .int s1.2)]) (S' := [.int (p1 + s1.2), .ref p0, .int s1.1]) (h' := (hh X g I)) rfl ?_
            refine Go_iald rfl fun v5 => ?_
            refine Go_blk 6 (pc' := 36) (L' := [(0, .ref p0), (1, .int p1), (2, .int s1.1), (3, .int s1.2)]) (S' := [.int ((p1 + s1.2) - (1 : Int32)), .ref p0, .int v5, .int s1.1]) (h' := (hh X g I)) rfl ?_
            refine Go_iald rfl fun v6 => ?_
            refine Go_cmp rfl rfl rfl ?_ ?_
            ·
              refine Go_blk 1 (pc' := 45) (L' := [(0, .ref p0), (1, .int p1), (2, .int s1.1), (3, .int s1.2)]) (S' := [.int (0 : Int32), .int s1.1]) (h' := (hh X g I)) rfl ?_
              exact Go_jmp [(0, .ref p0), (1, .int p1), (3, .int s1.2)] rfl ⟨rfl, rfl, rfl, trivial⟩ (fun _ h => h)
            ·
              refine Go_blk 2 (pc' := 45) (L' := [(0, .ref p0), (1, .int p1), (2, .int s1.1), (3, .int s1.2)]) (S' := [.int (1 : Int32), .int s1.1]) (h' := (hh X g I)) rfl ?_
              exact Go_jmp [(0, .ref p0), (1, .int p1), (3, .int s1.2)] rfl ⟨rfl, rfl, rfl, trivial⟩ (fun _ h => h)
    ·
      exact Go_jmp [(2, .int s1.1)] rfl ⟨rfl, trivial⟩ (fun _ h => h)
set_option maxRecDepth 1000000 in
set_option maxHeartbeats 4000000 in
theorem g_m_pattern287 (p1 : Int32) (p2 : Int32) {X : XX} {g : GG} {I : MJ} {d : Nat} (hd : 22 ≤ d) : Go d 287 0 (lv_args 0 [.ref 47, .int p1, .int p2]) [] (hh X g I) (f_m_pattern287 p1 p2 I) (pW X g) := by
  obtain ⟨d, rfl⟩ : ∃ k, d = k + 1 := ⟨d - 1, by omega⟩
  unfold f_m_pattern287
  refine Go_blk 6 (pc' := 8) (L' := [(0, .ref 47), (1, .int p1), (2, .int p2)]) (S' := [.int p1, .ref 47, .ref 47]) (h' := (hh X g (ab_up1 I 47 0 (0 : Int32)))) rfl ?_
  refine Go_cR (y' := 288) (As := [.ref 47, .int p1]) (r := [.ref 47]) rfl (g_m_isPattern288 p1 (by omega)) fun v1 => ?_
  refine Go_seq (pcj := 19) (fun (b2 : Int32) => [(0, .ref 47), (1, .int p1), (2, .int p2)]) (fun (b2 : Int32) => [.int b2, .ref 47]) (fun (b2 : Int32) => (hh X g (ab_up1 I 47 0 (0 : Int32)))) (fun b2 => ?_) ?_
  ·
    refine Go_blk 2 (pc' := 21) (L' := [(0, .ref 47), (1, .int p1), (2, .int p2)]) (S' := [.int (0 : Int32), .int (1 : Int32), .int b2, .ref 47]) (h' := (hh X g (ab_up1 I 47 0 (0 : Int32)))) rfl ?_
    refine Go_cW (y' := 268) (As := [.ref 47, .int b2, .int (1 : Int32), .int (0 : Int32)]) (r := []) rfl (g_m_bad268 b2 (1 : Int32) (0 : Int32) (by omega)) fun w3 => ?_
    refine Go_cmzn rfl rfl rfl ?_ ?_
    ·
      refine Go_blk 5 (pc' := 34) (L' := [(0, .ref 47), (1, .int p1), (2, .int p2)]) (S' := [.int (w3.2 47 1), .int (0 : Int32), .int p2, .ref 47]) (h' := (hh X g w3.2)) rfl ?_
      refine Go_cR (y' := 264) (As := [.int p2, .int (0 : Int32), .int (w3.2 47 1)]) (r := [.ref 47]) rfl (g_m_in264 p2 (0 : Int32) (w3.2 47 1) (by omega)) fun v4 => ?_
      refine Go_seq (pcj := 51) (fun (b5 : Int32) => [(0, .ref 47), (1, .int p1), (2, .int p2)]) (fun (b5 : Int32) => [.int b5, .ref 47]) (fun (b5 : Int32) => (hh X g w3.2)) (fun b5 => ?_) ?_
      ·
        refine Go_blk 2 (pc' := 53) (L' := [(0, .ref 47), (1, .int p1), (2, .int p2)]) (S' := [.int (1 : Int32), .int (2 : Int32), .int b5, .ref 47]) (h' := (hh X g w3.2)) rfl ?_
        refine Go_cW (y' := 268) (As := [.ref 47, .int b5, .int (2 : Int32), .int (1 : Int32)]) (r := []) rfl (g_m_bad268 b5 (2 : Int32) (1 : Int32) (by omega)) fun w6 => ?_
        refine Go_cmz rfl rfl rfl ?_ ?_
        ·
          refine Go_blk 2 (pc' := 63) (L' := [(0, .ref 47), (1, .int p1), (2, .int p2)]) (S' := [.int p2, .ref 47]) (h' := (hh X g w6.2)) rfl ?_
          refine Go_cV (y' := 269) (As := [.ref 47, .int p2]) (r := []) rfl (g_m_starts269 p2 (by omega)) fun I7 => ?_
          refine Go_blk 5 (pc' := 73) (L' := [(0, .ref 47), (1, .int p1), (2, .int p2)]) (S' := []) (h' := (hh X g (ab_up1 I7 144 0 (0 : Int32)))) rfl ?_
          refine Go_lcs [(0, .ref 47), (1, .int p1)] rfl ⟨rfl, rfl, trivial⟩ ?_
          refine Go_seq (pcj := 103) (fun (b9 : MJ) => [(0, .ref 47), (1, .int p1)]) (fun (b9 : MJ) => []) (fun (b9 : MJ) => (hh X g b9)) (fun b9 => ?_) ?_
          ·
            refine Go_blk 2 (pc' := 107) (L' := [(0, .ref 47), (1, .int p1)]) (S' := [.int (b9 47 5)]) (h' := (hh X g b9)) rfl ?_
            refine Go_seq (pcj := 130) (fun (b10 : MJ) => [(0, .ref 47), (1, .int p1)]) (fun (b10 : MJ) => []) (fun (b10 : MJ) => (hh X g b10)) (fun b10 => ?_) ?_
            ·
              refine Go_blk 2 (pc' := 134) (L' := [(0, .ref 47), (1, .int p1)]) (S' := [.int (b10 47 5)]) (h' := (hh X g b10)) rfl ?_
              refine Go_cmz rfl rfl rfl ?_ ?_
              ·
                refine Go_blk 7 (pc' := 153) (L' := [(0, .ref 47), (1, .int p1)]) (S' := [.int (1 : Int32), .int p1, .ref 135]) (h' := (hh X g (ab_up1 b10 47 3 (-1 : Int32)))) rfl ?_
                refine Go_bast rfl fun I11 => ?_
                refine Go_blk 2 (pc' := 156) (L' := [(3, .int (0 : Int32)), (0, .ref 47), (1, .int p1)]) (S' := []) (h' := (hh X g I11)) rfl ?_
                refine Go_lcs [(0, .ref 47), (1, .int p1), (3, .int (0 : Int32))] rfl ⟨rfl, rfl, rfl, trivial⟩ ?_
                refine Go_seq (pcj := 184) (fun (b13 : MJ) => [(0, .ref 47), (1, .int p1)]) (fun (b13 : MJ) => []) (fun (b13 : MJ) => (hh X g b13)) (fun b13 => ?_) ?_
                ·
                  refine Go_blk 3 (pc' := 189) (L' := [(0, .ref 47), (1, .int p1)]) (S' := [.int p1, .ref 128]) (h' := (hh X g b13)) rfl ?_
                  refine Go_aald rfl fun r14 => ?_
                  refine Go_blk 1 (pc' := 191) (L' := [(0, .ref 47), (1, .int p1)]) (S' := [.int (0 : Int32), .ref r14]) (h' := (hh X g b13)) rfl ?_
                  refine Go_cR (y' := 291) (As := [.ref r14, .int (0 : Int32)]) (r := []) rfl (g_m_runsOf291 r14 (0 : Int32) (by omega)) fun v15 => ?_
                  exact Go_ret (fun _ h => h) rfl
                ·
                  refine Go_wh (fun (s12 : Int32 × MJ) => [(0, .ref 47), (1, .int p1), (3, .int s12.1)]) (fun _ => []) (fun (s12 : Int32 × MJ) => (hh X g s12.2)) (fun s12 => ?_) ((0 : Int32), I11)
                  refine Go_blk 2 (pc' := 159) (L' := [(0, .ref 47), (1, .int p1), (3, .int s12.1)]) (S' := [.int (12 : Int32), .int s12.1]) (h' := (hh X g s12.2)) rfl ?_
                  refine Go_cmpn rfl rfl (ab_cge _ _) ?_ ?_
                  ·
                    refine Go_blk 3 (pc' := 167) (L' := [(0, .ref 47), (1, .int p1), (3, .int s12.1)]) (S' := [.int p1, .ref 128]) (h' := (hh X g s12.2)) rfl ?_
                    refine Go_aald rfl fun r16 => ?_
                    refine Go_blk 6 (pc' := 176) (L' := [(0, .ref 47), (1, .int p1), (3, .int s12.1)]) (S' := [.int s12.1, .ref 137, .int s12.1, .ref r16]) (h' := (hh X g s12.2)) rfl ?_
                    refine Go_iald rfl fun v17 => ?_
                    refine Go_iast rfl fun I18 => ?_
                    refine Go_blk 2 (pc' := 156) (L' := [(3, .int (s12.1 + (1 : Int32))), (0, .ref 47), (1, .int p1)]) (S' := []) (h' := (hh X g I18)) rfl ?_
                    exact Go_jmp [(0, .ref 47), (1, .int p1), (3, .int (s12.1 + (1 : Int32)))] rfl ⟨rfl, rfl, rfl, trivial⟩ (fun _ h => h)
                  ·
                    exact Go_jmp [(0, .ref 47), (1, .int p1)] rfl ⟨rfl, rfl, trivial⟩ (fun _ h => h)
              ·
                refine Go_blk 1 (pc' := 138) (L' := [(0, .ref 47), (1, .int p1)]) (S' := [.ref 47]) (h' := (hh X g b10)) rfl ?_
                refine Go_cW (y' := 286) (As := [.ref 47]) (r := []) rfl (g_m_ends286  (by omega)) fun w19 => ?_
                exact Go_ret (fun _ h => h) rfl
            ·
              refine Go_cmzn rfl rfl rfl ?_ ?_
              ·
                refine Go_blk 5 (pc' := 118) (L' := [(0, .ref 47), (1, .int p1)]) (S' := [.int (12 : Int32), .int (b9 144 0)]) (h' := (hh X g b9)) rfl ?_
                refine Go_cmpn rfl rfl (ab_cge _ _) ?_ ?_
                ·
                  refine Go_blk 4 (pc' := 127) (L' := [(0, .ref 47), (1, .int p1)]) (S' := [.int (b9 47 2), .int (4 : Int32), .ref 47]) (h' := (hh X g b9)) rfl ?_
                  refine Go_cV (y' := 278) (As := [.ref 47, .int (4 : Int32), .int (b9 47 2)]) (r := []) rfl (g_m_wrong278 (4 : Int32) (b9 47 2) (by omega)) fun I20 => ?_
                  exact Go_jmp [(0, .ref 47), (1, .int p1)] rfl ⟨rfl, rfl, trivial⟩ (fun _ h => h)
                ·
                  exact Go_jmp [(0, .ref 47), (1, .int p1)] rfl ⟨rfl, rfl, trivial⟩ (fun _ h => h)
              ·
                exact Go_jmp [(0, .ref 47), (1, .int p1)] rfl ⟨rfl, rfl, trivial⟩ (fun _ h => h)
          ·
            refine Go_wh (fun (s8 : MJ) => [(0, .ref 47), (1, .int p1)]) (fun _ => []) (fun (s8 : MJ) => (hh X g s8)) (fun s8 => ?_) (ab_up1 I7 144 0 (0 : Int32))
            refine Go_blk 2 (pc' := 77) (L' := [(0, .ref 47), (1, .int p1)]) (S' := [.int (s8 47 5)]) (h' := (hh X g s8)) rfl ?_
            refine Go_cmzn rfl rfl rfl ?_ ?_
            ·
              refine Go_blk 4 (pc' := 88) (L' := [(0, .ref 47), (1, .int p1)]) (S' := [.int (s8 47 2), .int (s8 47 4)]) (h' := (hh X g s8)) rfl ?_
              refine Go_cmpn rfl rfl (ab_cge _ _) ?_ ?_
              ·
                refine Go_blk 2 (pc' := 93) (L' := [(0, .ref 47), (1, .int p1)]) (S' := [.int (0 : Int32), .ref 47]) (h' := (hh X g s8)) rfl ?_
                refine Go_cV (y' := 289) (As := [.ref 47, .int (0 : Int32)]) (r := []) rfl (g_m_part289 16 (0 : Int32) (by omega)) fun I21 => ?_
                refine Go_blk 1 (pc' := 97) (L' := [(0, .ref 47), (1, .int p1)]) (S' := [.ref 47]) (h' := (hh X g I21)) rfl ?_
                refine Go_cV (y' := 270) (As := [.ref 47]) (r := []) rfl (g_m_blanks270  (by omega)) fun I22 => ?_
                refine Go_blk 1 (pc' := 73) (L' := [(0, .ref 47), (1, .int p1)]) (S' := []) (h' := (hh X g I22)) rfl ?_
                exact Go_jmp [(0, .ref 47), (1, .int p1)] rfl ⟨rfl, rfl, trivial⟩ (fun _ h => h)
              ·
                exact Go_jmp [(0, .ref 47), (1, .int p1)] rfl ⟨rfl, rfl, trivial⟩ (fun _ h => h)
            ·
              exact Go_jmp [(0, .ref 47), (1, .int p1)] rfl ⟨rfl, rfl, trivial⟩ (fun _ h => h)
        ·
          refine Go_blk 1 (pc' := 60) (L' := [(0, .ref 47), (1, .int p1), (2, .int p2)]) (S' := [.int (0 : Int32)]) (h' := (hh X g w6.2)) rfl ?_
          exact Go_ret (fun _ h => h) rfl
      ·
        refine Go_cmz rfl rfl rfl ?_ ?_
        ·
          refine Go_blk 2 (pc' := 51) (L' := [(0, .ref 47), (1, .int p1), (2, .int p2)]) (S' := [.int (1 : Int32), .ref 47]) (h' := (hh X g w3.2)) rfl ?_
          exact Go_jmp [(0, .ref 47), (1, .int p1), (2, .int p2)] rfl ⟨rfl, rfl, rfl, trivial⟩ (fun _ h => h)
        ·
          refine Go_blk 2 (pc' := 43) (L' := [(0, .ref 47), (1, .int p1), (2, .int p2)]) (S' := [.int (100 : Int32), .int p2, .ref 47]) (h' := (hh X g w3.2)) rfl ?_
          refine Go_cmpn rfl rfl (ab_cle _ _) ?_ ?_
          ·
            refine Go_blk 2 (pc' := 51) (L' := [(0, .ref 47), (1, .int p1), (2, .int p2)]) (S' := [.int (1 : Int32), .ref 47]) (h' := (hh X g w3.2)) rfl ?_
            exact Go_jmp [(0, .ref 47), (1, .int p1), (2, .int p2)] rfl ⟨rfl, rfl, rfl, trivial⟩ (fun _ h => h)
          ·
            refine Go_blk 1 (pc' := 51) (L' := [(0, .ref 47), (1, .int p1), (2, .int p2)]) (S' := [.int (0 : Int32), .ref 47]) (h' := (hh X g w3.2)) rfl ?_
            exact Go_jmp [(0, .ref 47), (1, .int p1), (2, .int p2)] rfl ⟨rfl, rfl, rfl, trivial⟩ (fun _ h => h)
    ·
      refine Go_blk 1 (pc' := 60) (L' := [(0, .ref 47), (1, .int p1), (2, .int p2)]) (S' := [.int (0 : Int32)]) (h' := (hh X g w3.2)) rfl ?_
      exact Go_ret (fun _ h => h) rfl
  ·
    refine Go_cmzn rfl rfl rfl ?_ ?_
    ·
      refine Go_blk 2 (pc' := 19) (L' := [(0, .ref 47), (1, .int p1), (2, .int p2)]) (S' := [.int (1 : Int32), .ref 47]) (h' := (hh X g (ab_up1 I 47 0 (0 : Int32)))) rfl ?_
      exact Go_jmp [(0, .ref 47), (1, .int p1), (2, .int p2)] rfl ⟨rfl, rfl, rfl, trivial⟩ (fun _ h => h)
    ·
      refine Go_blk 1 (pc' := 19) (L' := [(0, .ref 47), (1, .int p1), (2, .int p2)]) (S' := [.int (0 : Int32), .ref 47]) (h' := (hh X g (ab_up1 I 47 0 (0 : Int32)))) rfl ?_
      exact Go_jmp [(0, .ref 47), (1, .int p1), (2, .int p2)] rfl ⟨rfl, rfl, rfl, trivial⟩ (fun _ h => h)
set_option maxRecDepth 1000000 in
set_option maxHeartbeats 4000000 in
theorem g_mot_write86 (p1 : Int32) {X : XX} {g : GG} {I : MJ} {d : Nat} (hd : 1 ≤ d) : Go d 86 0 (lv_args 0 [.ref 23, .int p1]) [] (hh X g I) (f_mot_write86 p1 I) (pV X g) := by
  obtain ⟨d, rfl⟩ : ∃ k, d = k + 1 := ⟨d - 1, by omega⟩
  unfold f_mot_write86
  refine Go_blk 5 (pc' := 9) (L' := [(0, .ref 23), (1, .int p1)]) (S' := [.int p1, .int (I 23 5), .ref 25]) (h' := (hh X g I)) rfl ?_
  refine Go_cV (y' := 15) (As := [.ref 25, .int (I 23 5), .int p1]) (r := []) rfl (g_x_put15 25 (I 23 5) p1 (by omega)) fun I1 => ?_
  refine Go_blk 6 (pc' := 22) (L' := [(0, .ref 23), (1, .int p1)]) (S' := []) (h' := (hh X g (ab_up1 I1 23 5 ((I1 23 5) + (1 : Int32))))) rfl ?_
  exact Go_ret (fun _ h => h) rfl
set_option maxRecDepth 1000000 in
set_option maxHeartbeats 4000000 in
theorem g_mot_needRoom87 (p2 : Int32) {X : XX} {g : GG} {I : MJ} {d : Nat} (hd : 1 ≤ d) : Go d 87 0 (lv_args 0 [.ref 23, .ref 1, .int p2]) [] (hh X g I) (f_mot_needRoom87 p2 I) (pV X g) := by
  obtain ⟨d, rfl⟩ : ∃ k, d = k + 1 := ⟨d - 1, by omega⟩
  unfold f_mot_needRoom87
  refine Go_blk 2 (pc' := 3) (L' := [(0, .ref 23), (1, .ref 1), (2, .int p2)]) (S' := [.int (6 : Int32), .int p2]) (h' := (hh X g I)) rfl ?_
  refine Go_seq (pcj := 15) (fun (b1 : MJ) => []) (fun (b1 : MJ) => []) (fun (b1 : MJ) => (hh X g b1)) (fun b1 => ?_) ?_
  ·
    exact Go_ret (fun _ h => h) rfl
  ·
    refine Go_cmp rfl rfl rfl ?_ ?_
    ·
      exact Go_jmp [] rfl trivial (fun _ h => h)
    ·
      refine Go_blk 4 (pc' := 12) (L' := [(0, .ref 23), (1, .ref 1), (2, .int p2)]) (S' := [.int (I 1 4), .int (3 : Int32), .ref 1]) (h' := (hh X g I)) rfl ?_
      refine Go_cV (y' := 50) (As := [.ref 1, .int (3 : Int32), .int (I 1 4)]) (r := []) rfl (g_tap_fail50 (3 : Int32) (I 1 4) (by omega)) fun I2 => ?_
      exact Go_jmp [] rfl trivial (fun _ h => h)
set_option maxRecDepth 1000000 in
set_option maxHeartbeats 4000000 in
theorem G_mot_readInside88 (r : Int32 → MJ → Option (MJ)) (dr : Nat) (hM : 2 ≤ dr) (hr : ∀ (p2 : Int32) (X : XX) (g : GG) (I : MJ), Go dr 83 0 (lv_args 0 [.ref 23, .ref 1, .int p2]) [] (hh X g I) (r p2 I) (pV X g)) (p2 : Int32) {X : XX} {g : GG} {I : MJ} {d : Nat} (hd : dr + 1 ≤ d) : Go d 88 0 (lv_args 0 [.ref 23, .ref 1, .int p2]) [] (hh X g I) (F_mot_readInside88 r p2 I) (pV X g) := by
  obtain ⟨d, rfl⟩ : ∃ k, d = k + 1 := ⟨d - 1, by omega⟩
  unfold F_mot_readInside88
  refine Go_blk 1 (pc' := 1) (L' := [(0, .ref 23), (1, .ref 1), (2, .int p2)]) (S' := [.ref 1]) (h' := (hh X g I)) rfl ?_
  refine Go_cR (y' := 59) (As := [.ref 1]) (r := []) rfl (g_tap_isSound59  (by omega)) fun v1 => ?_
  refine Go_seq (pcj := 21) (fun (b2 : MJ) => []) (fun (b2 : MJ) => []) (fun (b2 : MJ) => (hh X g b2)) (fun b2 => ?_) ?_
  ·
    exact Go_ret (fun _ h => h) rfl
  ·
    refine Go_cmz rfl rfl rfl ?_ ?_
    ·
      exact Go_jmp [] rfl trivial (fun _ h => h)
    ·
      refine Go_blk 2 (pc' := 10) (L' := [(0, .ref 23), (1, .ref 1), (2, .int p2)]) (S' := [.int (6 : Int32), .int p2]) (h' := (hh X g I)) rfl ?_
      refine Go_cmpn rfl rfl (ab_cge _ _) ?_ ?_
      ·
        refine Go_blk 5 (pc' := 18) (L' := [(0, .ref 23), (1, .ref 1), (2, .int p2)]) (S' := [.int (p2 + (1 : Int32)), .ref 1, .ref 23]) (h' := (hh X g I)) rfl ?_
        refine Go_cV (y' := 83) (As := [.ref 23, .ref 1, .int (p2 + (1 : Int32))]) (r := []) rfl (Go_dep (by omega) (hr (p2 + (1 : Int32)) X g _)) fun I3 => ?_
        exact Go_jmp [] rfl trivial (fun _ h => h)
      ·
        exact Go_jmp [] rfl trivial (fun _ h => h)
