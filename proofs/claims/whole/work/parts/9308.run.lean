/-! the machine runs them (written by wip/whole/dec.py) -/
set_option maxRecDepth 1000000 in
set_option maxHeartbeats 4000000 in
theorem g_x_client149 (p1 : Int32) (p2 : Int32) {X : XX} {g : GG} {I : MJ} {d : Nat} (hd : 4 ≤ d) : Go d 149 0 (lv_args 0 [.ref 0, .int p1, .int p2]) [] (hh X g I) (f_x_client149 p1 p2 I) (pT vI X g) := by
  obtain ⟨d, rfl⟩ : ∃ k, d = k + 1 := ⟨d - 1, by omega⟩
  unfold f_x_client149
  refine Go_blk 5 (pc' := 9) (L' := [(0, .ref 0), (1, .int p1), (2, .int p2)]) (S' := [.int (I 3 6), .int p1, .ref 0]) (h' := (hh X g I)) rfl ?_
  refine Go_cT (y' := 69) (As := [.ref 0, .int p1, .int (I 3 6)]) (r := []) rfl rfl (g_x_needElement69 p1 (I 3 6) (by omega)) fun v1 I2 => ?_
  refine Go_blk 4 (pc' := 17) (L' := [(0, .ref 0), (1, .int p1), (2, .int p2)]) (S' := [.int (6 : Int32), .int (0 : Int32), .int p2, .ref 0]) (h' := (hh X g I2)) rfl ?_
  refine Go_cT (y' := 38) (As := [.ref 0, .int p2, .int (0 : Int32), .int (6 : Int32)]) (r := []) rfl rfl (g_x_needWithin38 p2 (0 : Int32) (6 : Int32) (by omega)) fun v3 I4 => ?_
  refine Go_blk 1 (pc' := 21) (L' := [(0, .ref 0), (1, .int p1), (2, .int p2)]) (S' := [.int p2]) (h' := (hh X g I4)) rfl ?_
  refine Go_cmzn rfl rfl rfl ?_ ?_
  ·
    refine Go_blk 3 (pc' := 29) (L' := [(0, .ref 0), (1, .int p1), (2, .int p2)]) (S' := [.int p1, .ref 3]) (h' := (hh X g I4)) rfl ?_
    refine Go_cR (y' := 150) (As := [.ref 3, .int p1]) (r := []) rfl (g_sho_streetOf150 p1 (by omega)) fun v5 => ?_
    exact Go_ret (fun _ h => h) rfl
  ·
    refine Go_blk 2 (pc' := 36) (L' := [(0, .ref 0), (1, .int p1), (2, .int p2)]) (S' := [.int (6 : Int32), .int p2]) (h' := (hh X g I4)) rfl ?_
    refine Go_cmpn rfl rfl rfl ?_ ?_
    ·
      refine Go_blk 3 (pc' := 44) (L' := [(0, .ref 0), (1, .int p1), (2, .int p2)]) (S' := [.int p1, .ref 3]) (h' := (hh X g I4)) rfl ?_
      refine Go_cR (y' := 151) (As := [.ref 3, .int p1]) (r := []) rfl (g_sho_wantsOf151 p1 (by omega)) fun v6 => ?_
      exact Go_ret (fun _ h => h) rfl
    ·
      refine Go_blk 3 (pc' := 53) (L' := [(0, .ref 0), (1, .int p1), (2, .int p2)]) (S' := [.int p1, .ref 15]) (h' := (hh X g I4)) rfl ?_
      refine Go_cR (y' := 108) (As := [.ref 15, .int p1]) (r := []) rfl (g_sta_hasSuit108_15 p1 (by omega)) fun v7 => ?_
      refine Go_seq (pcj := 69) (fun (b8 : Int32) => []) (fun (b8 : Int32) => [.int b8]) (fun (b8 : Int32) => (hh X g I4)) (fun b8 => ?_) ?_
      ·
        exact Go_ret (fun _ h => h) rfl
      ·
        refine Go_cmz rfl rfl rfl ?_ ?_
        ·
          refine Go_blk 1 (pc' := 69) (L' := [(0, .ref 0), (1, .int p1), (2, .int p2)]) (S' := [.int (0 : Int32)]) (h' := (hh X g I4)) rfl ?_
          exact Go_jmp [] rfl trivial (fun _ h => h)
        ·
          refine Go_blk 3 (pc' := 62) (L' := [(0, .ref 0), (1, .int p1), (2, .int p2)]) (S' := [.int p2, .int p1, .ref 0]) (h' := (hh X g I4)) rfl ?_
          refine Go_cR (y' := 153) (As := [.ref 0, .int p1, .int p2]) (r := []) rfl (g_x_suitFact153 p1 p2 (by omega)) fun v9 => ?_
          refine Go_blk 1 (pc' := 69) (L' := [(0, .ref 0), (1, .int p1), (2, .int p2)]) (S' := [.int v9]) (h' := (hh X g I4)) rfl ?_
          exact Go_jmp [] rfl trivial (fun _ h => h)
set_option maxRecDepth 1000000 in
set_option maxHeartbeats 4000000 in
theorem g_l_client148 (p1 : Int32) (p2 : Int32) {X : XX} {g : GG} {I : MJ} {d : Nat} (hd : 5 ≤ d) : Go d 148 0 (lv_args 0 [.ref 0, .int p1, .int p2, .ref 698]) [] (hh X g I) (f_l_client148 p1 p2 I g) (pG X) := by
  obtain ⟨d, rfl⟩ : ∃ k, d = k + 1 := ⟨d - 1, by omega⟩
  unfold f_l_client148
  refine Go_blk 5 (pc' := 5) (L' := [(0, .ref 0), (1, .int p1), (2, .int p2), (3, .ref 698)]) (S' := [.int p2, .int p1, .ref 0, .int (0 : Int32), .ref 698]) (h' := (hh X g I)) rfl ?_
  refine Go_try (y' := 149) (As := [.ref 0, .int p1, .int p2]) (r := [.int (0 : Int32), .ref 698]) rfl (g_x_client149 p1 p2 (by omega)) (fun v1 I2 => ?_) (fun E2 I2 => ?_)
  ·
    refine Go_blk 1 (pc' := 9) (L' := [(0, .ref 0), (1, .int p1), (2, .int p2), (3, .ref 698)]) (S' := [.long (v1.toInt64), .int (0 : Int32), .ref 698]) (h' := (hh X g I2)) rfl ?_
    refine Go_last rfl fun g3 => ?_
    refine Go_blk 2 (pc' := 22) (L' := [(0, .ref 0), (1, .int p1), (2, .int p2), (3, .ref 698)]) (S' := [.int (0 : Int32)]) (h' := (hh X g3 I2)) rfl ?_
    exact Go_ret (fun _ h => h) rfl
  ·
    refine GX_ite ?_ ?_
    ·
      refine GX_go rfl (t := 15) (k := 4) rfl ?_
      refine Go_blk 1 (pc' := 16) (L' := [(0, .ref 0), (1, .int p1), (2, .int p2), (3, .ref 698)]) (S' := [.int (1 : Int32)]) (h' := (hh X (thr g) I2)) rfl ?_
      exact Go_ret (fun _ h => h) rfl
    refine GX_ite ?_ ?_
    ·
      refine GX_go rfl (t := 19) (k := 4) rfl ?_
      refine Go_blk 1 (pc' := 20) (L' := [(0, .ref 0), (1, .int p1), (2, .int p2), (3, .ref 698)]) (S' := [.int (2 : Int32)]) (h' := (hh X (thr g) I2)) rfl ?_
      exact Go_ret (fun _ h => h) rfl
    exact GX_none
set_option maxRecDepth 1000000 in
set_option maxHeartbeats 4000000 in
theorem g_m_isClient328 (p1 : Int32) {X : XX} {g : GG} {I : MJ} {d : Nat} (hd : 1 ≤ d) : Go d 328 0 (lv_args 0 [.ref 47, .int p1]) [] (hh X g I) (f_m_isClient328 p1 I) (pR X g I) := by
  obtain ⟨d, rfl⟩ : ∃ k, d = k + 1 := ⟨d - 1, by omega⟩
  unfold f_m_isClient328
  refine Go_blk 8 (pc' := 10) (L' := [(0, .ref 47), (1, .int p1)]) (S' := [.int ((I 51 1) - (1 : Int32)), .int (0 : Int32), .int p1]) (h' := (hh X g I)) rfl ?_
  refine Go_cR (y' := 264) (As := [.int p1, .int (0 : Int32), .int ((I 51 1) - (1 : Int32))]) (r := []) rfl (g_m_in264 p1 (0 : Int32) ((I 51 1) - (1 : Int32)) (by omega)) fun v1 => ?_
  exact Go_ret (fun _ h => h) rfl
set_option maxRecDepth 1000000 in
set_option maxHeartbeats 4000000 in
theorem g_m_wantsOf329 (p1 : Int32) {X : XX} {g : GG} {I : MJ} {d : Nat} (hd : 0 ≤ d) : Go d 329 0 (lv_args 0 [.ref 47, .int p1]) [] (hh X g I) (f_m_wantsOf329 p1 I) (pR X g I) := by
  unfold f_m_wantsOf329
  refine Go_blk 4 (pc' := 4) (L' := [(3, .int (0 : Int32)), (2, .int (0 : Int32)), (0, .ref 47), (1, .int p1)]) (S' := []) (h' := (hh X g I)) rfl ?_
  refine Go_lcs [(0, .ref 47), (1, .int p1), (2, .int (0 : Int32)), (3, .int (0 : Int32))] rfl ⟨rfl, rfl, rfl, rfl, trivial⟩ ?_
  refine Go_seq (pcj := 42) (fun (b2 : Int32) => [(2, .int b2)]) (fun (b2 : Int32) => []) (fun (b2 : Int32) => (hh X g I)) (fun b2 => ?_) ?_
  ·
    refine Go_blk 1 (pc' := 43) (L' := [(2, .int b2)]) (S' := [.int b2]) (h' := (hh X g I)) rfl ?_
    exact Go_ret (fun _ h => h) rfl
  ·
    refine Go_wh (fun (s1 : Int32 × Int32) => [(0, .ref 47), (1, .int p1), (2, .int s1.1), (3, .int s1.2)]) (fun _ => []) (fun (s1 : Int32 × Int32) => (hh X g I)) (fun s1 => ?_) ((0 : Int32), (0 : Int32))
    refine Go_blk 5 (pc' := 11) (L' := [(0, .ref 47), (1, .int p1), (2, .int s1.1), (3, .int s1.2)]) (S' := [.int (I 51 2), .int s1.2]) (h' := (hh X g I)) rfl ?_
    refine Go_cmpn rfl rfl (ab_cge _ _) ?_ ?_
    ·
      refine Go_blk 4 (pc' := 20) (L' := [(0, .ref 47), (1, .int p1), (2, .int s1.1), (3, .int s1.2)]) (S' := [.int s1.2, .ref 93, .int s1.1]) (h' := (hh X g I)) rfl ?_
      refine Go_aald rfl fun r3 => ?_
      refine Go_blk 1 (pc' := 22) (L' := [(0, .ref 47), (1, .int p1), (2, .int s1.1), (3, .int s1.2)]) (S' := [.int (0 : Int32), .ref r3, .int s1.1]) (h' := (hh X g I)) rfl ?_
      refine Go_iald rfl fun v4 => ?_
      refine Go_blk 1 (pc' := 24) (L' := [(0, .ref 47), (1, .int p1), (2, .int s1.1), (3, .int s1.2)]) (S' := [.int p1, .int v4, .int s1.1]) (h' := (hh X g I)) rfl ?_
      refine Go_seq (pcj := 34) (fun (b5 : Int32) => [(0, .ref 47), (1, .int p1), (3, .int s1.2)]) (fun (b5 : Int32) => [.int b5, .int s1.1]) (fun (b5 : Int32) => (hh X g I)) (fun b5 => ?_) ?_
      ·
        refine Go_blk 4 (pc' := 4) (L' := [(3, .int (s1.2 + (1 : Int32))), (2, .int (s1.1 ||| b5)), (0, .ref 47), (1, .int p1)]) (S' := []) (h' := (hh X g I)) rfl ?_
        exact Go_jmp [(0, .ref 47), (1, .int p1), (2, .int (s1.1 ||| b5)), (3, .int (s1.2 + (1 : Int32)))] rfl ⟨rfl, rfl, rfl, rfl, trivial⟩ (fun _ h => h)
      ·
        refine Go_cmpn rfl rfl rfl ?_ ?_
        ·
          refine Go_blk 4 (pc' := 34) (L' := [(0, .ref 47), (1, .int p1), (2, .int s1.1), (3, .int s1.2)]) (S' := [.int ((1 : Int32) <<< (s1.2 &&& 31)), .int s1.1]) (h' := (hh X g I)) rfl ?_
          exact Go_jmp [(0, .ref 47), (1, .int p1), (3, .int s1.2)] rfl ⟨rfl, rfl, rfl, trivial⟩ (fun _ h => h)
        ·
          refine Go_blk 1 (pc' := 34) (L' := [(0, .ref 47), (1, .int p1), (2, .int s1.1), (3, .int s1.2)]) (S' := [.int (0 : Int32), .int s1.1]) (h' := (hh X g I)) rfl ?_
          exact Go_jmp [(0, .ref 47), (1, .int p1), (3, .int s1.2)] rfl ⟨rfl, rfl, rfl, trivial⟩ (fun _ h => h)
    ·
      exact Go_jmp [(2, .int s1.1)] rfl ⟨rfl, trivial⟩ (fun _ h => h)
set_option maxRecDepth 1000000 in
set_option maxHeartbeats 4000000 in
theorem g_m_bareOf330 (p0 : Nat) (p1 : Int32) {X : XX} {g : GG} {I : MJ} {d : Nat} (hd : 1 ≤ d) : Go d 330 0 (lv_args 0 [.ref p0, .int p1]) [] (hh X g I) (f_m_bareOf330 p0 p1 I) (pR X g I) := by
  obtain ⟨d, rfl⟩ : ∃ k, d = k + 1 := ⟨d - 1, by omega⟩
  unfold f_m_bareOf330
  refine Go_blk 4 (pc' := 4) (L' := [(3, .int (0 : Int32)), (2, .int (0 : Int32)), (0, .ref p0), (1, .int p1)]) (S' := []) (h' := (hh X g I)) rfl ?_
  refine Go_lcs [(0, .ref p0), (1, .int p1), (2, .int (0 : Int32)), (3, .int (0 : Int32))] rfl ⟨rfl, rfl, rfl, rfl, trivial⟩ ?_
  refine Go_seq (pcj := 37) (fun (b2 : Int32) => [(2, .int b2)]) (fun (b2 : Int32) => []) (fun (b2 : Int32) => (hh X g I)) (fun b2 => ?_) ?_
  ·
    refine Go_blk 1 (pc' := 38) (L' := [(2, .int b2)]) (S' := [.int b2]) (h' := (hh X g I)) rfl ?_
    exact Go_ret (fun _ h => h) rfl
  ·
    refine Go_wh (fun (s1 : Int32 × Int32) => [(0, .ref p0), (1, .int p1), (2, .int s1.1), (3, .int s1.2)]) (fun _ => []) (fun (s1 : Int32 × Int32) => (hh X g I)) (fun s1 => ?_) ((0 : Int32), (0 : Int32))
    refine Go_blk 2 (pc' := 7) (L' := [(0, .ref p0), (1, .int p1), (2, .int s1.1), (3, .int s1.2)]) (S' := [.int (12 : Int32), .int s1.2]) (h' := (hh X g I)) rfl ?_
    refine Go_cmpn rfl rfl (ab_cge _ _) ?_ ?_
    ·
      refine Go_blk 3 (pc' := 13) (L' := [(0, .ref p0), (1, .int p1), (2, .int s1.1), (3, .int s1.2)]) (S' := [.int p1, .ref p0, .int s1.1]) (h' := (hh X g I)) rfl ?_
      refine Go_cR (y' := 310) (As := [.int p1]) (r := [.ref p0, .int s1.1]) rfl (g_m_suitOf310 p1 (by omega)) fun v3 => ?_
      refine Go_blk 2 (pc' := 18) (L' := [(0, .ref p0), (1, .int p1), (2, .int s1.1), (3, .int s1.2)]) (S' := [.int (v3 + s1.2), .ref p0, .int s1.1]) (h' := (hh X g I)) rfl ?_
      refine Go_iald rfl fun v4 => ?_
      refine Go_blk 1 (pc' := 21) (L' := [(0, .ref p0), (1, .int p1), (2, .int s1.1), (3, .int s1.2)]) (S' := [.int (6 : Int32), .int v4, .int s1.1]) (h' := (hh X g I)) rfl ?_
      refine Go_seq (pcj := 29) (fun (b5 : Int32) => [(0, .ref p0), (1, .int p1), (3, .int s1.2)]) (fun (b5 : Int32) => [.int b5, .int s1.1]) (fun (b5 : Int32) => (hh X g I)) (fun b5 => ?_) ?_
      ·
        refine Go_blk 4 (pc' := 4) (L' := [(3, .int (s1.2 + (1 : Int32))), (2, .int (s1.1 + b5)), (0, .ref p0), (1, .int p1)]) (S' := []) (h' := (hh X g I)) rfl ?_
        exact Go_jmp [(0, .ref p0), (1, .int p1), (2, .int (s1.1 + b5)), (3, .int (s1.2 + (1 : Int32)))] rfl ⟨rfl, rfl, rfl, rfl, trivial⟩ (fun _ h => h)
      ·
        refine Go_cmpn rfl rfl rfl ?_ ?_
        ·
          refine Go_blk 2 (pc' := 29) (L' := [(0, .ref p0), (1, .int p1), (2, .int s1.1), (3, .int s1.2)]) (S' := [.int (1 : Int32), .int s1.1]) (h' := (hh X g I)) rfl ?_
          exact Go_jmp [(0, .ref p0), (1, .int p1), (3, .int s1.2)] rfl ⟨rfl, rfl, rfl, trivial⟩ (fun _ h => h)
        ·
          refine Go_blk 1 (pc' := 29) (L' := [(0, .ref p0), (1, .int p1), (2, .int s1.1), (3, .int s1.2)]) (S' := [.int (0 : Int32), .int s1.1]) (h' := (hh X g I)) rfl ?_
          exact Go_jmp [(0, .ref p0), (1, .int p1), (3, .int s1.2)] rfl ⟨rfl, rfl, rfl, trivial⟩ (fun _ h => h)
    ·
      exact Go_jmp [(2, .int s1.1)] rfl ⟨rfl, trivial⟩ (fun _ h => h)
set_option maxRecDepth 1000000 in
set_option maxHeartbeats 4000000 in
theorem g_m_client327 (p1 : Int32) (p2 : Int32) {X : XX} {g : GG} {I : MJ} {d : Nat} (hd : 2 ≤ d) : Go d 327 0 (lv_args 0 [.ref 47, .int p1, .int p2]) [] (hh X g I) (f_m_client327 p1 p2 I) (pW X g) := by
  obtain ⟨d, rfl⟩ : ∃ k, d = k + 1 := ⟨d - 1, by omega⟩
  unfold f_m_client327
  refine Go_blk 6 (pc' := 8) (L' := [(0, .ref 47), (1, .int p1), (2, .int p2)]) (S' := [.int p1, .ref 47, .ref 47]) (h' := (hh X g (ab_up1 I 47 0 (0 : Int32)))) rfl ?_
  refine Go_cR (y' := 328) (As := [.ref 47, .int p1]) (r := [.ref 47]) rfl (g_m_isClient328 p1 (by omega)) fun v1 => ?_
  refine Go_seq (pcj := 19) (fun (b2 : Int32) => [(0, .ref 47), (1, .int p1), (2, .int p2)]) (fun (b2 : Int32) => [.int b2, .ref 47]) (fun (b2 : Int32) => (hh X g (ab_up1 I 47 0 (0 : Int32)))) (fun b2 => ?_) ?_
  ·
    refine Go_blk 2 (pc' := 21) (L' := [(0, .ref 47), (1, .int p1), (2, .int p2)]) (S' := [.int (0 : Int32), .int (1 : Int32), .int b2, .ref 47]) (h' := (hh X g (ab_up1 I 47 0 (0 : Int32)))) rfl ?_
    refine Go_cW (y' := 268) (As := [.ref 47, .int b2, .int (1 : Int32), .int (0 : Int32)]) (r := []) rfl (g_m_bad268 b2 (1 : Int32) (0 : Int32) (by omega)) fun w3 => ?_
    refine Go_cmzn rfl rfl rfl ?_ ?_
    ·
      refine Go_blk 4 (pc' := 32) (L' := [(0, .ref 47), (1, .int p1), (2, .int p2)]) (S' := [.int (6 : Int32), .int (0 : Int32), .int p2, .ref 47]) (h' := (hh X g w3.2)) rfl ?_
      refine Go_cR (y' := 264) (As := [.int p2, .int (0 : Int32), .int (6 : Int32)]) (r := [.ref 47]) rfl (g_m_in264 p2 (0 : Int32) (6 : Int32) (by omega)) fun v4 => ?_
      refine Go_seq (pcj := 43) (fun (b5 : Int32) => [(0, .ref 47), (1, .int p1), (2, .int p2)]) (fun (b5 : Int32) => [.int b5, .ref 47]) (fun (b5 : Int32) => (hh X g w3.2)) (fun b5 => ?_) ?_
      ·
        refine Go_blk 2 (pc' := 45) (L' := [(0, .ref 47), (1, .int p1), (2, .int p2)]) (S' := [.int (1 : Int32), .int (2 : Int32), .int b5, .ref 47]) (h' := (hh X g w3.2)) rfl ?_
        refine Go_cW (y' := 268) (As := [.ref 47, .int b5, .int (2 : Int32), .int (1 : Int32)]) (r := []) rfl (g_m_bad268 b5 (2 : Int32) (1 : Int32) (by omega)) fun w6 => ?_
        refine Go_cmz rfl rfl rfl ?_ ?_
        ·
          refine Go_blk 1 (pc' := 54) (L' := [(0, .ref 47), (1, .int p1), (2, .int p2)]) (S' := [.int p2]) (h' := (hh X g w6.2)) rfl ?_
          refine Go_cmzn rfl rfl rfl ?_ ?_
          ·
            refine Go_blk 3 (pc' := 62) (L' := [(0, .ref 47), (1, .int p1), (2, .int p2)]) (S' := [.int p1, .ref 53]) (h' := (hh X g w6.2)) rfl ?_
            refine Go_iald rfl fun v7 => ?_
            exact Go_ret (fun _ h => h) rfl
          ·
            refine Go_blk 2 (pc' := 67) (L' := [(0, .ref 47), (1, .int p1), (2, .int p2)]) (S' := [.int (6 : Int32), .int p2]) (h' := (hh X g w6.2)) rfl ?_
            refine Go_cmpn rfl rfl rfl ?_ ?_
            ·
              refine Go_blk 2 (pc' := 72) (L' := [(0, .ref 47), (1, .int p1), (2, .int p2)]) (S' := [.int p1, .ref 47]) (h' := (hh X g w6.2)) rfl ?_
              refine Go_cR (y' := 329) (As := [.ref 47, .int p1]) (r := []) rfl (g_m_wantsOf329 p1 (by omega)) fun v8 => ?_
              exact Go_ret (fun _ h => h) rfl
            ·
              refine Go_blk 3 (pc' := 81) (L' := [(0, .ref 47), (1, .int p1), (2, .int p2)]) (S' := [.int p1, .ref 576]) (h' := (hh X g w6.2)) rfl ?_
              refine Go_cR (y' := 305) (As := [.ref 576, .int p1]) (r := []) rfl (g_m_hasSuit305 576 p1 (by omega)) fun v9 => ?_
              refine Go_cmzn rfl rfl rfl ?_ ?_
              ·
                refine Go_blk 1 (pc' := 88) (L' := [(0, .ref 47), (1, .int p1), (2, .int p2)]) (S' := [.int (0 : Int32)]) (h' := (hh X g w6.2)) rfl ?_
                exact Go_ret (fun _ h => h) rfl
              ·
                refine Go_blk 1 (pc' := 90) (L' := [(0, .ref 47), (1, .int p1), (2, .int p2)]) (S' := [.int p2]) (h' := (hh X g w6.2)) rfl ?_
                refine Go_sw ?_ fun h0 => ?_
                ·
                  refine Go_blk 1 (pc' := 120) (L' := [(0, .ref 47), (1, .int p1), (2, .int p2)]) (S' := []) (h' := (hh X g w6.2)) rfl ?_
                  refine Go_blk 1 (pc' := 121) (L' := [(0, .ref 47), (1, .int p1), (2, .int p2)]) (S' := [.int (1 : Int32)]) (h' := (hh X g w6.2)) rfl ?_
                  exact Go_ret (fun _ h => h) rfl
                refine Go_sw ?_ fun h1 => ?_
                ·
                  refine Go_blk 1 (pc' := 122) (L' := [(0, .ref 47), (1, .int p1), (2, .int p2)]) (S' := []) (h' := (hh X g w6.2)) rfl ?_
                  refine Go_blk 9 (pc' := 137) (L' := [(0, .ref 47), (1, .int p1), (2, .int p2)]) (S' := [.int ((82 : Int32) + p1), .ref 576, .int (w6.2 576 89)]) (h' := (hh X g w6.2)) rfl ?_
                  refine Go_iald rfl fun v10 => ?_
                  refine Go_blk 1 (pc' := 139) (L' := [(0, .ref 47), (1, .int p1), (2, .int p2)]) (S' := [.int ((w6.2 576 89) - v10)]) (h' := (hh X g w6.2)) rfl ?_
                  exact Go_ret (fun _ h => h) rfl
                refine Go_sw ?_ fun h2 => ?_
                ·
                  refine Go_blk 1 (pc' := 140) (L' := [(0, .ref 47), (1, .int p1), (2, .int p2)]) (S' := []) (h' := (hh X g w6.2)) rfl ?_
                  refine Go_blk 3 (pc' := 145) (L' := [(0, .ref 47), (1, .int p1), (2, .int p2)]) (S' := [.int p1, .ref 576]) (h' := (hh X g w6.2)) rfl ?_
                  refine Go_cR (y' := 330) (As := [.ref 576, .int p1]) (r := []) rfl (g_m_bareOf330 576 p1 (by omega)) fun v11 => ?_
                  exact Go_ret (fun _ h => h) rfl
                refine Go_sw ?_ fun h3 => ?_
                ·
                  refine Go_blk 1 (pc' := 149) (L' := [(0, .ref 47), (1, .int p1), (2, .int p2)]) (S' := []) (h' := (hh X g w6.2)) rfl ?_
                  refine Go_blk 3 (pc' := 154) (L' := [(0, .ref 47), (1, .int p1), (2, .int p2)]) (S' := [.int p1, .ref 576]) (h' := (hh X g w6.2)) rfl ?_
                  refine Go_cR (y' := 310) (As := [.int p1]) (r := [.ref 576]) rfl (g_m_suitOf310 p1 (by omega)) fun v12 => ?_
                  refine Go_cR (y' := 316) (As := [.ref 576, .int v12]) (r := []) rfl (g_m_seamsOf316 576 v12 (by omega)) fun v13 => ?_
                  exact Go_ret (fun _ h => h) rfl
                refine Go_swd (t := 161) 4 rfl (by decide) (by decide) (by decide) ⟨⟨⟨⟨trivial, h0⟩, h1⟩, h2⟩, h3⟩ rfl ?_
                refine Go_blk 3 (pc' := 166) (L' := [(0, .ref 47), (1, .int p1), (2, .int p2)]) (S' := [.int p1, .ref 576]) (h' := (hh X g w6.2)) rfl ?_
                refine Go_cR (y' := 310) (As := [.int p1]) (r := [.ref 576]) rfl (g_m_suitOf310 p1 (by omega)) fun v14 => ?_
                refine Go_cR (y' := 291) (As := [.ref 576, .int v14]) (r := []) rfl (g_m_runsOf291 576 v14 (by omega)) fun v15 => ?_
                exact Go_ret (fun _ h => h) rfl
        ·
          refine Go_blk 1 (pc' := 52) (L' := [(0, .ref 47), (1, .int p1), (2, .int p2)]) (S' := [.int (0 : Int32)]) (h' := (hh X g w6.2)) rfl ?_
          exact Go_ret (fun _ h => h) rfl
      ·
        refine Go_cmzn rfl rfl rfl ?_ ?_
        ·
          refine Go_blk 2 (pc' := 43) (L' := [(0, .ref 47), (1, .int p1), (2, .int p2)]) (S' := [.int (1 : Int32), .ref 47]) (h' := (hh X g w3.2)) rfl ?_
          exact Go_jmp [(0, .ref 47), (1, .int p1), (2, .int p2)] rfl ⟨rfl, rfl, rfl, trivial⟩ (fun _ h => h)
        ·
          refine Go_blk 1 (pc' := 43) (L' := [(0, .ref 47), (1, .int p1), (2, .int p2)]) (S' := [.int (0 : Int32), .ref 47]) (h' := (hh X g w3.2)) rfl ?_
          exact Go_jmp [(0, .ref 47), (1, .int p1), (2, .int p2)] rfl ⟨rfl, rfl, rfl, trivial⟩ (fun _ h => h)
    ·
      refine Go_blk 1 (pc' := 52) (L' := [(0, .ref 47), (1, .int p1), (2, .int p2)]) (S' := [.int (0 : Int32)]) (h' := (hh X g w3.2)) rfl ?_
      exact Go_ret (fun _ h => h) rfl
  ·
    refine Go_cmzn rfl rfl rfl ?_ ?_
    ·
      refine Go_blk 2 (pc' := 19) (L' := [(0, .ref 47), (1, .int p1), (2, .int p2)]) (S' := [.int (1 : Int32), .ref 47]) (h' := (hh X g (ab_up1 I 47 0 (0 : Int32)))) rfl ?_
      exact Go_jmp [(0, .ref 47), (1, .int p1), (2, .int p2)] rfl ⟨rfl, rfl, rfl, trivial⟩ (fun _ h => h)
    ·
      refine Go_blk 1 (pc' := 19) (L' := [(0, .ref 47), (1, .int p1), (2, .int p2)]) (S' := [.int (0 : Int32), .ref 47]) (h' := (hh X g (ab_up1 I 47 0 (0 : Int32)))) rfl ?_
      exact Go_jmp [(0, .ref 47), (1, .int p1), (2, .int p2)] rfl ⟨rfl, rfl, rfl, trivial⟩ (fun _ h => h)
set_option maxRecDepth 1000000 in
set_option maxHeartbeats 4000000 in
theorem g_sho_isMet158 (p1 : Int32) (p2 : Nat) (p3 : Int32) {X : XX} {g : GG} {I : MJ} {d : Nat} (hd : 2 ≤ d) : Go d 158 0 (lv_args 0 [.ref 3, .int p1, .ref p2, .int p3]) [] (hh X g I) (f_sho_isMet158 p1 p2 p3 I) (pR X g I) := by
  obtain ⟨d, rfl⟩ : ∃ k, d = k + 1 := ⟨d - 1, by omega⟩
  unfold f_sho_isMet158
  refine Go_blk 4 (pc' := 5) (L' := [(0, .ref 3), (1, .int p1), (2, .ref p2), (3, .int p3)]) (S' := [.int (2 : Int32), .int p1, .ref 3, .int (11 : Int32)]) (h' := (hh X g I)) rfl ?_
  refine Go_cR (y' := 152) (As := [.ref 3, .int p1, .int (2 : Int32)]) (r := [.int (11 : Int32)]) rfl (g_sho_wantPart152 p1 (2 : Int32) (by omega)) fun v1 => ?_
  refine Go_blk 5 (pc' := 16) (L' := [(4, .int (if v1 < (11 : Int32) then v1 else (11 : Int32))), (0, .ref 3), (1, .int p1), (2, .ref p2), (3, .int p3)]) (S' := [.int (1 : Int32), .int p1, .ref 3]) (h' := (hh X g I)) rfl ?_
  refine Go_cR (y' := 152) (As := [.ref 3, .int p1, .int (1 : Int32)]) (r := []) rfl (g_sho_wantPart152 p1 (1 : Int32) (by omega)) fun v2 => ?_
  refine Go_blk 1 (pc' := 21) (L' := [(5, .int v2), (4, .int (if v1 < (11 : Int32) then v1 else (11 : Int32))), (0, .ref 3), (1, .int p1), (2, .ref p2), (3, .int p3)]) (S' := []) (h' := (hh X g I)) rfl ?_
  refine Go_lcs [(0, .ref 3), (1, .int p1), (2, .ref p2), (3, .int p3), (4, .int (if v1 < (11 : Int32) then v1 else (11 : Int32))), (5, .int v2)] rfl ⟨rfl, rfl, rfl, rfl, rfl, rfl, trivial⟩ ?_
  refine Go_wh (fun (s3 : Int32) => [(0, .ref 3), (1, .int p1), (2, .ref p2), (3, .int p3), (4, .int (if v1 < (11 : Int32) then v1 else (11 : Int32))), (5, .int s3)]) (fun _ => []) (fun (s3 : Int32) => (hh X g I)) (fun s3 => ?_) v2
  refine Go_blk 2 (pc' := 25) (L' := [(0, .ref 3), (1, .int p1), (2, .ref p2), (3, .int p3), (4, .int (if v1 < (11 : Int32) then v1 else (11 : Int32))), (5, .int s3)]) (S' := [.int (if v1 < (11 : Int32) then v1 else (11 : Int32)), .int s3]) (h' := (hh X g I)) rfl ?_
  refine Go_cmp rfl rfl rfl ?_ ?_
  ·
    refine Go_inrS ?_
    refine Go_blk 1 (pc' := 54) (L' := [(0, .ref 3), (1, .int p1), (2, .ref p2), (3, .int p3), (4, .int (if v1 < (11 : Int32) then v1 else (11 : Int32))), (5, .int s3)]) (S' := [.int (1 : Int32)]) (h' := (hh X g I)) rfl ?_
    exact Go_ret (fun _ h => h) rfl
  ·
    refine Go_blk 4 (pc' := 33) (L' := [(0, .ref 3), (1, .int p1), (2, .ref p2), (3, .int p3), (4, .int (if v1 < (11 : Int32) then v1 else (11 : Int32))), (5, .int s3)]) (S' := [.int (p3 + s3), .ref p2]) (h' := (hh X g I)) rfl ?_
    refine Go_cR (y' := 16) (As := [.ref p2, .int (p3 + s3)]) (r := []) rfl (g_x_at16 p2 (p3 + s3) (by omega)) fun v4 => ?_
    refine Go_blk 3 (pc' := 39) (L' := [(0, .ref 3), (1, .int p1), (2, .ref p2), (3, .int p3), (4, .int (if v1 < (11 : Int32) then v1 else (11 : Int32))), (5, .int s3)]) (S' := [.int (3 : Int32), .int p1, .ref 3, .int v4]) (h' := (hh X g I)) rfl ?_
    refine Go_cR (y' := 152) (As := [.ref 3, .int p1, .int (3 : Int32)]) (r := [.int v4]) rfl (g_sho_wantPart152 p1 (3 : Int32) (by omega)) fun v5 => ?_
    refine Go_cmp rfl rfl rfl ?_ ?_
    ·
      refine Go_blk 2 (pc' := 21) (L' := [(5, .int (s3 + (1 : Int32))), (0, .ref 3), (1, .int p1), (2, .ref p2), (3, .int p3), (4, .int (if v1 < (11 : Int32) then v1 else (11 : Int32)))]) (S' := []) (h' := (hh X g I)) rfl ?_
      exact Go_jmp [(0, .ref 3), (1, .int p1), (2, .ref p2), (3, .int p3), (4, .int (if v1 < (11 : Int32) then v1 else (11 : Int32))), (5, .int (s3 + (1 : Int32)))] rfl ⟨rfl, rfl, rfl, rfl, rfl, rfl, trivial⟩ (fun _ h => h)
    ·
      refine Go_inrS ?_
      refine Go_blk 1 (pc' := 46) (L' := [(0, .ref 3), (1, .int p1), (2, .ref p2), (3, .int p3), (4, .int (if v1 < (11 : Int32) then v1 else (11 : Int32))), (5, .int s3)]) (S' := [.int (0 : Int32)]) (h' := (hh X g I)) rfl ?_
      exact Go_ret (fun _ h => h) rfl
set_option maxRecDepth 1000000 in
set_option maxHeartbeats 4000000 in
theorem g_x_want157 (p1 : Int32) (p2 : Int32) {X : XX} {g : GG} {I : MJ} {d : Nat} (hd : 3 ≤ d) : Go d 157 0 (lv_args 0 [.ref 0, .int p1, .int p2]) [] (hh X g I) (f_x_want157 p1 p2 I) (pT vI X g) := by
  obtain ⟨d, rfl⟩ : ∃ k, d = k + 1 := ⟨d - 1, by omega⟩
  unfold f_x_want157
  refine Go_blk 5 (pc' := 9) (L' := [(0, .ref 0), (1, .int p1), (2, .int p2)]) (S' := [.int (I 3 7), .int p1, .ref 0]) (h' := (hh X g I)) rfl ?_
  refine Go_cT (y' := 69) (As := [.ref 0, .int p1, .int (I 3 7)]) (r := []) rfl rfl (g_x_needElement69 p1 (I 3 7) (by omega)) fun v1 I2 => ?_
  refine Go_blk 4 (pc' := 16) (L' := [(0, .ref 0), (1, .int p1), (2, .int p2)]) (S' := [.int (5 : Int32), .int (0 : Int32), .int p2, .ref 0]) (h' := (hh X g I2)) rfl ?_
  refine Go_cT (y' := 38) (As := [.ref 0, .int p2, .int (0 : Int32), .int (5 : Int32)]) (r := []) rfl rfl (g_x_needWithin38 p2 (0 : Int32) (5 : Int32) (by omega)) fun v3 I4 => ?_
  refine Go_blk 2 (pc' := 21) (L' := [(0, .ref 0), (1, .int p1), (2, .int p2)]) (S' := [.int (5 : Int32), .int p2]) (h' := (hh X g I4)) rfl ?_
  refine Go_cmpn rfl rfl (ab_cge _ _) ?_ ?_
  ·
    refine Go_blk 4 (pc' := 30) (L' := [(0, .ref 0), (1, .int p1), (2, .int p2)]) (S' := [.int p2, .int p1, .ref 3]) (h' := (hh X g I4)) rfl ?_
    refine Go_cR (y' := 152) (As := [.ref 3, .int p1, .int p2]) (r := []) rfl (g_sho_wantPart152 p1 p2 (by omega)) fun v5 => ?_
    exact Go_ret (fun _ h => h) rfl
  ·
    refine Go_blk 4 (pc' := 40) (L' := [(0, .ref 0), (1, .int p1), (2, .int p2)]) (S' := [.int (0 : Int32), .int p1, .ref 3]) (h' := (hh X g I4)) rfl ?_
    refine Go_cR (y' := 152) (As := [.ref 3, .int p1, .int (0 : Int32)]) (r := []) rfl (g_sho_wantPart152 p1 (0 : Int32) (by omega)) fun v6 => ?_
    refine Go_blk 4 (pc' := 49) (L' := [(3, .int v6), (0, .ref 0), (1, .int p1), (2, .int p2)]) (S' := [.int v6, .ref 15]) (h' := (hh X g I4)) rfl ?_
    refine Go_cR (y' := 108) (As := [.ref 15, .int v6]) (r := []) rfl (g_sta_hasSuit108_15 v6 (by omega)) fun v7 => ?_
    refine Go_seq (pcj := 86) (fun (b8 : Int32) => []) (fun (b8 : Int32) => [.int b8]) (fun (b8 : Int32) => (hh X g I4)) (fun b8 => ?_) ?_
    ·
      exact Go_ret (fun _ h => h) rfl
    ·
      refine Go_cmz rfl rfl rfl ?_ ?_
      ·
        refine Go_blk 1 (pc' := 86) (L' := [(3, .int v6), (0, .ref 0), (1, .int p1), (2, .int p2)]) (S' := [.int (0 : Int32)]) (h' := (hh X g I4)) rfl ?_
        exact Go_jmp [] rfl trivial (fun _ h => h)
      ·
        refine Go_blk 9 (pc' := 72) (L' := [(3, .int v6), (0, .ref 0), (1, .int p1), (2, .int p2)]) (S' := [.int v6, .ref 15, .ref 16, .int p1, .ref 3]) (h' := (hh X g I4)) rfl ?_
        refine Go_cR (y' := 114) (As := [.ref 15, .int v6]) (r := [.ref 16, .int p1, .ref 3]) rfl (g_sta_suitAt114_15 v6 (by omega)) fun v9 => ?_
        refine Go_cR (y' := 158) (As := [.ref 3, .int p1, .ref 16, .int v9]) (r := []) rfl (g_sho_isMet158 p1 16 v9 (by omega)) fun v10 => ?_
        refine Go_cmz rfl rfl rfl ?_ ?_
        ·
          refine Go_blk 1 (pc' := 86) (L' := [(3, .int v6), (0, .ref 0), (1, .int p1), (2, .int p2)]) (S' := [.int (0 : Int32)]) (h' := (hh X g I4)) rfl ?_
          exact Go_jmp [] rfl trivial (fun _ h => h)
        ·
          refine Go_blk 2 (pc' := 86) (L' := [(3, .int v6), (0, .ref 0), (1, .int p1), (2, .int p2)]) (S' := [.int (1 : Int32)]) (h' := (hh X g I4)) rfl ?_
          exact Go_jmp [] rfl trivial (fun _ h => h)
set_option maxRecDepth 1000000 in
set_option maxHeartbeats 4000000 in
theorem g_l_want156 (p1 : Int32) (p2 : Int32) {X : XX} {g : GG} {I : MJ} {d : Nat} (hd : 4 ≤ d) : Go d 156 0 (lv_args 0 [.ref 0, .int p1, .int p2, .ref 698]) [] (hh X g I) (f_l_want156 p1 p2 I g) (pG X) := by
  obtain ⟨d, rfl⟩ : ∃ k, d = k + 1 := ⟨d - 1, by omega⟩
  unfold f_l_want156
  refine Go_blk 5 (pc' := 5) (L' := [(0, .ref 0), (1, .int p1), (2, .int p2), (3, .ref 698)]) (S' := [.int p2, .int p1, .ref 0, .int (0 : Int32), .ref 698]) (h' := (hh X g I)) rfl ?_
  refine Go_try (y' := 157) (As := [.ref 0, .int p1, .int p2]) (r := [.int (0 : Int32), .ref 698]) rfl (g_x_want157 p1 p2 (by omega)) (fun v1 I2 => ?_) (fun E2 I2 => ?_)
  ·
    refine Go_blk 1 (pc' := 9) (L' := [(0, .ref 0), (1, .int p1), (2, .int p2), (3, .ref 698)]) (S' := [.long (v1.toInt64), .int (0 : Int32), .ref 698]) (h' := (hh X g I2)) rfl ?_
    refine Go_last rfl fun g3 => ?_
    refine Go_blk 2 (pc' := 22) (L' := [(0, .ref 0), (1, .int p1), (2, .int p2), (3, .ref 698)]) (S' := [.int (0 : Int32)]) (h' := (hh X g3 I2)) rfl ?_
    exact Go_ret (fun _ h => h) rfl
  ·
    refine GX_ite ?_ ?_
    ·
      refine GX_go rfl (t := 15) (k := 4) rfl ?_
      refine Go_blk 1 (pc' := 16) (L' := [(0, .ref 0), (1, .int p1), (2, .int p2), (3, .ref 698)]) (S' := [.int (1 : Int32)]) (h' := (hh X (thr g) I2)) rfl ?_
      exact Go_ret (fun _ h => h) rfl
    refine GX_ite ?_ ?_
    ·
      refine GX_go rfl (t := 19) (k := 4) rfl ?_
      refine Go_blk 1 (pc' := 20) (L' := [(0, .ref 0), (1, .int p1), (2, .int p2), (3, .ref 698)]) (S' := [.int (2 : Int32)]) (h' := (hh X (thr g) I2)) rfl ?_
      exact Go_ret (fun _ h => h) rfl
    exact GX_none
set_option maxRecDepth 1000000 in
set_option maxHeartbeats 4000000 in
theorem g_m_isMet332 (p1 : Nat) (p2 : Int32) (p3 : Int32) {X : XX} {g : GG} {I : MJ} {d : Nat} (hd : 0 ≤ d) : Go d 332 0 (lv_args 0 [.ref 47, .ref p1, .int p2, .int p3]) [] (hh X g I) (f_m_isMet332 p1 p2 p3 I) (pR X g I) := by
  unfold f_m_isMet332
  refine Go_blk 3 (pc' := 5) (L' := [(0, .ref 47), (1, .ref p1), (2, .int p2), (3, .int p3)]) (S' := [.int p3, .ref 93]) (h' := (hh X g I)) rfl ?_
  refine Go_aald rfl fun r1 => ?_
  refine Go_blk 1 (pc' := 7) (L' := [(0, .ref 47), (1, .ref p1), (2, .int p2), (3, .int p3)]) (S' := [.int (1 : Int32), .ref r1]) (h' := (hh X g I)) rfl ?_
  refine Go_iald rfl fun v2 => ?_
  refine Go_blk 1 (pc' := 10) (L' := [(4, .int v2), (0, .ref 47), (1, .ref p1), (2, .int p2), (3, .int p3)]) (S' := []) (h' := (hh X g I)) rfl ?_
  refine Go_lcs [(0, .ref 47), (1, .ref p1), (2, .int p2), (3, .int p3), (4, .int v2)] rfl ⟨rfl, rfl, rfl, rfl, rfl, trivial⟩ ?_
  refine Go_wh (fun (s3 : Int32) => [(0, .ref 47), (1, .ref p1), (2, .int p2), (3, .int p3), (4, .int s3)]) (fun _ => []) (fun (s3 : Int32) => (hh X g I)) (fun s3 => ?_) v2
  refine Go_blk 4 (pc' := 17) (L' := [(0, .ref 47), (1, .ref p1), (2, .int p2), (3, .int p3), (4, .int s3)]) (S' := [.int p3, .ref 93, .int s3]) (h' := (hh X g I)) rfl ?_
  refine Go_aald rfl fun r4 => ?_
  refine Go_blk 1 (pc' := 19) (L' := [(0, .ref 47), (1, .ref p1), (2, .int p2), (3, .int p3), (4, .int s3)]) (S' := [.int (2 : Int32), .ref r4, .int s3]) (h' := (hh X g I)) rfl ?_
  refine Go_iald rfl fun v5 => ?_
  refine Go_cmp rfl rfl rfl ?_ ?_
  ·
    refine Go_inrS ?_
    refine Go_blk 1 (pc' := 49) (L' := [(0, .ref 47), (1, .ref p1), (2, .int p2), (3, .int p3), (4, .int s3)]) (S' := [.int (1 : Int32)]) (h' := (hh X g I)) rfl ?_
    exact Go_ret (fun _ h => h) rfl
  ·
    refine Go_blk 4 (pc' := 28) (L' := [(0, .ref 47), (1, .ref p1), (2, .int p2), (3, .int p3), (4, .int s3)]) (S' := [.int (p2 + s3), .ref p1]) (h' := (hh X g I)) rfl ?_
    refine Go_iald rfl fun v6 => ?_
    refine Go_blk 3 (pc' := 34) (L' := [(0, .ref 47), (1, .ref p1), (2, .int p2), (3, .int p3), (4, .int s3)]) (S' := [.int p3, .ref 93, .int v6]) (h' := (hh X g I)) rfl ?_
    refine Go_aald rfl fun r7 => ?_
    refine Go_blk 1 (pc' := 36) (L' := [(0, .ref 47), (1, .ref p1), (2, .int p2), (3, .int p3), (4, .int s3)]) (S' := [.int (3 : Int32), .ref r7, .int v6]) (h' := (hh X g I)) rfl ?_
    refine Go_iald rfl fun v8 => ?_
    refine Go_cmp rfl rfl rfl ?_ ?_
    ·
      refine Go_blk 2 (pc' := 10) (L' := [(4, .int (s3 + (1 : Int32))), (0, .ref 47), (1, .ref p1), (2, .int p2), (3, .int p3)]) (S' := []) (h' := (hh X g I)) rfl ?_
      exact Go_jmp [(0, .ref 47), (1, .ref p1), (2, .int p2), (3, .int p3), (4, .int (s3 + (1 : Int32)))] rfl ⟨rfl, rfl, rfl, rfl, rfl, trivial⟩ (fun _ h => h)
    ·
      refine Go_inrS ?_
      refine Go_blk 1 (pc' := 41) (L' := [(0, .ref 47), (1, .ref p1), (2, .int p2), (3, .int p3), (4, .int s3)]) (S' := [.int (0 : Int32)]) (h' := (hh X g I)) rfl ?_
      exact Go_ret (fun _ h => h) rfl
set_option maxRecDepth 1000000 in
set_option maxHeartbeats 4000000 in
theorem g_m_want331 (p1 : Int32) (p2 : Int32) {X : XX} {g : GG} {I : MJ} {d : Nat} (hd : 1 ≤ d) : Go d 331 0 (lv_args 0 [.ref 47, .int p1, .int p2]) [] (hh X g I) (f_m_want331 p1 p2 I) (pW X g) := by
  obtain ⟨d, rfl⟩ : ∃ k, d = k + 1 := ⟨d - 1, by omega⟩
  unfold f_m_want331
  refine Go_blk 12 (pc' := 16) (L' := [(0, .ref 47), (1, .int p1), (2, .int p2)]) (S' := [.int ((I 51 2) - (1 : Int32)), .int (0 : Int32), .int p1, .ref 47]) (h' := (hh X g (ab_up1 I 47 0 (0 : Int32)))) rfl ?_
  refine Go_cR (y' := 264) (As := [.int p1, .int (0 : Int32), .int ((I 51 2) - (1 : Int32))]) (r := [.ref 47]) rfl (g_m_in264 p1 (0 : Int32) ((I 51 2) - (1 : Int32)) (by omega)) fun v1 => ?_
  refine Go_seq (pcj := 27) (fun (b2 : Int32) => [(0, .ref 47), (1, .int p1), (2, .int p2)]) (fun (b2 : Int32) => [.int b2, .ref 47]) (fun (b2 : Int32) => (hh X g (ab_up1 I 47 0 (0 : Int32)))) (fun b2 => ?_) ?_
  ·
    refine Go_blk 2 (pc' := 29) (L' := [(0, .ref 47), (1, .int p1), (2, .int p2)]) (S' := [.int (0 : Int32), .int (1 : Int32), .int b2, .ref 47]) (h' := (hh X g (ab_up1 I 47 0 (0 : Int32)))) rfl ?_
    refine Go_cW (y' := 268) (As := [.ref 47, .int b2, .int (1 : Int32), .int (0 : Int32)]) (r := []) rfl (g_m_bad268 b2 (1 : Int32) (0 : Int32) (by omega)) fun w3 => ?_
    refine Go_cmzn rfl rfl rfl ?_ ?_
    ·
      refine Go_blk 4 (pc' := 39) (L' := [(0, .ref 47), (1, .int p1), (2, .int p2)]) (S' := [.int (5 : Int32), .int (0 : Int32), .int p2, .ref 47]) (h' := (hh X g w3.2)) rfl ?_
      refine Go_cR (y' := 264) (As := [.int p2, .int (0 : Int32), .int (5 : Int32)]) (r := [.ref 47]) rfl (g_m_in264 p2 (0 : Int32) (5 : Int32) (by omega)) fun v4 => ?_
      refine Go_seq (pcj := 50) (fun (b5 : Int32) => [(0, .ref 47), (1, .int p1), (2, .int p2)]) (fun (b5 : Int32) => [.int b5, .ref 47]) (fun (b5 : Int32) => (hh X g w3.2)) (fun b5 => ?_) ?_
      ·
        refine Go_blk 2 (pc' := 52) (L' := [(0, .ref 47), (1, .int p1), (2, .int p2)]) (S' := [.int (1 : Int32), .int (2 : Int32), .int b5, .ref 47]) (h' := (hh X g w3.2)) rfl ?_
        refine Go_cW (y' := 268) (As := [.ref 47, .int b5, .int (2 : Int32), .int (1 : Int32)]) (r := []) rfl (g_m_bad268 b5 (2 : Int32) (1 : Int32) (by omega)) fun w6 => ?_
        refine Go_cmz rfl rfl rfl ?_ ?_
        ·
          refine Go_blk 2 (pc' := 62) (L' := [(0, .ref 47), (1, .int p1), (2, .int p2)]) (S' := [.int (5 : Int32), .int p2]) (h' := (hh X g w6.2)) rfl ?_
          refine Go_cmpn rfl rfl (ab_cge _ _) ?_ ?_
          ·
            refine Go_blk 3 (pc' := 70) (L' := [(0, .ref 47), (1, .int p1), (2, .int p2)]) (S' := [.int p1, .ref 93]) (h' := (hh X g w6.2)) rfl ?_
            refine Go_aald rfl fun r7 => ?_
            refine Go_blk 1 (pc' := 72) (L' := [(0, .ref 47), (1, .int p1), (2, .int p2)]) (S' := [.int p2, .ref r7]) (h' := (hh X g w6.2)) rfl ?_
            refine Go_iald rfl fun v8 => ?_
            exact Go_ret (fun _ h => h) rfl
          ·
            refine Go_blk 5 (pc' := 83) (L' := [(0, .ref 47), (1, .int p1), (2, .int p2)]) (S' := [.int p1, .ref 93, .ref 576]) (h' := (hh X g w6.2)) rfl ?_
            refine Go_aald rfl fun r9 => ?_
            refine Go_blk 1 (pc' := 85) (L' := [(0, .ref 47), (1, .int p1), (2, .int p2)]) (S' := [.int (0 : Int32), .ref r9, .ref 576]) (h' := (hh X g w6.2)) rfl ?_
            refine Go_iald rfl fun v10 => ?_
            refine Go_cR (y' := 305) (As := [.ref 576, .int v10]) (r := []) rfl (g_m_hasSuit305 576 v10 (by omega)) fun v11 => ?_
            refine Go_seq (pcj := 120) (fun (b12 : Int32) => []) (fun (b12 : Int32) => [.int b12]) (fun (b12 : Int32) => (hh X g w6.2)) (fun b12 => ?_) ?_
            ·
              exact Go_ret (fun _ h => h) rfl
            ·
              refine Go_cmz rfl rfl rfl ?_ ?_
              ·
                refine Go_blk 1 (pc' := 120) (L' := [(0, .ref 47), (1, .int p1), (2, .int p2)]) (S' := [.int (0 : Int32)]) (h' := (hh X g w6.2)) rfl ?_
                exact Go_jmp [] rfl trivial (fun _ h => h)
              ·
                refine Go_blk 6 (pc' := 102) (L' := [(0, .ref 47), (1, .int p1), (2, .int p2)]) (S' := [.int p1, .ref 93, .ref 576, .ref 47]) (h' := (hh X g w6.2)) rfl ?_
                refine Go_aald rfl fun r13 => ?_
                refine Go_blk 1 (pc' := 104) (L' := [(0, .ref 47), (1, .int p1), (2, .int p2)]) (S' := [.int (0 : Int32), .ref r13, .ref 576, .ref 47]) (h' := (hh X g w6.2)) rfl ?_
                refine Go_iald rfl fun v14 => ?_
                refine Go_cR (y' := 310) (As := [.int v14]) (r := [.ref 576, .ref 47]) rfl (g_m_suitOf310 v14 (by omega)) fun v15 => ?_
                refine Go_blk 1 (pc' := 109) (L' := [(0, .ref 47), (1, .int p1), (2, .int p2)]) (S' := [.int p1, .int v15, .ref 576, .ref 47]) (h' := (hh X g w6.2)) rfl ?_
                refine Go_cR (y' := 332) (As := [.ref 47, .ref 576, .int v15, .int p1]) (r := []) rfl (g_m_isMet332 576 v15 p1 (by omega)) fun v16 => ?_
                refine Go_cmz rfl rfl rfl ?_ ?_
                ·
                  refine Go_blk 1 (pc' := 120) (L' := [(0, .ref 47), (1, .int p1), (2, .int p2)]) (S' := [.int (0 : Int32)]) (h' := (hh X g w6.2)) rfl ?_
                  exact Go_jmp [] rfl trivial (fun _ h => h)
                ·
                  refine Go_blk 2 (pc' := 120) (L' := [(0, .ref 47), (1, .int p1), (2, .int p2)]) (S' := [.int (1 : Int32)]) (h' := (hh X g w6.2)) rfl ?_
                  exact Go_jmp [] rfl trivial (fun _ h => h)
        ·
          refine Go_blk 1 (pc' := 59) (L' := [(0, .ref 47), (1, .int p1), (2, .int p2)]) (S' := [.int (0 : Int32)]) (h' := (hh X g w6.2)) rfl ?_
          exact Go_ret (fun _ h => h) rfl
      ·
        refine Go_cmzn rfl rfl rfl ?_ ?_
        ·
          refine Go_blk 2 (pc' := 50) (L' := [(0, .ref 47), (1, .int p1), (2, .int p2)]) (S' := [.int (1 : Int32), .ref 47]) (h' := (hh X g w3.2)) rfl ?_
          exact Go_jmp [(0, .ref 47), (1, .int p1), (2, .int p2)] rfl ⟨rfl, rfl, rfl, trivial⟩ (fun _ h => h)
        ·
          refine Go_blk 1 (pc' := 50) (L' := [(0, .ref 47), (1, .int p1), (2, .int p2)]) (S' := [.int (0 : Int32), .ref 47]) (h' := (hh X g w3.2)) rfl ?_
          exact Go_jmp [(0, .ref 47), (1, .int p1), (2, .int p2)] rfl ⟨rfl, rfl, rfl, trivial⟩ (fun _ h => h)
    ·
      refine Go_blk 1 (pc' := 59) (L' := [(0, .ref 47), (1, .int p1), (2, .int p2)]) (S' := [.int (0 : Int32)]) (h' := (hh X g w3.2)) rfl ?_
      exact Go_ret (fun _ h => h) rfl
  ·
    refine Go_cmzn rfl rfl rfl ?_ ?_
    ·
      refine Go_blk 2 (pc' := 27) (L' := [(0, .ref 47), (1, .int p1), (2, .int p2)]) (S' := [.int (1 : Int32), .ref 47]) (h' := (hh X g (ab_up1 I 47 0 (0 : Int32)))) rfl ?_
      exact Go_jmp [(0, .ref 47), (1, .int p1), (2, .int p2)] rfl ⟨rfl, rfl, rfl, trivial⟩ (fun _ h => h)
    ·
      refine Go_blk 1 (pc' := 27) (L' := [(0, .ref 47), (1, .int p1), (2, .int p2)]) (S' := [.int (0 : Int32), .ref 47]) (h' := (hh X g (ab_up1 I 47 0 (0 : Int32)))) rfl ?_
      exact Go_jmp [(0, .ref 47), (1, .int p1), (2, .int p2)] rfl ⟨rfl, rfl, rfl, trivial⟩ (fun _ h => h)
set_option maxRecDepth 1000000 in
set_option maxHeartbeats 4000000 in
theorem g_x_order160 (p1 : Int32) (p2 : Int32) {X : XX} {g : GG} {I : MJ} {d : Nat} (hd : 3 ≤ d) : Go d 160 0 (lv_args 0 [.ref 0, .int p1, .int p2]) [] (hh X g I) (f_x_order160 p1 p2 I) (pT vI X g) := by
  obtain ⟨d, rfl⟩ : ∃ k, d = k + 1 := ⟨d - 1, by omega⟩
  unfold f_x_order160
  refine Go_blk 5 (pc' := 9) (L' := [(0, .ref 0), (1, .int p1), (2, .int p2)]) (S' := [.int (I 3 8), .int p1, .ref 0]) (h' := (hh X g I)) rfl ?_
  refine Go_cT (y' := 69) (As := [.ref 0, .int p1, .int (I 3 8)]) (r := []) rfl rfl (g_x_needElement69 p1 (I 3 8) (by omega)) fun v1 I2 => ?_
  refine Go_blk 4 (pc' := 16) (L' := [(0, .ref 0), (1, .int p1), (2, .int p2)]) (S' := [.int (5 : Int32), .int (0 : Int32), .int p2, .ref 0]) (h' := (hh X g I2)) rfl ?_
  refine Go_cT (y' := 38) (As := [.ref 0, .int p2, .int (0 : Int32), .int (5 : Int32)]) (r := []) rfl rfl (g_x_needWithin38 p2 (0 : Int32) (5 : Int32) (by omega)) fun v3 I4 => ?_
  refine Go_blk 2 (pc' := 21) (L' := [(0, .ref 0), (1, .int p1), (2, .int p2)]) (S' := [.int (5 : Int32), .int p2]) (h' := (hh X g I4)) rfl ?_
  refine Go_seq (pcj := 44) (fun (b5 : Int32) => []) (fun (b5 : Int32) => [.int b5]) (fun (b5 : Int32) => (hh X g I4)) (fun b5 => ?_) ?_
  ·
    exact Go_ret (fun _ h => h) rfl
  ·
    refine Go_cmpn rfl rfl (ab_cge _ _) ?_ ?_
    ·
      refine Go_blk 4 (pc' := 30) (L' := [(0, .ref 0), (1, .int p1), (2, .int p2)]) (S' := [.int p2, .int p1, .ref 3]) (h' := (hh X g I4)) rfl ?_
      refine Go_cR (y' := 123) (As := [.ref 3, .int p1, .int p2]) (r := []) rfl (g_sho_orderPart123 p1 p2 (by omega)) fun v6 => ?_
      refine Go_blk 1 (pc' := 44) (L' := [(0, .ref 0), (1, .int p1), (2, .int p2)]) (S' := [.int v6]) (h' := (hh X g I4)) rfl ?_
      exact Go_jmp [] rfl trivial (fun _ h => h)
    ·
      refine Go_blk 3 (pc' := 41) (L' := [(0, .ref 0), (1, .int p1), (2, .int p2)]) (S' := [.int p1, .ref 28]) (h' := (hh X g I4)) rfl ?_
      refine Go_cR (y' := 124) (As := [.ref 28, .int p1]) (r := []) rfl (g_tra_stateOf124 p1 (by omega)) fun v7 => ?_
      exact Go_jmp [] rfl trivial (fun _ h => h)
set_option maxRecDepth 1000000 in
set_option maxHeartbeats 4000000 in
theorem g_l_order159 (p1 : Int32) (p2 : Int32) {X : XX} {g : GG} {I : MJ} {d : Nat} (hd : 4 ≤ d) : Go d 159 0 (lv_args 0 [.ref 0, .int p1, .int p2, .ref 698]) [] (hh X g I) (f_l_order159 p1 p2 I g) (pG X) := by
  obtain ⟨d, rfl⟩ : ∃ k, d = k + 1 := ⟨d - 1, by omega⟩
  unfold f_l_order159
  refine Go_blk 5 (pc' := 5) (L' := [(0, .ref 0), (1, .int p1), (2, .int p2), (3, .ref 698)]) (S' := [.int p2, .int p1, .ref 0, .int (0 : Int32), .ref 698]) (h' := (hh X g I)) rfl ?_
  refine Go_try (y' := 160) (As := [.ref 0, .int p1, .int p2]) (r := [.int (0 : Int32), .ref 698]) rfl (g_x_order160 p1 p2 (by omega)) (fun v1 I2 => ?_) (fun E2 I2 => ?_)
  ·
    refine Go_blk 1 (pc' := 9) (L' := [(0, .ref 0), (1, .int p1), (2, .int p2), (3, .ref 698)]) (S' := [.long (v1.toInt64), .int (0 : Int32), .ref 698]) (h' := (hh X g I2)) rfl ?_
    refine Go_last rfl fun g3 => ?_
    refine Go_blk 2 (pc' := 22) (L' := [(0, .ref 0), (1, .int p1), (2, .int p2), (3, .ref 698)]) (S' := [.int (0 : Int32)]) (h' := (hh X g3 I2)) rfl ?_
    exact Go_ret (fun _ h => h) rfl
  ·
    refine GX_ite ?_ ?_
    ·
      refine GX_go rfl (t := 15) (k := 4) rfl ?_
      refine Go_blk 1 (pc' := 16) (L' := [(0, .ref 0), (1, .int p1), (2, .int p2), (3, .ref 698)]) (S' := [.int (1 : Int32)]) (h' := (hh X (thr g) I2)) rfl ?_
      exact Go_ret (fun _ h => h) rfl
    refine GX_ite ?_ ?_
    ·
      refine GX_go rfl (t := 19) (k := 4) rfl ?_
      refine Go_blk 1 (pc' := 20) (L' := [(0, .ref 0), (1, .int p1), (2, .int p2), (3, .ref 698)]) (S' := [.int (2 : Int32)]) (h' := (hh X (thr g) I2)) rfl ?_
      exact Go_ret (fun _ h => h) rfl
    exact GX_none
set_option maxRecDepth 1000000 in
set_option maxHeartbeats 4000000 in
theorem g_m_isOrder334 (p1 : Int32) {X : XX} {g : GG} {I : MJ} {d : Nat} (hd : 1 ≤ d) : Go d 334 0 (lv_args 0 [.ref 47, .int p1]) [] (hh X g I) (f_m_isOrder334 p1 I) (pR X g I) := by
  obtain ⟨d, rfl⟩ : ∃ k, d = k + 1 := ⟨d - 1, by omega⟩
  unfold f_m_isOrder334
  refine Go_blk 8 (pc' := 10) (L' := [(0, .ref 47), (1, .int p1)]) (S' := [.int ((I 51 3) - (1 : Int32)), .int (0 : Int32), .int p1]) (h' := (hh X g I)) rfl ?_
  refine Go_cR (y' := 264) (As := [.int p1, .int (0 : Int32), .int ((I 51 3) - (1 : Int32))]) (r := []) rfl (g_m_in264 p1 (0 : Int32) ((I 51 3) - (1 : Int32)) (by omega)) fun v1 => ?_
  exact Go_ret (fun _ h => h) rfl
set_option maxRecDepth 1000000 in
set_option maxHeartbeats 4000000 in
theorem g_m_order333 (p1 : Int32) (p2 : Int32) {X : XX} {g : GG} {I : MJ} {d : Nat} (hd : 2 ≤ d) : Go d 333 0 (lv_args 0 [.ref 47, .int p1, .int p2]) [] (hh X g I) (f_m_order333 p1 p2 I) (pW X g) := by
  obtain ⟨d, rfl⟩ : ∃ k, d = k + 1 := ⟨d - 1, by omega⟩
  unfold f_m_order333
  refine Go_blk 6 (pc' := 8) (L' := [(0, .ref 47), (1, .int p1), (2, .int p2)]) (S' := [.int p1, .ref 47, .ref 47]) (h' := (hh X g (ab_up1 I 47 0 (0 : Int32)))) rfl ?_
  refine Go_cR (y' := 334) (As := [.ref 47, .int p1]) (r := [.ref 47]) rfl (g_m_isOrder334 p1 (by omega)) fun v1 => ?_
  refine Go_seq (pcj := 19) (fun (b2 : Int32) => [(0, .ref 47), (1, .int p1), (2, .int p2)]) (fun (b2 : Int32) => [.int b2, .ref 47]) (fun (b2 : Int32) => (hh X g (ab_up1 I 47 0 (0 : Int32)))) (fun b2 => ?_) ?_
  ·
    refine Go_blk 2 (pc' := 21) (L' := [(0, .ref 47), (1, .int p1), (2, .int p2)]) (S' := [.int (0 : Int32), .int (1 : Int32), .int b2, .ref 47]) (h' := (hh X g (ab_up1 I 47 0 (0 : Int32)))) rfl ?_
    refine Go_cW (y' := 268) (As := [.ref 47, .int b2, .int (1 : Int32), .int (0 : Int32)]) (r := []) rfl (g_m_bad268 b2 (1 : Int32) (0 : Int32) (by omega)) fun w3 => ?_
    refine Go_cmzn rfl rfl rfl ?_ ?_
    ·
      refine Go_blk 4 (pc' := 31) (L' := [(0, .ref 47), (1, .int p1), (2, .int p2)]) (S' := [.int (5 : Int32), .int (0 : Int32), .int p2, .ref 47]) (h' := (hh X g w3.2)) rfl ?_
      refine Go_cR (y' := 264) (As := [.int p2, .int (0 : Int32), .int (5 : Int32)]) (r := [.ref 47]) rfl (g_m_in264 p2 (0 : Int32) (5 : Int32) (by omega)) fun v4 => ?_
      refine Go_seq (pcj := 42) (fun (b5 : Int32) => [(0, .ref 47), (1, .int p1), (2, .int p2)]) (fun (b5 : Int32) => [.int b5, .ref 47]) (fun (b5 : Int32) => (hh X g w3.2)) (fun b5 => ?_) ?_
      ·
        refine Go_blk 2 (pc' := 44) (L' := [(0, .ref 47), (1, .int p1), (2, .int p2)]) (S' := [.int (1 : Int32), .int (2 : Int32), .int b5, .ref 47]) (h' := (hh X g w3.2)) rfl ?_
        refine Go_cW (y' := 268) (As := [.ref 47, .int b5, .int (2 : Int32), .int (1 : Int32)]) (r := []) rfl (g_m_bad268 b5 (2 : Int32) (1 : Int32) (by omega)) fun w6 => ?_
        refine Go_cmz rfl rfl rfl ?_ ?_
        ·
          refine Go_blk 2 (pc' := 54) (L' := [(0, .ref 47), (1, .int p1), (2, .int p2)]) (S' := [.int (5 : Int32), .int p2]) (h' := (hh X g w6.2)) rfl ?_
          refine Go_seq (pcj := 77) (fun (b7 : Int32) => []) (fun (b7 : Int32) => [.int b7]) (fun (b7 : Int32) => (hh X g w6.2)) (fun b7 => ?_) ?_
          ·
            exact Go_ret (fun _ h => h) rfl
          ·
            refine Go_cmpn rfl rfl (ab_cge _ _) ?_ ?_
            ·
              refine Go_blk 3 (pc' := 62) (L' := [(0, .ref 47), (1, .int p1), (2, .int p2)]) (S' := [.int p1, .ref 119]) (h' := (hh X g w6.2)) rfl ?_
              refine Go_aald rfl fun r8 => ?_
              refine Go_blk 1 (pc' := 64) (L' := [(0, .ref 47), (1, .int p1), (2, .int p2)]) (S' := [.int p2, .ref r8]) (h' := (hh X g w6.2)) rfl ?_
              refine Go_iald rfl fun v9 => ?_
              refine Go_blk 1 (pc' := 77) (L' := [(0, .ref 47), (1, .int p1), (2, .int p2)]) (S' := [.int v9]) (h' := (hh X g w6.2)) rfl ?_
              exact Go_jmp [] rfl trivial (fun _ h => h)
            ·
              refine Go_blk 4 (pc' := 74) (L' := [(0, .ref 47), (1, .int p1), (2, .int p2)]) (S' := [.int p1, .ref 576, .ref 47]) (h' := (hh X g w6.2)) rfl ?_
              refine Go_cR (y' := 312) (As := [.ref 47, .ref 576, .int p1]) (r := []) rfl (g_m_stateOf312 576 p1 (by omega)) fun v10 => ?_
              exact Go_jmp [] rfl trivial (fun _ h => h)
        ·
          refine Go_blk 1 (pc' := 51) (L' := [(0, .ref 47), (1, .int p1), (2, .int p2)]) (S' := [.int (0 : Int32)]) (h' := (hh X g w6.2)) rfl ?_
          exact Go_ret (fun _ h => h) rfl
      ·
        refine Go_cmzn rfl rfl rfl ?_ ?_
        ·
          refine Go_blk 2 (pc' := 42) (L' := [(0, .ref 47), (1, .int p1), (2, .int p2)]) (S' := [.int (1 : Int32), .ref 47]) (h' := (hh X g w3.2)) rfl ?_
          exact Go_jmp [(0, .ref 47), (1, .int p1), (2, .int p2)] rfl ⟨rfl, rfl, rfl, trivial⟩ (fun _ h => h)
        ·
          refine Go_blk 1 (pc' := 42) (L' := [(0, .ref 47), (1, .int p1), (2, .int p2)]) (S' := [.int (0 : Int32), .ref 47]) (h' := (hh X g w3.2)) rfl ?_
          exact Go_jmp [(0, .ref 47), (1, .int p1), (2, .int p2)] rfl ⟨rfl, rfl, rfl, trivial⟩ (fun _ h => h)
    ·
      refine Go_blk 1 (pc' := 51) (L' := [(0, .ref 47), (1, .int p1), (2, .int p2)]) (S' := [.int (0 : Int32)]) (h' := (hh X g w3.2)) rfl ?_
      exact Go_ret (fun _ h => h) rfl
  ·
    refine Go_cmzn rfl rfl rfl ?_ ?_
    ·
      refine Go_blk 2 (pc' := 19) (L' := [(0, .ref 47), (1, .int p1), (2, .int p2)]) (S' := [.int (1 : Int32), .ref 47]) (h' := (hh X g (ab_up1 I 47 0 (0 : Int32)))) rfl ?_
      exact Go_jmp [(0, .ref 47), (1, .int p1), (2, .int p2)] rfl ⟨rfl, rfl, rfl, trivial⟩ (fun _ h => h)
    ·
      refine Go_blk 1 (pc' := 19) (L' := [(0, .ref 47), (1, .int p1), (2, .int p2)]) (S' := [.int (0 : Int32), .ref 47]) (h' := (hh X g (ab_up1 I 47 0 (0 : Int32)))) rfl ?_
      exact Go_jmp [(0, .ref 47), (1, .int p1), (2, .int p2)] rfl ⟨rfl, rfl, rfl, trivial⟩ (fun _ h => h)
set_option maxRecDepth 1000000 in
set_option maxHeartbeats 4000000 in
theorem g_x_wears162 (p1 : Int32) (p2 : Int32) {X : XX} {g : GG} {I : MJ} {d : Nat} (hd : 2 ≤ d) : Go d 162 0 (lv_args 0 [.ref 0, .int p1, .int p2]) [] (hh X g I) (f_x_wears162 p1 p2 I) (pT vI X g) := by
  obtain ⟨d, rfl⟩ : ∃ k, d = k + 1 := ⟨d - 1, by omega⟩
  unfold f_x_wears162
  refine Go_blk 5 (pc' := 9) (L' := [(0, .ref 0), (1, .int p1), (2, .int p2)]) (S' := [.int (I 3 6), .int p1, .ref 0]) (h' := (hh X g I)) rfl ?_
  refine Go_cT (y' := 69) (As := [.ref 0, .int p1, .int (I 3 6)]) (r := []) rfl rfl (g_x_needElement69 p1 (I 3 6) (by omega)) fun v1 I2 => ?_
  refine Go_blk 4 (pc' := 17) (L' := [(0, .ref 0), (1, .int p1), (2, .int p2)]) (S' := [.int (11 : Int32), .int (0 : Int32), .int p2, .ref 0]) (h' := (hh X g I2)) rfl ?_
  refine Go_cT (y' := 38) (As := [.ref 0, .int p2, .int (0 : Int32), .int (11 : Int32)]) (r := []) rfl rfl (g_x_needWithin38 p2 (0 : Int32) (11 : Int32) (by omega)) fun v3 I4 => ?_
  refine Go_blk 3 (pc' := 25) (L' := [(0, .ref 0), (1, .int p1), (2, .int p2)]) (S' := [.int p1, .ref 15]) (h' := (hh X g I4)) rfl ?_
  refine Go_cR (y' := 108) (As := [.ref 15, .int p1]) (r := []) rfl (g_sta_hasSuit108_15 p1 (by omega)) fun v5 => ?_
  refine Go_cmzn rfl rfl rfl ?_ ?_
  ·
    refine Go_blk 1 (pc' := 32) (L' := [(0, .ref 0), (1, .int p1), (2, .int p2)]) (S' := [.int (-1 : Int32)]) (h' := (hh X g I4)) rfl ?_
    exact Go_ret (fun _ h => h) rfl
  ·
    refine Go_blk 4 (pc' := 39) (L' := [(0, .ref 0), (1, .int p1), (2, .int p2)]) (S' := [.int p2, .int p1, .ref 15]) (h' := (hh X g I4)) rfl ?_
    refine Go_cR (y' := 116) (As := [.ref 15, .int p1, .int p2]) (r := []) rfl (g_sta_wornAt116_15 p1 p2 (by omega)) fun v6 => ?_
    refine Go_blk 3 (pc' := 46) (L' := [(3, .int v6), (0, .ref 0), (1, .int p1), (2, .int p2)]) (S' := [.int (6 : Int32), .int v6]) (h' := (hh X g I4)) rfl ?_
    refine Go_seq (pcj := 54) (fun (b7 : Int32) => []) (fun (b7 : Int32) => [.int b7]) (fun (b7 : Int32) => (hh X g I4)) (fun b7 => ?_) ?_
    ·
      exact Go_ret (fun _ h => h) rfl
    ·
      refine Go_cmpn rfl rfl rfl ?_ ?_
      ·
        refine Go_blk 2 (pc' := 54) (L' := [(3, .int v6), (0, .ref 0), (1, .int p1), (2, .int p2)]) (S' := [.int (-1 : Int32)]) (h' := (hh X g I4)) rfl ?_
        exact Go_jmp [] rfl trivial (fun _ h => h)
      ·
        refine Go_blk 1 (pc' := 54) (L' := [(3, .int v6), (0, .ref 0), (1, .int p1), (2, .int p2)]) (S' := [.int v6]) (h' := (hh X g I4)) rfl ?_
        exact Go_jmp [] rfl trivial (fun _ h => h)
set_option maxRecDepth 1000000 in
set_option maxHeartbeats 4000000 in
theorem g_l_wears161 (p1 : Int32) (p2 : Int32) {X : XX} {g : GG} {I : MJ} {d : Nat} (hd : 3 ≤ d) : Go d 161 0 (lv_args 0 [.ref 0, .int p1, .int p2, .ref 698]) [] (hh X g I) (f_l_wears161 p1 p2 I g) (pG X) := by
  obtain ⟨d, rfl⟩ : ∃ k, d = k + 1 := ⟨d - 1, by omega⟩
  unfold f_l_wears161
  refine Go_blk 5 (pc' := 5) (L' := [(0, .ref 0), (1, .int p1), (2, .int p2), (3, .ref 698)]) (S' := [.int p2, .int p1, .ref 0, .int (0 : Int32), .ref 698]) (h' := (hh X g I)) rfl ?_
  refine Go_try (y' := 162) (As := [.ref 0, .int p1, .int p2]) (r := [.int (0 : Int32), .ref 698]) rfl (g_x_wears162 p1 p2 (by omega)) (fun v1 I2 => ?_) (fun E2 I2 => ?_)
  ·
    refine Go_blk 1 (pc' := 9) (L' := [(0, .ref 0), (1, .int p1), (2, .int p2), (3, .ref 698)]) (S' := [.long (v1.toInt64), .int (0 : Int32), .ref 698]) (h' := (hh X g I2)) rfl ?_
    refine Go_last rfl fun g3 => ?_
    refine Go_blk 2 (pc' := 22) (L' := [(0, .ref 0), (1, .int p1), (2, .int p2), (3, .ref 698)]) (S' := [.int (0 : Int32)]) (h' := (hh X g3 I2)) rfl ?_
    exact Go_ret (fun _ h => h) rfl
  ·
    refine GX_ite ?_ ?_
    ·
      refine GX_go rfl (t := 15) (k := 4) rfl ?_
      refine Go_blk 1 (pc' := 16) (L' := [(0, .ref 0), (1, .int p1), (2, .int p2), (3, .ref 698)]) (S' := [.int (1 : Int32)]) (h' := (hh X (thr g) I2)) rfl ?_
      exact Go_ret (fun _ h => h) rfl
    refine GX_ite ?_ ?_
    ·
      refine GX_go rfl (t := 19) (k := 4) rfl ?_
      refine Go_blk 1 (pc' := 20) (L' := [(0, .ref 0), (1, .int p1), (2, .int p2), (3, .ref 698)]) (S' := [.int (2 : Int32)]) (h' := (hh X (thr g) I2)) rfl ?_
      exact Go_ret (fun _ h => h) rfl
    exact GX_none
set_option maxRecDepth 1000000 in
set_option maxHeartbeats 4000000 in
theorem g_m_isHour336 (p0 : Int32) {X : XX} {g : GG} {I : MJ} {d : Nat} (hd : 1 ≤ d) : Go d 336 0 (lv_args 0 [.int p0]) [] (hh X g I) (f_m_isHour336 p0 I) (pR X g I) := by
  obtain ⟨d, rfl⟩ : ∃ k, d = k + 1 := ⟨d - 1, by omega⟩
  unfold f_m_isHour336
  refine Go_blk 3 (pc' := 4) (L' := [(0, .int p0)]) (S' := [.int (11 : Int32), .int (0 : Int32), .int p0]) (h' := (hh X g I)) rfl ?_
  refine Go_cR (y' := 264) (As := [.int p0, .int (0 : Int32), .int (11 : Int32)]) (r := []) rfl (g_m_in264 p0 (0 : Int32) (11 : Int32) (by omega)) fun v1 => ?_
  exact Go_ret (fun _ h => h) rfl
set_option maxRecDepth 1000000 in
set_option maxHeartbeats 4000000 in
theorem g_m_wears335 (p1 : Int32) (p2 : Int32) {X : XX} {g : GG} {I : MJ} {d : Nat} (hd : 2 ≤ d) : Go d 335 0 (lv_args 0 [.ref 47, .int p1, .int p2]) [] (hh X g I) (f_m_wears335 p1 p2 I) (pW X g) := by
  obtain ⟨d, rfl⟩ : ∃ k, d = k + 1 := ⟨d - 1, by omega⟩
  unfold f_m_wears335
  refine Go_blk 6 (pc' := 8) (L' := [(0, .ref 47), (1, .int p1), (2, .int p2)]) (S' := [.int p1, .ref 47, .ref 47]) (h' := (hh X g (ab_up1 I 47 0 (0 : Int32)))) rfl ?_
  refine Go_cR (y' := 328) (As := [.ref 47, .int p1]) (r := [.ref 47]) rfl (g_m_isClient328 p1 (by omega)) fun v1 => ?_
  refine Go_seq (pcj := 19) (fun (b2 : Int32) => [(0, .ref 47), (1, .int p1), (2, .int p2)]) (fun (b2 : Int32) => [.int b2, .ref 47]) (fun (b2 : Int32) => (hh X g (ab_up1 I 47 0 (0 : Int32)))) (fun b2 => ?_) ?_
  ·
    refine Go_blk 2 (pc' := 21) (L' := [(0, .ref 47), (1, .int p1), (2, .int p2)]) (S' := [.int (0 : Int32), .int (1 : Int32), .int b2, .ref 47]) (h' := (hh X g (ab_up1 I 47 0 (0 : Int32)))) rfl ?_
    refine Go_cW (y' := 268) (As := [.ref 47, .int b2, .int (1 : Int32), .int (0 : Int32)]) (r := []) rfl (g_m_bad268 b2 (1 : Int32) (0 : Int32) (by omega)) fun w3 => ?_
    refine Go_cmzn rfl rfl rfl ?_ ?_
    ·
      refine Go_blk 2 (pc' := 29) (L' := [(0, .ref 47), (1, .int p1), (2, .int p2)]) (S' := [.int p2, .ref 47]) (h' := (hh X g w3.2)) rfl ?_
      refine Go_cR (y' := 336) (As := [.int p2]) (r := [.ref 47]) rfl (g_m_isHour336 p2 (by omega)) fun v4 => ?_
      refine Go_seq (pcj := 40) (fun (b5 : Int32) => [(0, .ref 47), (1, .int p1), (2, .int p2)]) (fun (b5 : Int32) => [.int b5, .ref 47]) (fun (b5 : Int32) => (hh X g w3.2)) (fun b5 => ?_) ?_
      ·
        refine Go_blk 2 (pc' := 42) (L' := [(0, .ref 47), (1, .int p1), (2, .int p2)]) (S' := [.int (1 : Int32), .int (2 : Int32), .int b5, .ref 47]) (h' := (hh X g w3.2)) rfl ?_
        refine Go_cW (y' := 268) (As := [.ref 47, .int b5, .int (2 : Int32), .int (1 : Int32)]) (r := []) rfl (g_m_bad268 b5 (2 : Int32) (1 : Int32) (by omega)) fun w6 => ?_
        refine Go_cmz rfl rfl rfl ?_ ?_
        ·
          refine Go_blk 3 (pc' := 55) (L' := [(0, .ref 47), (1, .int p1), (2, .int p2)]) (S' := [.int p1, .ref 576]) (h' := (hh X g w6.2)) rfl ?_
          refine Go_cR (y' := 305) (As := [.ref 576, .int p1]) (r := []) rfl (g_m_hasSuit305 576 p1 (by omega)) fun v7 => ?_
          refine Go_seq (pcj := 92) (fun (b8 : Int32) => []) (fun (b8 : Int32) => [.int b8]) (fun (b8 : Int32) => (hh X g w6.2)) (fun b8 => ?_) ?_
          ·
            exact Go_ret (fun _ h => h) rfl
          ·
            refine Go_cmz rfl rfl rfl ?_ ?_
            ·
              refine Go_blk 2 (pc' := 92) (L' := [(0, .ref 47), (1, .int p1), (2, .int p2)]) (S' := [.int (-1 : Int32)]) (h' := (hh X g w6.2)) rfl ?_
              exact Go_jmp [] rfl trivial (fun _ h => h)
            ·
              refine Go_blk 3 (pc' := 66) (L' := [(0, .ref 47), (1, .int p1), (2, .int p2)]) (S' := [.int p1, .ref 576]) (h' := (hh X g w6.2)) rfl ?_
              refine Go_cR (y' := 310) (As := [.int p1]) (r := [.ref 576]) rfl (g_m_suitOf310 p1 (by omega)) fun v9 => ?_
              refine Go_blk 2 (pc' := 71) (L' := [(0, .ref 47), (1, .int p1), (2, .int p2)]) (S' := [.int (v9 + p2), .ref 576]) (h' := (hh X g w6.2)) rfl ?_
              refine Go_iald rfl fun v10 => ?_
              refine Go_blk 1 (pc' := 74) (L' := [(0, .ref 47), (1, .int p1), (2, .int p2)]) (S' := [.int (6 : Int32), .int v10]) (h' := (hh X g w6.2)) rfl ?_
              refine Go_cmpn rfl rfl rfl ?_ ?_
              ·
                refine Go_blk 2 (pc' := 92) (L' := [(0, .ref 47), (1, .int p1), (2, .int p2)]) (S' := [.int (-1 : Int32)]) (h' := (hh X g w6.2)) rfl ?_
                exact Go_jmp [] rfl trivial (fun _ h => h)
              ·
                refine Go_blk 3 (pc' := 86) (L' := [(0, .ref 47), (1, .int p1), (2, .int p2)]) (S' := [.int p1, .ref 576]) (h' := (hh X g w6.2)) rfl ?_
                refine Go_cR (y' := 310) (As := [.int p1]) (r := [.ref 576]) rfl (g_m_suitOf310 p1 (by omega)) fun v11 => ?_
                refine Go_blk 2 (pc' := 91) (L' := [(0, .ref 47), (1, .int p1), (2, .int p2)]) (S' := [.int (v11 + p2), .ref 576]) (h' := (hh X g w6.2)) rfl ?_
                refine Go_iald rfl fun v12 => ?_
                exact Go_jmp [] rfl trivial (fun _ h => h)
        ·
          refine Go_blk 1 (pc' := 49) (L' := [(0, .ref 47), (1, .int p1), (2, .int p2)]) (S' := [.int (0 : Int32)]) (h' := (hh X g w6.2)) rfl ?_
          exact Go_ret (fun _ h => h) rfl
      ·
        refine Go_cmzn rfl rfl rfl ?_ ?_
        ·
          refine Go_blk 2 (pc' := 40) (L' := [(0, .ref 47), (1, .int p1), (2, .int p2)]) (S' := [.int (1 : Int32), .ref 47]) (h' := (hh X g w3.2)) rfl ?_
          exact Go_jmp [(0, .ref 47), (1, .int p1), (2, .int p2)] rfl ⟨rfl, rfl, rfl, trivial⟩ (fun _ h => h)
        ·
          refine Go_blk 1 (pc' := 40) (L' := [(0, .ref 47), (1, .int p1), (2, .int p2)]) (S' := [.int (0 : Int32), .ref 47]) (h' := (hh X g w3.2)) rfl ?_
          exact Go_jmp [(0, .ref 47), (1, .int p1), (2, .int p2)] rfl ⟨rfl, rfl, rfl, trivial⟩ (fun _ h => h)
    ·
      refine Go_blk 1 (pc' := 49) (L' := [(0, .ref 47), (1, .int p1), (2, .int p2)]) (S' := [.int (0 : Int32)]) (h' := (hh X g w3.2)) rfl ?_
      exact Go_ret (fun _ h => h) rfl
  ·
    refine Go_cmzn rfl rfl rfl ?_ ?_
    ·
      refine Go_blk 2 (pc' := 19) (L' := [(0, .ref 47), (1, .int p1), (2, .int p2)]) (S' := [.int (1 : Int32), .ref 47]) (h' := (hh X g (ab_up1 I 47 0 (0 : Int32)))) rfl ?_
      exact Go_jmp [(0, .ref 47), (1, .int p1), (2, .int p2)] rfl ⟨rfl, rfl, rfl, trivial⟩ (fun _ h => h)
    ·
      refine Go_blk 1 (pc' := 19) (L' := [(0, .ref 47), (1, .int p1), (2, .int p2)]) (S' := [.int (0 : Int32), .ref 47]) (h' := (hh X g (ab_up1 I 47 0 (0 : Int32)))) rfl ?_
      exact Go_jmp [(0, .ref 47), (1, .int p1), (2, .int p2)] rfl ⟨rfl, rfl, rfl, trivial⟩ (fun _ h => h)
set_option maxRecDepth 1000000 in
set_option maxHeartbeats 4000000 in
theorem g_x_sky164 (p1 : Int32) (p2 : Int32) {X : XX} {g : GG} {I : MJ} {d : Nat} (hd : 3 ≤ d) : Go d 164 0 (lv_args 0 [.ref 0, .int p1, .int p2]) [] (hh X g I) (f_x_sky164 p1 p2 I) (pT vI X g) := by
  obtain ⟨d, rfl⟩ : ∃ k, d = k + 1 := ⟨d - 1, by omega⟩
  unfold f_x_sky164
  refine Go_blk 2 (pc' := 2) (L' := [(0, .ref 0), (1, .int p1), (2, .int p2)]) (S' := [.int p1, .ref 0]) (h' := (hh X g I)) rfl ?_
  refine Go_cT (y' := 68) (As := [.ref 0, .int p1]) (r := []) rfl rfl (g_x_needPattern68 p1 (by omega)) fun v1 I2 => ?_
  refine Go_blk 4 (pc' := 10) (L' := [(0, .ref 0), (1, .int p1), (2, .int p2)]) (S' := [.int (11 : Int32), .int (0 : Int32), .int p2, .ref 0]) (h' := (hh X g I2)) rfl ?_
  refine Go_cT (y' := 38) (As := [.ref 0, .int p2, .int (0 : Int32), .int (11 : Int32)]) (r := []) rfl rfl (g_x_needWithin38 p2 (0 : Int32) (11 : Int32) (by omega)) fun v3 I4 => ?_
  refine Go_blk 3 (pc' := 18) (L' := [(0, .ref 0), (1, .int p1), (2, .int p2)]) (S' := [.int p1, .ref 19]) (h' := (hh X g I4)) rfl ?_
  refine Go_cR (y' := 25) (As := [.ref 19, .int p1]) (r := []) rfl (g_pat_isTold25 p1 (by omega)) fun v5 => ?_
  refine Go_seq (pcj := 37) (fun (b6 : Int32) => []) (fun (b6 : Int32) => [.int b6]) (fun (b6 : Int32) => (hh X g I4)) (fun b6 => ?_) ?_
  ·
    exact Go_ret (fun _ h => h) rfl
  ·
    refine Go_cmz rfl rfl rfl ?_ ?_
    ·
      refine Go_blk 1 (pc' := 37) (L' := [(0, .ref 0), (1, .int p1), (2, .int p2)]) (S' := [.int (-1 : Int32)]) (h' := (hh X g I4)) rfl ?_
      exact Go_jmp [] rfl trivial (fun _ h => h)
    ·
      refine Go_blk 4 (pc' := 30) (L' := [(0, .ref 0), (1, .int p1), (2, .int p2)]) (S' := [.int p2, .int p1, .ref 19]) (h' := (hh X g I4)) rfl ?_
      refine Go_cR (y' := 110) (As := [.ref 19, .int p1, .int p2]) (r := []) rfl (g_pat_kindAt110 p1 p2 (by omega)) fun v7 => ?_
      refine Go_blk 1 (pc' := 37) (L' := [(0, .ref 0), (1, .int p1), (2, .int p2)]) (S' := [.int v7]) (h' := (hh X g I4)) rfl ?_
      exact Go_jmp [] rfl trivial (fun _ h => h)
set_option maxRecDepth 1000000 in
set_option maxHeartbeats 4000000 in
theorem g_l_sky163 (p1 : Int32) (p2 : Int32) {X : XX} {g : GG} {I : MJ} {d : Nat} (hd : 4 ≤ d) : Go d 163 0 (lv_args 0 [.ref 0, .int p1, .int p2, .ref 698]) [] (hh X g I) (f_l_sky163 p1 p2 I g) (pG X) := by
  obtain ⟨d, rfl⟩ : ∃ k, d = k + 1 := ⟨d - 1, by omega⟩
  unfold f_l_sky163
  refine Go_blk 5 (pc' := 5) (L' := [(0, .ref 0), (1, .int p1), (2, .int p2), (3, .ref 698)]) (S' := [.int p2, .int p1, .ref 0, .int (0 : Int32), .ref 698]) (h' := (hh X g I)) rfl ?_
  refine Go_try (y' := 164) (As := [.ref 0, .int p1, .int p2]) (r := [.int (0 : Int32), .ref 698]) rfl (g_x_sky164 p1 p2 (by omega)) (fun v1 I2 => ?_) (fun E2 I2 => ?_)
  ·
    refine Go_blk 1 (pc' := 9) (L' := [(0, .ref 0), (1, .int p1), (2, .int p2), (3, .ref 698)]) (S' := [.long (v1.toInt64), .int (0 : Int32), .ref 698]) (h' := (hh X g I2)) rfl ?_
    refine Go_last rfl fun g3 => ?_
    refine Go_blk 2 (pc' := 22) (L' := [(0, .ref 0), (1, .int p1), (2, .int p2), (3, .ref 698)]) (S' := [.int (0 : Int32)]) (h' := (hh X g3 I2)) rfl ?_
    exact Go_ret (fun _ h => h) rfl
  ·
    refine GX_ite ?_ ?_
    ·
      refine GX_go rfl (t := 15) (k := 4) rfl ?_
      refine Go_blk 1 (pc' := 16) (L' := [(0, .ref 0), (1, .int p1), (2, .int p2), (3, .ref 698)]) (S' := [.int (1 : Int32)]) (h' := (hh X (thr g) I2)) rfl ?_
      exact Go_ret (fun _ h => h) rfl
    refine GX_ite ?_ ?_
    ·
      refine GX_go rfl (t := 19) (k := 4) rfl ?_
      refine Go_blk 1 (pc' := 20) (L' := [(0, .ref 0), (1, .int p1), (2, .int p2), (3, .ref 698)]) (S' := [.int (2 : Int32)]) (h' := (hh X (thr g) I2)) rfl ?_
      exact Go_ret (fun _ h => h) rfl
    exact GX_none
set_option maxRecDepth 1000000 in
set_option maxHeartbeats 4000000 in
theorem g_m_sky337 (p1 : Int32) (p2 : Int32) {X : XX} {g : GG} {I : MJ} {d : Nat} (hd : 2 ≤ d) : Go d 337 0 (lv_args 0 [.ref 47, .int p1, .int p2]) [] (hh X g I) (f_m_sky337 p1 p2 I) (pW X g) := by
  obtain ⟨d, rfl⟩ : ∃ k, d = k + 1 := ⟨d - 1, by omega⟩
  unfold f_m_sky337
  refine Go_blk 6 (pc' := 8) (L' := [(0, .ref 47), (1, .int p1), (2, .int p2)]) (S' := [.int p1, .ref 47, .ref 47]) (h' := (hh X g (ab_up1 I 47 0 (0 : Int32)))) rfl ?_
  refine Go_cR (y' := 288) (As := [.ref 47, .int p1]) (r := [.ref 47]) rfl (g_m_isPattern288 p1 (by omega)) fun v1 => ?_
  refine Go_seq (pcj := 19) (fun (b2 : Int32) => [(0, .ref 47), (1, .int p1), (2, .int p2)]) (fun (b2 : Int32) => [.int b2, .ref 47]) (fun (b2 : Int32) => (hh X g (ab_up1 I 47 0 (0 : Int32)))) (fun b2 => ?_) ?_
  ·
    refine Go_blk 2 (pc' := 21) (L' := [(0, .ref 47), (1, .int p1), (2, .int p2)]) (S' := [.int (0 : Int32), .int (1 : Int32), .int b2, .ref 47]) (h' := (hh X g (ab_up1 I 47 0 (0 : Int32)))) rfl ?_
    refine Go_cW (y' := 268) (As := [.ref 47, .int b2, .int (1 : Int32), .int (0 : Int32)]) (r := []) rfl (g_m_bad268 b2 (1 : Int32) (0 : Int32) (by omega)) fun w3 => ?_
    refine Go_cmzn rfl rfl rfl ?_ ?_
    ·
      refine Go_blk 2 (pc' := 29) (L' := [(0, .ref 47), (1, .int p1), (2, .int p2)]) (S' := [.int p2, .ref 47]) (h' := (hh X g w3.2)) rfl ?_
      refine Go_cR (y' := 336) (As := [.int p2]) (r := [.ref 47]) rfl (g_m_isHour336 p2 (by omega)) fun v4 => ?_
      refine Go_seq (pcj := 40) (fun (b5 : Int32) => [(0, .ref 47), (1, .int p1), (2, .int p2)]) (fun (b5 : Int32) => [.int b5, .ref 47]) (fun (b5 : Int32) => (hh X g w3.2)) (fun b5 => ?_) ?_
      ·
        refine Go_blk 2 (pc' := 42) (L' := [(0, .ref 47), (1, .int p1), (2, .int p2)]) (S' := [.int (1 : Int32), .int (2 : Int32), .int b5, .ref 47]) (h' := (hh X g w3.2)) rfl ?_
        refine Go_cW (y' := 268) (As := [.ref 47, .int b5, .int (2 : Int32), .int (1 : Int32)]) (r := []) rfl (g_m_bad268 b5 (2 : Int32) (1 : Int32) (by omega)) fun w6 => ?_
        refine Go_cmz rfl rfl rfl ?_ ?_
        ·
          refine Go_blk 3 (pc' := 55) (L' := [(0, .ref 47), (1, .int p1), (2, .int p2)]) (S' := [.int p1, .ref 135]) (h' := (hh X g w6.2)) rfl ?_
          refine Go_bald rfl fun v7 => ?_
          refine Go_seq (pcj := 71) (fun (b8 : Int32) => []) (fun (b8 : Int32) => [.int b8]) (fun (b8 : Int32) => (hh X g w6.2)) (fun b8 => ?_) ?_
          ·
            exact Go_ret (fun _ h => h) rfl
          ·
            refine Go_cmz rfl rfl rfl ?_ ?_
            ·
              refine Go_blk 1 (pc' := 71) (L' := [(0, .ref 47), (1, .int p1), (2, .int p2)]) (S' := [.int (-1 : Int32)]) (h' := (hh X g w6.2)) rfl ?_
              exact Go_jmp [] rfl trivial (fun _ h => h)
            ·
              refine Go_blk 3 (pc' := 64) (L' := [(0, .ref 47), (1, .int p1), (2, .int p2)]) (S' := [.int p1, .ref 128]) (h' := (hh X g w6.2)) rfl ?_
              refine Go_aald rfl fun r9 => ?_
              refine Go_blk 1 (pc' := 66) (L' := [(0, .ref 47), (1, .int p1), (2, .int p2)]) (S' := [.int p2, .ref r9]) (h' := (hh X g w6.2)) rfl ?_
              refine Go_iald rfl fun v10 => ?_
              refine Go_blk 1 (pc' := 71) (L' := [(0, .ref 47), (1, .int p1), (2, .int p2)]) (S' := [.int v10]) (h' := (hh X g w6.2)) rfl ?_
              exact Go_jmp [] rfl trivial (fun _ h => h)
        ·
          refine Go_blk 1 (pc' := 49) (L' := [(0, .ref 47), (1, .int p1), (2, .int p2)]) (S' := [.int (0 : Int32)]) (h' := (hh X g w6.2)) rfl ?_
          exact Go_ret (fun _ h => h) rfl
      ·
        refine Go_cmzn rfl rfl rfl ?_ ?_
        ·
          refine Go_blk 2 (pc' := 40) (L' := [(0, .ref 47), (1, .int p1), (2, .int p2)]) (S' := [.int (1 : Int32), .ref 47]) (h' := (hh X g w3.2)) rfl ?_
          exact Go_jmp [(0, .ref 47), (1, .int p1), (2, .int p2)] rfl ⟨rfl, rfl, rfl, trivial⟩ (fun _ h => h)
        ·
          refine Go_blk 1 (pc' := 40) (L' := [(0, .ref 47), (1, .int p1), (2, .int p2)]) (S' := [.int (0 : Int32), .ref 47]) (h' := (hh X g w3.2)) rfl ?_
          exact Go_jmp [(0, .ref 47), (1, .int p1), (2, .int p2)] rfl ⟨rfl, rfl, rfl, trivial⟩ (fun _ h => h)
    ·
      refine Go_blk 1 (pc' := 49) (L' := [(0, .ref 47), (1, .int p1), (2, .int p2)]) (S' := [.int (0 : Int32)]) (h' := (hh X g w3.2)) rfl ?_
      exact Go_ret (fun _ h => h) rfl
  ·
    refine Go_cmzn rfl rfl rfl ?_ ?_
    ·
      refine Go_blk 2 (pc' := 19) (L' := [(0, .ref 47), (1, .int p1), (2, .int p2)]) (S' := [.int (1 : Int32), .ref 47]) (h' := (hh X g (ab_up1 I 47 0 (0 : Int32)))) rfl ?_
      exact Go_jmp [(0, .ref 47), (1, .int p1), (2, .int p2)] rfl ⟨rfl, rfl, rfl, trivial⟩ (fun _ h => h)
    ·
      refine Go_blk 1 (pc' := 19) (L' := [(0, .ref 47), (1, .int p1), (2, .int p2)]) (S' := [.int (0 : Int32), .ref 47]) (h' := (hh X g (ab_up1 I 47 0 (0 : Int32)))) rfl ?_
      exact Go_jmp [(0, .ref 47), (1, .int p1), (2, .int p2)] rfl ⟨rfl, rfl, rfl, trivial⟩ (fun _ h => h)
set_option maxRecDepth 1000000 in
set_option maxHeartbeats 4000000 in
theorem g_x_clothOnBolts167 (p1 : Int32) {X : XX} {g : GG} {I : MJ} {d : Nat} (hd : 2 ≤ d) : Go d 167 0 (lv_args 0 [.ref 0, .int p1]) [] (hh X g I) (f_x_clothOnBolts167 p1 I) (pR X g I) := by
  obtain ⟨d, rfl⟩ : ∃ k, d = k + 1 := ⟨d - 1, by omega⟩
  unfold f_x_clothOnBolts167
  refine Go_blk 4 (pc' := 4) (L' := [(3, .int (0 : Int32)), (2, .int (0 : Int32)), (0, .ref 0), (1, .int p1)]) (S' := []) (h' := (hh X g I)) rfl ?_
  refine Go_lcs [(0, .ref 0), (1, .int p1), (2, .int (0 : Int32)), (3, .int (0 : Int32))] rfl ⟨rfl, rfl, rfl, rfl, trivial⟩ ?_
  refine Go_seq (pcj := 48) (fun (b2 : Int32) => [(2, .int b2)]) (fun (b2 : Int32) => []) (fun (b2 : Int32) => (hh X g I)) (fun b2 => ?_) ?_
  ·
    refine Go_blk 1 (pc' := 49) (L' := [(2, .int b2)]) (S' := [.int b2]) (h' := (hh X g I)) rfl ?_
    exact Go_ret (fun _ h => h) rfl
  ·
    refine Go_wh (fun (s1 : Int32 × Int32) => [(0, .ref 0), (1, .int p1), (2, .int s1.1), (3, .int s1.2)]) (fun _ => []) (fun (s1 : Int32 × Int32) => (hh X g I)) (fun s1 => ?_) ((0 : Int32), (0 : Int32))
    refine Go_blk 4 (pc' := 12) (L' := [(0, .ref 0), (1, .int p1), (2, .int s1.1), (3, .int s1.2)]) (S' := [.int (I 3 5), .int s1.2]) (h' := (hh X g I)) rfl ?_
    refine Go_cmpn rfl rfl (ab_cge _ _) ?_ ?_
    ·
      refine Go_blk 4 (pc' := 21) (L' := [(0, .ref 0), (1, .int p1), (2, .int s1.1), (3, .int s1.2)]) (S' := [.int s1.2, .ref 3, .int s1.1]) (h' := (hh X g I)) rfl ?_
      refine Go_cR (y' := 147) (As := [.ref 3, .int s1.2]) (r := [.int s1.1]) rfl (g_sho_boltKind147 s1.2 (by omega)) fun v3 => ?_
      refine Go_blk 1 (pc' := 25) (L' := [(0, .ref 0), (1, .int p1), (2, .int s1.1), (3, .int s1.2)]) (S' := [.int p1, .int v3, .int s1.1]) (h' := (hh X g I)) rfl ?_
      refine Go_seq (pcj := 40) (fun (b4 : Int32) => [(0, .ref 0), (1, .int p1), (3, .int s1.2)]) (fun (b4 : Int32) => [.int b4, .int s1.1]) (fun (b4 : Int32) => (hh X g I)) (fun b4 => ?_) ?_
      ·
        refine Go_blk 4 (pc' := 4) (L' := [(3, .int (s1.2 + (1 : Int32))), (2, .int (s1.1 + b4)), (0, .ref 0), (1, .int p1)]) (S' := []) (h' := (hh X g I)) rfl ?_
        exact Go_jmp [(0, .ref 0), (1, .int p1), (2, .int (s1.1 + b4)), (3, .int (s1.2 + (1 : Int32)))] rfl ⟨rfl, rfl, rfl, rfl, trivial⟩ (fun _ h => h)
      ·
        refine Go_cmpn rfl rfl rfl ?_ ?_
        ·
          refine Go_blk 3 (pc' := 33) (L' := [(0, .ref 0), (1, .int p1), (2, .int s1.1), (3, .int s1.2)]) (S' := [.int s1.2, .ref 15, .int s1.1]) (h' := (hh X g I)) rfl ?_
          refine Go_cR (y' := 143) (As := [.ref 15, .int s1.2]) (r := [.int s1.1]) rfl (g_sta_leftOn143_15 s1.2 (by omega)) fun v5 => ?_
          refine Go_blk 1 (pc' := 40) (L' := [(0, .ref 0), (1, .int p1), (2, .int s1.1), (3, .int s1.2)]) (S' := [.int v5, .int s1.1]) (h' := (hh X g I)) rfl ?_
          exact Go_jmp [(0, .ref 0), (1, .int p1), (3, .int s1.2)] rfl ⟨rfl, rfl, rfl, trivial⟩ (fun _ h => h)
        ·
          refine Go_blk 1 (pc' := 40) (L' := [(0, .ref 0), (1, .int p1), (2, .int s1.1), (3, .int s1.2)]) (S' := [.int (0 : Int32), .int s1.1]) (h' := (hh X g I)) rfl ?_
          exact Go_jmp [(0, .ref 0), (1, .int p1), (3, .int s1.2)] rfl ⟨rfl, rfl, rfl, trivial⟩ (fun _ h => h)
    ·
      exact Go_jmp [(2, .int s1.1)] rfl ⟨rfl, trivial⟩ (fun _ h => h)
set_option maxRecDepth 1000000 in
set_option maxHeartbeats 4000000 in
theorem g_x_clothInSuits168 (p1 : Int32) {X : XX} {g : GG} {I : MJ} {d : Nat} (hd : 2 ≤ d) : Go d 168 0 (lv_args 0 [.ref 0, .int p1]) [] (hh X g I) (f_x_clothInSuits168 p1 I) (pR X g I) := by
  obtain ⟨d, rfl⟩ : ∃ k, d = k + 1 := ⟨d - 1, by omega⟩
  unfold f_x_clothInSuits168
  refine Go_blk 4 (pc' := 4) (L' := [(3, .int (0 : Int32)), (2, .int (0 : Int32)), (0, .ref 0), (1, .int p1)]) (S' := []) (h' := (hh X g I)) rfl ?_
  refine Go_lcs [(0, .ref 0), (1, .int p1), (2, .int (0 : Int32)), (3, .int (0 : Int32))] rfl ⟨rfl, rfl, rfl, rfl, trivial⟩ ?_
  refine Go_seq (pcj := 58) (fun (b2 : Int32) => [(2, .int b2)]) (fun (b2 : Int32) => []) (fun (b2 : Int32) => (hh X g I)) (fun b2 => ?_) ?_
  ·
    refine Go_blk 1 (pc' := 59) (L' := [(2, .int b2)]) (S' := [.int b2]) (h' := (hh X g I)) rfl ?_
    exact Go_ret (fun _ h => h) rfl
  ·
    refine Go_wh (fun (s1 : Int32 × Int32) => [(0, .ref 0), (1, .int p1), (2, .int s1.1), (3, .int s1.2)]) (fun _ => []) (fun (s1 : Int32 × Int32) => (hh X g I)) (fun s1 => ?_) ((0 : Int32), (0 : Int32))
    refine Go_blk 4 (pc' := 12) (L' := [(0, .ref 0), (1, .int p1), (2, .int s1.1), (3, .int s1.2)]) (S' := [.int (I 3 6), .int s1.2]) (h' := (hh X g I)) rfl ?_
    refine Go_cmpn rfl rfl (ab_cge _ _) ?_ ?_
    ·
      refine Go_blk 4 (pc' := 21) (L' := [(0, .ref 0), (1, .int p1), (2, .int s1.1), (3, .int s1.2)]) (S' := [.int s1.2, .ref 15, .int s1.1]) (h' := (hh X g I)) rfl ?_
      refine Go_cR (y' := 108) (As := [.ref 15, .int s1.2]) (r := [.int s1.1]) rfl (g_sta_hasSuit108_15 s1.2 (by omega)) fun v3 => ?_
      refine Go_seq (pcj := 50) (fun (b4 : Int32) => [(0, .ref 0), (1, .int p1), (3, .int s1.2)]) (fun (b4 : Int32) => [.int b4, .int s1.1]) (fun (b4 : Int32) => (hh X g I)) (fun b4 => ?_) ?_
      ·
        refine Go_blk 4 (pc' := 4) (L' := [(3, .int (s1.2 + (1 : Int32))), (2, .int (s1.1 + b4)), (0, .ref 0), (1, .int p1)]) (S' := []) (h' := (hh X g I)) rfl ?_
        exact Go_jmp [(0, .ref 0), (1, .int p1), (2, .int (s1.1 + b4)), (3, .int (s1.2 + (1 : Int32)))] rfl ⟨rfl, rfl, rfl, rfl, trivial⟩ (fun _ h => h)
      ·
        refine Go_cmz rfl rfl rfl ?_ ?_
        ·
          refine Go_blk 1 (pc' := 50) (L' := [(0, .ref 0), (1, .int p1), (2, .int s1.1), (3, .int s1.2)]) (S' := [.int (0 : Int32), .int s1.1]) (h' := (hh X g I)) rfl ?_
          exact Go_jmp [(0, .ref 0), (1, .int p1), (3, .int s1.2)] rfl ⟨rfl, rfl, rfl, trivial⟩ (fun _ h => h)
        ·
          refine Go_blk 6 (pc' := 39) (L' := [(0, .ref 0), (1, .int p1), (2, .int s1.1), (3, .int s1.2)]) (S' := [.int s1.2, .ref 15, .ref 16, .int s1.1]) (h' := (hh X g I)) rfl ?_
          refine Go_cR (y' := 114) (As := [.ref 15, .int s1.2]) (r := [.ref 16, .int s1.1]) rfl (g_sta_suitAt114_15 s1.2 (by omega)) fun v5 => ?_
          refine Go_blk 1 (pc' := 43) (L' := [(0, .ref 0), (1, .int p1), (2, .int s1.1), (3, .int s1.2)]) (S' := [.int p1, .int v5, .ref 16, .int s1.1]) (h' := (hh X g I)) rfl ?_
          refine Go_cR (y' := 155) (As := [.ref 16, .int v5, .int p1]) (r := [.int s1.1]) rfl (g_x_hoursOf155 16 v5 p1 (by omega)) fun v6 => ?_
          refine Go_blk 1 (pc' := 50) (L' := [(0, .ref 0), (1, .int p1), (2, .int s1.1), (3, .int s1.2)]) (S' := [.int v6, .int s1.1]) (h' := (hh X g I)) rfl ?_
          exact Go_jmp [(0, .ref 0), (1, .int p1), (3, .int s1.2)] rfl ⟨rfl, rfl, rfl, trivial⟩ (fun _ h => h)
    ·
      exact Go_jmp [(2, .int s1.1)] rfl ⟨rfl, trivial⟩ (fun _ h => h)
set_option maxRecDepth 1000000 in
set_option maxHeartbeats 4000000 in
theorem g_x_clothInOrders169 (p1 : Int32) {X : XX} {g : GG} {I : MJ} {d : Nat} (hd : 3 ≤ d) : Go d 169 0 (lv_args 0 [.ref 0, .int p1]) [] (hh X g I) (f_x_clothInOrders169 p1 I) (pR X g I) := by
  obtain ⟨d, rfl⟩ : ∃ k, d = k + 1 := ⟨d - 1, by omega⟩
  unfold f_x_clothInOrders169
  refine Go_blk 4 (pc' := 4) (L' := [(3, .int (0 : Int32)), (2, .int (0 : Int32)), (0, .ref 0), (1, .int p1)]) (S' := []) (h' := (hh X g I)) rfl ?_
  refine Go_lcs [(0, .ref 0), (1, .int p1), (2, .int (0 : Int32)), (3, .int (0 : Int32))] rfl ⟨rfl, rfl, rfl, rfl, trivial⟩ ?_
  refine Go_seq (pcj := 74) (fun (b2 : Int32) => [(2, .int b2)]) (fun (b2 : Int32) => []) (fun (b2 : Int32) => (hh X g I)) (fun b2 => ?_) ?_
  ·
    refine Go_blk 1 (pc' := 75) (L' := [(2, .int b2)]) (S' := [.int b2]) (h' := (hh X g I)) rfl ?_
    exact Go_ret (fun _ h => h) rfl
  ·
    refine Go_wh (fun (s1 : Int32 × Int32) => [(0, .ref 0), (1, .int p1), (2, .int s1.1), (3, .int s1.2)]) (fun _ => []) (fun (s1 : Int32 × Int32) => (hh X g I)) (fun s1 => ?_) ((0 : Int32), (0 : Int32))
    refine Go_blk 4 (pc' := 12) (L' := [(0, .ref 0), (1, .int p1), (2, .int s1.1), (3, .int s1.2)]) (S' := [.int (I 3 8), .int s1.2]) (h' := (hh X g I)) rfl ?_
    refine Go_cmpn rfl rfl (ab_cge _ _) ?_ ?_
    ·
      refine Go_blk 4 (pc' := 21) (L' := [(0, .ref 0), (1, .int p1), (2, .int s1.1), (3, .int s1.2)]) (S' := [.int (1 : Int32), .int s1.2, .ref 3]) (h' := (hh X g I)) rfl ?_
      refine Go_cR (y' := 123) (As := [.ref 3, .int s1.2, .int (1 : Int32)]) (r := []) rfl (g_sho_orderPart123 s1.2 (1 : Int32) (by omega)) fun v3 => ?_
      refine Go_blk 4 (pc' := 31) (L' := [(4, .int v3), (0, .ref 0), (1, .int p1), (2, .int s1.1), (3, .int s1.2)]) (S' := [.int s1.2, .ref 28]) (h' := (hh X g I)) rfl ?_
      refine Go_cR (y' := 124) (As := [.ref 28, .int s1.2]) (r := []) rfl (g_tra_stateOf124 s1.2 (by omega)) fun v4 => ?_
      refine Go_seq (pcj := 68) (fun (b5 : Int32) => [(0, .ref 0), (1, .int p1), (2, .int b5), (3, .int s1.2)]) (fun (b5 : Int32) => []) (fun (b5 : Int32) => (hh X g I)) (fun b5 => ?_) ?_
      ·
        refine Go_blk 2 (pc' := 4) (L' := [(3, .int (s1.2 + (1 : Int32))), (0, .ref 0), (1, .int p1), (2, .int b5)]) (S' := []) (h' := (hh X g I)) rfl ?_
        exact Go_jmp [(0, .ref 0), (1, .int p1), (2, .int b5), (3, .int (s1.2 + (1 : Int32)))] rfl ⟨rfl, rfl, rfl, rfl, trivial⟩ (fun _ h => h)
      ·
        refine Go_cmzn rfl rfl rfl ?_ ?_
        ·
          refine Go_blk 3 (pc' := 43) (L' := [(4, .int v3), (0, .ref 0), (1, .int p1), (2, .int s1.1), (3, .int s1.2)]) (S' := [.int v3, .ref 19]) (h' := (hh X g I)) rfl ?_
          refine Go_cR (y' := 25) (As := [.ref 19, .int v3]) (r := []) rfl (g_pat_isTold25 v3 (by omega)) fun v6 => ?_
          refine Go_cmz rfl rfl rfl ?_ ?_
          ·
            exact Go_jmp [(0, .ref 0), (1, .int p1), (2, .int s1.1), (3, .int s1.2)] rfl ⟨rfl, rfl, rfl, rfl, trivial⟩ (fun _ h => h)
          ·
            refine Go_blk 8 (pc' := 63) (L' := [(4, .int v3), (0, .ref 0), (1, .int p1), (2, .int s1.1), (3, .int s1.2)]) (S' := [.int p1, .int ((12 : Int32) * v3), .ref 20, .int s1.1]) (h' := (hh X g I)) rfl ?_
            refine Go_cR (y' := 155) (As := [.ref 20, .int ((12 : Int32) * v3), .int p1]) (r := [.int s1.1]) rfl (g_x_hoursOf155 20 ((12 : Int32) * v3) p1 (by omega)) fun v7 => ?_
            refine Go_blk 2 (pc' := 68) (L' := [(2, .int (s1.1 + v7)), (4, .int v3), (0, .ref 0), (1, .int p1), (3, .int s1.2)]) (S' := []) (h' := (hh X g I)) rfl ?_
            exact Go_jmp [(0, .ref 0), (1, .int p1), (2, .int (s1.1 + v7)), (3, .int s1.2)] rfl ⟨rfl, rfl, rfl, rfl, trivial⟩ (fun _ h => h)
        ·
          exact Go_jmp [(0, .ref 0), (1, .int p1), (2, .int s1.1), (3, .int s1.2)] rfl ⟨rfl, rfl, rfl, rfl, trivial⟩ (fun _ h => h)
    ·
      exact Go_jmp [(2, .int s1.1)] rfl ⟨rfl, trivial⟩ (fun _ h => h)
set_option maxRecDepth 1000000 in
set_option maxHeartbeats 4000000 in
theorem g_x_cloth166 (p1 : Int32) (p2 : Int32) {X : XX} {g : GG} {I : MJ} {d : Nat} (hd : 4 ≤ d) : Go d 166 0 (lv_args 0 [.ref 0, .int p1, .int p2]) [] (hh X g I) (f_x_cloth166 p1 p2 I) (pT vI X g) := by
  obtain ⟨d, rfl⟩ : ∃ k, d = k + 1 := ⟨d - 1, by omega⟩
  unfold f_x_cloth166
  refine Go_blk 4 (pc' := 4) (L' := [(0, .ref 0), (1, .int p1), (2, .int p2)]) (S' := [.int (5 : Int32), .int (0 : Int32), .int p1, .ref 0]) (h' := (hh X g I)) rfl ?_
  refine Go_cT (y' := 38) (As := [.ref 0, .int p1, .int (0 : Int32), .int (5 : Int32)]) (r := []) rfl rfl (g_x_needWithin38 p1 (0 : Int32) (5 : Int32) (by omega)) fun v1 I2 => ?_
  refine Go_blk 4 (pc' := 11) (L' := [(0, .ref 0), (1, .int p1), (2, .int p2)]) (S' := [.int (2 : Int32), .int (0 : Int32), .int p2, .ref 0]) (h' := (hh X g I2)) rfl ?_
  refine Go_cT (y' := 38) (As := [.ref 0, .int p2, .int (0 : Int32), .int (2 : Int32)]) (r := []) rfl rfl (g_x_needWithin38 p2 (0 : Int32) (2 : Int32) (by omega)) fun v3 I4 => ?_
  refine Go_blk 1 (pc' := 15) (L' := [(0, .ref 0), (1, .int p1), (2, .int p2)]) (S' := [.int p2]) (h' := (hh X g I4)) rfl ?_
  refine Go_cmzn rfl rfl rfl ?_ ?_
  ·
    refine Go_blk 2 (pc' := 20) (L' := [(0, .ref 0), (1, .int p1), (2, .int p2)]) (S' := [.int p1, .ref 0]) (h' := (hh X g I4)) rfl ?_
    refine Go_cR (y' := 167) (As := [.ref 0, .int p1]) (r := []) rfl (g_x_clothOnBolts167 p1 (by omega)) fun v5 => ?_
    exact Go_ret (fun _ h => h) rfl
  ·
    refine Go_blk 2 (pc' := 26) (L' := [(0, .ref 0), (1, .int p1), (2, .int p2)]) (S' := [.int (1 : Int32), .int p2]) (h' := (hh X g I4)) rfl ?_
    refine Go_seq (pcj := 42) (fun (b6 : Int32) => []) (fun (b6 : Int32) => [.int b6]) (fun (b6 : Int32) => (hh X g I4)) (fun b6 => ?_) ?_
    ·
      exact Go_ret (fun _ h => h) rfl
    ·
      refine Go_cmpn rfl rfl rfl ?_ ?_
      ·
        refine Go_blk 2 (pc' := 31) (L' := [(0, .ref 0), (1, .int p1), (2, .int p2)]) (S' := [.int p1, .ref 0]) (h' := (hh X g I4)) rfl ?_
        refine Go_cR (y' := 168) (As := [.ref 0, .int p1]) (r := []) rfl (g_x_clothInSuits168 p1 (by omega)) fun v7 => ?_
        refine Go_blk 1 (pc' := 42) (L' := [(0, .ref 0), (1, .int p1), (2, .int p2)]) (S' := [.int v7]) (h' := (hh X g I4)) rfl ?_
        exact Go_jmp [] rfl trivial (fun _ h => h)
      ·
        refine Go_blk 2 (pc' := 39) (L' := [(0, .ref 0), (1, .int p1), (2, .int p2)]) (S' := [.int p1, .ref 0]) (h' := (hh X g I4)) rfl ?_
        refine Go_cR (y' := 169) (As := [.ref 0, .int p1]) (r := []) rfl (g_x_clothInOrders169 p1 (by omega)) fun v8 => ?_
        exact Go_jmp [] rfl trivial (fun _ h => h)
set_option maxRecDepth 1000000 in
set_option maxHeartbeats 4000000 in
theorem g_l_cloth165 (p1 : Int32) (p2 : Int32) {X : XX} {g : GG} {I : MJ} {d : Nat} (hd : 5 ≤ d) : Go d 165 0 (lv_args 0 [.ref 0, .int p1, .int p2, .ref 698]) [] (hh X g I) (f_l_cloth165 p1 p2 I g) (pG X) := by
  obtain ⟨d, rfl⟩ : ∃ k, d = k + 1 := ⟨d - 1, by omega⟩
  unfold f_l_cloth165
  refine Go_blk 5 (pc' := 5) (L' := [(0, .ref 0), (1, .int p1), (2, .int p2), (3, .ref 698)]) (S' := [.int p2, .int p1, .ref 0, .int (0 : Int32), .ref 698]) (h' := (hh X g I)) rfl ?_
  refine Go_try (y' := 166) (As := [.ref 0, .int p1, .int p2]) (r := [.int (0 : Int32), .ref 698]) rfl (g_x_cloth166 p1 p2 (by omega)) (fun v1 I2 => ?_) (fun E2 I2 => ?_)
  ·
    refine Go_blk 1 (pc' := 9) (L' := [(0, .ref 0), (1, .int p1), (2, .int p2), (3, .ref 698)]) (S' := [.long (v1.toInt64), .int (0 : Int32), .ref 698]) (h' := (hh X g I2)) rfl ?_
    refine Go_last rfl fun g3 => ?_
    refine Go_blk 2 (pc' := 18) (L' := [(0, .ref 0), (1, .int p1), (2, .int p2), (3, .ref 698)]) (S' := [.int (0 : Int32)]) (h' := (hh X g3 I2)) rfl ?_
    exact Go_ret (fun _ h => h) rfl
  ·
    refine GX_ite ?_ ?_
    ·
      refine GX_go rfl (t := 15) (k := 4) rfl ?_
      refine Go_blk 1 (pc' := 16) (L' := [(0, .ref 0), (1, .int p1), (2, .int p2), (3, .ref 698)]) (S' := [.int (1 : Int32)]) (h' := (hh X (thr g) I2)) rfl ?_
      exact Go_ret (fun _ h => h) rfl
    exact GX_none
