/-! the machine runs them (written by wip/whole/dec.py) -/
set_option maxRecDepth 1000000 in
set_option maxHeartbeats 4000000 in
theorem g_tap_append18 (p1 : Int32) {X : XX} {g : GG} {I : MJ} {d : Nat} (hd : 0 ≤ d) : Go d 18 0 (lv_args 0 [.ref 1, .int p1]) [] (hh X g I) (f_tap_append18 p1 I) (pV X g) := by
  unfold f_tap_append18
  refine Go_blk 2 (pc' := 3) (L' := [(2, .int (24 : Int32)), (0, .ref 1), (1, .int p1)]) (S' := []) (h' := (hh X g I)) rfl ?_
  refine Go_lcs [(0, .ref 1), (1, .int p1), (2, .int (24 : Int32))] rfl ⟨rfl, rfl, rfl, trivial⟩ ?_
  refine Go_seq (pcj := 55) (fun (b2 : MJ) => []) (fun (b2 : MJ) => []) (fun (b2 : MJ) => (hh X g b2)) (fun b2 => ?_) ?_
  ·
    exact Go_ret (fun _ h => h) rfl
  ·
    refine Go_wh (fun (s1 : Int32 × MJ) => [(0, .ref 1), (1, .int p1), (2, .int s1.1)]) (fun _ => []) (fun (s1 : Int32 × MJ) => (hh X g s1.2)) (fun s1 => ?_) ((24 : Int32), I)
    refine Go_blk 1 (pc' := 4) (L' := [(0, .ref 1), (1, .int p1), (2, .int s1.1)]) (S' := [.int s1.1]) (h' := (hh X g s1.2)) rfl ?_
    refine Go_cmz rfl rfl rfl ?_ ?_
    ·
      exact Go_jmp [] rfl trivial (fun _ h => h)
    ·
      refine Go_blk 2 (pc' := 11) (L' := [(0, .ref 1), (1, .int p1), (2, .int s1.1)]) (S' := [.int (s1.2 1 1)]) (h' := (hh X g s1.2)) rfl ?_
      refine Go_seq (pcj := 49) (fun (b3 : MJ) => [(0, .ref 1), (1, .int p1), (2, .int s1.1)]) (fun (b3 : MJ) => []) (fun (b3 : MJ) => (hh X g b3)) (fun b3 => ?_) ?_
      ·
        refine Go_blk 2 (pc' := 3) (L' := [(2, .int (s1.1 + (-8 : Int32))), (0, .ref 1), (1, .int p1)]) (S' := []) (h' := (hh X g b3)) rfl ?_
        exact Go_jmp [(0, .ref 1), (1, .int p1), (2, .int (s1.1 + (-8 : Int32)))] rfl ⟨rfl, rfl, rfl, trivial⟩ (fun _ h => h)
      ·
        refine Go_cmz rfl rfl rfl ?_ ?_
        ·
          exact Go_jmp [(0, .ref 1), (1, .int p1), (2, .int s1.1)] rfl ⟨rfl, rfl, rfl, trivial⟩ (fun _ h => h)
        ·
          refine Go_blk 5 (pc' := 23) (L' := [(0, .ref 1), (1, .int p1), (2, .int s1.1)]) (S' := [.int (600 : Int32), .int (s1.2 1 1)]) (h' := (hh X g s1.2)) rfl ?_
          refine Go_cmpn rfl rfl (ab_cge _ _) ?_ ?_
          ·
            refine Go_blk 8 (pc' := 38) (L' := [(0, .ref 1), (1, .int p1), (2, .int s1.1)]) (S' := [.int ((p1 >>> (s1.1 &&& 31)).toInt8.toInt32), .int (s1.2 1 1), .ref 2]) (h' := (hh X g s1.2)) rfl ?_
            refine Go_bast rfl fun I4 => ?_
            refine Go_blk 6 (pc' := 49) (L' := [(0, .ref 1), (1, .int p1), (2, .int s1.1)]) (S' := []) (h' := (hh X g (ab_up1 I4 1 1 ((I4 1 1) + (1 : Int32))))) rfl ?_
            exact Go_jmp [(0, .ref 1), (1, .int p1), (2, .int s1.1)] rfl ⟨rfl, rfl, rfl, trivial⟩ (fun _ h => h)
          ·
            exact Go_jmp [(0, .ref 1), (1, .int p1), (2, .int s1.1)] rfl ⟨rfl, rfl, rfl, trivial⟩ (fun _ h => h)
set_option maxRecDepth 1000000 in
set_option maxHeartbeats 4000000 in
theorem g_x_feed17 (p1 : Int32) (p2 : Int32) (p3 : Int32) (p4 : Int32) (p5 : Int32) {X : XX} {g : GG} {I : MJ} {d : Nat} (hd : 1 ≤ d) : Go d 17 0 (lv_args 0 [.ref 0, .int p1, .int p2, .int p3, .int p4, .int p5]) [] (hh X g I) (f_x_feed17 p1 p2 p3 p4 p5 I) (pW X g) := by
  obtain ⟨d, rfl⟩ : ∃ k, d = k + 1 := ⟨d - 1, by omega⟩
  unfold f_x_feed17
  refine Go_blk 4 (pc' := 10) (L' := [(0, .ref 0), (1, .int p1), (2, .int p2), (3, .int p3), (4, .int p4), (5, .int p5)]) (S' := [.int (580 : Int32), .int (I 1 1)]) (h' := (hh X g I)) rfl ?_
  refine Go_cmpn rfl rfl (ab_cle _ _) ?_ ?_
  ·
    refine Go_blk 1 (pc' := 14) (L' := [(0, .ref 0), (1, .int p1), (2, .int p2), (3, .int p3), (4, .int p4), (5, .int p5)]) (S' := [.int (-1 : Int32)]) (h' := (hh X g I)) rfl ?_
    exact Go_ret (fun _ h => h) rfl
  ·
    refine Go_blk 3 (pc' := 20) (L' := [(0, .ref 0), (1, .int p1), (2, .int p2), (3, .int p3), (4, .int p4), (5, .int p5)]) (S' := [.int p1, .ref 1]) (h' := (hh X g I)) rfl ?_
    refine Go_cV (y' := 18) (As := [.ref 1, .int p1]) (r := []) rfl (g_tap_append18 p1 (by omega)) fun I1 => ?_
    refine Go_blk 3 (pc' := 28) (L' := [(0, .ref 0), (1, .int p1), (2, .int p2), (3, .int p3), (4, .int p4), (5, .int p5)]) (S' := [.int p2, .ref 1]) (h' := (hh X g I1)) rfl ?_
    refine Go_cV (y' := 18) (As := [.ref 1, .int p2]) (r := []) rfl (g_tap_append18 p2 (by omega)) fun I2 => ?_
    refine Go_blk 3 (pc' := 36) (L' := [(0, .ref 0), (1, .int p1), (2, .int p2), (3, .int p3), (4, .int p4), (5, .int p5)]) (S' := [.int p3, .ref 1]) (h' := (hh X g I2)) rfl ?_
    refine Go_cV (y' := 18) (As := [.ref 1, .int p3]) (r := []) rfl (g_tap_append18 p3 (by omega)) fun I3 => ?_
    refine Go_blk 3 (pc' := 45) (L' := [(0, .ref 0), (1, .int p1), (2, .int p2), (3, .int p3), (4, .int p4), (5, .int p5)]) (S' := [.int p4, .ref 1]) (h' := (hh X g I3)) rfl ?_
    refine Go_cV (y' := 18) (As := [.ref 1, .int p4]) (r := []) rfl (g_tap_append18 p4 (by omega)) fun I4 => ?_
    refine Go_blk 3 (pc' := 54) (L' := [(0, .ref 0), (1, .int p1), (2, .int p2), (3, .int p3), (4, .int p4), (5, .int p5)]) (S' := [.int p5, .ref 1]) (h' := (hh X g I4)) rfl ?_
    refine Go_cV (y' := 18) (As := [.ref 1, .int p5]) (r := []) rfl (g_tap_append18 p5 (by omega)) fun I5 => ?_
    refine Go_blk 3 (pc' := 64) (L' := [(0, .ref 0), (1, .int p1), (2, .int p2), (3, .int p3), (4, .int p4), (5, .int p5)]) (S' := [.int (I5 1 1)]) (h' := (hh X g I5)) rfl ?_
    exact Go_ret (fun _ h => h) rfl
set_option maxRecDepth 1000000 in
set_option maxHeartbeats 4000000 in
theorem g_m_feed266 (p1 : Int32) (p2 : Int32) (p3 : Int32) (p4 : Int32) (p5 : Int32) {X : XX} {g : GG} {I : MJ} {d : Nat} (hd : 0 ≤ d) : Go d 266 0 (lv_args 0 [.ref 47, .int p1, .int p2, .int p3, .int p4, .int p5]) [] (hh X g I) (f_m_feed266 p1 p2 p3 p4 p5 I) (pW X g) := by
  unfold f_m_feed266
  refine Go_blk 8 (pc' := 15) (L' := [(0, .ref 47), (1, .int p1), (2, .int p2), (3, .int p3), (4, .int p4), (5, .int p5)]) (S' := [.int (600 : Int32), .int ((I 47 1) + (20 : Int32))]) (h' := (hh X g (ab_up1 I 47 0 (0 : Int32)))) rfl ?_
  refine Go_cmpn rfl rfl (ab_cle _ _) ?_ ?_
  ·
    refine Go_blk 1 (pc' := 19) (L' := [(0, .ref 47), (1, .int p1), (2, .int p2), (3, .int p3), (4, .int p4), (5, .int p5)]) (S' := [.int (-1 : Int32)]) (h' := (hh X g (ab_up1 I 47 0 (0 : Int32)))) rfl ?_
    exact Go_ret (fun _ h => h) rfl
  ·
    refine Go_blk 2 (pc' := 23) (L' := [(6, .int (0 : Int32)), (0, .ref 47), (1, .int p1), (2, .int p2), (3, .int p3), (4, .int p4), (5, .int p5)]) (S' := []) (h' := (hh X g (ab_up1 I 47 0 (0 : Int32)))) rfl ?_
    refine Go_lcs [(0, .ref 47), (1, .int p1), (2, .int p2), (3, .int p3), (4, .int p4), (5, .int p5), (6, .int (0 : Int32))] rfl ⟨rfl, rfl, rfl, rfl, rfl, rfl, rfl, trivial⟩ ?_
    refine Go_seq (pcj := 120) (fun (b2 : MJ) => [(0, .ref 47)]) (fun (b2 : MJ) => []) (fun (b2 : MJ) => (hh X g b2)) (fun b2 => ?_) ?_
    ·
      refine Go_blk 2 (pc' := 124) (L' := [(0, .ref 47)]) (S' := [.int (b2 47 1)]) (h' := (hh X g b2)) rfl ?_
      exact Go_ret (fun _ h => h) rfl
    ·
      refine Go_wh (fun (s1 : Int32 × MJ) => [(0, .ref 47), (1, .int p1), (2, .int p2), (3, .int p3), (4, .int p4), (5, .int p5), (6, .int s1.1)]) (fun _ => []) (fun (s1 : Int32 × MJ) => (hh X g s1.2)) (fun s1 => ?_) ((0 : Int32), (ab_up1 I 47 0 (0 : Int32)))
      refine Go_blk 2 (pc' := 27) (L' := [(0, .ref 47), (1, .int p1), (2, .int p2), (3, .int p3), (4, .int p4), (5, .int p5), (6, .int s1.1)]) (S' := [.int (20 : Int32), .int s1.1]) (h' := (hh X g s1.2)) rfl ?_
      refine Go_cmpn rfl rfl (ab_cge _ _) ?_ ?_
      ·
        refine Go_blk 2 (pc' := 33) (L' := [(0, .ref 47), (1, .int p1), (2, .int p2), (3, .int p3), (4, .int p4), (5, .int p5), (6, .int s1.1)]) (S' := [.int (4 : Int32), .int s1.1]) (h' := (hh X g s1.2)) rfl ?_
        refine Go_seq (pcj := 76) (fun (b3 : Int32) => [(0, .ref 47), (1, .int p1), (2, .int p2), (3, .int p3), (4, .int p4), (5, .int p5), (6, .int s1.1)]) (fun (b3 : Int32) => [.int b3]) (fun (b3 : Int32) => (hh X g s1.2)) (fun b3 => ?_) ?_
        ·
          refine Go_blk 16 (pc' := 103) (L' := [(7, .int b3), (0, .ref 47), (1, .int p1), (2, .int p2), (3, .int p3), (4, .int p4), (5, .int p5), (6, .int s1.1)]) (S' := [.int ((b3 >>> (((24 : Int32) - ((8 : Int32) * (s1.1 - s1.1 / (4 : Int32) * (4 : Int32)))) &&& 31)) &&& (255 : Int32)), .int (s1.2 47 1), .ref 48]) (h' := (hh X g s1.2)) rfl ?_
          refine Go_iast rfl fun I4 => ?_
          refine Go_blk 8 (pc' := 23) (L' := [(6, .int (s1.1 + (1 : Int32))), (7, .int b3), (0, .ref 47), (1, .int p1), (2, .int p2), (3, .int p3), (4, .int p4), (5, .int p5)]) (S' := []) (h' := (hh X g (ab_up1 I4 47 1 ((I4 47 1) + (1 : Int32))))) rfl ?_
          exact Go_jmp [(0, .ref 47), (1, .int p1), (2, .int p2), (3, .int p3), (4, .int p4), (5, .int p5), (6, .int (s1.1 + (1 : Int32)))] rfl ⟨rfl, rfl, rfl, rfl, rfl, rfl, rfl, trivial⟩ (fun _ h => h)
        ·
          refine Go_cmpn rfl rfl (ab_cge _ _) ?_ ?_
          ·
            refine Go_blk 2 (pc' := 76) (L' := [(0, .ref 47), (1, .int p1), (2, .int p2), (3, .int p3), (4, .int p4), (5, .int p5), (6, .int s1.1)]) (S' := [.int p1]) (h' := (hh X g s1.2)) rfl ?_
            exact Go_jmp [(0, .ref 47), (1, .int p1), (2, .int p2), (3, .int p3), (4, .int p4), (5, .int p5), (6, .int s1.1)] rfl ⟨rfl, rfl, rfl, rfl, rfl, rfl, rfl, trivial⟩ (fun _ h => h)
          ·
            refine Go_blk 2 (pc' := 44) (L' := [(0, .ref 47), (1, .int p1), (2, .int p2), (3, .int p3), (4, .int p4), (5, .int p5), (6, .int s1.1)]) (S' := [.int (8 : Int32), .int s1.1]) (h' := (hh X g s1.2)) rfl ?_
            refine Go_cmpn rfl rfl (ab_cge _ _) ?_ ?_
            ·
              refine Go_blk 2 (pc' := 76) (L' := [(0, .ref 47), (1, .int p1), (2, .int p2), (3, .int p3), (4, .int p4), (5, .int p5), (6, .int s1.1)]) (S' := [.int p2]) (h' := (hh X g s1.2)) rfl ?_
              exact Go_jmp [(0, .ref 47), (1, .int p1), (2, .int p2), (3, .int p3), (4, .int p4), (5, .int p5), (6, .int s1.1)] rfl ⟨rfl, rfl, rfl, rfl, rfl, rfl, rfl, trivial⟩ (fun _ h => h)
            ·
              refine Go_blk 2 (pc' := 55) (L' := [(0, .ref 47), (1, .int p1), (2, .int p2), (3, .int p3), (4, .int p4), (5, .int p5), (6, .int s1.1)]) (S' := [.int (12 : Int32), .int s1.1]) (h' := (hh X g s1.2)) rfl ?_
              refine Go_cmpn rfl rfl (ab_cge _ _) ?_ ?_
              ·
                refine Go_blk 2 (pc' := 76) (L' := [(0, .ref 47), (1, .int p1), (2, .int p2), (3, .int p3), (4, .int p4), (5, .int p5), (6, .int s1.1)]) (S' := [.int p3]) (h' := (hh X g s1.2)) rfl ?_
                exact Go_jmp [(0, .ref 47), (1, .int p1), (2, .int p2), (3, .int p3), (4, .int p4), (5, .int p5), (6, .int s1.1)] rfl ⟨rfl, rfl, rfl, rfl, rfl, rfl, rfl, trivial⟩ (fun _ h => h)
              ·
                refine Go_blk 2 (pc' := 66) (L' := [(0, .ref 47), (1, .int p1), (2, .int p2), (3, .int p3), (4, .int p4), (5, .int p5), (6, .int s1.1)]) (S' := [.int (16 : Int32), .int s1.1]) (h' := (hh X g s1.2)) rfl ?_
                refine Go_cmpn rfl rfl (ab_cge _ _) ?_ ?_
                ·
                  refine Go_blk 2 (pc' := 76) (L' := [(0, .ref 47), (1, .int p1), (2, .int p2), (3, .int p3), (4, .int p4), (5, .int p5), (6, .int s1.1)]) (S' := [.int p4]) (h' := (hh X g s1.2)) rfl ?_
                  exact Go_jmp [(0, .ref 47), (1, .int p1), (2, .int p2), (3, .int p3), (4, .int p4), (5, .int p5), (6, .int s1.1)] rfl ⟨rfl, rfl, rfl, rfl, rfl, rfl, rfl, trivial⟩ (fun _ h => h)
                ·
                  refine Go_blk 1 (pc' := 76) (L' := [(0, .ref 47), (1, .int p1), (2, .int p2), (3, .int p3), (4, .int p4), (5, .int p5), (6, .int s1.1)]) (S' := [.int p5]) (h' := (hh X g s1.2)) rfl ?_
                  exact Go_jmp [(0, .ref 47), (1, .int p1), (2, .int p2), (3, .int p3), (4, .int p4), (5, .int p5), (6, .int s1.1)] rfl ⟨rfl, rfl, rfl, rfl, rfl, rfl, rfl, trivial⟩ (fun _ h => h)
      ·
        exact Go_jmp [(0, .ref 47)] rfl ⟨rfl, trivial⟩ (fun _ h => h)
set_option maxRecDepth 1000000 in
set_option maxHeartbeats 4000000 in
theorem g_x_refuseArgument39  {X : XX} {g : GG} {I : MJ} {d : Nat} (hd : 0 ≤ d) : Go d 39 0 (lv_args 0 [.ref 0]) [] (hh X g I) (f_x_refuseArgument39  I) (pT vU X g) := by
  unfold f_x_refuseArgument39
  refine Go_blk 6 (pc' := 10) (L' := [(0, .ref 0)]) (S' := []) (h' := (hh X g (ab_up1 I 0 15 ((I 0 15) + (1 : Int32))))) rfl ?_
  exact Go_ret (fun _ h => h) rfl
set_option maxRecDepth 1000000 in
set_option maxHeartbeats 4000000 in
theorem g_x_needWithin38 (p1 : Int32) (p2 : Int32) (p3 : Int32) {X : XX} {g : GG} {I : MJ} {d : Nat} (hd : 1 ≤ d) : Go d 38 0 (lv_args 0 [.ref 0, .int p1, .int p2, .int p3]) [] (hh X g I) (f_x_needWithin38 p1 p2 p3 I) (pT vU X g) := by
  obtain ⟨d, rfl⟩ : ∃ k, d = k + 1 := ⟨d - 1, by omega⟩
  unfold f_x_needWithin38
  refine Go_blk 2 (pc' := 2) (L' := [(0, .ref 0), (1, .int p1), (2, .int p2), (3, .int p3)]) (S' := [.int p2, .int p1]) (h' := (hh X g I)) rfl ?_
  refine Go_cmp rfl rfl rfl ?_ ?_
  ·
    refine Go_blk 1 (pc' := 11) (L' := [(0, .ref 0), (1, .int p1), (2, .int p2), (3, .int p3)]) (S' := [.ref 0]) (h' := (hh X g I)) rfl ?_
    refine Go_cT (y' := 39) (As := [.ref 0]) (r := []) rfl rfl (g_x_refuseArgument39  (by omega)) fun v1 I2 => ?_
    exact Go_ret (fun _ h => h) rfl
  ·
    refine Go_blk 2 (pc' := 7) (L' := [(0, .ref 0), (1, .int p1), (2, .int p2), (3, .int p3)]) (S' := [.int p3, .int p1]) (h' := (hh X g I)) rfl ?_
    refine Go_cmpn rfl rfl (ab_cle _ _) ?_ ?_
    ·
      refine Go_blk 1 (pc' := 11) (L' := [(0, .ref 0), (1, .int p1), (2, .int p2), (3, .int p3)]) (S' := [.ref 0]) (h' := (hh X g I)) rfl ?_
      refine Go_cT (y' := 39) (As := [.ref 0]) (r := []) rfl rfl (g_x_refuseArgument39  (by omega)) fun v3 I4 => ?_
      exact Go_ret (fun _ h => h) rfl
    ·
      exact Go_ret (fun _ h => h) rfl
set_option maxRecDepth 1000000 in
set_option maxHeartbeats 4000000 in
theorem g_x_needText37 (p1 : Int32) (p2 : Int32) {X : XX} {g : GG} {I : MJ} {d : Nat} (hd : 2 ≤ d) : Go d 37 0 (lv_args 0 [.ref 0, .int p1, .int p2]) [] (hh X g I) (f_x_needText37 p1 p2 I) (pT vU X g) := by
  obtain ⟨d, rfl⟩ : ∃ k, d = k + 1 := ⟨d - 1, by omega⟩
  unfold f_x_needText37
  refine Go_blk 8 (pc' := 14) (L' := [(0, .ref 0), (1, .int p1), (2, .int p2)]) (S' := [.int (if (I 1 1) < p2 then (I 1 1) else p2), .int (0 : Int32), .int p1, .ref 0]) (h' := (hh X g I)) rfl ?_
  refine Go_cT (y' := 38) (As := [.ref 0, .int p1, .int (0 : Int32), .int (if (I 1 1) < p2 then (I 1 1) else p2)]) (r := []) rfl rfl (g_x_needWithin38 p1 (0 : Int32) (if (I 1 1) < p2 then (I 1 1) else p2) (by omega)) fun v1 I2 => ?_
  exact Go_ret (fun _ h => h) rfl
set_option maxRecDepth 1000000 in
set_option maxHeartbeats 4000000 in
theorem g_tap_open40 (p1 : Int32) {X : XX} {g : GG} {I : MJ} {d : Nat} (hd : 0 ≤ d) : Go d 40 0 (lv_args 0 [.ref 1, .int p1]) [] (hh X g I) (f_tap_open40 p1 I) (pV X g) := by
  unfold f_tap_open40
  refine Go_blk 15 (pc' := 25) (L' := [(0, .ref 1), (1, .int p1)]) (S' := []) (h' := (hh X g (ab_up1 (ab_up1 (ab_up1 (ab_up1 (ab_up1 I 1 2 (0 : Int32)) 1 4 (0 : Int32)) 1 3 p1) 1 5 (0 : Int32)) 1 6 (-1 : Int32)))) rfl ?_
  exact Go_ret (fun _ h => h) rfl
set_option maxRecDepth 1000000 in
set_option maxHeartbeats 4000000 in
theorem g_tap_next43  {X : XX} {g : GG} {I : MJ} {d : Nat} (hd : 0 ≤ d) : Go d 43 0 (lv_args 0 [.ref 1]) [] (hh X g I) (f_tap_next43  I) (pW X g) := by
  unfold f_tap_next43
  refine Go_lcs [(0, .ref 1)] rfl ⟨rfl, trivial⟩ ?_
  refine Go_seq (pcj := 57) (fun (b2 : MJ) => [(0, .ref 1)]) (fun (b2 : MJ) => []) (fun (b2 : MJ) => (hh X g b2)) (fun b2 => ?_) ?_
  ·
    refine Go_blk 2 (pc' := 61) (L' := [(0, .ref 1)]) (S' := [.int (b2 1 2)]) (h' := (hh X g b2)) rfl ?_
    refine Go_seq (pcj := 104) (fun (b3 : Int32) => []) (fun (b3 : Int32) => [.int b3]) (fun (b3 : Int32) => (hh X g b2)) (fun b3 => ?_) ?_
    ·
      exact Go_ret (fun _ h => h) rfl
    ·
      refine Go_cmz rfl rfl rfl ?_ ?_
      ·
        refine Go_blk 1 (pc' := 104) (L' := [(0, .ref 1)]) (S' := [.int (-1 : Int32)]) (h' := (hh X g b2)) rfl ?_
        exact Go_jmp [] rfl trivial (fun _ h => h)
      ·
        refine Go_blk 4 (pc' := 72) (L' := [(0, .ref 1)]) (S' := [.int (b2 1 3), .int (b2 1 2)]) (h' := (hh X g b2)) rfl ?_
        refine Go_cmpn rfl rfl (ab_cge _ _) ?_ ?_
        ·
          refine Go_blk 5 (pc' := 84) (L' := [(0, .ref 1)]) (S' := [.int (600 : Int32), .int (b2 1 2)]) (h' := (hh X g b2)) rfl ?_
          refine Go_cmpn rfl rfl (ab_cge _ _) ?_ ?_
          ·
            refine Go_blk 4 (pc' := 95) (L' := [(0, .ref 1)]) (S' := [.int (b2 1 2), .ref 2]) (h' := (hh X g b2)) rfl ?_
            refine Go_bald rfl fun v4 => ?_
            refine Go_blk 3 (pc' := 104) (L' := [(0, .ref 1)]) (S' := [.int (v4 &&& (255 : Int32))]) (h' := (hh X g b2)) rfl ?_
            exact Go_jmp [] rfl trivial (fun _ h => h)
          ·
            refine Go_blk 1 (pc' := 104) (L' := [(0, .ref 1)]) (S' := [.int (-1 : Int32)]) (h' := (hh X g b2)) rfl ?_
            exact Go_jmp [] rfl trivial (fun _ h => h)
        ·
          refine Go_blk 1 (pc' := 104) (L' := [(0, .ref 1)]) (S' := [.int (-1 : Int32)]) (h' := (hh X g b2)) rfl ?_
          exact Go_jmp [] rfl trivial (fun _ h => h)
  ·
    refine Go_wh (fun (s1 : MJ) => [(0, .ref 1)]) (fun _ => []) (fun (s1 : MJ) => (hh X g s1)) (fun s1 => ?_) I
    refine Go_blk 2 (pc' := 4) (L' := [(0, .ref 1)]) (S' := [.int (s1 1 2)]) (h' := (hh X g s1)) rfl ?_
    refine Go_cmz rfl rfl rfl ?_ ?_
    ·
      exact Go_jmp [(0, .ref 1)] rfl ⟨rfl, trivial⟩ (fun _ h => h)
    ·
      refine Go_blk 4 (pc' := 15) (L' := [(0, .ref 1)]) (S' := [.int (s1 1 3), .int (s1 1 2)]) (h' := (hh X g s1)) rfl ?_
      refine Go_cmpn rfl rfl (ab_cge _ _) ?_ ?_
      ·
        refine Go_blk 5 (pc' := 27) (L' := [(0, .ref 1)]) (S' := [.int (600 : Int32), .int (s1 1 2)]) (h' := (hh X g s1)) rfl ?_
        refine Go_cmpn rfl rfl (ab_cge _ _) ?_ ?_
        ·
          refine Go_blk 4 (pc' := 38) (L' := [(0, .ref 1)]) (S' := [.int (s1 1 2), .ref 2]) (h' := (hh X g s1)) rfl ?_
          refine Go_bald rfl fun v5 => ?_
          refine Go_blk 1 (pc' := 41) (L' := [(0, .ref 1)]) (S' := [.int (32 : Int32), .int v5]) (h' := (hh X g s1)) rfl ?_
          refine Go_cmpn rfl rfl rfl ?_ ?_
          ·
            refine Go_blk 7 (pc' := 0) (L' := [(0, .ref 1)]) (S' := []) (h' := (hh X g (ab_up1 s1 1 2 ((s1 1 2) + (1 : Int32))))) rfl ?_
            exact Go_jmp [(0, .ref 1)] rfl ⟨rfl, trivial⟩ (fun _ h => h)
          ·
            exact Go_jmp [(0, .ref 1)] rfl ⟨rfl, trivial⟩ (fun _ h => h)
        ·
          exact Go_jmp [(0, .ref 1)] rfl ⟨rfl, trivial⟩ (fun _ h => h)
      ·
        exact Go_jmp [(0, .ref 1)] rfl ⟨rfl, trivial⟩ (fun _ h => h)
set_option maxRecDepth 1000000 in
set_option maxHeartbeats 4000000 in
theorem g_tap_hasMore42  {X : XX} {g : GG} {I : MJ} {d : Nat} (hd : 1 ≤ d) : Go d 42 0 (lv_args 0 [.ref 1]) [] (hh X g I) (f_tap_hasMore42  I) (pW X g) := by
  obtain ⟨d, rfl⟩ : ∃ k, d = k + 1 := ⟨d - 1, by omega⟩
  unfold f_tap_hasMore42
  refine Go_blk 2 (pc' := 4) (L' := [(0, .ref 1)]) (S' := [.int (I 1 5)]) (h' := (hh X g I)) rfl ?_
  refine Go_seq (pcj := 20) (fun (b1 : Int32 × MJ) => []) (fun (b1 : Int32 × MJ) => [.int b1.1]) (fun (b1 : Int32 × MJ) => (hh X g b1.2)) (fun b1 => ?_) ?_
  ·
    exact Go_ret (fun _ h => h) rfl
  ·
    refine Go_cmzn rfl rfl rfl ?_ ?_
    ·
      refine Go_blk 1 (pc' := 8) (L' := [(0, .ref 1)]) (S' := [.ref 1]) (h' := (hh X g I)) rfl ?_
      refine Go_cW (y' := 43) (As := [.ref 1]) (r := []) rfl (g_tap_next43  (by omega)) fun w2 => ?_
      refine Go_blk 1 (pc' := 12) (L' := [(0, .ref 1)]) (S' := [.int (-1 : Int32), .int w2.1]) (h' := (hh X g w2.2)) rfl ?_
      refine Go_cmp rfl rfl rfl ?_ ?_
      ·
        refine Go_blk 1 (pc' := 20) (L' := [(0, .ref 1)]) (S' := [.int (0 : Int32)]) (h' := (hh X g w2.2)) rfl ?_
        exact Go_jmp [] rfl trivial (fun _ h => h)
      ·
        refine Go_blk 2 (pc' := 20) (L' := [(0, .ref 1)]) (S' := [.int (1 : Int32)]) (h' := (hh X g w2.2)) rfl ?_
        exact Go_jmp [] rfl trivial (fun _ h => h)
    ·
      refine Go_blk 1 (pc' := 20) (L' := [(0, .ref 1)]) (S' := [.int (0 : Int32)]) (h' := (hh X g I)) rfl ?_
      exact Go_jmp [] rfl trivial (fun _ h => h)
set_option maxRecDepth 1000000 in
set_option maxHeartbeats 4000000 in
theorem g_tap_byteAt46 (p1 : Int32) {X : XX} {g : GG} {I : MJ} {d : Nat} (hd : 0 ≤ d) : Go d 46 0 (lv_args 0 [.ref 1, .int p1]) [] (hh X g I) (f_tap_byteAt46 p1 I) (pR X g I) := by
  unfold f_tap_byteAt46
  refine Go_blk 1 (pc' := 1) (L' := [(0, .ref 1), (1, .int p1)]) (S' := [.int p1]) (h' := (hh X g I)) rfl ?_
  refine Go_seq (pcj := 27) (fun (b1 : Int32) => []) (fun (b1 : Int32) => [.int b1]) (fun (b1 : Int32) => (hh X g I)) (fun b1 => ?_) ?_
  ·
    exact Go_ret (fun _ h => h) rfl
  ·
    refine Go_cmz rfl rfl rfl ?_ ?_
    ·
      refine Go_blk 1 (pc' := 27) (L' := [(0, .ref 1), (1, .int p1)]) (S' := [.int (0 : Int32)]) (h' := (hh X g I)) rfl ?_
      exact Go_jmp [] rfl trivial (fun _ h => h)
    ·
      refine Go_blk 4 (pc' := 10) (L' := [(0, .ref 1), (1, .int p1)]) (S' := [.int (600 : Int32), .int p1]) (h' := (hh X g I)) rfl ?_
      refine Go_cmpn rfl rfl (ab_cge _ _) ?_ ?_
      ·
        refine Go_blk 3 (pc' := 18) (L' := [(0, .ref 1), (1, .int p1)]) (S' := [.int p1, .ref 2]) (h' := (hh X g I)) rfl ?_
        refine Go_bald rfl fun v2 => ?_
        refine Go_blk 3 (pc' := 27) (L' := [(0, .ref 1), (1, .int p1)]) (S' := [.int (v2 &&& (255 : Int32))]) (h' := (hh X g I)) rfl ?_
        exact Go_jmp [] rfl trivial (fun _ h => h)
      ·
        refine Go_blk 1 (pc' := 27) (L' := [(0, .ref 1), (1, .int p1)]) (S' := [.int (0 : Int32)]) (h' := (hh X g I)) rfl ?_
        exact Go_jmp [] rfl trivial (fun _ h => h)
set_option maxRecDepth 1000000 in
set_option maxHeartbeats 4000000 in
theorem g_tap_isLetter47 (p0 : Int32) {X : XX} {g : GG} {I : MJ} {d : Nat} (hd : 0 ≤ d) : Go d 47 0 (lv_args 0 [.int p0]) [] (hh X g I) (f_tap_isLetter47 p0 I) (pR X g I) := by
  unfold f_tap_isLetter47
  refine Go_blk 2 (pc' := 3) (L' := [(0, .int p0)]) (S' := [.int (97 : Int32), .int p0]) (h' := (hh X g I)) rfl ?_
  refine Go_seq (pcj := 17) (fun (b1 : Int32) => []) (fun (b1 : Int32) => [.int b1]) (fun (b1 : Int32) => (hh X g I)) (fun b1 => ?_) ?_
  ·
    exact Go_ret (fun _ h => h) rfl
  ·
    refine Go_cmp rfl rfl rfl ?_ ?_
    ·
      refine Go_blk 1 (pc' := 17) (L' := [(0, .int p0)]) (S' := [.int (0 : Int32)]) (h' := (hh X g I)) rfl ?_
      exact Go_jmp [] rfl trivial (fun _ h => h)
    ·
      refine Go_blk 2 (pc' := 9) (L' := [(0, .int p0)]) (S' := [.int (122 : Int32), .int p0]) (h' := (hh X g I)) rfl ?_
      refine Go_cmp rfl rfl rfl ?_ ?_
      ·
        refine Go_blk 1 (pc' := 17) (L' := [(0, .int p0)]) (S' := [.int (0 : Int32)]) (h' := (hh X g I)) rfl ?_
        exact Go_jmp [] rfl trivial (fun _ h => h)
      ·
        refine Go_blk 2 (pc' := 17) (L' := [(0, .int p0)]) (S' := [.int (1 : Int32)]) (h' := (hh X g I)) rfl ?_
        exact Go_jmp [] rfl trivial (fun _ h => h)
set_option maxRecDepth 1000000 in
set_option maxHeartbeats 4000000 in
theorem g_tap_isSpelt49 (p1 : Nat) (p2 : Int32) (p3 : Int32) {X : XX} {g : GG} {I : MJ} {d : Nat} (hd : 0 ≤ d) : Go d 49 0 (lv_args 0 [.ref 1, .ref p1, .int p2, .int p3]) [] (hh X g I) (f_tap_isSpelt49 p1 p2 p3 I) (pR X g I) := by
  unfold f_tap_isSpelt49
  refine Go_blk 8 (pc' := 12) (L' := [(0, .ref 1), (1, .ref p1), (2, .int p2), (3, .int p3)]) (S' := [.int ((I 1 2) - (I 1 4)), .int (p3 - p2)]) (h' := (hh X g I)) rfl ?_
  refine Go_cmpn rfl rfl rfl ?_ ?_
  ·
    refine Go_blk 1 (pc' := 16) (L' := [(0, .ref 1), (1, .ref p1), (2, .int p2), (3, .int p3)]) (S' := [.int p2]) (h' := (hh X g I)) rfl ?_
    refine Go_cmz rfl rfl rfl ?_ ?_
    ·
      refine Go_blk 1 (pc' := 47) (L' := [(0, .ref 1), (1, .ref p1), (2, .int p2), (3, .int p3)]) (S' := [.int (0 : Int32)]) (h' := (hh X g I)) rfl ?_
      exact Go_ret (fun _ h => h) rfl
    ·
      refine Go_blk 2 (pc' := 21) (L' := [(0, .ref 1), (1, .ref p1), (2, .int p2), (3, .int p3)]) (S' := [.ref p1, .int p3]) (h' := (hh X g I)) rfl ?_
      refine Go_sln rfl rfl rfl rfl fun v1 => ?_
      refine Go_cmp rfl rfl rfl ?_ ?_
      ·
        refine Go_blk 1 (pc' := 47) (L' := [(0, .ref 1), (1, .ref p1), (2, .int p2), (3, .int p3)]) (S' := [.int (0 : Int32)]) (h' := (hh X g I)) rfl ?_
        exact Go_ret (fun _ h => h) rfl
      ·
        refine Go_blk 2 (pc' := 31) (L' := [(0, .ref 1), (1, .ref p1), (2, .int p2), (3, .int p3)]) (S' := [.int (I 1 4)]) (h' := (hh X g I)) rfl ?_
        refine Go_cmz rfl rfl rfl ?_ ?_
        ·
          refine Go_blk 1 (pc' := 47) (L' := [(0, .ref 1), (1, .ref p1), (2, .int p2), (3, .int p3)]) (S' := [.int (0 : Int32)]) (h' := (hh X g I)) rfl ?_
          exact Go_ret (fun _ h => h) rfl
        ·
          refine Go_blk 5 (pc' := 43) (L' := [(0, .ref 1), (1, .ref p1), (2, .int p2), (3, .int p3)]) (S' := [.int (600 : Int32), .int (I 1 2)]) (h' := (hh X g I)) rfl ?_
          refine Go_cmpn rfl rfl (ab_cle _ _) ?_ ?_
          ·
            refine Go_blk 1 (pc' := 47) (L' := [(0, .ref 1), (1, .ref p1), (2, .int p2), (3, .int p3)]) (S' := [.int (0 : Int32)]) (h' := (hh X g I)) rfl ?_
            exact Go_ret (fun _ h => h) rfl
          ·
            refine Go_blk 2 (pc' := 51) (L' := [(4, .int (0 : Int32)), (0, .ref 1), (1, .ref p1), (2, .int p2), (3, .int p3)]) (S' := []) (h' := (hh X g I)) rfl ?_
            refine Go_lcs [(0, .ref 1), (1, .ref p1), (2, .int p2), (3, .int p3), (4, .int (0 : Int32))] rfl ⟨rfl, rfl, rfl, rfl, rfl, trivial⟩ ?_
            refine Go_wh (fun (s2 : Int32) => [(0, .ref 1), (1, .ref p1), (2, .int p2), (3, .int p3), (4, .int s2)]) (fun _ => []) (fun (s2 : Int32) => (hh X g I)) (fun s2 => ?_) (0 : Int32)
            refine Go_blk 4 (pc' := 56) (L' := [(0, .ref 1), (1, .ref p1), (2, .int p2), (3, .int p3), (4, .int s2)]) (S' := [.int (p3 - p2), .int s2]) (h' := (hh X g I)) rfl ?_
            refine Go_cmpn rfl rfl (ab_cge _ _) ?_ ?_
            ·
              refine Go_blk 4 (pc' := 64) (L' := [(0, .ref 1), (1, .ref p1), (2, .int p2), (3, .int p3), (4, .int s2)]) (S' := [.int (p2 + s2), .ref p1]) (h' := (hh X g I)) rfl ?_
              refine Go_sat rfl rfl rfl rfl fun v3 => ?_
              refine Go_blk 6 (pc' := 78) (L' := [(0, .ref 1), (1, .ref p1), (2, .int p2), (3, .int p3), (4, .int s2)]) (S' := [.int ((I 1 4) + s2), .ref 2, .int v3]) (h' := (hh X g I)) rfl ?_
              refine Go_bald rfl fun v4 => ?_
              refine Go_cmp rfl rfl rfl ?_ ?_
              ·
                refine Go_blk 2 (pc' := 51) (L' := [(4, .int (s2 + (1 : Int32))), (0, .ref 1), (1, .ref p1), (2, .int p2), (3, .int p3)]) (S' := []) (h' := (hh X g I)) rfl ?_
                exact Go_jmp [(0, .ref 1), (1, .ref p1), (2, .int p2), (3, .int p3), (4, .int (s2 + (1 : Int32)))] rfl ⟨rfl, rfl, rfl, rfl, rfl, trivial⟩ (fun _ h => h)
              ·
                refine Go_inrS ?_
                refine Go_blk 1 (pc' := 83) (L' := [(0, .ref 1), (1, .ref p1), (2, .int p2), (3, .int p3), (4, .int s2)]) (S' := [.int (0 : Int32)]) (h' := (hh X g I)) rfl ?_
                exact Go_ret (fun _ h => h) rfl
            ·
              refine Go_inrS ?_
              refine Go_blk 1 (pc' := 91) (L' := [(0, .ref 1), (1, .ref p1), (2, .int p2), (3, .int p3), (4, .int s2)]) (S' := [.int (1 : Int32)]) (h' := (hh X g I)) rfl ?_
              exact Go_ret (fun _ h => h) rfl
  ·
    refine Go_blk 1 (pc' := 47) (L' := [(0, .ref 1), (1, .ref p1), (2, .int p2), (3, .int p3)]) (S' := [.int (0 : Int32)]) (h' := (hh X g I)) rfl ?_
    exact Go_ret (fun _ h => h) rfl
set_option maxRecDepth 1000000 in
set_option maxHeartbeats 4000000 in
theorem g_tap_placeIn48 (p1 : Nat) {X : XX} {g : GG} {I : MJ} {d : Nat} (hd : 1 ≤ d) : Go d 48 0 (lv_args 0 [.ref 1, .ref p1]) [] (hh X g I) (f_tap_placeIn48 p1 I) (pR X g I) := by
  obtain ⟨d, rfl⟩ : ∃ k, d = k + 1 := ⟨d - 1, by omega⟩
  unfold f_tap_placeIn48
  refine Go_blk 6 (pc' := 7) (L' := [(4, .int (0 : Int32)), (3, .int (0 : Int32)), (2, .int (0 : Int32)), (0, .ref 1), (1, .ref p1)]) (S' := []) (h' := (hh X g I)) rfl ?_
  refine Go_lcs [(0, .ref 1), (1, .ref p1), (2, .int (0 : Int32)), (3, .int (0 : Int32)), (4, .int (0 : Int32))] rfl ⟨rfl, rfl, rfl, rfl, rfl, trivial⟩ ?_
  refine Go_wh (fun (s1 : Int32 × Int32 × Int32) => [(0, .ref 1), (1, .ref p1), (2, .int s1.1), (3, .int s1.2.1), (4, .int s1.2.2)]) (fun _ => []) (fun (s1 : Int32 × Int32 × Int32) => (hh X g I)) (fun s1 => ?_) ((0 : Int32), (0 : Int32), (0 : Int32))
  refine Go_blk 2 (pc' := 10) (L' := [(0, .ref 1), (1, .ref p1), (2, .int s1.1), (3, .int s1.2.1), (4, .int s1.2.2)]) (S' := [.ref p1, .int s1.2.2]) (h' := (hh X g I)) rfl ?_
  refine Go_sln rfl rfl rfl rfl fun v2 => ?_
  refine Go_cmp rfl rfl rfl ?_ ?_
  ·
    refine Go_inrS ?_
    refine Go_blk 1 (pc' := 64) (L' := [(0, .ref 1), (1, .ref p1), (2, .int s1.1), (3, .int s1.2.1), (4, .int s1.2.2)]) (S' := [.int (-1 : Int32)]) (h' := (hh X g I)) rfl ?_
    exact Go_ret (fun _ h => h) rfl
  ·
    refine Go_blk 2 (pc' := 19) (L' := [(0, .ref 1), (1, .ref p1), (2, .int s1.1), (3, .int s1.2.1), (4, .int s1.2.2)]) (S' := [.ref p1, .int s1.2.2]) (h' := (hh X g I)) rfl ?_
    refine Go_sln rfl rfl rfl rfl fun v3 => ?_
    refine Go_cmp rfl rfl rfl ?_ ?_
    ·
      refine Go_blk 4 (pc' := 41) (L' := [(0, .ref 1), (1, .ref p1), (2, .int s1.1), (3, .int s1.2.1), (4, .int s1.2.2)]) (S' := [.int s1.2.2, .int s1.2.1, .ref p1, .ref 1]) (h' := (hh X g I)) rfl ?_
      refine Go_cR (y' := 49) (As := [.ref 1, .ref p1, .int s1.2.1, .int s1.2.2]) (r := []) rfl (g_tap_isSpelt49 p1 s1.2.1 s1.2.2 (by omega)) fun v4 => ?_
      refine Go_cmz rfl rfl rfl ?_ ?_
      ·
        refine Go_blk 7 (pc' := 7) (L' := [(4, .int (s1.2.2 + (1 : Int32))), (3, .int (s1.2.2 + (1 : Int32))), (2, .int (s1.1 + (1 : Int32))), (0, .ref 1), (1, .ref p1)]) (S' := []) (h' := (hh X g I)) rfl ?_
        exact Go_jmp [(0, .ref 1), (1, .ref p1), (2, .int (s1.1 + (1 : Int32))), (3, .int (s1.2.2 + (1 : Int32))), (4, .int (s1.2.2 + (1 : Int32)))] rfl ⟨rfl, rfl, rfl, rfl, rfl, trivial⟩ (fun _ h => h)
      ·
        refine Go_inrS ?_
        refine Go_blk 1 (pc' := 48) (L' := [(0, .ref 1), (1, .ref p1), (2, .int s1.1), (3, .int s1.2.1), (4, .int s1.2.2)]) (S' := [.int s1.1]) (h' := (hh X g I)) rfl ?_
        exact Go_ret (fun _ h => h) rfl
    ·
      refine Go_blk 2 (pc' := 28) (L' := [(0, .ref 1), (1, .ref p1), (2, .int s1.1), (3, .int s1.2.1), (4, .int s1.2.2)]) (S' := [.int s1.2.2, .ref p1]) (h' := (hh X g I)) rfl ?_
      refine Go_sat rfl rfl rfl rfl fun v5 => ?_
      refine Go_blk 1 (pc' := 33) (L' := [(0, .ref 1), (1, .ref p1), (2, .int s1.1), (3, .int s1.2.1), (4, .int s1.2.2)]) (S' := [.int (32 : Int32), .int v5]) (h' := (hh X g I)) rfl ?_
      refine Go_cmpn rfl rfl rfl ?_ ?_
      ·
        refine Go_blk 4 (pc' := 41) (L' := [(0, .ref 1), (1, .ref p1), (2, .int s1.1), (3, .int s1.2.1), (4, .int s1.2.2)]) (S' := [.int s1.2.2, .int s1.2.1, .ref p1, .ref 1]) (h' := (hh X g I)) rfl ?_
        refine Go_cR (y' := 49) (As := [.ref 1, .ref p1, .int s1.2.1, .int s1.2.2]) (r := []) rfl (g_tap_isSpelt49 p1 s1.2.1 s1.2.2 (by omega)) fun v6 => ?_
        refine Go_cmz rfl rfl rfl ?_ ?_
        ·
          refine Go_blk 7 (pc' := 7) (L' := [(4, .int (s1.2.2 + (1 : Int32))), (3, .int (s1.2.2 + (1 : Int32))), (2, .int (s1.1 + (1 : Int32))), (0, .ref 1), (1, .ref p1)]) (S' := []) (h' := (hh X g I)) rfl ?_
          exact Go_jmp [(0, .ref 1), (1, .ref p1), (2, .int (s1.1 + (1 : Int32))), (3, .int (s1.2.2 + (1 : Int32))), (4, .int (s1.2.2 + (1 : Int32)))] rfl ⟨rfl, rfl, rfl, rfl, rfl, trivial⟩ (fun _ h => h)
        ·
          refine Go_inrS ?_
          refine Go_blk 1 (pc' := 48) (L' := [(0, .ref 1), (1, .ref p1), (2, .int s1.1), (3, .int s1.2.1), (4, .int s1.2.2)]) (S' := [.int s1.1]) (h' := (hh X g I)) rfl ?_
          exact Go_ret (fun _ h => h) rfl
      ·
        refine Go_blk 2 (pc' := 7) (L' := [(4, .int (s1.2.2 + (1 : Int32))), (0, .ref 1), (1, .ref p1), (2, .int s1.1), (3, .int s1.2.1)]) (S' := []) (h' := (hh X g I)) rfl ?_
        exact Go_jmp [(0, .ref 1), (1, .ref p1), (2, .int s1.1), (3, .int s1.2.1), (4, .int (s1.2.2 + (1 : Int32)))] rfl ⟨rfl, rfl, rfl, rfl, rfl, trivial⟩ (fun _ h => h)
set_option maxRecDepth 1000000 in
set_option maxHeartbeats 4000000 in
theorem g_tap_fail50 (p1 : Int32) (p2 : Int32) {X : XX} {g : GG} {I : MJ} {d : Nat} (hd : 0 ≤ d) : Go d 50 0 (lv_args 0 [.ref 1, .int p1, .int p2]) [] (hh X g I) (f_tap_fail50 p1 p2 I) (pV X g) := by
  unfold f_tap_fail50
  refine Go_blk 2 (pc' := 4) (L' := [(0, .ref 1), (1, .int p1), (2, .int p2)]) (S' := [.int (I 1 5)]) (h' := (hh X g I)) rfl ?_
  refine Go_seq (pcj := 17) (fun (b1 : MJ) => []) (fun (b1 : MJ) => []) (fun (b1 : MJ) => (hh X g b1)) (fun b1 => ?_) ?_
  ·
    exact Go_ret (fun _ h => h) rfl
  ·
    refine Go_cmzn rfl rfl rfl ?_ ?_
    ·
      refine Go_blk 6 (pc' := 17) (L' := [(0, .ref 1), (1, .int p1), (2, .int p2)]) (S' := []) (h' := (hh X g (ab_up1 (ab_up1 I 1 5 p1) 1 6 p2))) rfl ?_
      exact Go_jmp [] rfl trivial (fun _ h => h)
    ·
      exact Go_jmp [] rfl trivial (fun _ h => h)
set_option maxRecDepth 1000000 in
set_option maxHeartbeats 4000000 in
theorem g_tap_word45 (p1 : Nat) {X : XX} {g : GG} {I : MJ} {d : Nat} (hd : 2 ≤ d) : Go d 45 0 (lv_args 0 [.ref 1, .ref p1]) [] (hh X g I) (f_tap_word45 p1 I) (pW X g) := by
  obtain ⟨d, rfl⟩ : ∃ k, d = k + 1 := ⟨d - 1, by omega⟩
  unfold f_tap_word45
  refine Go_blk 2 (pc' := 4) (L' := [(0, .ref 1), (1, .ref p1)]) (S' := [.int (I 1 5)]) (h' := (hh X g I)) rfl ?_
  refine Go_cmz rfl rfl rfl ?_ ?_
  ·
    refine Go_blk 1 (pc' := 10) (L' := [(0, .ref 1), (1, .ref p1)]) (S' := [.ref 1]) (h' := (hh X g I)) rfl ?_
    refine Go_cW (y' := 43) (As := [.ref 1]) (r := []) rfl (g_tap_next43  (by omega)) fun w1 => ?_
    refine Go_blk 5 (pc' := 22) (L' := [(0, .ref 1), (1, .ref p1)]) (S' := []) (h' := (hh X g (ab_up1 w1.2 1 4 (w1.2 1 2)))) rfl ?_
    refine Go_lcs [(0, .ref 1), (1, .ref p1)] rfl ⟨rfl, rfl, trivial⟩ ?_
    refine Go_seq (pcj := 60) (fun (b3 : MJ) => [(0, .ref 1), (1, .ref p1)]) (fun (b3 : MJ) => []) (fun (b3 : MJ) => (hh X g b3)) (fun b3 => ?_) ?_
    ·
      refine Go_blk 2 (pc' := 62) (L' := [(0, .ref 1), (1, .ref p1)]) (S' := [.ref p1, .ref 1]) (h' := (hh X g b3)) rfl ?_
      refine Go_cR (y' := 48) (As := [.ref 1, .ref p1]) (r := []) rfl (g_tap_placeIn48 p1 (by omega)) fun v4 => ?_
      refine Go_blk 3 (pc' := 68) (L' := [(2, .int v4), (0, .ref 1), (1, .ref p1)]) (S' := [.int (-1 : Int32), .int v4]) (h' := (hh X g b3)) rfl ?_
      refine Go_seq (pcj := 80) (fun (b5 : MJ) => [(2, .int v4)]) (fun (b5 : MJ) => []) (fun (b5 : MJ) => (hh X g b5)) (fun b5 => ?_) ?_
      ·
        refine Go_blk 1 (pc' := 81) (L' := [(2, .int v4)]) (S' := [.int v4]) (h' := (hh X g b5)) rfl ?_
        exact Go_ret (fun _ h => h) rfl
      ·
        refine Go_cmpn rfl rfl rfl ?_ ?_
        ·
          refine Go_blk 4 (pc' := 77) (L' := [(2, .int v4), (0, .ref 1), (1, .ref p1)]) (S' := [.int (b3 1 4), .int (1 : Int32), .ref 1]) (h' := (hh X g b3)) rfl ?_
          refine Go_cV (y' := 50) (As := [.ref 1, .int (1 : Int32), .int (b3 1 4)]) (r := []) rfl (g_tap_fail50 (1 : Int32) (b3 1 4) (by omega)) fun I6 => ?_
          exact Go_jmp [(2, .int v4)] rfl ⟨rfl, trivial⟩ (fun _ h => h)
        ·
          exact Go_jmp [(2, .int v4)] rfl ⟨rfl, trivial⟩ (fun _ h => h)
    ·
      refine Go_wh (fun (s2 : MJ) => [(0, .ref 1), (1, .ref p1)]) (fun _ => []) (fun (s2 : MJ) => (hh X g s2)) (fun s2 => ?_) (ab_up1 w1.2 1 4 (w1.2 1 2))
      refine Go_blk 4 (pc' := 30) (L' := [(0, .ref 1), (1, .ref p1)]) (S' := [.int (s2 1 3), .int (s2 1 2)]) (h' := (hh X g s2)) rfl ?_
      refine Go_cmpn rfl rfl (ab_cge _ _) ?_ ?_
      ·
        refine Go_blk 3 (pc' := 38) (L' := [(0, .ref 1), (1, .ref p1)]) (S' := [.int (s2 1 2), .ref 1]) (h' := (hh X g s2)) rfl ?_
        refine Go_cR (y' := 46) (As := [.ref 1, .int (s2 1 2)]) (r := []) rfl (g_tap_byteAt46 (s2 1 2) (by omega)) fun v7 => ?_
        refine Go_cR (y' := 47) (As := [.int v7]) (r := []) rfl (g_tap_isLetter47 v7 (by omega)) fun v8 => ?_
        refine Go_cmz rfl rfl rfl ?_ ?_
        ·
          exact Go_jmp [(0, .ref 1), (1, .ref p1)] rfl ⟨rfl, rfl, trivial⟩ (fun _ h => h)
        ·
          refine Go_blk 7 (pc' := 22) (L' := [(0, .ref 1), (1, .ref p1)]) (S' := []) (h' := (hh X g (ab_up1 s2 1 2 ((s2 1 2) + (1 : Int32))))) rfl ?_
          exact Go_jmp [(0, .ref 1), (1, .ref p1)] rfl ⟨rfl, rfl, trivial⟩ (fun _ h => h)
      ·
        exact Go_jmp [(0, .ref 1), (1, .ref p1)] rfl ⟨rfl, rfl, trivial⟩ (fun _ h => h)
  ·
    refine Go_blk 1 (pc' := 8) (L' := [(0, .ref 1), (1, .ref p1)]) (S' := [.int (-1 : Int32)]) (h' := (hh X g I)) rfl ?_
    exact Go_ret (fun _ h => h) rfl
set_option maxRecDepth 1000000 in
set_option maxHeartbeats 4000000 in
theorem g_sho_needRoom52 (p1 : Int32) (p2 : Int32) {X : XX} {g : GG} {I : MJ} {d : Nat} (hd : 1 ≤ d) : Go d 52 0 (lv_args 0 [.ref 1, .int p1, .int p2]) [] (hh X g I) (f_sho_needRoom52 p1 p2 I) (pV X g) := by
  obtain ⟨d, rfl⟩ : ∃ k, d = k + 1 := ⟨d - 1, by omega⟩
  unfold f_sho_needRoom52
  refine Go_blk 2 (pc' := 2) (L' := [(0, .ref 1), (1, .int p1), (2, .int p2)]) (S' := [.int p2, .int p1]) (h' := (hh X g I)) rfl ?_
  refine Go_seq (pcj := 14) (fun (b1 : MJ) => []) (fun (b1 : MJ) => []) (fun (b1 : MJ) => (hh X g b1)) (fun b1 => ?_) ?_
  ·
    exact Go_ret (fun _ h => h) rfl
  ·
    refine Go_cmp rfl rfl rfl ?_ ?_
    ·
      exact Go_jmp [] rfl trivial (fun _ h => h)
    ·
      refine Go_blk 4 (pc' := 11) (L' := [(0, .ref 1), (1, .int p1), (2, .int p2)]) (S' := [.int (I 1 4), .int (3 : Int32), .ref 1]) (h' := (hh X g I)) rfl ?_
      refine Go_cV (y' := 50) (As := [.ref 1, .int (3 : Int32), .int (I 1 4)]) (r := []) rfl (g_tap_fail50 (3 : Int32) (I 1 4) (by omega)) fun I2 => ?_
      exact Go_jmp [] rfl trivial (fun _ h => h)
set_option maxRecDepth 1000000 in
set_option maxHeartbeats 4000000 in
theorem g_x_put15 (p0 : Nat) (p1 : Int32) (p2 : Int32) {X : XX} {g : GG} {I : MJ} {d : Nat} (hd : 0 ≤ d) : Go d 15 0 (lv_args 0 [.ref p0, .int p1, .int p2]) [] (hh X g I) (f_x_put15 p0 p1 p2 I) (pV X g) := by
  unfold f_x_put15
  refine Go_blk 3 (pc' := 5) (L' := [(0, .ref p0), (1, .int p1), (2, .int p2)]) (S' := [.int p1]) (h' := (hh X g I)) rfl ?_
  refine Go_seq (pcj := 18) (fun (b1 : MJ) => []) (fun (b1 : MJ) => []) (fun (b1 : MJ) => (hh X g b1)) (fun b1 => ?_) ?_
  ·
    exact Go_ret (fun _ h => h) rfl
  ·
    refine Go_cmz rfl rfl rfl ?_ ?_
    ·
      exact Go_jmp [] rfl trivial (fun _ h => h)
    ·
      refine Go_blk 2 (pc' := 10) (L' := [(0, .ref p0), (1, .int p1), (2, .int p2)]) (S' := [.ref p0, .int p1]) (h' := (hh X g I)) rfl ?_
      refine Go_alen rfl fun v2 => ?_
      refine Go_cmpn rfl rfl (ab_cge _ _) ?_ ?_
      ·
        refine Go_blk 3 (pc' := 17) (L' := [(0, .ref p0), (1, .int p1), (2, .int p2)]) (S' := [.int p2, .int p1, .ref p0]) (h' := (hh X g I)) rfl ?_
        refine Go_iast rfl fun I3 => ?_
        exact Go_jmp [] rfl trivial (fun _ h => h)
      ·
        exact Go_jmp [] rfl trivial (fun _ h => h)
set_option maxRecDepth 1000000 in
set_option maxHeartbeats 4000000 in
theorem g_tap_isDigit54 (p0 : Int32) {X : XX} {g : GG} {I : MJ} {d : Nat} (hd : 0 ≤ d) : Go d 54 0 (lv_args 0 [.int p0]) [] (hh X g I) (f_tap_isDigit54 p0 I) (pR X g I) := by
  unfold f_tap_isDigit54
  refine Go_blk 2 (pc' := 3) (L' := [(0, .int p0)]) (S' := [.int (48 : Int32), .int p0]) (h' := (hh X g I)) rfl ?_
  refine Go_seq (pcj := 17) (fun (b1 : Int32) => []) (fun (b1 : Int32) => [.int b1]) (fun (b1 : Int32) => (hh X g I)) (fun b1 => ?_) ?_
  ·
    exact Go_ret (fun _ h => h) rfl
  ·
    refine Go_cmp rfl rfl rfl ?_ ?_
    ·
      refine Go_blk 1 (pc' := 17) (L' := [(0, .int p0)]) (S' := [.int (0 : Int32)]) (h' := (hh X g I)) rfl ?_
      exact Go_jmp [] rfl trivial (fun _ h => h)
    ·
      refine Go_blk 2 (pc' := 9) (L' := [(0, .int p0)]) (S' := [.int (57 : Int32), .int p0]) (h' := (hh X g I)) rfl ?_
      refine Go_cmp rfl rfl rfl ?_ ?_
      ·
        refine Go_blk 1 (pc' := 17) (L' := [(0, .int p0)]) (S' := [.int (0 : Int32)]) (h' := (hh X g I)) rfl ?_
        exact Go_jmp [] rfl trivial (fun _ h => h)
      ·
        refine Go_blk 2 (pc' := 17) (L' := [(0, .int p0)]) (S' := [.int (1 : Int32)]) (h' := (hh X g I)) rfl ?_
        exact Go_jmp [] rfl trivial (fun _ h => h)
set_option maxRecDepth 1000000 in
set_option maxHeartbeats 4000000 in
theorem g_tap_number53 (p1 : Int32) (p2 : Int32) {X : XX} {g : GG} {I : MJ} {d : Nat} (hd : 1 ≤ d) : Go d 53 0 (lv_args 0 [.ref 1, .int p1, .int p2]) [] (hh X g I) (f_tap_number53 p1 p2 I) (pW X g) := by
  obtain ⟨d, rfl⟩ : ∃ k, d = k + 1 := ⟨d - 1, by omega⟩
  unfold f_tap_number53
  refine Go_blk 2 (pc' := 4) (L' := [(0, .ref 1), (1, .int p1), (2, .int p2)]) (S' := [.int (I 1 5)]) (h' := (hh X g I)) rfl ?_
  refine Go_cmz rfl rfl rfl ?_ ?_
  ·
    refine Go_blk 1 (pc' := 10) (L' := [(0, .ref 1), (1, .int p1), (2, .int p2)]) (S' := [.ref 1]) (h' := (hh X g I)) rfl ?_
    refine Go_cW (y' := 43) (As := [.ref 1]) (r := []) rfl (g_tap_next43  (by omega)) fun w1 => ?_
    refine Go_cR (y' := 54) (As := [.int w1.1]) (r := []) rfl (g_tap_isDigit54 w1.1 (by omega)) fun v2 => ?_
    refine Go_cmzn rfl rfl rfl ?_ ?_
    ·
      refine Go_blk 4 (pc' := 25) (L' := [(0, .ref 1), (1, .int p1), (2, .int p2)]) (S' := [.int (w1.2 1 2), .int (1 : Int32), .ref 1]) (h' := (hh X g w1.2)) rfl ?_
      refine Go_cV (y' := 50) (As := [.ref 1, .int (1 : Int32), .int (w1.2 1 2)]) (r := []) rfl (g_tap_fail50 (1 : Int32) (w1.2 1 2) (by omega)) fun I3 => ?_
      refine Go_blk 1 (pc' := 29) (L' := [(0, .ref 1), (1, .int p1), (2, .int p2)]) (S' := [.int p1]) (h' := (hh X g I3)) rfl ?_
      exact Go_ret (fun _ h => h) rfl
    ·
      refine Go_blk 6 (pc' := 40) (L' := [(3, .int (0 : Int32)), (0, .ref 1), (1, .int p1), (2, .int p2)]) (S' := []) (h' := (hh X g (ab_up1 w1.2 1 4 (w1.2 1 2)))) rfl ?_
      refine Go_lcs [(0, .ref 1), (1, .int p1), (2, .int p2), (3, .int (0 : Int32))] rfl ⟨rfl, rfl, rfl, rfl, trivial⟩ ?_
      refine Go_seq (pcj := 100) (fun (b5 : Int32 × MJ) => [(0, .ref 1), (1, .int p1), (2, .int p2), (3, .int b5.1)]) (fun (b5 : Int32 × MJ) => []) (fun (b5 : Int32 × MJ) => (hh X g b5.2)) (fun b5 => ?_) ?_
      ·
        refine Go_blk 2 (pc' := 102) (L' := [(0, .ref 1), (1, .int p1), (2, .int p2), (3, .int b5.1)]) (S' := [.int p1, .int b5.1]) (h' := (hh X g b5.2)) rfl ?_
        refine Go_cmp rfl rfl rfl ?_ ?_
        ·
          refine Go_blk 4 (pc' := 116) (L' := [(0, .ref 1), (1, .int p1), (2, .int p2), (3, .int b5.1)]) (S' := [.int (b5.2 1 4), .int (2 : Int32), .ref 1]) (h' := (hh X g b5.2)) rfl ?_
          refine Go_cV (y' := 50) (As := [.ref 1, .int (2 : Int32), .int (b5.2 1 4)]) (r := []) rfl (g_tap_fail50 (2 : Int32) (b5.2 1 4) (by omega)) fun I6 => ?_
          refine Go_blk 1 (pc' := 120) (L' := [(0, .ref 1), (1, .int p1), (2, .int p2), (3, .int b5.1)]) (S' := [.int p1]) (h' := (hh X g I6)) rfl ?_
          exact Go_ret (fun _ h => h) rfl
        ·
          refine Go_blk 2 (pc' := 107) (L' := [(0, .ref 1), (1, .int p1), (2, .int p2), (3, .int b5.1)]) (S' := [.int p2, .int b5.1]) (h' := (hh X g b5.2)) rfl ?_
          refine Go_cmpn rfl rfl (ab_cle _ _) ?_ ?_
          ·
            refine Go_blk 4 (pc' := 116) (L' := [(0, .ref 1), (1, .int p1), (2, .int p2), (3, .int b5.1)]) (S' := [.int (b5.2 1 4), .int (2 : Int32), .ref 1]) (h' := (hh X g b5.2)) rfl ?_
            refine Go_cV (y' := 50) (As := [.ref 1, .int (2 : Int32), .int (b5.2 1 4)]) (r := []) rfl (g_tap_fail50 (2 : Int32) (b5.2 1 4) (by omega)) fun I7 => ?_
            refine Go_blk 1 (pc' := 120) (L' := [(0, .ref 1), (1, .int p1), (2, .int p2), (3, .int b5.1)]) (S' := [.int p1]) (h' := (hh X g I7)) rfl ?_
            exact Go_ret (fun _ h => h) rfl
          ·
            refine Go_blk 1 (pc' := 122) (L' := [(0, .ref 1), (1, .int p1), (2, .int p2), (3, .int b5.1)]) (S' := [.int b5.1]) (h' := (hh X g b5.2)) rfl ?_
            exact Go_ret (fun _ h => h) rfl
      ·
        refine Go_wh (fun (s4 : Int32 × MJ) => [(0, .ref 1), (1, .int p1), (2, .int p2), (3, .int s4.1)]) (fun _ => []) (fun (s4 : Int32 × MJ) => (hh X g s4.2)) (fun s4 => ?_) ((0 : Int32), (ab_up1 w1.2 1 4 (w1.2 1 2)))
        refine Go_blk 4 (pc' := 48) (L' := [(0, .ref 1), (1, .int p1), (2, .int p2), (3, .int s4.1)]) (S' := [.int (s4.2 1 3), .int (s4.2 1 2)]) (h' := (hh X g s4.2)) rfl ?_
        refine Go_cmpn rfl rfl (ab_cge _ _) ?_ ?_
        ·
          refine Go_blk 3 (pc' := 56) (L' := [(0, .ref 1), (1, .int p1), (2, .int p2), (3, .int s4.1)]) (S' := [.int (s4.2 1 2), .ref 1]) (h' := (hh X g s4.2)) rfl ?_
          refine Go_cR (y' := 46) (As := [.ref 1, .int (s4.2 1 2)]) (r := []) rfl (g_tap_byteAt46 (s4.2 1 2) (by omega)) fun v8 => ?_
          refine Go_cR (y' := 54) (As := [.int v8]) (r := []) rfl (g_tap_isDigit54 v8 (by omega)) fun v9 => ?_
          refine Go_cmz rfl rfl rfl ?_ ?_
          ·
            exact Go_jmp [(0, .ref 1), (1, .int p1), (2, .int p2), (3, .int s4.1)] rfl ⟨rfl, rfl, rfl, rfl, trivial⟩ (fun _ h => h)
          ·
            refine Go_blk 7 (pc' := 76) (L' := [(0, .ref 1), (1, .int p1), (2, .int p2), (3, .int s4.1)]) (S' := [.int (s4.2 1 2), .ref 1, .int ((10 : Int32) * s4.1), .int (1000000 : Int32)]) (h' := (hh X g s4.2)) rfl ?_
            refine Go_cR (y' := 46) (As := [.ref 1, .int (s4.2 1 2)]) (r := [.int ((10 : Int32) * s4.1), .int (1000000 : Int32)]) rfl (g_tap_byteAt46 (s4.2 1 2) (by omega)) fun v10 => ?_
            refine Go_blk 12 (pc' := 40) (L' := [(3, .int (if ((((10 : Int32) * s4.1) + v10) - (48 : Int32)) < (1000000 : Int32) then ((((10 : Int32) * s4.1) + v10) - (48 : Int32)) else (1000000 : Int32))), (0, .ref 1), (1, .int p1), (2, .int p2)]) (S' := []) (h' := (hh X g (ab_up1 s4.2 1 2 ((s4.2 1 2) + (1 : Int32))))) rfl ?_
            exact Go_jmp [(0, .ref 1), (1, .int p1), (2, .int p2), (3, .int (if ((((10 : Int32) * s4.1) + v10) - (48 : Int32)) < (1000000 : Int32) then ((((10 : Int32) * s4.1) + v10) - (48 : Int32)) else (1000000 : Int32)))] rfl ⟨rfl, rfl, rfl, rfl, trivial⟩ (fun _ h => h)
        ·
          exact Go_jmp [(0, .ref 1), (1, .int p1), (2, .int p2), (3, .int s4.1)] rfl ⟨rfl, rfl, rfl, rfl, trivial⟩ (fun _ h => h)
  ·
    refine Go_blk 1 (pc' := 8) (L' := [(0, .ref 1), (1, .int p1), (2, .int p2)]) (S' := [.int p1]) (h' := (hh X g I)) rfl ?_
    exact Go_ret (fun _ h => h) rfl
set_option maxRecDepth 1000000 in
set_option maxHeartbeats 4000000 in
theorem g_sho_readBolt51  {X : XX} {g : GG} {I : MJ} {d : Nat} (hd : 3 ≤ d) : Go d 51 0 (lv_args 0 [.ref 9, .ref 1]) [] (hh X g I) (f_sho_readBolt51  I) (pV X g) := by
  obtain ⟨d, rfl⟩ : ∃ k, d = k + 1 := ⟨d - 1, by omega⟩
  unfold f_sho_readBolt51
  refine Go_blk 4 (pc' := 7) (L' := [(0, .ref 9), (1, .ref 1)]) (S' := [.int (10 : Int32), .int (I 9 5), .ref 1]) (h' := (hh X g I)) rfl ?_
  refine Go_cV (y' := 52) (As := [.ref 1, .int (I 9 5), .int (10 : Int32)]) (r := []) rfl (g_sho_needRoom52 (I 9 5) (10 : Int32) (by omega)) fun I1 => ?_
  refine Go_blk 6 (pc' := 21) (L' := [(0, .ref 9), (1, .ref 1)]) (S' := [.ref 2000001, .ref 1, .int (I1 9 5), .ref 10]) (h' := (hh X g I1)) rfl ?_
  refine Go_cW (y' := 45) (As := [.ref 1, .ref 2000001]) (r := [.int (I1 9 5), .ref 10]) rfl (g_tap_word45 2000001 (by omega)) fun w2 => ?_
  refine Go_cV (y' := 15) (As := [.ref 10, .int (I1 9 5), .int w2.1]) (r := []) rfl (g_x_put15 10 (I1 9 5) w2.1 (by omega)) fun I3 => ?_
  refine Go_blk 7 (pc' := 39) (L' := [(0, .ref 9), (1, .ref 1)]) (S' := [.int (60 : Int32), .int (1 : Int32), .ref 1, .int (I3 9 5), .ref 11]) (h' := (hh X g I3)) rfl ?_
  refine Go_cW (y' := 53) (As := [.ref 1, .int (1 : Int32), .int (60 : Int32)]) (r := [.int (I3 9 5), .ref 11]) rfl (g_tap_number53 (1 : Int32) (60 : Int32) (by omega)) fun w4 => ?_
  refine Go_cV (y' := 15) (As := [.ref 11, .int (I3 9 5), .int w4.1]) (r := []) rfl (g_x_put15 11 (I3 9 5) w4.1 (by omega)) fun I5 => ?_
  refine Go_blk 6 (pc' := 55) (L' := [(0, .ref 9), (1, .ref 1)]) (S' := []) (h' := (hh X g (ab_up1 I5 9 5 ((I5 9 5) + (1 : Int32))))) rfl ?_
  exact Go_ret (fun _ h => h) rfl
set_option maxRecDepth 1000000 in
set_option maxHeartbeats 4000000 in
theorem g_sho_readClient55  {X : XX} {g : GG} {I : MJ} {d : Nat} (hd : 2 ≤ d) : Go d 55 0 (lv_args 0 [.ref 9, .ref 1]) [] (hh X g I) (f_sho_readClient55  I) (pV X g) := by
  obtain ⟨d, rfl⟩ : ∃ k, d = k + 1 := ⟨d - 1, by omega⟩
  unfold f_sho_readClient55
  refine Go_blk 4 (pc' := 7) (L' := [(0, .ref 9), (1, .ref 1)]) (S' := [.int (6 : Int32), .int (I 9 6), .ref 1]) (h' := (hh X g I)) rfl ?_
  refine Go_cV (y' := 52) (As := [.ref 1, .int (I 9 6), .int (6 : Int32)]) (r := []) rfl (g_sho_needRoom52 (I 9 6) (6 : Int32) (by omega)) fun I1 => ?_
  refine Go_blk 7 (pc' := 22) (L' := [(0, .ref 9), (1, .ref 1)]) (S' := [.int (9 : Int32), .int (0 : Int32), .ref 1, .int (I1 9 6), .ref 12]) (h' := (hh X g I1)) rfl ?_
  refine Go_cW (y' := 53) (As := [.ref 1, .int (0 : Int32), .int (9 : Int32)]) (r := [.int (I1 9 6), .ref 12]) rfl (g_tap_number53 (0 : Int32) (9 : Int32) (by omega)) fun w2 => ?_
  refine Go_cV (y' := 15) (As := [.ref 12, .int (I1 9 6), .int w2.1]) (r := []) rfl (g_x_put15 12 (I1 9 6) w2.1 (by omega)) fun I3 => ?_
  refine Go_blk 6 (pc' := 38) (L' := [(0, .ref 9), (1, .ref 1)]) (S' := []) (h' := (hh X g (ab_up1 I3 9 6 ((I3 9 6) + (1 : Int32))))) rfl ?_
  exact Go_ret (fun _ h => h) rfl
set_option maxRecDepth 1000000 in
set_option maxHeartbeats 4000000 in
theorem g_sho_readWant56  {X : XX} {g : GG} {I : MJ} {d : Nat} (hd : 3 ≤ d) : Go d 56 0 (lv_args 0 [.ref 9, .ref 1]) [] (hh X g I) (f_sho_readWant56  I) (pV X g) := by
  obtain ⟨d, rfl⟩ : ∃ k, d = k + 1 := ⟨d - 1, by omega⟩
  unfold f_sho_readWant56
  refine Go_blk 4 (pc' := 7) (L' := [(0, .ref 9), (1, .ref 1)]) (S' := [.int (16 : Int32), .int (I 9 7), .ref 1]) (h' := (hh X g I)) rfl ?_
  refine Go_cV (y' := 52) (As := [.ref 1, .int (I 9 7), .int (16 : Int32)]) (r := []) rfl (g_sho_needRoom52 (I 9 7) (16 : Int32) (by omega)) fun I1 => ?_
  refine Go_blk 16 (pc' := 32) (L' := [(2, .int ((5 : Int32) * (I1 9 7))), (0, .ref 9), (1, .ref 1)]) (S' := [.int ((I1 9 6) - (1 : Int32)), .int (0 : Int32), .ref 1, .int (((5 : Int32) * (I1 9 7)) + (0 : Int32)), .ref 13]) (h' := (hh X g I1)) rfl ?_
  refine Go_cW (y' := 53) (As := [.ref 1, .int (0 : Int32), .int ((I1 9 6) - (1 : Int32))]) (r := [.int (((5 : Int32) * (I1 9 7)) + (0 : Int32)), .ref 13]) rfl (g_tap_number53 (0 : Int32) ((I1 9 6) - (1 : Int32)) (by omega)) fun w2 => ?_
  refine Go_cV (y' := 15) (As := [.ref 13, .int (((5 : Int32) * (I1 9 7)) + (0 : Int32)), .int w2.1]) (r := []) rfl (g_x_put15 13 (((5 : Int32) * (I1 9 7)) + (0 : Int32)) w2.1 (by omega)) fun I3 => ?_
  refine Go_blk 3 (pc' := 42) (L' := [(2, .int ((5 : Int32) * (I1 9 7))), (0, .ref 9), (1, .ref 1)]) (S' := [.int (11 : Int32), .int (0 : Int32), .ref 1]) (h' := (hh X g I3)) rfl ?_
  refine Go_cW (y' := 53) (As := [.ref 1, .int (0 : Int32), .int (11 : Int32)]) (r := []) rfl (g_tap_number53 (0 : Int32) (11 : Int32) (by omega)) fun w4 => ?_
  refine Go_blk 7 (pc' := 54) (L' := [(3, .int w4.1), (2, .int ((5 : Int32) * (I1 9 7))), (0, .ref 9), (1, .ref 1)]) (S' := [.int w4.1, .int (((5 : Int32) * (I1 9 7)) + (1 : Int32)), .ref 13]) (h' := (hh X g w4.2)) rfl ?_
  refine Go_cV (y' := 15) (As := [.ref 13, .int (((5 : Int32) * (I1 9 7)) + (1 : Int32)), .int w4.1]) (r := []) rfl (g_x_put15 13 (((5 : Int32) * (I1 9 7)) + (1 : Int32)) w4.1 (by omega)) fun I5 => ?_
  refine Go_blk 8 (pc' := 68) (L' := [(3, .int w4.1), (2, .int ((5 : Int32) * (I1 9 7))), (0, .ref 9), (1, .ref 1)]) (S' := [.int (11 : Int32), .int w4.1, .ref 1, .int (((5 : Int32) * (I1 9 7)) + (2 : Int32)), .ref 13]) (h' := (hh X g I5)) rfl ?_
  refine Go_cW (y' := 53) (As := [.ref 1, .int w4.1, .int (11 : Int32)]) (r := [.int (((5 : Int32) * (I1 9 7)) + (2 : Int32)), .ref 13]) rfl (g_tap_number53 w4.1 (11 : Int32) (by omega)) fun w6 => ?_
  refine Go_cV (y' := 15) (As := [.ref 13, .int (((5 : Int32) * (I1 9 7)) + (2 : Int32)), .int w6.1]) (r := []) rfl (g_x_put15 13 (((5 : Int32) * (I1 9 7)) + (2 : Int32)) w6.1 (by omega)) fun I7 => ?_
  refine Go_blk 7 (pc' := 84) (L' := [(3, .int w4.1), (2, .int ((5 : Int32) * (I1 9 7))), (0, .ref 9), (1, .ref 1)]) (S' := [.ref 2000001, .ref 1, .int (((5 : Int32) * (I1 9 7)) + (3 : Int32)), .ref 13]) (h' := (hh X g I7)) rfl ?_
  refine Go_cW (y' := 45) (As := [.ref 1, .ref 2000001]) (r := [.int (((5 : Int32) * (I1 9 7)) + (3 : Int32)), .ref 13]) rfl (g_tap_word45 2000001 (by omega)) fun w8 => ?_
  refine Go_cV (y' := 15) (As := [.ref 13, .int (((5 : Int32) * (I1 9 7)) + (3 : Int32)), .int w8.1]) (r := []) rfl (g_x_put15 13 (((5 : Int32) * (I1 9 7)) + (3 : Int32)) w8.1 (by omega)) fun I9 => ?_
  refine Go_blk 8 (pc' := 101) (L' := [(3, .int w4.1), (2, .int ((5 : Int32) * (I1 9 7))), (0, .ref 9), (1, .ref 1)]) (S' := [.int (9 : Int32), .int (1 : Int32), .ref 1, .int (((5 : Int32) * (I1 9 7)) + (4 : Int32)), .ref 13]) (h' := (hh X g I9)) rfl ?_
  refine Go_cW (y' := 53) (As := [.ref 1, .int (1 : Int32), .int (9 : Int32)]) (r := [.int (((5 : Int32) * (I1 9 7)) + (4 : Int32)), .ref 13]) rfl (g_tap_number53 (1 : Int32) (9 : Int32) (by omega)) fun w10 => ?_
  refine Go_cV (y' := 15) (As := [.ref 13, .int (((5 : Int32) * (I1 9 7)) + (4 : Int32)), .int w10.1]) (r := []) rfl (g_x_put15 13 (((5 : Int32) * (I1 9 7)) + (4 : Int32)) w10.1 (by omega)) fun I11 => ?_
  refine Go_blk 6 (pc' := 117) (L' := [(3, .int w4.1), (2, .int ((5 : Int32) * (I1 9 7))), (0, .ref 9), (1, .ref 1)]) (S' := []) (h' := (hh X g (ab_up1 I11 9 7 ((I11 9 7) + (1 : Int32))))) rfl ?_
  exact Go_ret (fun _ h => h) rfl
set_option maxRecDepth 1000000 in
set_option maxHeartbeats 4000000 in
theorem g_sho_readOrder57  {X : XX} {g : GG} {I : MJ} {d : Nat} (hd : 2 ≤ d) : Go d 57 0 (lv_args 0 [.ref 9, .ref 1]) [] (hh X g I) (f_sho_readOrder57  I) (pV X g) := by
  obtain ⟨d, rfl⟩ : ∃ k, d = k + 1 := ⟨d - 1, by omega⟩
  unfold f_sho_readOrder57
  refine Go_blk 4 (pc' := 7) (L' := [(0, .ref 9), (1, .ref 1)]) (S' := [.int (8 : Int32), .int (I 9 8), .ref 1]) (h' := (hh X g I)) rfl ?_
  refine Go_cV (y' := 52) (As := [.ref 1, .int (I 9 8), .int (8 : Int32)]) (r := []) rfl (g_sho_needRoom52 (I 9 8) (8 : Int32) (by omega)) fun I1 => ?_
  refine Go_blk 16 (pc' := 32) (L' := [(2, .int ((5 : Int32) * (I1 9 8))), (0, .ref 9), (1, .ref 1)]) (S' := [.int ((I1 9 6) - (1 : Int32)), .int (0 : Int32), .ref 1, .int (((5 : Int32) * (I1 9 8)) + (0 : Int32)), .ref 14]) (h' := (hh X g I1)) rfl ?_
  refine Go_cW (y' := 53) (As := [.ref 1, .int (0 : Int32), .int ((I1 9 6) - (1 : Int32))]) (r := [.int (((5 : Int32) * (I1 9 8)) + (0 : Int32)), .ref 14]) rfl (g_tap_number53 (0 : Int32) ((I1 9 6) - (1 : Int32)) (by omega)) fun w2 => ?_
  refine Go_cV (y' := 15) (As := [.ref 14, .int (((5 : Int32) * (I1 9 8)) + (0 : Int32)), .int w2.1]) (r := []) rfl (g_x_put15 14 (((5 : Int32) * (I1 9 8)) + (0 : Int32)) w2.1 (by omega)) fun I3 => ?_
  refine Go_blk 8 (pc' := 48) (L' := [(2, .int ((5 : Int32) * (I1 9 8))), (0, .ref 9), (1, .ref 1)]) (S' := [.int (5 : Int32), .int (0 : Int32), .ref 1, .int (((5 : Int32) * (I1 9 8)) + (1 : Int32)), .ref 14]) (h' := (hh X g I3)) rfl ?_
  refine Go_cW (y' := 53) (As := [.ref 1, .int (0 : Int32), .int (5 : Int32)]) (r := [.int (((5 : Int32) * (I1 9 8)) + (1 : Int32)), .ref 14]) rfl (g_tap_number53 (0 : Int32) (5 : Int32) (by omega)) fun w4 => ?_
  refine Go_cV (y' := 15) (As := [.ref 14, .int (((5 : Int32) * (I1 9 8)) + (1 : Int32)), .int w4.1]) (r := []) rfl (g_x_put15 14 (((5 : Int32) * (I1 9 8)) + (1 : Int32)) w4.1 (by omega)) fun I5 => ?_
  refine Go_blk 8 (pc' := 65) (L' := [(2, .int ((5 : Int32) * (I1 9 8))), (0, .ref 9), (1, .ref 1)]) (S' := [.int (60 : Int32), .int (1 : Int32), .ref 1, .int (((5 : Int32) * (I1 9 8)) + (2 : Int32)), .ref 14]) (h' := (hh X g I5)) rfl ?_
  refine Go_cW (y' := 53) (As := [.ref 1, .int (1 : Int32), .int (60 : Int32)]) (r := [.int (((5 : Int32) * (I1 9 8)) + (2 : Int32)), .ref 14]) rfl (g_tap_number53 (1 : Int32) (60 : Int32) (by omega)) fun w6 => ?_
  refine Go_cV (y' := 15) (As := [.ref 14, .int (((5 : Int32) * (I1 9 8)) + (2 : Int32)), .int w6.1]) (r := []) rfl (g_x_put15 14 (((5 : Int32) * (I1 9 8)) + (2 : Int32)) w6.1 (by omega)) fun I7 => ?_
  refine Go_blk 8 (pc' := 83) (L' := [(2, .int ((5 : Int32) * (I1 9 8))), (0, .ref 9), (1, .ref 1)]) (S' := [.int (999 : Int32), .int (0 : Int32), .ref 1, .int (((5 : Int32) * (I1 9 8)) + (3 : Int32)), .ref 14]) (h' := (hh X g I7)) rfl ?_
  refine Go_cW (y' := 53) (As := [.ref 1, .int (0 : Int32), .int (999 : Int32)]) (r := [.int (((5 : Int32) * (I1 9 8)) + (3 : Int32)), .ref 14]) rfl (g_tap_number53 (0 : Int32) (999 : Int32) (by omega)) fun w8 => ?_
  refine Go_cV (y' := 15) (As := [.ref 14, .int (((5 : Int32) * (I1 9 8)) + (3 : Int32)), .int w8.1]) (r := []) rfl (g_x_put15 14 (((5 : Int32) * (I1 9 8)) + (3 : Int32)) w8.1 (by omega)) fun I9 => ?_
  refine Go_blk 8 (pc' := 100) (L' := [(2, .int ((5 : Int32) * (I1 9 8))), (0, .ref 9), (1, .ref 1)]) (S' := [.int (24 : Int32), .int (1 : Int32), .ref 1, .int (((5 : Int32) * (I1 9 8)) + (4 : Int32)), .ref 14]) (h' := (hh X g I9)) rfl ?_
  refine Go_cW (y' := 53) (As := [.ref 1, .int (1 : Int32), .int (24 : Int32)]) (r := [.int (((5 : Int32) * (I1 9 8)) + (4 : Int32)), .ref 14]) rfl (g_tap_number53 (1 : Int32) (24 : Int32) (by omega)) fun w10 => ?_
  refine Go_cV (y' := 15) (As := [.ref 14, .int (((5 : Int32) * (I1 9 8)) + (4 : Int32)), .int w10.1]) (r := []) rfl (g_x_put15 14 (((5 : Int32) * (I1 9 8)) + (4 : Int32)) w10.1 (by omega)) fun I11 => ?_
  refine Go_blk 6 (pc' := 116) (L' := [(2, .int ((5 : Int32) * (I1 9 8))), (0, .ref 9), (1, .ref 1)]) (S' := []) (h' := (hh X g (ab_up1 I11 9 8 ((I11 9 8) + (1 : Int32))))) rfl ?_
  exact Go_ret (fun _ h => h) rfl
set_option maxRecDepth 1000000 in
set_option maxHeartbeats 4000000 in
theorem g_sho_readClause44 (p2 : Int32) {X : XX} {g : GG} {I : MJ} {d : Nat} (hd : 4 ≤ d) : Go d 44 0 (lv_args 0 [.ref 9, .ref 1, .int p2]) [] (hh X g I) (f_sho_readClause44 p2 I) (pV X g) := by
  obtain ⟨d, rfl⟩ : ∃ k, d = k + 1 := ⟨d - 1, by omega⟩
  unfold f_sho_readClause44
  refine Go_blk 2 (pc' := 3) (L' := [(0, .ref 9), (1, .ref 1), (2, .int p2)]) (S' := [.ref 2000000, .ref 1]) (h' := (hh X g I)) rfl ?_
  refine Go_cW (y' := 45) (As := [.ref 1, .ref 2000000]) (r := []) rfl (g_tap_word45 2000000 (by omega)) fun w1 => ?_
  refine Go_blk 3 (pc' := 10) (L' := [(3, .int w1.1), (0, .ref 9), (1, .ref 1), (2, .int p2)]) (S' := [.int (60 : Int32), .int p2]) (h' := (hh X g w1.2)) rfl ?_
  refine Go_seq (pcj := 22) (fun (b2 : MJ) => [(0, .ref 9), (1, .ref 1), (3, .int w1.1)]) (fun (b2 : MJ) => []) (fun (b2 : MJ) => (hh X g b2)) (fun b2 => ?_) ?_
  ·
    refine Go_blk 1 (pc' := 23) (L' := [(0, .ref 9), (1, .ref 1), (3, .int w1.1)]) (S' := [.int w1.1]) (h' := (hh X g b2)) rfl ?_
    refine Go_seq (pcj := 120) (fun (b3 : MJ) => []) (fun (b3 : MJ) => []) (fun (b3 : MJ) => (hh X g b3)) (fun b3 => ?_) ?_
    ·
      exact Go_ret (fun _ h => h) rfl
    ·
      refine Go_sw ?_ fun h0 => ?_
      ·
        refine Go_blk 1 (pc' := 60) (L' := [(0, .ref 9), (1, .ref 1), (3, .int w1.1)]) (S' := []) (h' := (hh X g b2)) rfl ?_
        refine Go_blk 2 (pc' := 62) (L' := [(0, .ref 9), (1, .ref 1), (3, .int w1.1)]) (S' := [.ref 1, .ref 9]) (h' := (hh X g b2)) rfl ?_
        refine Go_cV (y' := 51) (As := [.ref 9, .ref 1]) (r := []) rfl (g_sho_readBolt51  (by omega)) fun I4 => ?_
        refine Go_blk 1 (pc' := 120) (L' := [(0, .ref 9), (1, .ref 1), (3, .int w1.1)]) (S' := []) (h' := (hh X g I4)) rfl ?_
        exact Go_jmp [] rfl trivial (fun _ h => h)
      refine Go_sw ?_ fun h1 => ?_
      ·
        refine Go_blk 1 (pc' := 68) (L' := [(0, .ref 9), (1, .ref 1), (3, .int w1.1)]) (S' := []) (h' := (hh X g b2)) rfl ?_
        refine Go_blk 2 (pc' := 70) (L' := [(0, .ref 9), (1, .ref 1), (3, .int w1.1)]) (S' := [.ref 1, .ref 9]) (h' := (hh X g b2)) rfl ?_
        refine Go_cV (y' := 55) (As := [.ref 9, .ref 1]) (r := []) rfl (g_sho_readClient55  (by omega)) fun I5 => ?_
        refine Go_blk 1 (pc' := 120) (L' := [(0, .ref 9), (1, .ref 1), (3, .int w1.1)]) (S' := []) (h' := (hh X g I5)) rfl ?_
        exact Go_jmp [] rfl trivial (fun _ h => h)
      refine Go_sw ?_ fun h2 => ?_
      ·
        refine Go_blk 1 (pc' := 76) (L' := [(0, .ref 9), (1, .ref 1), (3, .int w1.1)]) (S' := []) (h' := (hh X g b2)) rfl ?_
        refine Go_blk 2 (pc' := 78) (L' := [(0, .ref 9), (1, .ref 1), (3, .int w1.1)]) (S' := [.ref 1, .ref 9]) (h' := (hh X g b2)) rfl ?_
        refine Go_cV (y' := 56) (As := [.ref 9, .ref 1]) (r := []) rfl (g_sho_readWant56  (by omega)) fun I6 => ?_
        refine Go_blk 1 (pc' := 120) (L' := [(0, .ref 9), (1, .ref 1), (3, .int w1.1)]) (S' := []) (h' := (hh X g I6)) rfl ?_
        exact Go_jmp [] rfl trivial (fun _ h => h)
      refine Go_sw ?_ fun h3 => ?_
      ·
        refine Go_blk 1 (pc' := 84) (L' := [(0, .ref 9), (1, .ref 1), (3, .int w1.1)]) (S' := []) (h' := (hh X g b2)) rfl ?_
        refine Go_blk 2 (pc' := 86) (L' := [(0, .ref 9), (1, .ref 1), (3, .int w1.1)]) (S' := [.ref 1, .ref 9]) (h' := (hh X g b2)) rfl ?_
        refine Go_cV (y' := 57) (As := [.ref 9, .ref 1]) (r := []) rfl (g_sho_readOrder57  (by omega)) fun I7 => ?_
        refine Go_blk 1 (pc' := 120) (L' := [(0, .ref 9), (1, .ref 1), (3, .int w1.1)]) (S' := []) (h' := (hh X g I7)) rfl ?_
        exact Go_jmp [] rfl trivial (fun _ h => h)
      refine Go_sw ?_ fun h4 => ?_
      ·
        refine Go_blk 1 (pc' := 92) (L' := [(0, .ref 9), (1, .ref 1), (3, .int w1.1)]) (S' := []) (h' := (hh X g b2)) rfl ?_
        refine Go_blk 4 (pc' := 97) (L' := [(0, .ref 9), (1, .ref 1), (3, .int w1.1)]) (S' := [.int (9 : Int32), .int (0 : Int32), .ref 1, .ref 9]) (h' := (hh X g b2)) rfl ?_
        refine Go_cW (y' := 53) (As := [.ref 1, .int (0 : Int32), .int (9 : Int32)]) (r := [.ref 9]) rfl (g_tap_number53 (0 : Int32) (9 : Int32) (by omega)) fun w8 => ?_
        refine Go_blk 2 (pc' := 120) (L' := [(0, .ref 9), (1, .ref 1), (3, .int w1.1)]) (S' := []) (h' := (hh X g (ab_up1 w8.2 9 9 w8.1))) rfl ?_
        exact Go_jmp [] rfl trivial (fun _ h => h)
      refine Go_sw ?_ fun h5 => ?_
      ·
        refine Go_blk 1 (pc' := 106) (L' := [(0, .ref 9), (1, .ref 1), (3, .int w1.1)]) (S' := []) (h' := (hh X g b2)) rfl ?_
        refine Go_blk 4 (pc' := 111) (L' := [(0, .ref 9), (1, .ref 1), (3, .int w1.1)]) (S' := [.int (24 : Int32), .int (1 : Int32), .ref 1, .ref 9]) (h' := (hh X g b2)) rfl ?_
        refine Go_cW (y' := 53) (As := [.ref 1, .int (1 : Int32), .int (24 : Int32)]) (r := [.ref 9]) rfl (g_tap_number53 (1 : Int32) (24 : Int32) (by omega)) fun w9 => ?_
        refine Go_blk 2 (pc' := 120) (L' := [(0, .ref 9), (1, .ref 1), (3, .int w1.1)]) (S' := []) (h' := (hh X g (ab_up1 w9.2 9 10 w9.1))) rfl ?_
        exact Go_jmp [] rfl trivial (fun _ h => h)
      refine Go_swd (t := 120) 6 rfl (by decide) (by decide) (by decide) ⟨⟨⟨⟨⟨⟨trivial, h0⟩, h1⟩, h2⟩, h3⟩, h4⟩, h5⟩ rfl ?_
      exact Go_jmp [] rfl trivial (fun _ h => h)
  ·
    refine Go_cmp rfl rfl rfl ?_ ?_
    ·
      exact Go_jmp [(0, .ref 9), (1, .ref 1), (3, .int w1.1)] rfl ⟨rfl, rfl, rfl, trivial⟩ (fun _ h => h)
    ·
      refine Go_blk 4 (pc' := 19) (L' := [(3, .int w1.1), (0, .ref 9), (1, .ref 1), (2, .int p2)]) (S' := [.int (w1.2 1 4), .int (3 : Int32), .ref 1]) (h' := (hh X g w1.2)) rfl ?_
      refine Go_cV (y' := 50) (As := [.ref 1, .int (3 : Int32), .int (w1.2 1 4)]) (r := []) rfl (g_tap_fail50 (3 : Int32) (w1.2 1 4) (by omega)) fun I10 => ?_
      exact Go_jmp [(0, .ref 9), (1, .ref 1), (3, .int w1.1)] rfl ⟨rfl, rfl, rfl, trivial⟩ (fun _ h => h)
set_option maxRecDepth 1000000 in
set_option maxHeartbeats 4000000 in
theorem g_tap_sign58 (p1 : Int32) {X : XX} {g : GG} {I : MJ} {d : Nat} (hd : 1 ≤ d) : Go d 58 0 (lv_args 0 [.ref 1, .int p1]) [] (hh X g I) (f_tap_sign58 p1 I) (pV X g) := by
  obtain ⟨d, rfl⟩ : ∃ k, d = k + 1 := ⟨d - 1, by omega⟩
  unfold f_tap_sign58
  refine Go_blk 2 (pc' := 4) (L' := [(0, .ref 1), (1, .int p1)]) (S' := [.int (I 1 5)]) (h' := (hh X g I)) rfl ?_
  refine Go_cmz rfl rfl rfl ?_ ?_
  ·
    refine Go_blk 1 (pc' := 9) (L' := [(0, .ref 1), (1, .int p1)]) (S' := [.ref 1]) (h' := (hh X g I)) rfl ?_
    refine Go_cW (y' := 43) (As := [.ref 1]) (r := []) rfl (g_tap_next43  (by omega)) fun w1 => ?_
    refine Go_blk 1 (pc' := 13) (L' := [(0, .ref 1), (1, .int p1)]) (S' := [.int p1, .int w1.1]) (h' := (hh X g w1.2)) rfl ?_
    refine Go_seq (pcj := 21) (fun (b2 : Int32) => [(0, .ref 1)]) (fun (b2 : Int32) => [.int b2]) (fun (b2 : Int32) => (hh X g w1.2)) (fun b2 => ?_) ?_
    ·
      refine Go_blk 6 (pc' := 31) (L' := [(2, .int b2), (0, .ref 1)]) (S' := [.int b2]) (h' := (hh X g (ab_up1 w1.2 1 4 (w1.2 1 2)))) rfl ?_
      refine Go_seq (pcj := 56) (fun (b3 : MJ) => []) (fun (b3 : MJ) => []) (fun (b3 : MJ) => (hh X g b3)) (fun b3 => ?_) ?_
      ·
        exact Go_ret (fun _ h => h) rfl
      ·
        refine Go_cmz rfl rfl rfl ?_ ?_
        ·
          refine Go_blk 4 (pc' := 53) (L' := [(2, .int b2), (0, .ref 1)]) (S' := [.int (w1.2 1 2), .int (1 : Int32), .ref 1]) (h' := (hh X g (ab_up1 w1.2 1 4 (w1.2 1 2)))) rfl ?_
          refine Go_cV (y' := 50) (As := [.ref 1, .int (1 : Int32), .int (w1.2 1 2)]) (r := []) rfl (g_tap_fail50 (1 : Int32) (w1.2 1 2) (by omega)) fun I4 => ?_
          exact Go_jmp [] rfl trivial (fun _ h => h)
        ·
          refine Go_blk 7 (pc' := 56) (L' := [(2, .int b2), (0, .ref 1)]) (S' := []) (h' := (hh X g (ab_up1 (ab_up1 w1.2 1 4 (w1.2 1 2)) 1 2 ((w1.2 1 2) + (1 : Int32))))) rfl ?_
          exact Go_jmp [] rfl trivial (fun _ h => h)
    ·
      refine Go_cmpn rfl rfl rfl ?_ ?_
      ·
        refine Go_blk 2 (pc' := 21) (L' := [(0, .ref 1), (1, .int p1)]) (S' := [.int (1 : Int32)]) (h' := (hh X g w1.2)) rfl ?_
        exact Go_jmp [(0, .ref 1)] rfl ⟨rfl, trivial⟩ (fun _ h => h)
      ·
        refine Go_blk 1 (pc' := 21) (L' := [(0, .ref 1), (1, .int p1)]) (S' := [.int (0 : Int32)]) (h' := (hh X g w1.2)) rfl ?_
        exact Go_jmp [(0, .ref 1)] rfl ⟨rfl, trivial⟩ (fun _ h => h)
  ·
    exact Go_ret (fun _ h => h) rfl
set_option maxRecDepth 1000000 in
set_option maxHeartbeats 4000000 in
theorem g_sho_readFrom41  {X : XX} {g : GG} {I : MJ} {d : Nat} (hd : 5 ≤ d) : Go d 41 0 (lv_args 0 [.ref 9, .ref 1]) [] (hh X g I) (f_sho_readFrom41  I) (pV X g) := by
  obtain ⟨d, rfl⟩ : ∃ k, d = k + 1 := ⟨d - 1, by omega⟩
  unfold f_sho_readFrom41
  refine Go_blk 20 (pc' := 33) (L' := [(2, .int (0 : Int32)), (0, .ref 9), (1, .ref 1)]) (S' := []) (h' := (hh X g (ab_up1 (ab_up1 (ab_up1 (ab_up1 (ab_up1 (ab_up1 I 9 5 (0 : Int32)) 9 6 (0 : Int32)) 9 7 (0 : Int32)) 9 8 (0 : Int32)) 9 9 (1 : Int32)) 9 10 (8 : Int32)))) rfl ?_
  refine Go_lcs [(0, .ref 9), (1, .ref 1), (2, .int (0 : Int32))] rfl ⟨rfl, rfl, rfl, trivial⟩ ?_
  refine Go_seq (pcj := 64) (fun (b2 : MJ) => []) (fun (b2 : MJ) => []) (fun (b2 : MJ) => (hh X g b2)) (fun b2 => ?_) ?_
  ·
    exact Go_ret (fun _ h => h) rfl
  ·
    refine Go_wh (fun (s1 : Int32 × MJ) => [(0, .ref 9), (1, .ref 1), (2, .int s1.1)]) (fun _ => []) (fun (s1 : Int32 × MJ) => (hh X g s1.2)) (fun s1 => ?_) ((0 : Int32), (ab_up1 (ab_up1 (ab_up1 (ab_up1 (ab_up1 (ab_up1 I 9 5 (0 : Int32)) 9 6 (0 : Int32)) 9 7 (0 : Int32)) 9 8 (0 : Int32)) 9 9 (1 : Int32)) 9 10 (8 : Int32)))
    refine Go_blk 2 (pc' := 36) (L' := [(0, .ref 9), (1, .ref 1), (2, .int s1.1)]) (S' := [.int (60 : Int32), .int s1.1]) (h' := (hh X g s1.2)) rfl ?_
    refine Go_cmp rfl rfl rfl ?_ ?_
    ·
      exact Go_jmp [] rfl trivial (fun _ h => h)
    ·
      refine Go_blk 1 (pc' := 40) (L' := [(0, .ref 9), (1, .ref 1), (2, .int s1.1)]) (S' := [.ref 1]) (h' := (hh X g s1.2)) rfl ?_
      refine Go_cW (y' := 42) (As := [.ref 1]) (r := []) rfl (g_tap_hasMore42  (by omega)) fun w3 => ?_
      refine Go_cmz rfl rfl rfl ?_ ?_
      ·
        exact Go_jmp [] rfl trivial (fun _ h => h)
      ·
        refine Go_blk 3 (pc' := 49) (L' := [(0, .ref 9), (1, .ref 1), (2, .int s1.1)]) (S' := [.int s1.1, .ref 1, .ref 9]) (h' := (hh X g w3.2)) rfl ?_
        refine Go_cV (y' := 44) (As := [.ref 9, .ref 1, .int s1.1]) (r := []) rfl (g_sho_readClause44 s1.1 (by omega)) fun I4 => ?_
        refine Go_blk 2 (pc' := 55) (L' := [(0, .ref 9), (1, .ref 1), (2, .int s1.1)]) (S' := [.int (59 : Int32), .ref 1]) (h' := (hh X g I4)) rfl ?_
        refine Go_cV (y' := 58) (As := [.ref 1, .int (59 : Int32)]) (r := []) rfl (g_tap_sign58 (59 : Int32) (by omega)) fun I5 => ?_
        refine Go_blk 2 (pc' := 33) (L' := [(2, .int (s1.1 + (1 : Int32))), (0, .ref 9), (1, .ref 1)]) (S' := []) (h' := (hh X g I5)) rfl ?_
        exact Go_jmp [(0, .ref 9), (1, .ref 1), (2, .int (s1.1 + (1 : Int32)))] rfl ⟨rfl, rfl, rfl, trivial⟩ (fun _ h => h)
set_option maxRecDepth 1000000 in
set_option maxHeartbeats 4000000 in
theorem g_tap_isSound59  {X : XX} {g : GG} {I : MJ} {d : Nat} (hd : 0 ≤ d) : Go d 59 0 (lv_args 0 [.ref 1]) [] (hh X g I) (f_tap_isSound59  I) (pR X g I) := by
  unfold f_tap_isSound59
  refine Go_blk 2 (pc' := 4) (L' := [(0, .ref 1)]) (S' := [.int (I 1 5)]) (h' := (hh X g I)) rfl ?_
  refine Go_seq (pcj := 12) (fun (b1 : Int32) => []) (fun (b1 : Int32) => [.int b1]) (fun (b1 : Int32) => (hh X g I)) (fun b1 => ?_) ?_
  ·
    exact Go_ret (fun _ h => h) rfl
  ·
    refine Go_cmzn rfl rfl rfl ?_ ?_
    ·
      refine Go_blk 2 (pc' := 12) (L' := [(0, .ref 1)]) (S' := [.int (1 : Int32)]) (h' := (hh X g I)) rfl ?_
      exact Go_jmp [] rfl trivial (fun _ h => h)
    ·
      refine Go_blk 1 (pc' := 12) (L' := [(0, .ref 1)]) (S' := [.int (0 : Int32)]) (h' := (hh X g I)) rfl ?_
      exact Go_jmp [] rfl trivial (fun _ h => h)
set_option maxRecDepth 1000000 in
set_option maxHeartbeats 4000000 in
theorem g_x_copy22 (p0 : Nat) (p1 : Int32) (p2 : Nat) (p3 : Int32) (p4 : Int32) {X : XX} {g : GG} {I : MJ} {d : Nat} (hd : 0 ≤ d) : Go d 22 0 (lv_args 0 [.ref p0, .int p1, .ref p2, .int p3, .int p4]) [] (hh X g I) (f_x_copy22 p0 p1 p2 p3 p4 I) (pV X g) := by
  unfold f_x_copy22
  refine Go_blk 5 (pc' := 9) (L' := [(0, .ref p0), (1, .int p1), (2, .ref p2), (3, .int p3), (4, .int p4)]) (S' := [.int p1]) (h' := (hh X g I)) rfl ?_
  refine Go_cmz rfl rfl rfl ?_ ?_
  ·
    exact Go_ret (fun _ h => h) rfl
  ·
    refine Go_blk 1 (pc' := 13) (L' := [(0, .ref p0), (1, .int p1), (2, .ref p2), (3, .int p3), (4, .int p4)]) (S' := [.int p3]) (h' := (hh X g I)) rfl ?_
    refine Go_cmz rfl rfl rfl ?_ ?_
    ·
      exact Go_ret (fun _ h => h) rfl
    ·
      refine Go_blk 1 (pc' := 18) (L' := [(0, .ref p0), (1, .int p1), (2, .ref p2), (3, .int p3), (4, .int p4)]) (S' := [.int p4]) (h' := (hh X g I)) rfl ?_
      refine Go_cmzn rfl rfl (ab_cge0 _) ?_ ?_
      ·
        exact Go_ret (fun _ h => h) rfl
      ·
        refine Go_blk 2 (pc' := 24) (L' := [(0, .ref p0), (1, .int p1), (2, .ref p2), (3, .int p3), (4, .int p4)]) (S' := [.ref p0, .int p1]) (h' := (hh X g I)) rfl ?_
        refine Go_alen rfl fun v1 => ?_
        refine Go_blk 2 (pc' := 28) (L' := [(0, .ref p0), (1, .int p1), (2, .ref p2), (3, .int p3), (4, .int p4)]) (S' := [.int (v1 - p4), .int p1]) (h' := (hh X g I)) rfl ?_
        refine Go_seq (pcj := 49) (fun (b2 : MJ) => []) (fun (b2 : MJ) => []) (fun (b2 : MJ) => (hh X g b2)) (fun b2 => ?_) ?_
        ·
          exact Go_ret (fun _ h => h) rfl
        ·
          refine Go_cmp rfl rfl rfl ?_ ?_
          ·
            exact Go_jmp [] rfl trivial (fun _ h => h)
          ·
            refine Go_blk 2 (pc' := 33) (L' := [(0, .ref p0), (1, .int p1), (2, .ref p2), (3, .int p3), (4, .int p4)]) (S' := [.ref p2, .int p3]) (h' := (hh X g I)) rfl ?_
            refine Go_alen rfl fun v3 => ?_
            refine Go_blk 2 (pc' := 37) (L' := [(0, .ref p0), (1, .int p1), (2, .ref p2), (3, .int p3), (4, .int p4)]) (S' := [.int (v3 - p4), .int p3]) (h' := (hh X g I)) rfl ?_
            refine Go_cmp rfl rfl rfl ?_ ?_
            ·
              exact Go_jmp [] rfl trivial (fun _ h => h)
            ·
              refine Go_blk 5 (pc' := 46) (L' := [(0, .ref p0), (1, .int p1), (2, .ref p2), (3, .int p3), (4, .int p4)]) (S' := [.int p4, .int p3, .ref p2, .int p1, .ref p0]) (h' := (hh X g I)) rfl ?_
              refine Go_acp rfl rfl rfl rfl fun I4 => ?_
              exact Go_jmp [] rfl trivial (fun _ h => h)
set_option maxRecDepth 1000000 in
set_option maxHeartbeats 4000000 in
theorem g_sho_copyFrom60  {X : XX} {g : GG} {I : MJ} {d : Nat} (hd : 1 ≤ d) : Go d 60 0 (lv_args 0 [.ref 3, .ref 9]) [] (hh X g I) (f_sho_copyFrom60  I) (pV X g) := by
  obtain ⟨d, rfl⟩ : ∃ k, d = k + 1 := ⟨d - 1, by omega⟩
  unfold f_sho_copyFrom60
  refine Go_blk 7 (pc' := 12) (L' := [(0, .ref 3), (1, .ref 9)]) (S' := [.int (10 : Int32), .int (0 : Int32), .ref 4, .int (0 : Int32), .ref 10]) (h' := (hh X g I)) rfl ?_
  refine Go_cV (y' := 22) (As := [.ref 10, .int (0 : Int32), .ref 4, .int (0 : Int32), .int (10 : Int32)]) (r := []) rfl (g_x_copy22 10 (0 : Int32) 4 (0 : Int32) (10 : Int32) (by omega)) fun I1 => ?_
  refine Go_blk 7 (pc' := 27) (L' := [(0, .ref 3), (1, .ref 9)]) (S' := [.int (10 : Int32), .int (0 : Int32), .ref 5, .int (0 : Int32), .ref 11]) (h' := (hh X g I1)) rfl ?_
  refine Go_cV (y' := 22) (As := [.ref 11, .int (0 : Int32), .ref 5, .int (0 : Int32), .int (10 : Int32)]) (r := []) rfl (g_x_copy22 11 (0 : Int32) 5 (0 : Int32) (10 : Int32) (by omega)) fun I2 => ?_
  refine Go_blk 7 (pc' := 42) (L' := [(0, .ref 3), (1, .ref 9)]) (S' := [.int (6 : Int32), .int (0 : Int32), .ref 6, .int (0 : Int32), .ref 12]) (h' := (hh X g I2)) rfl ?_
  refine Go_cV (y' := 22) (As := [.ref 12, .int (0 : Int32), .ref 6, .int (0 : Int32), .int (6 : Int32)]) (r := []) rfl (g_x_copy22 12 (0 : Int32) 6 (0 : Int32) (6 : Int32) (by omega)) fun I3 => ?_
  refine Go_blk 7 (pc' := 57) (L' := [(0, .ref 3), (1, .ref 9)]) (S' := [.int (80 : Int32), .int (0 : Int32), .ref 7, .int (0 : Int32), .ref 13]) (h' := (hh X g I3)) rfl ?_
  refine Go_cV (y' := 22) (As := [.ref 13, .int (0 : Int32), .ref 7, .int (0 : Int32), .int (80 : Int32)]) (r := []) rfl (g_x_copy22 13 (0 : Int32) 7 (0 : Int32) (80 : Int32) (by omega)) fun I4 => ?_
  refine Go_blk 7 (pc' := 72) (L' := [(0, .ref 3), (1, .ref 9)]) (S' := [.int (40 : Int32), .int (0 : Int32), .ref 8, .int (0 : Int32), .ref 14]) (h' := (hh X g I4)) rfl ?_
  refine Go_cV (y' := 22) (As := [.ref 14, .int (0 : Int32), .ref 8, .int (0 : Int32), .int (40 : Int32)]) (r := []) rfl (g_x_copy22 14 (0 : Int32) 8 (0 : Int32) (40 : Int32) (by omega)) fun I5 => ?_
  refine Go_blk 24 (pc' := 123) (L' := [(0, .ref 3), (1, .ref 9)]) (S' := []) (h' := (hh X g (ab_up1 (ab_up1 (ab_up1 (ab_up1 (ab_up1 (ab_up1 I5 3 5 (I5 9 5)) 3 6 (I5 9 6)) 3 7 (I5 9 7)) 3 8 (I5 9 8)) 3 9 (I5 9 9)) 3 10 (I5 9 10)))) rfl ?_
  exact Go_ret (fun _ h => h) rfl
set_option maxRecDepth 1000000 in
set_option maxHeartbeats 4000000 in
theorem g_x_fill10 (p0 : Nat) (p1 : Int32) {X : XX} {g : GG} {I : MJ} {d : Nat} (hd : 0 ≤ d) : Go d 10 0 (lv_args 0 [.ref p0, .int p1]) [] (hh X g I) (f_x_fill10 p0 p1 I) (pV X g) := by
  unfold f_x_fill10
  refine Go_blk 2 (pc' := 2) (L' := [(2, .int (0 : Int32)), (0, .ref p0), (1, .int p1)]) (S' := []) (h' := (hh X g I)) rfl ?_
  refine Go_lcs [(0, .ref p0), (1, .int p1), (2, .int (0 : Int32))] rfl ⟨rfl, rfl, rfl, trivial⟩ ?_
  refine Go_seq (pcj := 22) (fun (b2 : MJ) => []) (fun (b2 : MJ) => []) (fun (b2 : MJ) => (hh X g b2)) (fun b2 => ?_) ?_
  ·
    exact Go_ret (fun _ h => h) rfl
  ·
    refine Go_wh (fun (s1 : Int32 × MJ) => [(0, .ref p0), (1, .int p1), (2, .int s1.1)]) (fun _ => []) (fun (s1 : Int32 × MJ) => (hh X g s1.2)) (fun s1 => ?_) ((0 : Int32), I)
    refine Go_blk 4 (pc' := 8) (L' := [(0, .ref p0), (1, .int p1), (2, .int s1.1)]) (S' := [.ref p0, .int s1.1]) (h' := (hh X g s1.2)) rfl ?_
    refine Go_alen rfl fun v3 => ?_
    refine Go_cmpn rfl rfl (ab_cge _ _) ?_ ?_
    ·
      refine Go_blk 3 (pc' := 15) (L' := [(0, .ref p0), (1, .int p1), (2, .int s1.1)]) (S' := [.int p1, .int s1.1, .ref p0]) (h' := (hh X g s1.2)) rfl ?_
      refine Go_iast rfl fun I4 => ?_
      refine Go_blk 2 (pc' := 2) (L' := [(2, .int (s1.1 + (1 : Int32))), (0, .ref p0), (1, .int p1)]) (S' := []) (h' := (hh X g I4)) rfl ?_
      exact Go_jmp [(0, .ref p0), (1, .int p1), (2, .int (s1.1 + (1 : Int32)))] rfl ⟨rfl, rfl, rfl, trivial⟩ (fun _ h => h)
    ·
      exact Go_jmp [] rfl trivial (fun _ h => h)
set_option maxRecDepth 1000000 in
set_option maxHeartbeats 4000000 in
theorem g_sta_strip14 (p1 : Int32) {X : XX} {g : GG} {I : MJ} {d : Nat} (hd : 1 ≤ d) : Go d 14 0 (lv_args 0 [.ref 15, .int p1]) [] (hh X g I) (f_sta_strip14 p1 I) (pV X g) := by
  obtain ⟨d, rfl⟩ : ∃ k, d = k + 1 := ⟨d - 1, by omega⟩
  unfold f_sta_strip14
  refine Go_blk 6 (pc' := 8) (L' := [(0, .ref 15), (1, .int p1)]) (S' := [.int (-1 : Int32), .int ((3 : Int32) + p1), .ref 16]) (h' := (hh X g I)) rfl ?_
  refine Go_cV (y' := 15) (As := [.ref 16, .int ((3 : Int32) + p1), .int (-1 : Int32)]) (r := []) rfl (g_x_put15 16 ((3 : Int32) + p1) (-1 : Int32) (by omega)) fun I1 => ?_
  exact Go_ret (fun _ h => h) rfl
set_option maxRecDepth 1000000 in
set_option maxHeartbeats 4000000 in
theorem g_x_at16 (p0 : Nat) (p1 : Int32) {X : XX} {g : GG} {I : MJ} {d : Nat} (hd : 0 ≤ d) : Go d 16 0 (lv_args 0 [.ref p0, .int p1]) [] (hh X g I) (f_x_at16 p0 p1 I) (pR X g I) := by
  unfold f_x_at16
  refine Go_blk 3 (pc' := 5) (L' := [(0, .ref p0), (1, .int p1)]) (S' := [.int p1]) (h' := (hh X g I)) rfl ?_
  refine Go_seq (pcj := 21) (fun (b1 : Int32) => []) (fun (b1 : Int32) => [.int b1]) (fun (b1 : Int32) => (hh X g I)) (fun b1 => ?_) ?_
  ·
    exact Go_ret (fun _ h => h) rfl
  ·
    refine Go_cmz rfl rfl rfl ?_ ?_
    ·
      refine Go_blk 1 (pc' := 21) (L' := [(0, .ref p0), (1, .int p1)]) (S' := [.int (0 : Int32)]) (h' := (hh X g I)) rfl ?_
      exact Go_jmp [] rfl trivial (fun _ h => h)
    ·
      refine Go_blk 2 (pc' := 10) (L' := [(0, .ref p0), (1, .int p1)]) (S' := [.ref p0, .int p1]) (h' := (hh X g I)) rfl ?_
      refine Go_alen rfl fun v2 => ?_
      refine Go_cmpn rfl rfl (ab_cge _ _) ?_ ?_
      ·
        refine Go_blk 2 (pc' := 16) (L' := [(0, .ref p0), (1, .int p1)]) (S' := [.int p1, .ref p0]) (h' := (hh X g I)) rfl ?_
        refine Go_iald rfl fun v3 => ?_
        refine Go_blk 1 (pc' := 21) (L' := [(0, .ref p0), (1, .int p1)]) (S' := [.int v3]) (h' := (hh X g I)) rfl ?_
        exact Go_jmp [] rfl trivial (fun _ h => h)
      ·
        refine Go_blk 1 (pc' := 21) (L' := [(0, .ref p0), (1, .int p1)]) (S' := [.int (0 : Int32)]) (h' := (hh X g I)) rfl ?_
        exact Go_jmp [] rfl trivial (fun _ h => h)
set_option maxRecDepth 1000000 in
set_option maxHeartbeats 4000000 in
theorem g_sta_begin13  {X : XX} {g : GG} {I : MJ} {d : Nat} (hd : 2 ≤ d) : Go d 13 0 (lv_args 0 [.ref 15, .ref 3]) [] (hh X g I) (f_sta_begin13  I) (pV X g) := by
  obtain ⟨d, rfl⟩ : ∃ k, d = k + 1 := ⟨d - 1, by omega⟩
  unfold f_sta_begin13
  refine Go_blk 3 (pc' := 5) (L' := [(0, .ref 15), (1, .ref 3)]) (S' := [.int (0 : Int32), .ref 16]) (h' := (hh X g I)) rfl ?_
  refine Go_cV (y' := 10) (As := [.ref 16, .int (0 : Int32)]) (r := []) rfl (g_x_fill10 16 (0 : Int32) (by omega)) fun I1 => ?_
  refine Go_blk 2 (pc' := 10) (L' := [(2, .int (0 : Int32)), (0, .ref 15), (1, .ref 3)]) (S' := []) (h' := (hh X g I1)) rfl ?_
  refine Go_lcs [(0, .ref 15), (1, .ref 3), (2, .int (0 : Int32))] rfl ⟨rfl, rfl, rfl, trivial⟩ ?_
  refine Go_seq (pcj := 27) (fun (b3 : MJ) => [(0, .ref 15), (1, .ref 3)]) (fun (b3 : MJ) => []) (fun (b3 : MJ) => (hh X g b3)) (fun b3 => ?_) ?_
  ·
    refine Go_blk 2 (pc' := 29) (L' := [(2, .int (0 : Int32)), (0, .ref 15), (1, .ref 3)]) (S' := []) (h' := (hh X g b3)) rfl ?_
    refine Go_lcs [(0, .ref 15), (1, .ref 3), (2, .int (0 : Int32))] rfl ⟨rfl, rfl, rfl, trivial⟩ ?_
    refine Go_seq (pcj := 62) (fun (b5 : MJ) => []) (fun (b5 : MJ) => []) (fun (b5 : MJ) => (hh X g b5)) (fun b5 => ?_) ?_
    ·
      exact Go_ret (fun _ h => h) rfl
    ·
      refine Go_wh (fun (s4 : Int32 × MJ) => [(0, .ref 15), (1, .ref 3), (2, .int s4.1)]) (fun _ => []) (fun (s4 : Int32 × MJ) => (hh X g s4.2)) (fun s4 => ?_) ((0 : Int32), b3)
      refine Go_blk 3 (pc' := 34) (L' := [(0, .ref 15), (1, .ref 3), (2, .int s4.1)]) (S' := [.int (s4.2 3 5), .int s4.1]) (h' := (hh X g s4.2)) rfl ?_
      refine Go_cmpn rfl rfl (ab_cge _ _) ?_ ?_
      ·
        refine Go_blk 8 (pc' := 50) (L' := [(0, .ref 15), (1, .ref 3), (2, .int s4.1)]) (S' := [.int s4.1, .ref 5, .int ((9 : Int32) + s4.1), .ref 16]) (h' := (hh X g s4.2)) rfl ?_
        refine Go_cR (y' := 16) (As := [.ref 5, .int s4.1]) (r := [.int ((9 : Int32) + s4.1), .ref 16]) rfl (g_x_at16 5 s4.1 (by omega)) fun v6 => ?_
        refine Go_cV (y' := 15) (As := [.ref 16, .int ((9 : Int32) + s4.1), .int v6]) (r := []) rfl (g_x_put15 16 ((9 : Int32) + s4.1) v6 (by omega)) fun I7 => ?_
        refine Go_blk 2 (pc' := 29) (L' := [(2, .int (s4.1 + (1 : Int32))), (0, .ref 15), (1, .ref 3)]) (S' := []) (h' := (hh X g I7)) rfl ?_
        exact Go_jmp [(0, .ref 15), (1, .ref 3), (2, .int (s4.1 + (1 : Int32)))] rfl ⟨rfl, rfl, rfl, trivial⟩ (fun _ h => h)
      ·
        exact Go_jmp [] rfl trivial (fun _ h => h)
  ·
    refine Go_wh (fun (s2 : Int32 × MJ) => [(0, .ref 15), (1, .ref 3), (2, .int s2.1)]) (fun _ => []) (fun (s2 : Int32 × MJ) => (hh X g s2.2)) (fun s2 => ?_) ((0 : Int32), I1)
    refine Go_blk 2 (pc' := 13) (L' := [(0, .ref 15), (1, .ref 3), (2, .int s2.1)]) (S' := [.int (6 : Int32), .int s2.1]) (h' := (hh X g s2.2)) rfl ?_
    refine Go_cmpn rfl rfl (ab_cge _ _) ?_ ?_
    ·
      refine Go_blk 2 (pc' := 18) (L' := [(0, .ref 15), (1, .ref 3), (2, .int s2.1)]) (S' := [.int s2.1, .ref 15]) (h' := (hh X g s2.2)) rfl ?_
      refine Go_cV (y' := 14) (As := [.ref 15, .int s2.1]) (r := []) rfl (g_sta_strip14 s2.1 (by omega)) fun I8 => ?_
      refine Go_blk 2 (pc' := 10) (L' := [(2, .int (s2.1 + (1 : Int32))), (0, .ref 15), (1, .ref 3)]) (S' := []) (h' := (hh X g I8)) rfl ?_
      exact Go_jmp [(0, .ref 15), (1, .ref 3), (2, .int (s2.1 + (1 : Int32)))] rfl ⟨rfl, rfl, rfl, trivial⟩ (fun _ h => h)
    ·
      exact Go_jmp [(0, .ref 15), (1, .ref 3)] rfl ⟨rfl, rfl, trivial⟩ (fun _ h => h)
set_option maxRecDepth 1000000 in
set_option maxHeartbeats 4000000 in
theorem g_pat_forget61  {X : XX} {g : GG} {I : MJ} {d : Nat} (hd : 0 ≤ d) : Go d 61 0 (lv_args 0 [.ref 19]) [] (hh X g I) (f_pat_forget61  I) (pV X g) := by
  unfold f_pat_forget61
  refine Go_blk 3 (pc' := 5) (L' := [(0, .ref 19)]) (S' := []) (h' := (hh X g (ab_up1 I 19 3 (0 : Int32)))) rfl ?_
  exact Go_ret (fun _ h => h) rfl
set_option maxRecDepth 1000000 in
set_option maxHeartbeats 4000000 in
theorem g_mot_forget62  {X : XX} {g : GG} {I : MJ} {d : Nat} (hd : 0 ≤ d) : Go d 62 0 (lv_args 0 [.ref 23]) [] (hh X g I) (f_mot_forget62  I) (pV X g) := by
  unfold f_mot_forget62
  refine Go_blk 3 (pc' := 5) (L' := [(0, .ref 23)]) (S' := []) (h' := (hh X g (ab_up1 I 23 4 (0 : Int32)))) rfl ?_
  exact Go_ret (fun _ h => h) rfl
set_option maxRecDepth 1000000 in
set_option maxHeartbeats 4000000 in
theorem g_boo_forget63  {X : XX} {g : GG} {I : MJ} {d : Nat} (hd : 1 ≤ d) : Go d 63 0 (lv_args 0 [.ref 35]) [] (hh X g I) (f_boo_forget63  I) (pV X g) := by
  obtain ⟨d, rfl⟩ : ∃ k, d = k + 1 := ⟨d - 1, by omega⟩
  unfold f_boo_forget63
  refine Go_blk 6 (pc' := 10) (L' := [(0, .ref 35)]) (S' := [.int (-1 : Int32), .ref 36]) (h' := (hh X g (ab_up1 I 35 3 (0 : Int32)))) rfl ?_
  refine Go_cV (y' := 10) (As := [.ref 36, .int (-1 : Int32)]) (r := []) rfl (g_x_fill10 36 (-1 : Int32) (by omega)) fun I1 => ?_
  exact Go_ret (fun _ h => h) rfl
set_option maxRecDepth 1000000 in
set_option maxHeartbeats 4000000 in
theorem g_pas_forget64  {X : XX} {g : GG} {I : MJ} {d : Nat} (hd : 0 ≤ d) : Go d 64 0 (lv_args 0 [.ref 31]) [] (hh X g I) (f_pas_forget64  I) (pV X g) := by
  unfold f_pas_forget64
  refine Go_blk 6 (pc' := 10) (L' := [(0, .ref 31)]) (S' := []) (h' := (hh X g (ab_up1 (ab_up1 I 31 3 (0 : Int32)) 31 4 (0 : Int32)))) rfl ?_
  exact Go_ret (fun _ h => h) rfl
set_option maxRecDepth 1000000 in
set_option maxHeartbeats 4000000 in
theorem g_tap_close65 (p1 : Int32) {X : XX} {g : GG} {I : MJ} {d : Nat} (hd : 0 ≤ d) : Go d 65 0 (lv_args 0 [.ref 1, .int p1]) [] (hh X g I) (f_tap_close65 p1 I) (pW X g) := by
  unfold f_tap_close65
  refine Go_blk 5 (pc' := 9) (L' := [(0, .ref 1), (1, .int p1)]) (S' := [.int (I 1 5)]) (h' := (hh X g (ab_up1 I 1 1 (0 : Int32)))) rfl ?_
  refine Go_seq (pcj := 23) (fun (b1 : Int32) => []) (fun (b1 : Int32) => [.int b1]) (fun (b1 : Int32) => (hh X g (ab_up1 I 1 1 (0 : Int32)))) (fun b1 => ?_) ?_
  ·
    exact Go_ret (fun _ h => h) rfl
  ·
    refine Go_cmzn rfl rfl rfl ?_ ?_
    ·
      refine Go_blk 2 (pc' := 23) (L' := [(0, .ref 1), (1, .int p1)]) (S' := [.int p1]) (h' := (hh X g (ab_up1 I 1 1 (0 : Int32)))) rfl ?_
      exact Go_jmp [] rfl trivial (fun _ h => h)
    ·
      refine Go_blk 4 (pc' := 23) (L' := [(0, .ref 1), (1, .int p1)]) (S' := [.int ((I 1 5) - (10 : Int32))]) (h' := (hh X g (ab_up1 I 1 1 (0 : Int32)))) rfl ?_
      exact Go_jmp [] rfl trivial (fun _ h => h)
set_option maxRecDepth 1000000 in
set_option maxHeartbeats 4000000 in
theorem g_x_shop36 (p1 : Int32) {X : XX} {g : GG} {I : MJ} {d : Nat} (hd : 6 ≤ d) : Go d 36 0 (lv_args 0 [.ref 0, .int p1]) [] (hh X g I) (f_x_shop36 p1 I) (pT vI X g) := by
  obtain ⟨d, rfl⟩ : ∃ k, d = k + 1 := ⟨d - 1, by omega⟩
  unfold f_x_shop36
  refine Go_blk 3 (pc' := 5) (L' := [(0, .ref 0), (1, .int p1)]) (S' := [.int (600 : Int32), .int p1, .ref 0]) (h' := (hh X g I)) rfl ?_
  refine Go_cT (y' := 37) (As := [.ref 0, .int p1, .int (600 : Int32)]) (r := []) rfl rfl (g_x_needText37 p1 (600 : Int32) (by omega)) fun v1 I2 => ?_
  refine Go_blk 3 (pc' := 13) (L' := [(0, .ref 0), (1, .int p1)]) (S' := [.int p1, .ref 1]) (h' := (hh X g I2)) rfl ?_
  refine Go_cV (y' := 40) (As := [.ref 1, .int p1]) (r := []) rfl (g_tap_open40 p1 (by omega)) fun I3 => ?_
  refine Go_blk 4 (pc' := 24) (L' := [(0, .ref 0), (1, .int p1)]) (S' := [.ref 1, .ref 9]) (h' := (hh X g I3)) rfl ?_
  refine Go_cV (y' := 41) (As := [.ref 9, .ref 1]) (r := []) rfl (g_sho_readFrom41  (by omega)) fun I4 => ?_
  refine Go_blk 2 (pc' := 31) (L' := [(0, .ref 0), (1, .int p1)]) (S' := [.ref 1]) (h' := (hh X g I4)) rfl ?_
  refine Go_cR (y' := 59) (As := [.ref 1]) (r := []) rfl (g_tap_isSound59  (by omega)) fun v5 => ?_
  refine Go_seq (pcj := 92) (fun (b6 : MJ) => [(0, .ref 0)]) (fun (b6 : MJ) => []) (fun (b6 : MJ) => (hh X g b6)) (fun b6 => ?_) ?_
  ·
    refine Go_blk 5 (pc' := 103) (L' := [(0, .ref 0)]) (S' := [.int (b6 3 6), .ref 1]) (h' := (hh X g b6)) rfl ?_
    refine Go_cW (y' := 65) (As := [.ref 1, .int (b6 3 6)]) (r := []) rfl (g_tap_close65 (b6 3 6) (by omega)) fun w7 => ?_
    exact Go_ret (fun _ h => h) rfl
  ·
    refine Go_cmz rfl rfl rfl ?_ ?_
    ·
      exact Go_jmp [(0, .ref 0)] rfl ⟨rfl, trivial⟩ (fun _ h => h)
    ·
      refine Go_blk 4 (pc' := 45) (L' := [(0, .ref 0), (1, .int p1)]) (S' := [.ref 9, .ref 3]) (h' := (hh X g I4)) rfl ?_
      refine Go_cV (y' := 60) (As := [.ref 3, .ref 9]) (r := []) rfl (g_sho_copyFrom60  (by omega)) fun I8 => ?_
      refine Go_blk 4 (pc' := 56) (L' := [(0, .ref 0), (1, .int p1)]) (S' := [.ref 3, .ref 15]) (h' := (hh X g I8)) rfl ?_
      refine Go_cV (y' := 13) (As := [.ref 15, .ref 3]) (r := []) rfl (g_sta_begin13  (by omega)) fun I9 => ?_
      refine Go_blk 2 (pc' := 63) (L' := [(0, .ref 0), (1, .int p1)]) (S' := [.ref 19]) (h' := (hh X g I9)) rfl ?_
      refine Go_cV (y' := 61) (As := [.ref 19]) (r := []) rfl (g_pat_forget61  (by omega)) fun I10 => ?_
      refine Go_blk 2 (pc' := 70) (L' := [(0, .ref 0), (1, .int p1)]) (S' := [.ref 23]) (h' := (hh X g I10)) rfl ?_
      refine Go_cV (y' := 62) (As := [.ref 23]) (r := []) rfl (g_mot_forget62  (by omega)) fun I11 => ?_
      refine Go_blk 2 (pc' := 77) (L' := [(0, .ref 0), (1, .int p1)]) (S' := [.ref 35]) (h' := (hh X g I11)) rfl ?_
      refine Go_cV (y' := 63) (As := [.ref 35]) (r := []) rfl (g_boo_forget63  (by omega)) fun I12 => ?_
      refine Go_blk 2 (pc' := 84) (L' := [(0, .ref 0), (1, .int p1)]) (S' := [.ref 31]) (h' := (hh X g I12)) rfl ?_
      refine Go_cV (y' := 64) (As := [.ref 31]) (r := []) rfl (g_pas_forget64  (by omega)) fun I13 => ?_
      refine Go_blk 3 (pc' := 92) (L' := [(0, .ref 0), (1, .int p1)]) (S' := []) (h' := (hh X g (ab_up1 I13 0 13 (0 : Int32)))) rfl ?_
      exact Go_jmp [(0, .ref 0)] rfl ⟨rfl, trivial⟩ (fun _ h => h)
set_option maxRecDepth 1000000 in
set_option maxHeartbeats 4000000 in
theorem g_l_shop35 (p1 : Int32) {X : XX} {g : GG} {I : MJ} {d : Nat} (hd : 7 ≤ d) : Go d 35 0 (lv_args 0 [.ref 0, .int p1, .ref 698]) [] (hh X g I) (f_l_shop35 p1 I g) (pG X) := by
  obtain ⟨d, rfl⟩ : ∃ k, d = k + 1 := ⟨d - 1, by omega⟩
  unfold f_l_shop35
  refine Go_blk 4 (pc' := 4) (L' := [(0, .ref 0), (1, .int p1), (2, .ref 698)]) (S' := [.int p1, .ref 0, .int (0 : Int32), .ref 698]) (h' := (hh X g I)) rfl ?_
  refine Go_try (y' := 36) (As := [.ref 0, .int p1]) (r := [.int (0 : Int32), .ref 698]) rfl (g_x_shop36 p1 (by omega)) (fun v1 I2 => ?_) (fun E2 I2 => ?_)
  ·
    refine Go_blk 1 (pc' := 8) (L' := [(0, .ref 0), (1, .int p1), (2, .ref 698)]) (S' := [.long (v1.toInt64), .int (0 : Int32), .ref 698]) (h' := (hh X g I2)) rfl ?_
    refine Go_last rfl fun g3 => ?_
    refine Go_blk 2 (pc' := 16) (L' := [(0, .ref 0), (1, .int p1), (2, .ref 698)]) (S' := [.int (0 : Int32)]) (h' := (hh X g3 I2)) rfl ?_
    exact Go_ret (fun _ h => h) rfl
  ·
    refine GX_ite ?_ ?_
    ·
      refine GX_go rfl (t := 13) (k := 3) rfl ?_
      refine Go_blk 1 (pc' := 14) (L' := [(0, .ref 0), (1, .int p1), (2, .ref 698)]) (S' := [.int (1 : Int32)]) (h' := (hh X (thr g) I2)) rfl ?_
      exact Go_ret (fun _ h => h) rfl
    exact GX_none
