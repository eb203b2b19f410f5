/-! the machine runs them (written by wip/whole/dec.py) -/
set_option maxRecDepth 1000000 in
set_option maxHeartbeats 4000000 in
theorem G_mot_readNamed89 (r : Int32 → MJ → Option (MJ)) (dr : Nat) (hM : 2 ≤ dr) (hr : ∀ (p2 : Int32) (X : XX) (g : GG) (I : MJ), Go dr 83 0 (lv_args 0 [.ref 23, .ref 1, .int p2]) [] (hh X g I) (r p2 I) (pV X g)) (p2 : Int32) (p3 : Int32) {X : XX} {g : GG} {I : MJ} {d : Nat} (hd : dr + 2 ≤ d) : Go d 89 0 (lv_args 0 [.ref 23, .ref 1, .int p2, .int p3]) [] (hh X g I) (F_mot_readNamed89 r p2 p3 I) (pV X g) := by
  obtain ⟨d, rfl⟩ : ∃ k, d = k + 1 := ⟨d - 1, by omega⟩
  unfold F_mot_readNamed89
  refine Go_blk 2 (pc' := 3) (L' := [(0, .ref 23), (1, .ref 1), (2, .int p2), (3, .int p3)]) (S' := [.int (-7 : Int32), .int p3]) (h' := (hh X g I)) rfl ?_
  refine Go_seq (pcj := 48) (fun (b1 : MJ) => [(0, .ref 23), (3, .int p3)]) (fun (b1 : MJ) => []) (fun (b1 : MJ) => (hh X g b1)) (fun b1 => ?_) ?_
  ·
    refine Go_blk 2 (pc' := 50) (L' := [(0, .ref 23), (3, .int p3)]) (S' := [.int p3, .ref 23]) (h' := (hh X g b1)) rfl ?_
    refine Go_cV (y' := 86) (As := [.ref 23, .int p3]) (r := []) rfl (g_mot_write86 p3 (by omega)) fun I2 => ?_
    exact Go_ret (fun _ h => h) rfl
  ·
    refine Go_cmp rfl rfl rfl ?_ ?_
    ·
      refine Go_blk 3 (pc' := 15) (L' := [(0, .ref 23), (1, .ref 1), (2, .int p2), (3, .int p3)]) (S' := [.int p2, .ref 1, .ref 23]) (h' := (hh X g I)) rfl ?_
      refine Go_cV (y' := 87) (As := [.ref 23, .ref 1, .int p2]) (r := []) rfl (g_mot_needRoom87 p2 (by omega)) fun I3 => ?_
      refine Go_blk 2 (pc' := 21) (L' := [(0, .ref 23), (1, .ref 1), (2, .int p2), (3, .int p3)]) (S' := [.int (91 : Int32), .ref 1]) (h' := (hh X g I3)) rfl ?_
      refine Go_cV (y' := 58) (As := [.ref 1, .int (91 : Int32)]) (r := []) rfl (g_tap_sign58 (91 : Int32) (by omega)) fun I4 => ?_
      refine Go_blk 3 (pc' := 27) (L' := [(0, .ref 23), (1, .ref 1), (2, .int p2), (3, .int p3)]) (S' := [.int p2, .ref 1, .ref 23]) (h' := (hh X g I4)) rfl ?_
      refine Go_cV (y' := 88) (As := [.ref 23, .ref 1, .int p2]) (r := []) rfl (G_mot_readInside88 r dr hM hr p2 (by omega)) fun I5 => ?_
      refine Go_blk 2 (pc' := 33) (L' := [(0, .ref 23), (1, .ref 1), (2, .int p2), (3, .int p3)]) (S' := [.int (44 : Int32), .ref 1]) (h' := (hh X g I5)) rfl ?_
      refine Go_cV (y' := 58) (As := [.ref 1, .int (44 : Int32)]) (r := []) rfl (g_tap_sign58 (44 : Int32) (by omega)) fun I6 => ?_
      refine Go_blk 3 (pc' := 39) (L' := [(0, .ref 23), (1, .ref 1), (2, .int p2), (3, .int p3)]) (S' := [.int p2, .ref 1, .ref 23]) (h' := (hh X g I6)) rfl ?_
      refine Go_cV (y' := 88) (As := [.ref 23, .ref 1, .int p2]) (r := []) rfl (G_mot_readInside88 r dr hM hr p2 (by omega)) fun I7 => ?_
      refine Go_blk 2 (pc' := 45) (L' := [(0, .ref 23), (1, .ref 1), (2, .int p2), (3, .int p3)]) (S' := [.int (93 : Int32), .ref 1]) (h' := (hh X g I7)) rfl ?_
      refine Go_cV (y' := 58) (As := [.ref 1, .int (93 : Int32)]) (r := []) rfl (g_tap_sign58 (93 : Int32) (by omega)) fun I8 => ?_
      exact Go_jmp [(0, .ref 23), (3, .int p3)] rfl ⟨rfl, rfl, trivial⟩ (fun _ h => h)
    ·
      refine Go_blk 2 (pc' := 9) (L' := [(0, .ref 23), (1, .ref 1), (2, .int p2), (3, .int p3)]) (S' := [.int (-8 : Int32), .int p3]) (h' := (hh X g I)) rfl ?_
      refine Go_cmpn rfl rfl rfl ?_ ?_
      ·
        refine Go_blk 3 (pc' := 15) (L' := [(0, .ref 23), (1, .ref 1), (2, .int p2), (3, .int p3)]) (S' := [.int p2, .ref 1, .ref 23]) (h' := (hh X g I)) rfl ?_
        refine Go_cV (y' := 87) (As := [.ref 23, .ref 1, .int p2]) (r := []) rfl (g_mot_needRoom87 p2 (by omega)) fun I9 => ?_
        refine Go_blk 2 (pc' := 21) (L' := [(0, .ref 23), (1, .ref 1), (2, .int p2), (3, .int p3)]) (S' := [.int (91 : Int32), .ref 1]) (h' := (hh X g I9)) rfl ?_
        refine Go_cV (y' := 58) (As := [.ref 1, .int (91 : Int32)]) (r := []) rfl (g_tap_sign58 (91 : Int32) (by omega)) fun I10 => ?_
        refine Go_blk 3 (pc' := 27) (L' := [(0, .ref 23), (1, .ref 1), (2, .int p2), (3, .int p3)]) (S' := [.int p2, .ref 1, .ref 23]) (h' := (hh X g I10)) rfl ?_
        refine Go_cV (y' := 88) (As := [.ref 23, .ref 1, .int p2]) (r := []) rfl (G_mot_readInside88 r dr hM hr p2 (by omega)) fun I11 => ?_
        refine Go_blk 2 (pc' := 33) (L' := [(0, .ref 23), (1, .ref 1), (2, .int p2), (3, .int p3)]) (S' := [.int (44 : Int32), .ref 1]) (h' := (hh X g I11)) rfl ?_
        refine Go_cV (y' := 58) (As := [.ref 1, .int (44 : Int32)]) (r := []) rfl (g_tap_sign58 (44 : Int32) (by omega)) fun I12 => ?_
        refine Go_blk 3 (pc' := 39) (L' := [(0, .ref 23), (1, .ref 1), (2, .int p2), (3, .int p3)]) (S' := [.int p2, .ref 1, .ref 23]) (h' := (hh X g I12)) rfl ?_
        refine Go_cV (y' := 88) (As := [.ref 23, .ref 1, .int p2]) (r := []) rfl (G_mot_readInside88 r dr hM hr p2 (by omega)) fun I13 => ?_
        refine Go_blk 2 (pc' := 45) (L' := [(0, .ref 23), (1, .ref 1), (2, .int p2), (3, .int p3)]) (S' := [.int (93 : Int32), .ref 1]) (h' := (hh X g I13)) rfl ?_
        refine Go_cV (y' := 58) (As := [.ref 1, .int (93 : Int32)]) (r := []) rfl (g_tap_sign58 (93 : Int32) (by omega)) fun I14 => ?_
        exact Go_jmp [(0, .ref 23), (3, .int p3)] rfl ⟨rfl, rfl, trivial⟩ (fun _ h => h)
      ·
        exact Go_jmp [(0, .ref 23), (3, .int p3)] rfl ⟨rfl, rfl, trivial⟩ (fun _ h => h)
set_option maxRecDepth 1000000 in
set_option maxHeartbeats 4000000 in
theorem G_mot_readUnit85 (r : Int32 → MJ → Option (MJ)) (dr : Nat) (hM : 2 ≤ dr) (hr : ∀ (p2 : Int32) (X : XX) (g : GG) (I : MJ), Go dr 83 0 (lv_args 0 [.ref 23, .ref 1, .int p2]) [] (hh X g I) (r p2 I) (pV X g)) (p2 : Int32) {X : XX} {g : GG} {I : MJ} {d : Nat} (hd : dr + 3 ≤ d) : Go d 85 0 (lv_args 0 [.ref 23, .ref 1, .int p2]) [] (hh X g I) (F_mot_readUnit85 r p2 I) (pV X g) := by
  obtain ⟨d, rfl⟩ : ∃ k, d = k + 1 := ⟨d - 1, by omega⟩
  unfold F_mot_readUnit85
  refine Go_blk 1 (pc' := 1) (L' := [(0, .ref 23), (1, .ref 1), (2, .int p2)]) (S' := [.ref 1]) (h' := (hh X g I)) rfl ?_
  refine Go_cW (y' := 74) (As := [.ref 1]) (r := []) rfl (g_tap_isNumberNext74  (by omega)) fun w1 => ?_
  refine Go_seq (pcj := 72) (fun (b2 : MJ) => []) (fun (b2 : MJ) => []) (fun (b2 : MJ) => (hh X g b2)) (fun b2 => ?_) ?_
  ·
    exact Go_ret (fun _ h => h) rfl
  ·
    refine Go_cmz rfl rfl rfl ?_ ?_
    ·
      refine Go_blk 2 (pc' := 25) (L' := [(0, .ref 23), (1, .ref 1), (2, .int p2)]) (S' := [.int (40 : Int32), .ref 1]) (h' := (hh X g w1.2)) rfl ?_
      refine Go_cW (y' := 73) (As := [.ref 1, .int (40 : Int32)]) (r := []) rfl (g_tap_isNext73 (40 : Int32) (by omega)) fun w3 => ?_
      refine Go_cmz rfl rfl rfl ?_ ?_
      ·
        refine Go_blk 6 (pc' := 65) (L' := [(0, .ref 23), (1, .ref 1), (2, .int p2)]) (S' := [.ref 2000004, .ref 1, .int (-1 : Int32), .int p2, .ref 1, .ref 23]) (h' := (hh X g w3.2)) rfl ?_
        refine Go_cW (y' := 45) (As := [.ref 1, .ref 2000004]) (r := [.int (-1 : Int32), .int p2, .ref 1, .ref 23]) rfl (g_tap_word45 2000004 (by omega)) fun w4 => ?_
        refine Go_blk 1 (pc' := 69) (L' := [(0, .ref 23), (1, .ref 1), (2, .int p2)]) (S' := [.int ((-1 : Int32) - w4.1), .int p2, .ref 1, .ref 23]) (h' := (hh X g w4.2)) rfl ?_
        refine Go_cV (y' := 89) (As := [.ref 23, .ref 1, .int p2, .int ((-1 : Int32) - w4.1)]) (r := []) rfl (G_mot_readNamed89 r dr hM hr p2 ((-1 : Int32) - w4.1) (by omega)) fun I5 => ?_
        exact Go_jmp [] rfl trivial (fun _ h => h)
      ·
        refine Go_blk 2 (pc' := 34) (L' := [(0, .ref 23), (1, .ref 1), (2, .int p2)]) (S' := [.int (40 : Int32), .ref 1]) (h' := (hh X g w3.2)) rfl ?_
        refine Go_cV (y' := 58) (As := [.ref 1, .int (40 : Int32)]) (r := []) rfl (g_tap_sign58 (40 : Int32) (by omega)) fun I6 => ?_
        refine Go_blk 3 (pc' := 40) (L' := [(0, .ref 23), (1, .ref 1), (2, .int p2)]) (S' := [.int p2, .ref 1, .ref 23]) (h' := (hh X g I6)) rfl ?_
        refine Go_cV (y' := 87) (As := [.ref 23, .ref 1, .int p2]) (r := []) rfl (g_mot_needRoom87 p2 (by omega)) fun I7 => ?_
        refine Go_blk 3 (pc' := 46) (L' := [(0, .ref 23), (1, .ref 1), (2, .int p2)]) (S' := [.int p2, .ref 1, .ref 23]) (h' := (hh X g I7)) rfl ?_
        refine Go_cV (y' := 88) (As := [.ref 23, .ref 1, .int p2]) (r := []) rfl (G_mot_readInside88 r dr hM hr p2 (by omega)) fun I8 => ?_
        refine Go_blk 2 (pc' := 52) (L' := [(0, .ref 23), (1, .ref 1), (2, .int p2)]) (S' := [.int (41 : Int32), .ref 1]) (h' := (hh X g I8)) rfl ?_
        refine Go_cV (y' := 58) (As := [.ref 1, .int (41 : Int32)]) (r := []) rfl (g_tap_sign58 (41 : Int32) (by omega)) fun I9 => ?_
        refine Go_blk 1 (pc' := 72) (L' := [(0, .ref 23), (1, .ref 1), (2, .int p2)]) (S' := []) (h' := (hh X g I9)) rfl ?_
        exact Go_jmp [] rfl trivial (fun _ h => h)
    ·
      refine Go_blk 4 (pc' := 13) (L' := [(0, .ref 23), (1, .ref 1), (2, .int p2)]) (S' := [.int (999 : Int32), .int (0 : Int32), .ref 1, .ref 23]) (h' := (hh X g w1.2)) rfl ?_
      refine Go_cW (y' := 53) (As := [.ref 1, .int (0 : Int32), .int (999 : Int32)]) (r := [.ref 23]) rfl (g_tap_number53 (0 : Int32) (999 : Int32) (by omega)) fun w10 => ?_
      refine Go_cV (y' := 86) (As := [.ref 23, .int w10.1]) (r := []) rfl (g_mot_write86 w10.1 (by omega)) fun I11 => ?_
      refine Go_blk 1 (pc' := 72) (L' := [(0, .ref 23), (1, .ref 1), (2, .int p2)]) (S' := []) (h' := (hh X g I11)) rfl ?_
      exact Go_jmp [] rfl trivial (fun _ h => h)
set_option maxRecDepth 1000000 in
set_option maxHeartbeats 4000000 in
theorem G_mot_readProduct84 (r : Int32 → MJ → Option (MJ)) (dr : Nat) (hM : 2 ≤ dr) (hr : ∀ (p2 : Int32) (X : XX) (g : GG) (I : MJ), Go dr 83 0 (lv_args 0 [.ref 23, .ref 1, .int p2]) [] (hh X g I) (r p2 I) (pV X g)) (p2 : Int32) {X : XX} {g : GG} {I : MJ} {d : Nat} (hd : dr + 4 ≤ d) : Go d 84 0 (lv_args 0 [.ref 23, .ref 1, .int p2]) [] (hh X g I) (F_mot_readProduct84 r p2 I) (pV X g) := by
  obtain ⟨d, rfl⟩ : ∃ k, d = k + 1 := ⟨d - 1, by omega⟩
  unfold F_mot_readProduct84
  refine Go_blk 3 (pc' := 3) (L' := [(0, .ref 23), (1, .ref 1), (2, .int p2)]) (S' := [.int p2, .ref 1, .ref 23]) (h' := (hh X g I)) rfl ?_
  refine Go_cV (y' := 85) (As := [.ref 23, .ref 1, .int p2]) (r := []) rfl (G_mot_readUnit85 r dr hM hr p2 (by omega)) fun I1 => ?_
  refine Go_blk 2 (pc' := 8) (L' := [(3, .int (0 : Int32)), (0, .ref 23), (1, .ref 1), (2, .int p2)]) (S' := []) (h' := (hh X g I1)) rfl ?_
  refine Go_lcs [(0, .ref 23), (1, .ref 1), (2, .int p2), (3, .int (0 : Int32))] rfl ⟨rfl, rfl, rfl, rfl, trivial⟩ ?_
  refine Go_seq (pcj := 122) (fun (b3 : MJ) => []) (fun (b3 : MJ) => []) (fun (b3 : MJ) => (hh X g b3)) (fun b3 => ?_) ?_
  ·
    exact Go_ret (fun _ h => h) rfl
  ·
    refine Go_wh (fun (s2 : Int32 × MJ) => [(0, .ref 23), (1, .ref 1), (2, .int p2), (3, .int s2.1)]) (fun _ => []) (fun (s2 : Int32 × MJ) => (hh X g s2.2)) (fun s2 => ?_) ((0 : Int32), I1)
    refine Go_blk 2 (pc' := 12) (L' := [(0, .ref 23), (1, .ref 1), (2, .int p2), (3, .int s2.1)]) (S' := [.int (150 : Int32), .int s2.1]) (h' := (hh X g s2.2)) rfl ?_
    refine Go_cmpn rfl rfl (ab_cge _ _) ?_ ?_
    ·
      refine Go_blk 2 (pc' := 18) (L' := [(0, .ref 23), (1, .ref 1), (2, .int p2), (3, .int s2.1)]) (S' := [.int (42 : Int32), .ref 1]) (h' := (hh X g s2.2)) rfl ?_
      refine Go_cW (y' := 73) (As := [.ref 1, .int (42 : Int32)]) (r := []) rfl (g_tap_isNext73 (42 : Int32) (by omega)) fun w4 => ?_
      refine Go_cmzn rfl rfl rfl ?_ ?_
      ·
        refine Go_blk 2 (pc' := 27) (L' := [(0, .ref 23), (1, .ref 1), (2, .int p2), (3, .int s2.1)]) (S' := [.int (47 : Int32), .ref 1]) (h' := (hh X g w4.2)) rfl ?_
        refine Go_cW (y' := 73) (As := [.ref 1, .int (47 : Int32)]) (r := []) rfl (g_tap_isNext73 (47 : Int32) (by omega)) fun w5 => ?_
        refine Go_cmzn rfl rfl rfl ?_ ?_
        ·
          refine Go_blk 2 (pc' := 36) (L' := [(0, .ref 23), (1, .ref 1), (2, .int p2), (3, .int s2.1)]) (S' := [.int (37 : Int32), .ref 1]) (h' := (hh X g w5.2)) rfl ?_
          refine Go_cW (y' := 73) (As := [.ref 1, .int (37 : Int32)]) (r := []) rfl (g_tap_isNext73 (37 : Int32) (by omega)) fun w6 => ?_
          refine Go_cmz rfl rfl rfl ?_ ?_
          ·
            exact Go_jmp [] rfl trivial (fun _ h => h)
          ·
            refine Go_blk 2 (pc' := 45) (L' := [(0, .ref 23), (1, .ref 1), (2, .int p2), (3, .int s2.1)]) (S' := [.int (42 : Int32), .ref 1]) (h' := (hh X g w6.2)) rfl ?_
            refine Go_cW (y' := 73) (As := [.ref 1, .int (42 : Int32)]) (r := []) rfl (g_tap_isNext73 (42 : Int32) (by omega)) fun w7 => ?_
            refine Go_seq (pcj := 72) (fun (b8 : Int32 × MJ) => [(0, .ref 23), (1, .ref 1), (2, .int p2), (3, .int s2.1)]) (fun (b8 : Int32 × MJ) => [.int b8.1]) (fun (b8 : Int32 × MJ) => (hh X g b8.2)) (fun b8 => ?_) ?_
            ·
              refine Go_blk 3 (pc' := 77) (L' := [(4, .int b8.1), (0, .ref 23), (1, .ref 1), (2, .int p2), (3, .int s2.1)]) (S' := [.int b8.1, .ref 1]) (h' := (hh X g b8.2)) rfl ?_
              refine Go_cV (y' := 58) (As := [.ref 1, .int b8.1]) (r := []) rfl (g_tap_sign58 b8.1 (by omega)) fun I9 => ?_
              refine Go_blk 3 (pc' := 83) (L' := [(4, .int b8.1), (0, .ref 23), (1, .ref 1), (2, .int p2), (3, .int s2.1)]) (S' := [.int p2, .ref 1, .ref 23]) (h' := (hh X g I9)) rfl ?_
              refine Go_cV (y' := 85) (As := [.ref 23, .ref 1, .int p2]) (r := []) rfl (G_mot_readUnit85 r dr hM hr p2 (by omega)) fun I10 => ?_
              refine Go_blk 3 (pc' := 91) (L' := [(4, .int b8.1), (0, .ref 23), (1, .ref 1), (2, .int p2), (3, .int s2.1)]) (S' := [.int (42 : Int32), .int b8.1, .ref 23]) (h' := (hh X g I10)) rfl ?_
              refine Go_seq (pcj := 113) (fun (b11 : Int32) => [(0, .ref 23), (1, .ref 1), (2, .int p2), (3, .int s2.1)]) (fun (b11 : Int32) => [.int b11, .ref 23]) (fun (b11 : Int32) => (hh X g I10)) (fun b11 => ?_) ?_
              ·
                refine Go_cV (y' := 86) (As := [.ref 23, .int b11]) (r := []) rfl (g_mot_write86 b11 (by omega)) fun I12 => ?_
                refine Go_blk 2 (pc' := 8) (L' := [(3, .int (s2.1 + (1 : Int32))), (0, .ref 23), (1, .ref 1), (2, .int p2)]) (S' := []) (h' := (hh X g I12)) rfl ?_
                exact Go_jmp [(0, .ref 23), (1, .ref 1), (2, .int p2), (3, .int (s2.1 + (1 : Int32)))] rfl ⟨rfl, rfl, rfl, rfl, trivial⟩ (fun _ h => h)
              ·
                refine Go_cmpn rfl rfl rfl ?_ ?_
                ·
                  refine Go_blk 2 (pc' := 113) (L' := [(4, .int b8.1), (0, .ref 23), (1, .ref 1), (2, .int p2), (3, .int s2.1)]) (S' := [.int (-11 : Int32), .ref 23]) (h' := (hh X g I10)) rfl ?_
                  exact Go_jmp [(0, .ref 23), (1, .ref 1), (2, .int p2), (3, .int s2.1)] rfl ⟨rfl, rfl, rfl, rfl, trivial⟩ (fun _ h => h)
                ·
                  refine Go_blk 2 (pc' := 103) (L' := [(4, .int b8.1), (0, .ref 23), (1, .ref 1), (2, .int p2), (3, .int s2.1)]) (S' := [.int (47 : Int32), .int b8.1, .ref 23]) (h' := (hh X g I10)) rfl ?_
                  refine Go_cmpn rfl rfl rfl ?_ ?_
                  ·
                    refine Go_blk 2 (pc' := 113) (L' := [(4, .int b8.1), (0, .ref 23), (1, .ref 1), (2, .int p2), (3, .int s2.1)]) (S' := [.int (-12 : Int32), .ref 23]) (h' := (hh X g I10)) rfl ?_
                    exact Go_jmp [(0, .ref 23), (1, .ref 1), (2, .int p2), (3, .int s2.1)] rfl ⟨rfl, rfl, rfl, rfl, trivial⟩ (fun _ h => h)
                  ·
                    refine Go_blk 1 (pc' := 113) (L' := [(4, .int b8.1), (0, .ref 23), (1, .ref 1), (2, .int p2), (3, .int s2.1)]) (S' := [.int (-13 : Int32), .ref 23]) (h' := (hh X g I10)) rfl ?_
                    exact Go_jmp [(0, .ref 23), (1, .ref 1), (2, .int p2), (3, .int s2.1)] rfl ⟨rfl, rfl, rfl, rfl, trivial⟩ (fun _ h => h)
            ·
              refine Go_cmz rfl rfl rfl ?_ ?_
              ·
                refine Go_blk 2 (pc' := 59) (L' := [(0, .ref 23), (1, .ref 1), (2, .int p2), (3, .int s2.1)]) (S' := [.int (47 : Int32), .ref 1]) (h' := (hh X g w7.2)) rfl ?_
                refine Go_cW (y' := 73) (As := [.ref 1, .int (47 : Int32)]) (r := []) rfl (g_tap_isNext73 (47 : Int32) (by omega)) fun w13 => ?_
                refine Go_cmz rfl rfl rfl ?_ ?_
                ·
                  refine Go_blk 1 (pc' := 72) (L' := [(0, .ref 23), (1, .ref 1), (2, .int p2), (3, .int s2.1)]) (S' := [.int (37 : Int32)]) (h' := (hh X g w13.2)) rfl ?_
                  exact Go_jmp [(0, .ref 23), (1, .ref 1), (2, .int p2), (3, .int s2.1)] rfl ⟨rfl, rfl, rfl, rfl, trivial⟩ (fun _ h => h)
                ·
                  refine Go_blk 2 (pc' := 72) (L' := [(0, .ref 23), (1, .ref 1), (2, .int p2), (3, .int s2.1)]) (S' := [.int (47 : Int32)]) (h' := (hh X g w13.2)) rfl ?_
                  exact Go_jmp [(0, .ref 23), (1, .ref 1), (2, .int p2), (3, .int s2.1)] rfl ⟨rfl, rfl, rfl, rfl, trivial⟩ (fun _ h => h)
              ·
                refine Go_blk 2 (pc' := 72) (L' := [(0, .ref 23), (1, .ref 1), (2, .int p2), (3, .int s2.1)]) (S' := [.int (42 : Int32)]) (h' := (hh X g w7.2)) rfl ?_
                exact Go_jmp [(0, .ref 23), (1, .ref 1), (2, .int p2), (3, .int s2.1)] rfl ⟨rfl, rfl, rfl, rfl, trivial⟩ (fun _ h => h)
        ·
          refine Go_blk 2 (pc' := 45) (L' := [(0, .ref 23), (1, .ref 1), (2, .int p2), (3, .int s2.1)]) (S' := [.int (42 : Int32), .ref 1]) (h' := (hh X g w5.2)) rfl ?_
          refine Go_cW (y' := 73) (As := [.ref 1, .int (42 : Int32)]) (r := []) rfl (g_tap_isNext73 (42 : Int32) (by omega)) fun w14 => ?_
          refine Go_seq (pcj := 72) (fun (b15 : Int32 × MJ) => [(0, .ref 23), (1, .ref 1), (2, .int p2), (3, .int s2.1)]) (fun (b15 : Int32 × MJ) => [.int b15.1]) (fun (b15 : Int32 × MJ) => (hh X g b15.2)) (fun b15 => ?_) ?_
          ·
            refine Go_blk 3 (pc' := 77) (L' := [(4, .int b15.1), (0, .ref 23), (1, .ref 1), (2, .int p2), (3, .int s2.1)]) (S' := [.int b15.1, .ref 1]) (h' := (hh X g b15.2)) rfl ?_
            refine Go_cV (y' := 58) (As := [.ref 1, .int b15.1]) (r := []) rfl (g_tap_sign58 b15.1 (by omega)) fun I16 => ?_
            refine Go_blk 3 (pc' := 83) (L' := [(4, .int b15.1), (0, .ref 23), (1, .ref 1), (2, .int p2), (3, .int s2.1)]) (S' := [.int p2, .ref 1, .ref 23]) (h' := (hh X g I16)) rfl ?_
            refine Go_cV (y' := 85) (As := [.ref 23, .ref 1, .int p2]) (r := []) rfl (G_mot_readUnit85 r dr hM hr p2 (by omega)) fun I17 => ?_
            refine Go_blk 3 (pc' := 91) (L' := [(4, .int b15.1), (0, .ref 23), (1, .ref 1), (2, .int p2), (3, .int s2.1)]) (S' := [.int (42 : Int32), .int b15.1, .ref 23]) (h' := (hh X g I17)) rfl ?_
            refine Go_seq (pcj := 113) (fun (b18 : Int32) => [(0, .ref 23), (1, .ref 1), (2, .int p2), (3, .int s2.1)]) (fun (b18 : Int32) => [.int b18, .ref 23]) (fun (b18 : Int32) => (hh X g I17)) (fun b18 => ?_) ?_
            ·
              refine Go_cV (y' := 86) (As := [.ref 23, .int b18]) (r := []) rfl (g_mot_write86 b18 (by omega)) fun I19 => ?_
              refine Go_blk 2 (pc' := 8) (L' := [(3, .int (s2.1 + (1 : Int32))), (0, .ref 23), (1, .ref 1), (2, .int p2)]) (S' := []) (h' := (hh X g I19)) rfl ?_
              exact Go_jmp [(0, .ref 23), (1, .ref 1), (2, .int p2), (3, .int (s2.1 + (1 : Int32)))] rfl ⟨rfl, rfl, rfl, rfl, trivial⟩ (fun _ h => h)
            ·
              refine Go_cmpn rfl rfl rfl ?_ ?_
              ·
                refine Go_blk 2 (pc' := 113) (L' := [(4, .int b15.1), (0, .ref 23), (1, .ref 1), (2, .int p2), (3, .int s2.1)]) (S' := [.int (-11 : Int32), .ref 23]) (h' := (hh X g I17)) rfl ?_
                exact Go_jmp [(0, .ref 23), (1, .ref 1), (2, .int p2), (3, .int s2.1)] rfl ⟨rfl, rfl, rfl, rfl, trivial⟩ (fun _ h => h)
              ·
                refine Go_blk 2 (pc' := 103) (L' := [(4, .int b15.1), (0, .ref 23), (1, .ref 1), (2, .int p2), (3, .int s2.1)]) (S' := [.int (47 : Int32), .int b15.1, .ref 23]) (h' := (hh X g I17)) rfl ?_
                refine Go_cmpn rfl rfl rfl ?_ ?_
                ·
                  refine Go_blk 2 (pc' := 113) (L' := [(4, .int b15.1), (0, .ref 23), (1, .ref 1), (2, .int p2), (3, .int s2.1)]) (S' := [.int (-12 : Int32), .ref 23]) (h' := (hh X g I17)) rfl ?_
                  exact Go_jmp [(0, .ref 23), (1, .ref 1), (2, .int p2), (3, .int s2.1)] rfl ⟨rfl, rfl, rfl, rfl, trivial⟩ (fun _ h => h)
                ·
                  refine Go_blk 1 (pc' := 113) (L' := [(4, .int b15.1), (0, .ref 23), (1, .ref 1), (2, .int p2), (3, .int s2.1)]) (S' := [.int (-13 : Int32), .ref 23]) (h' := (hh X g I17)) rfl ?_
                  exact Go_jmp [(0, .ref 23), (1, .ref 1), (2, .int p2), (3, .int s2.1)] rfl ⟨rfl, rfl, rfl, rfl, trivial⟩ (fun _ h => h)
          ·
            refine Go_cmz rfl rfl rfl ?_ ?_
            ·
              refine Go_blk 2 (pc' := 59) (L' := [(0, .ref 23), (1, .ref 1), (2, .int p2), (3, .int s2.1)]) (S' := [.int (47 : Int32), .ref 1]) (h' := (hh X g w14.2)) rfl ?_
              refine Go_cW (y' := 73) (As := [.ref 1, .int (47 : Int32)]) (r := []) rfl (g_tap_isNext73 (47 : Int32) (by omega)) fun w20 => ?_
              refine Go_cmz rfl rfl rfl ?_ ?_
              ·
                refine Go_blk 1 (pc' := 72) (L' := [(0, .ref 23), (1, .ref 1), (2, .int p2), (3, .int s2.1)]) (S' := [.int (37 : Int32)]) (h' := (hh X g w20.2)) rfl ?_
                exact Go_jmp [(0, .ref 23), (1, .ref 1), (2, .int p2), (3, .int s2.1)] rfl ⟨rfl, rfl, rfl, rfl, trivial⟩ (fun _ h => h)
              ·
                refine Go_blk 2 (pc' := 72) (L' := [(0, .ref 23), (1, .ref 1), (2, .int p2), (3, .int s2.1)]) (S' := [.int (47 : Int32)]) (h' := (hh X g w20.2)) rfl ?_
                exact Go_jmp [(0, .ref 23), (1, .ref 1), (2, .int p2), (3, .int s2.1)] rfl ⟨rfl, rfl, rfl, rfl, trivial⟩ (fun _ h => h)
            ·
              refine Go_blk 2 (pc' := 72) (L' := [(0, .ref 23), (1, .ref 1), (2, .int p2), (3, .int s2.1)]) (S' := [.int (42 : Int32)]) (h' := (hh X g w14.2)) rfl ?_
              exact Go_jmp [(0, .ref 23), (1, .ref 1), (2, .int p2), (3, .int s2.1)] rfl ⟨rfl, rfl, rfl, rfl, trivial⟩ (fun _ h => h)
      ·
        refine Go_blk 2 (pc' := 45) (L' := [(0, .ref 23), (1, .ref 1), (2, .int p2), (3, .int s2.1)]) (S' := [.int (42 : Int32), .ref 1]) (h' := (hh X g w4.2)) rfl ?_
        refine Go_cW (y' := 73) (As := [.ref 1, .int (42 : Int32)]) (r := []) rfl (g_tap_isNext73 (42 : Int32) (by omega)) fun w21 => ?_
        refine Go_seq (pcj := 72) (fun (b22 : Int32 × MJ) => [(0, .ref 23), (1, .ref 1), (2, .int p2), (3, .int s2.1)]) (fun (b22 : Int32 × MJ) => [.int b22.1]) (fun (b22 : Int32 × MJ) => (hh X g b22.2)) (fun b22 => ?_) ?_
        ·
          refine Go_blk 3 (pc' := 77) (L' := [(4, .int b22.1), (0, .ref 23), (1, .ref 1), (2, .int p2), (3, .int s2.1)]) (S' := [.int b22.1, .ref 1]) (h' := (hh X g b22.2)) rfl ?_
          refine Go_cV (y' := 58) (As := [.ref 1, .int b22.1]) (r := []) rfl (g_tap_sign58 b22.1 (by omega)) fun I23 => ?_
          refine Go_blk 3 (pc' := 83) (L' := [(4, .int b22.1), (0, .ref 23), (1, .ref 1), (2, .int p2), (3, .int s2.1)]) (S' := [.int p2, .ref 1, .ref 23]) (h' := (hh X g I23)) rfl ?_
          refine Go_cV (y' := 85) (As := [.ref 23, .ref 1, .int p2]) (r := []) rfl (G_mot_readUnit85 r dr hM hr p2 (by omega)) fun I24 => ?_
          refine Go_blk 3 (pc' := 91) (L' := [(4, .int b22.1), (0, .ref 23), (1, .ref 1), (2, .int p2), (3, .int s2.1)]) (S' := [.int (42 : Int32), .int b22.1, .ref 23]) (h' := (hh X g I24)) rfl ?_
          refine Go_seq (pcj := 113) (fun (b25 : Int32) => [(0, .ref 23), (1, .ref 1), (2, .int p2), (3, .int s2.1)]) (fun (b25 : Int32) => [.int b25, .ref 23]) (fun (b25 : Int32) => (hh X g I24)) (fun b25 => ?_) ?_
          ·
            refine Go_cV (y' := 86) (As := [.ref 23, .int b25]) (r := []) rfl (g_mot_write86 b25 (by omega)) fun I26 => ?_
            refine Go_blk 2 (pc' := 8) (L' := [(3, .int (s2.1 + (1 : Int32))), (0, .ref 23), (1, .ref 1), (2, .int p2)]) (S' := []) (h' := (hh X g I26)) rfl ?_
            exact Go_jmp [(0, .ref 23), (1, .ref 1), (2, .int p2), (3, .int (s2.1 + (1 : Int32)))] rfl ⟨rfl, rfl, rfl, rfl, trivial⟩ (fun _ h => h)
          ·
            refine Go_cmpn rfl rfl rfl ?_ ?_
            ·
              refine Go_blk 2 (pc' := 113) (L' := [(4, .int b22.1), (0, .ref 23), (1, .ref 1), (2, .int p2), (3, .int s2.1)]) (S' := [.int (-11 : Int32), .ref 23]) (h' := (hh X g I24)) rfl ?_
              exact Go_jmp [(0, .ref 23), (1, .ref 1), (2, .int p2), (3, .int s2.1)] rfl ⟨rfl, rfl, rfl, rfl, trivial⟩ (fun _ h => h)
            ·
              refine Go_blk 2 (pc' := 103) (L' := [(4, .int b22.1), (0, .ref 23), (1, .ref 1), (2, .int p2), (3, .int s2.1)]) (S' := [.int (47 : Int32), .int b22.1, .ref 23]) (h' := (hh X g I24)) rfl ?_
              refine Go_cmpn rfl rfl rfl ?_ ?_
              ·
                refine Go_blk 2 (pc' := 113) (L' := [(4, .int b22.1), (0, .ref 23), (1, .ref 1), (2, .int p2), (3, .int s2.1)]) (S' := [.int (-12 : Int32), .ref 23]) (h' := (hh X g I24)) rfl ?_
                exact Go_jmp [(0, .ref 23), (1, .ref 1), (2, .int p2), (3, .int s2.1)] rfl ⟨rfl, rfl, rfl, rfl, trivial⟩ (fun _ h => h)
              ·
                refine Go_blk 1 (pc' := 113) (L' := [(4, .int b22.1), (0, .ref 23), (1, .ref 1), (2, .int p2), (3, .int s2.1)]) (S' := [.int (-13 : Int32), .ref 23]) (h' := (hh X g I24)) rfl ?_
                exact Go_jmp [(0, .ref 23), (1, .ref 1), (2, .int p2), (3, .int s2.1)] rfl ⟨rfl, rfl, rfl, rfl, trivial⟩ (fun _ h => h)
        ·
          refine Go_cmz rfl rfl rfl ?_ ?_
          ·
            refine Go_blk 2 (pc' := 59) (L' := [(0, .ref 23), (1, .ref 1), (2, .int p2), (3, .int s2.1)]) (S' := [.int (47 : Int32), .ref 1]) (h' := (hh X g w21.2)) rfl ?_
            refine Go_cW (y' := 73) (As := [.ref 1, .int (47 : Int32)]) (r := []) rfl (g_tap_isNext73 (47 : Int32) (by omega)) fun w27 => ?_
            refine Go_cmz rfl rfl rfl ?_ ?_
            ·
              refine Go_blk 1 (pc' := 72) (L' := [(0, .ref 23), (1, .ref 1), (2, .int p2), (3, .int s2.1)]) (S' := [.int (37 : Int32)]) (h' := (hh X g w27.2)) rfl ?_
              exact Go_jmp [(0, .ref 23), (1, .ref 1), (2, .int p2), (3, .int s2.1)] rfl ⟨rfl, rfl, rfl, rfl, trivial⟩ (fun _ h => h)
            ·
              refine Go_blk 2 (pc' := 72) (L' := [(0, .ref 23), (1, .ref 1), (2, .int p2), (3, .int s2.1)]) (S' := [.int (47 : Int32)]) (h' := (hh X g w27.2)) rfl ?_
              exact Go_jmp [(0, .ref 23), (1, .ref 1), (2, .int p2), (3, .int s2.1)] rfl ⟨rfl, rfl, rfl, rfl, trivial⟩ (fun _ h => h)
          ·
            refine Go_blk 2 (pc' := 72) (L' := [(0, .ref 23), (1, .ref 1), (2, .int p2), (3, .int s2.1)]) (S' := [.int (42 : Int32)]) (h' := (hh X g w21.2)) rfl ?_
            exact Go_jmp [(0, .ref 23), (1, .ref 1), (2, .int p2), (3, .int s2.1)] rfl ⟨rfl, rfl, rfl, rfl, trivial⟩ (fun _ h => h)
    ·
      exact Go_jmp [] rfl trivial (fun _ h => h)
set_option maxRecDepth 1000000 in
set_option maxHeartbeats 4000000 in
theorem G_mot_readSum83 (r : Int32 → MJ → Option (MJ)) (dr : Nat) (hM : 2 ≤ dr) (hr : ∀ (p2 : Int32) (X : XX) (g : GG) (I : MJ), Go dr 83 0 (lv_args 0 [.ref 23, .ref 1, .int p2]) [] (hh X g I) (r p2 I) (pV X g)) (p2 : Int32) {X : XX} {g : GG} {I : MJ} {d : Nat} (hd : dr + 5 ≤ d) : Go d 83 0 (lv_args 0 [.ref 23, .ref 1, .int p2]) [] (hh X g I) (F_mot_readSum83 r p2 I) (pV X g) := by
  obtain ⟨d, rfl⟩ : ∃ k, d = k + 1 := ⟨d - 1, by omega⟩
  unfold F_mot_readSum83
  refine Go_blk 3 (pc' := 3) (L' := [(0, .ref 23), (1, .ref 1), (2, .int p2)]) (S' := [.int p2, .ref 1, .ref 23]) (h' := (hh X g I)) rfl ?_
  refine Go_cV (y' := 84) (As := [.ref 23, .ref 1, .int p2]) (r := []) rfl (G_mot_readProduct84 r dr hM hr p2 (by omega)) fun I1 => ?_
  refine Go_blk 2 (pc' := 8) (L' := [(3, .int (0 : Int32)), (0, .ref 23), (1, .ref 1), (2, .int p2)]) (S' := []) (h' := (hh X g I1)) rfl ?_
  refine Go_lcs [(0, .ref 23), (1, .ref 1), (2, .int p2), (3, .int (0 : Int32))] rfl ⟨rfl, rfl, rfl, rfl, trivial⟩ ?_
  refine Go_seq (pcj := 85) (fun (b3 : MJ) => []) (fun (b3 : MJ) => []) (fun (b3 : MJ) => (hh X g b3)) (fun b3 => ?_) ?_
  ·
    exact Go_ret (fun _ h => h) rfl
  ·
    refine Go_wh (fun (s2 : Int32 × MJ) => [(0, .ref 23), (1, .ref 1), (2, .int p2), (3, .int s2.1)]) (fun _ => []) (fun (s2 : Int32 × MJ) => (hh X g s2.2)) (fun s2 => ?_) ((0 : Int32), I1)
    refine Go_blk 2 (pc' := 12) (L' := [(0, .ref 23), (1, .ref 1), (2, .int p2), (3, .int s2.1)]) (S' := [.int (150 : Int32), .int s2.1]) (h' := (hh X g s2.2)) rfl ?_
    refine Go_cmpn rfl rfl (ab_cge _ _) ?_ ?_
    ·
      refine Go_blk 2 (pc' := 18) (L' := [(0, .ref 23), (1, .ref 1), (2, .int p2), (3, .int s2.1)]) (S' := [.int (43 : Int32), .ref 1]) (h' := (hh X g s2.2)) rfl ?_
      refine Go_cW (y' := 73) (As := [.ref 1, .int (43 : Int32)]) (r := []) rfl (g_tap_isNext73 (43 : Int32) (by omega)) fun w4 => ?_
      refine Go_cmzn rfl rfl rfl ?_ ?_
      ·
        refine Go_blk 2 (pc' := 27) (L' := [(0, .ref 23), (1, .ref 1), (2, .int p2), (3, .int s2.1)]) (S' := [.int (45 : Int32), .ref 1]) (h' := (hh X g w4.2)) rfl ?_
        refine Go_cW (y' := 73) (As := [.ref 1, .int (45 : Int32)]) (r := []) rfl (g_tap_isNext73 (45 : Int32) (by omega)) fun w5 => ?_
        refine Go_cmz rfl rfl rfl ?_ ?_
        ·
          exact Go_jmp [] rfl trivial (fun _ h => h)
        ·
          refine Go_blk 2 (pc' := 36) (L' := [(0, .ref 23), (1, .ref 1), (2, .int p2), (3, .int s2.1)]) (S' := [.int (43 : Int32), .ref 1]) (h' := (hh X g w5.2)) rfl ?_
          refine Go_cW (y' := 73) (As := [.ref 1, .int (43 : Int32)]) (r := []) rfl (g_tap_isNext73 (43 : Int32) (by omega)) fun w6 => ?_
          refine Go_blk 3 (pc' := 44) (L' := [(4, .int w6.1), (0, .ref 23), (1, .ref 1), (2, .int p2), (3, .int s2.1)]) (S' := [.int w6.1, .ref 1]) (h' := (hh X g w6.2)) rfl ?_
          refine Go_seq (pcj := 54) (fun (b7 : Int32) => [(0, .ref 23), (1, .ref 1), (2, .int p2), (3, .int s2.1), (4, .int w6.1)]) (fun (b7 : Int32) => [.int b7, .ref 1]) (fun (b7 : Int32) => (hh X g w6.2)) (fun b7 => ?_) ?_
          ·
            refine Go_cV (y' := 58) (As := [.ref 1, .int b7]) (r := []) rfl (g_tap_sign58 b7 (by omega)) fun I8 => ?_
            refine Go_blk 3 (pc' := 60) (L' := [(0, .ref 23), (1, .ref 1), (2, .int p2), (3, .int s2.1), (4, .int w6.1)]) (S' := [.int p2, .ref 1, .ref 23]) (h' := (hh X g I8)) rfl ?_
            refine Go_cV (y' := 84) (As := [.ref 23, .ref 1, .int p2]) (r := []) rfl (G_mot_readProduct84 r dr hM hr p2 (by omega)) fun I9 => ?_
            refine Go_blk 2 (pc' := 66) (L' := [(0, .ref 23), (1, .ref 1), (2, .int p2), (3, .int s2.1), (4, .int w6.1)]) (S' := [.int w6.1, .ref 23]) (h' := (hh X g I9)) rfl ?_
            refine Go_seq (pcj := 76) (fun (b10 : Int32) => [(0, .ref 23), (1, .ref 1), (2, .int p2), (3, .int s2.1)]) (fun (b10 : Int32) => [.int b10, .ref 23]) (fun (b10 : Int32) => (hh X g I9)) (fun b10 => ?_) ?_
            ·
              refine Go_cV (y' := 86) (As := [.ref 23, .int b10]) (r := []) rfl (g_mot_write86 b10 (by omega)) fun I11 => ?_
              refine Go_blk 2 (pc' := 8) (L' := [(3, .int (s2.1 + (1 : Int32))), (0, .ref 23), (1, .ref 1), (2, .int p2)]) (S' := []) (h' := (hh X g I11)) rfl ?_
              exact Go_jmp [(0, .ref 23), (1, .ref 1), (2, .int p2), (3, .int (s2.1 + (1 : Int32)))] rfl ⟨rfl, rfl, rfl, rfl, trivial⟩ (fun _ h => h)
            ·
              refine Go_cmz rfl rfl rfl ?_ ?_
              ·
                refine Go_blk 1 (pc' := 76) (L' := [(0, .ref 23), (1, .ref 1), (2, .int p2), (3, .int s2.1), (4, .int w6.1)]) (S' := [.int (-10 : Int32), .ref 23]) (h' := (hh X g I9)) rfl ?_
                exact Go_jmp [(0, .ref 23), (1, .ref 1), (2, .int p2), (3, .int s2.1)] rfl ⟨rfl, rfl, rfl, rfl, trivial⟩ (fun _ h => h)
              ·
                refine Go_blk 2 (pc' := 76) (L' := [(0, .ref 23), (1, .ref 1), (2, .int p2), (3, .int s2.1), (4, .int w6.1)]) (S' := [.int (-9 : Int32), .ref 23]) (h' := (hh X g I9)) rfl ?_
                exact Go_jmp [(0, .ref 23), (1, .ref 1), (2, .int p2), (3, .int s2.1)] rfl ⟨rfl, rfl, rfl, rfl, trivial⟩ (fun _ h => h)
          ·
            refine Go_cmz rfl rfl rfl ?_ ?_
            ·
              refine Go_blk 1 (pc' := 54) (L' := [(4, .int w6.1), (0, .ref 23), (1, .ref 1), (2, .int p2), (3, .int s2.1)]) (S' := [.int (45 : Int32), .ref 1]) (h' := (hh X g w6.2)) rfl ?_
              exact Go_jmp [(0, .ref 23), (1, .ref 1), (2, .int p2), (3, .int s2.1), (4, .int w6.1)] rfl ⟨rfl, rfl, rfl, rfl, rfl, trivial⟩ (fun _ h => h)
            ·
              refine Go_blk 2 (pc' := 54) (L' := [(4, .int w6.1), (0, .ref 23), (1, .ref 1), (2, .int p2), (3, .int s2.1)]) (S' := [.int (43 : Int32), .ref 1]) (h' := (hh X g w6.2)) rfl ?_
              exact Go_jmp [(0, .ref 23), (1, .ref 1), (2, .int p2), (3, .int s2.1), (4, .int w6.1)] rfl ⟨rfl, rfl, rfl, rfl, rfl, trivial⟩ (fun _ h => h)
      ·
        refine Go_blk 2 (pc' := 36) (L' := [(0, .ref 23), (1, .ref 1), (2, .int p2), (3, .int s2.1)]) (S' := [.int (43 : Int32), .ref 1]) (h' := (hh X g w4.2)) rfl ?_
        refine Go_cW (y' := 73) (As := [.ref 1, .int (43 : Int32)]) (r := []) rfl (g_tap_isNext73 (43 : Int32) (by omega)) fun w12 => ?_
        refine Go_blk 3 (pc' := 44) (L' := [(4, .int w12.1), (0, .ref 23), (1, .ref 1), (2, .int p2), (3, .int s2.1)]) (S' := [.int w12.1, .ref 1]) (h' := (hh X g w12.2)) rfl ?_
        refine Go_seq (pcj := 54) (fun (b13 : Int32) => [(0, .ref 23), (1, .ref 1), (2, .int p2), (3, .int s2.1), (4, .int w12.1)]) (fun (b13 : Int32) => [.int b13, .ref 1]) (fun (b13 : Int32) => (hh X g w12.2)) (fun b13 => ?_) ?_
        ·
          refine Go_cV (y' := 58) (As := [.ref 1, .int b13]) (r := []) rfl (g_tap_sign58 b13 (by omega)) fun I14 => ?_
          refine Go_blk 3 (pc' := 60) (L' := [(0, .ref 23), (1, .ref 1), (2, .int p2), (3, .int s2.1), (4, .int w12.1)]) (S' := [.int p2, .ref 1, .ref 23]) (h' := (hh X g I14)) rfl ?_
          refine Go_cV (y' := 84) (As := [.ref 23, .ref 1, .int p2]) (r := []) rfl (G_mot_readProduct84 r dr hM hr p2 (by omega)) fun I15 => ?_
          refine Go_blk 2 (pc' := 66) (L' := [(0, .ref 23), (1, .ref 1), (2, .int p2), (3, .int s2.1), (4, .int w12.1)]) (S' := [.int w12.1, .ref 23]) (h' := (hh X g I15)) rfl ?_
          refine Go_seq (pcj := 76) (fun (b16 : Int32) => [(0, .ref 23), (1, .ref 1), (2, .int p2), (3, .int s2.1)]) (fun (b16 : Int32) => [.int b16, .ref 23]) (fun (b16 : Int32) => (hh X g I15)) (fun b16 => ?_) ?_
          ·
            refine Go_cV (y' := 86) (As := [.ref 23, .int b16]) (r := []) rfl (g_mot_write86 b16 (by omega)) fun I17 => ?_
            refine Go_blk 2 (pc' := 8) (L' := [(3, .int (s2.1 + (1 : Int32))), (0, .ref 23), (1, .ref 1), (2, .int p2)]) (S' := []) (h' := (hh X g I17)) rfl ?_
            exact Go_jmp [(0, .ref 23), (1, .ref 1), (2, .int p2), (3, .int (s2.1 + (1 : Int32)))] rfl ⟨rfl, rfl, rfl, rfl, trivial⟩ (fun _ h => h)
          ·
            refine Go_cmz rfl rfl rfl ?_ ?_
            ·
              refine Go_blk 1 (pc' := 76) (L' := [(0, .ref 23), (1, .ref 1), (2, .int p2), (3, .int s2.1), (4, .int w12.1)]) (S' := [.int (-10 : Int32), .ref 23]) (h' := (hh X g I15)) rfl ?_
              exact Go_jmp [(0, .ref 23), (1, .ref 1), (2, .int p2), (3, .int s2.1)] rfl ⟨rfl, rfl, rfl, rfl, trivial⟩ (fun _ h => h)
            ·
              refine Go_blk 2 (pc' := 76) (L' := [(0, .ref 23), (1, .ref 1), (2, .int p2), (3, .int s2.1), (4, .int w12.1)]) (S' := [.int (-9 : Int32), .ref 23]) (h' := (hh X g I15)) rfl ?_
              exact Go_jmp [(0, .ref 23), (1, .ref 1), (2, .int p2), (3, .int s2.1)] rfl ⟨rfl, rfl, rfl, rfl, trivial⟩ (fun _ h => h)
        ·
          refine Go_cmz rfl rfl rfl ?_ ?_
          ·
            refine Go_blk 1 (pc' := 54) (L' := [(4, .int w12.1), (0, .ref 23), (1, .ref 1), (2, .int p2), (3, .int s2.1)]) (S' := [.int (45 : Int32), .ref 1]) (h' := (hh X g w12.2)) rfl ?_
            exact Go_jmp [(0, .ref 23), (1, .ref 1), (2, .int p2), (3, .int s2.1), (4, .int w12.1)] rfl ⟨rfl, rfl, rfl, rfl, rfl, trivial⟩ (fun _ h => h)
          ·
            refine Go_blk 2 (pc' := 54) (L' := [(4, .int w12.1), (0, .ref 23), (1, .ref 1), (2, .int p2), (3, .int s2.1)]) (S' := [.int (43 : Int32), .ref 1]) (h' := (hh X g w12.2)) rfl ?_
            exact Go_jmp [(0, .ref 23), (1, .ref 1), (2, .int p2), (3, .int s2.1), (4, .int w12.1)] rfl ⟨rfl, rfl, rfl, rfl, rfl, trivial⟩ (fun _ h => h)
    ·
      exact Go_jmp [] rfl trivial (fun _ h => h)
theorem g_mot_readSum83 (k : Nat) : ∀ (p2 : Int32) {X : XX} {g : GG} {I : MJ} {d : Nat}, 2 + 5 * k ≤ d → Go d 83 0 (lv_args 0 [.ref 23, .ref 1, .int p2]) [] (hh X g I) (f_mot_readSum83 k p2 I) (pV X g) := by
  induction k with
  | zero => intros; exact Go_none
  | succ k ih =>
    intro p2 X g I d hd
    exact G_mot_readSum83 (f_mot_readSum83 k) (2 + 5 * k) (by omega) (fun p2 X g I => ih p2 (Nat.le_refl _)) p2 (by omega)
set_option maxRecDepth 1000000 in
set_option maxHeartbeats 4000000 in
theorem g_mot_readFrom82  {X : XX} {g : GG} {I : MJ} {d : Nat} (hd : 83 ≤ d) : Go d 82 0 (lv_args 0 [.ref 23, .ref 1]) [] (hh X g I) (f_mot_readFrom82  I) (pV X g) := by
  obtain ⟨d, rfl⟩ : ∃ k, d = k + 1 := ⟨d - 1, by omega⟩
  unfold f_mot_readFrom82
  refine Go_blk 6 (pc' := 8) (L' := [(0, .ref 23), (1, .ref 1)]) (S' := [.int (0 : Int32), .ref 1, .ref 23]) (h' := (hh X g (ab_up1 I 23 5 (0 : Int32)))) rfl ?_
  refine Go_cV (y' := 83) (As := [.ref 23, .ref 1, .int (0 : Int32)]) (r := []) rfl (g_mot_readSum83 16 (0 : Int32) (by omega)) fun I1 => ?_
  refine Go_blk 1 (pc' := 12) (L' := [(0, .ref 23), (1, .ref 1)]) (S' := [.ref 1]) (h' := (hh X g I1)) rfl ?_
  refine Go_cW (y' := 42) (As := [.ref 1]) (r := []) rfl (g_tap_hasMore42  (by omega)) fun w2 => ?_
  refine Go_seq (pcj := 27) (fun (b3 : MJ) => []) (fun (b3 : MJ) => []) (fun (b3 : MJ) => (hh X g b3)) (fun b3 => ?_) ?_
  ·
    exact Go_ret (fun _ h => h) rfl
  ·
    refine Go_cmz rfl rfl rfl ?_ ?_
    ·
      exact Go_jmp [] rfl trivial (fun _ h => h)
    ·
      refine Go_blk 4 (pc' := 24) (L' := [(0, .ref 23), (1, .ref 1)]) (S' := [.int (w2.2 1 2), .int (1 : Int32), .ref 1]) (h' := (hh X g w2.2)) rfl ?_
      refine Go_cV (y' := 50) (As := [.ref 1, .int (1 : Int32), .int (w2.2 1 2)]) (r := []) rfl (g_tap_fail50 (1 : Int32) (w2.2 1 2) (by omega)) fun I4 => ?_
      exact Go_jmp [] rfl trivial (fun _ h => h)
set_option maxRecDepth 1000000 in
set_option maxHeartbeats 4000000 in
theorem g_mot_keep90  {X : XX} {g : GG} {I : MJ} {d : Nat} (hd : 1 ≤ d) : Go d 90 0 (lv_args 0 [.ref 23]) [] (hh X g I) (f_mot_keep90  I) (pV X g) := by
  obtain ⟨d, rfl⟩ : ∃ k, d = k + 1 := ⟨d - 1, by omega⟩
  unfold f_mot_keep90
  refine Go_blk 11 (pc' := 21) (L' := [(0, .ref 23)]) (S' := [.int (150 : Int32), .int (0 : Int32), .ref 24, .int (0 : Int32), .ref 25]) (h' := (hh X g (ab_up1 I 23 4 (I 23 5)))) rfl ?_
  refine Go_cV (y' := 22) (As := [.ref 25, .int (0 : Int32), .ref 24, .int (0 : Int32), .int (150 : Int32)]) (r := []) rfl (g_x_copy22 25 (0 : Int32) 24 (0 : Int32) (150 : Int32) (by omega)) fun I1 => ?_
  exact Go_ret (fun _ h => h) rfl
set_option maxRecDepth 1000000 in
set_option maxHeartbeats 4000000 in
theorem g_x_law81 (p1 : Int32) {X : XX} {g : GG} {I : MJ} {d : Nat} (hd : 84 ≤ d) : Go d 81 0 (lv_args 0 [.ref 0, .int p1]) [] (hh X g I) (f_x_law81 p1 I) (pT vI X g) := by
  obtain ⟨d, rfl⟩ : ∃ k, d = k + 1 := ⟨d - 1, by omega⟩
  unfold f_x_law81
  refine Go_blk 3 (pc' := 5) (L' := [(0, .ref 0), (1, .int p1)]) (S' := [.int (150 : Int32), .int p1, .ref 0]) (h' := (hh X g I)) rfl ?_
  refine Go_cT (y' := 37) (As := [.ref 0, .int p1, .int (150 : Int32)]) (r := []) rfl rfl (g_x_needText37 p1 (150 : Int32) (by omega)) fun v1 I2 => ?_
  refine Go_blk 3 (pc' := 13) (L' := [(0, .ref 0), (1, .int p1)]) (S' := [.int p1, .ref 1]) (h' := (hh X g I2)) rfl ?_
  refine Go_cV (y' := 40) (As := [.ref 1, .int p1]) (r := []) rfl (g_tap_open40 p1 (by omega)) fun I3 => ?_
  refine Go_blk 4 (pc' := 24) (L' := [(0, .ref 0), (1, .int p1)]) (S' := [.ref 1, .ref 23]) (h' := (hh X g I3)) rfl ?_
  refine Go_cV (y' := 82) (As := [.ref 23, .ref 1]) (r := []) rfl (g_mot_readFrom82  (by omega)) fun I4 => ?_
  refine Go_blk 2 (pc' := 31) (L' := [(0, .ref 0), (1, .int p1)]) (S' := [.ref 1]) (h' := (hh X g I4)) rfl ?_
  refine Go_cR (y' := 59) (As := [.ref 1]) (r := []) rfl (g_tap_isSound59  (by omega)) fun v5 => ?_
  refine Go_seq (pcj := 44) (fun (b6 : MJ) => [(0, .ref 0)]) (fun (b6 : MJ) => []) (fun (b6 : MJ) => (hh X g b6)) (fun b6 => ?_) ?_
  ·
    refine Go_blk 3 (pc' := 49) (L' := [(0, .ref 0)]) (S' := [.int (1 : Int32), .ref 1]) (h' := (hh X g b6)) rfl ?_
    refine Go_cW (y' := 65) (As := [.ref 1, .int (1 : Int32)]) (r := []) rfl (g_tap_close65 (1 : Int32) (by omega)) fun w7 => ?_
    exact Go_ret (fun _ h => h) rfl
  ·
    refine Go_cmz rfl rfl rfl ?_ ?_
    ·
      exact Go_jmp [(0, .ref 0)] rfl ⟨rfl, trivial⟩ (fun _ h => h)
    ·
      refine Go_blk 2 (pc' := 41) (L' := [(0, .ref 0), (1, .int p1)]) (S' := [.ref 23]) (h' := (hh X g I4)) rfl ?_
      refine Go_cV (y' := 90) (As := [.ref 23]) (r := []) rfl (g_mot_keep90  (by omega)) fun I8 => ?_
      exact Go_jmp [(0, .ref 0)] rfl ⟨rfl, trivial⟩ (fun _ h => h)
set_option maxRecDepth 1000000 in
set_option maxHeartbeats 4000000 in
theorem g_l_law80 (p1 : Int32) {X : XX} {g : GG} {I : MJ} {d : Nat} (hd : 85 ≤ d) : Go d 80 0 (lv_args 0 [.ref 0, .int p1, .ref 698]) [] (hh X g I) (f_l_law80 X p1 I g) (pG X) := by
  obtain ⟨d, rfl⟩ : ∃ k, d = k + 1 := ⟨d - 1, by omega⟩
  unfold f_l_law80
  refine Go_blk 4 (pc' := 4) (L' := [(0, .ref 0), (1, .int p1), (2, .ref 698)]) (S' := [.int p1, .ref 0, .int (0 : Int32), .ref 698]) (h' := (hh X g I)) rfl ?_
  refine Go_try (y' := 81) (As := [.ref 0, .int p1]) (r := [.int (0 : Int32), .ref 698]) rfl (g_x_law81 p1 (by omega)) (fun v1 I2 => ?_) (fun E2 I2 => ?_)
  ·
    refine Go_blk 1 (pc' := 8) (L' := [(0, .ref 0), (1, .int p1), (2, .ref 698)]) (S' := [.long (v1.toInt64), .int (0 : Int32), .ref 698]) (h' := (hh X g I2)) rfl ?_
    refine Go_last rfl fun g3 => ?_
    refine Go_blk 2 (pc' := 16) (L' := [(0, .ref 0), (1, .int p1), (2, .ref 698)]) (S' := [.int (0 : Int32)]) (h' := (hh X g3 I2)) rfl ?_
    exact Go_ret (fun _ h => h) rfl
  ·
    refine GX_ite ?_ ?_
    ·
      refine GX_go rfl (t := 13) (k := 3) rfl ?_
      refine Go_blk 1 (pc' := 14) (L' := [(0, .ref 0), (1, .int p1), (2, .ref 698)]) (S' := [.int (1 : Int32)]) (h' := (hh X (thr g) I2)) rfl ?_
      exact Go_ret (fun _ h => h) rfl
    exact GX_none
set_option maxRecDepth 1000000 in
set_option maxHeartbeats 4000000 in
theorem g_m_takesSign298 (p1 : Int32) {X : XX} {g : GG} {I : MJ} {d : Nat} (hd : 2 ≤ d) : Go d 298 0 (lv_args 0 [.ref 47, .int p1]) [] (hh X g I) (f_m_takesSign298 p1 I) (pW X g) := by
  obtain ⟨d, rfl⟩ : ∃ k, d = k + 1 := ⟨d - 1, by omega⟩
  unfold f_m_takesSign298
  refine Go_blk 2 (pc' := 4) (L' := [(0, .ref 47), (1, .int p1)]) (S' := [.int (I 47 5)]) (h' := (hh X g I)) rfl ?_
  refine Go_cmz rfl rfl rfl ?_ ?_
  ·
    refine Go_blk 1 (pc' := 10) (L' := [(0, .ref 47), (1, .int p1)]) (S' := [.ref 47]) (h' := (hh X g I)) rfl ?_
    refine Go_cV (y' := 270) (As := [.ref 47]) (r := []) rfl (g_m_blanks270  (by omega)) fun I1 => ?_
    refine Go_blk 3 (pc' := 18) (L' := [(0, .ref 47), (1, .int p1)]) (S' := [.int (I1 47 4), .ref 47]) (h' := (hh X g I1)) rfl ?_
    refine Go_cR (y' := 271) (As := [.ref 47, .int (I1 47 4)]) (r := []) rfl (g_m_byteAt271 (I1 47 4) (by omega)) fun v2 => ?_
    refine Go_blk 1 (pc' := 22) (L' := [(0, .ref 47), (1, .int p1)]) (S' := [.int p1, .int v2]) (h' := (hh X g I1)) rfl ?_
    refine Go_seq (pcj := 30) (fun (b3 : Int32) => [(0, .ref 47)]) (fun (b3 : Int32) => [.int b3]) (fun (b3 : Int32) => (hh X g I1)) (fun b3 => ?_) ?_
    ·
      refine Go_blk 2 (pc' := 32) (L' := [(2, .int b3), (0, .ref 47)]) (S' := [.int b3]) (h' := (hh X g I1)) rfl ?_
      refine Go_seq (pcj := 45) (fun (b4 : MJ) => [(2, .int b3)]) (fun (b4 : MJ) => []) (fun (b4 : MJ) => (hh X g b4)) (fun b4 => ?_) ?_
      ·
        refine Go_blk 1 (pc' := 46) (L' := [(2, .int b3)]) (S' := [.int b3]) (h' := (hh X g b4)) rfl ?_
        exact Go_ret (fun _ h => h) rfl
      ·
        refine Go_cmz rfl rfl rfl ?_ ?_
        ·
          exact Go_jmp [(2, .int b3)] rfl ⟨rfl, trivial⟩ (fun _ h => h)
        ·
          refine Go_blk 6 (pc' := 45) (L' := [(2, .int b3), (0, .ref 47)]) (S' := []) (h' := (hh X g (ab_up1 I1 47 4 ((I1 47 4) + (1 : Int32))))) rfl ?_
          exact Go_jmp [(2, .int b3)] rfl ⟨rfl, trivial⟩ (fun _ h => h)
    ·
      refine Go_cmpn rfl rfl rfl ?_ ?_
      ·
        refine Go_blk 2 (pc' := 30) (L' := [(0, .ref 47), (1, .int p1)]) (S' := [.int (1 : Int32)]) (h' := (hh X g I1)) rfl ?_
        exact Go_jmp [(0, .ref 47)] rfl ⟨rfl, trivial⟩ (fun _ h => h)
      ·
        refine Go_blk 1 (pc' := 30) (L' := [(0, .ref 47), (1, .int p1)]) (S' := [.int (0 : Int32)]) (h' := (hh X g I1)) rfl ?_
        exact Go_jmp [(0, .ref 47)] rfl ⟨rfl, trivial⟩ (fun _ h => h)
  ·
    refine Go_blk 1 (pc' := 8) (L' := [(0, .ref 47), (1, .int p1)]) (S' := [.int (0 : Int32)]) (h' := (hh X g I)) rfl ?_
    exact Go_ret (fun _ h => h) rfl
set_option maxRecDepth 1000000 in
set_option maxHeartbeats 4000000 in
theorem g_m_notes296 (p1 : Int32) (p2 : Int32) {X : XX} {g : GG} {I : MJ} {d : Nat} (hd : 0 ≤ d) : Go d 296 0 (lv_args 0 [.ref 47, .int p1, .int p2]) [] (hh X g I) (f_m_notes296 p1 p2 I) (pV X g) := by
  unfold f_m_notes296
  refine Go_blk 2 (pc' := 4) (L' := [(0, .ref 47), (1, .int p1), (2, .int p2)]) (S' := [.int (I 47 5)]) (h' := (hh X g I)) rfl ?_
  refine Go_cmz rfl rfl rfl ?_ ?_
  ·
    refine Go_blk 4 (pc' := 16) (L' := [(0, .ref 47), (1, .int p1), (2, .int p2)]) (S' := [.int (I 47 26), .ref 306]) (h' := (hh X g I)) rfl ?_
    refine Go_aald rfl fun r1 => ?_
    refine Go_blk 2 (pc' := 19) (L' := [(0, .ref 47), (1, .int p1), (2, .int p2)]) (S' := [.int p1, .int (0 : Int32), .ref r1]) (h' := (hh X g I)) rfl ?_
    refine Go_iast rfl fun I2 => ?_
    refine Go_blk 4 (pc' := 28) (L' := [(0, .ref 47), (1, .int p1), (2, .int p2)]) (S' := [.int (I2 47 26), .ref 306]) (h' := (hh X g I2)) rfl ?_
    refine Go_aald rfl fun r3 => ?_
    refine Go_blk 2 (pc' := 31) (L' := [(0, .ref 47), (1, .int p1), (2, .int p2)]) (S' := [.int p2, .int (1 : Int32), .ref r3]) (h' := (hh X g I2)) rfl ?_
    refine Go_iast rfl fun I4 => ?_
    refine Go_blk 6 (pc' := 42) (L' := [(0, .ref 47), (1, .int p1), (2, .int p2)]) (S' := []) (h' := (hh X g (ab_up1 I4 47 26 ((I4 47 26) + (1 : Int32))))) rfl ?_
    exact Go_ret (fun _ h => h) rfl
  ·
    exact Go_ret (fun _ h => h) rfl
set_option maxRecDepth 1000000 in
set_option maxHeartbeats 4000000 in
theorem g_m_knownHere297  {X : XX} {g : GG} {I : MJ} {d : Nat} (hd : 5 ≤ d) : Go d 297 0 (lv_args 0 [.ref 47]) [] (hh X g I) (f_m_knownHere297  I) (pW X g) := by
  obtain ⟨d, rfl⟩ : ∃ k, d = k + 1 := ⟨d - 1, by omega⟩
  unfold f_m_knownHere297
  refine Go_blk 7 (pc' := 11) (L' := [(0, .ref 47)]) (S' := [.int (0 : Int32), .int (0 : Int32), .int (18 : Int32), .int (21 : Int32), .int (15 : Int32), .int (8 : Int32), .ref 47]) (h' := (hh X g I)) rfl ?_
  refine Go_cW (y' := 282) (As := [.ref 47, .int (8 : Int32), .int (15 : Int32), .int (21 : Int32), .int (18 : Int32), .int (0 : Int32), .int (0 : Int32)]) (r := []) rfl (g_m_takes282 (8 : Int32) (15 : Int32) (21 : Int32) (18 : Int32) (0 : Int32) (0 : Int32) (by omega)) fun w1 => ?_
  refine Go_cmz rfl rfl rfl ?_ ?_
  ·
    refine Go_blk 7 (pc' := 29) (L' := [(0, .ref 47)]) (S' := [.int (0 : Int32), .int (0 : Int32), .int (4 : Int32), .int (14 : Int32), .int (9 : Int32), .int (11 : Int32), .ref 47]) (h' := (hh X g w1.2)) rfl ?_
    refine Go_cW (y' := 282) (As := [.ref 47, .int (11 : Int32), .int (9 : Int32), .int (14 : Int32), .int (4 : Int32), .int (0 : Int32), .int (0 : Int32)]) (r := []) rfl (g_m_takes282 (11 : Int32) (9 : Int32) (14 : Int32) (4 : Int32) (0 : Int32) (0 : Int32) (by omega)) fun w2 => ?_
    refine Go_cmz rfl rfl rfl ?_ ?_
    ·
      refine Go_blk 7 (pc' := 45) (L' := [(0, .ref 47)]) (S' := [.int (0 : Int32), .int (0 : Int32), .int (0 : Int32), .int (5 : Int32), .int (7 : Int32), .int (1 : Int32), .ref 47]) (h' := (hh X g w2.2)) rfl ?_
      refine Go_cW (y' := 282) (As := [.ref 47, .int (1 : Int32), .int (7 : Int32), .int (5 : Int32), .int (0 : Int32), .int (0 : Int32), .int (0 : Int32)]) (r := []) rfl (g_m_takes282 (1 : Int32) (7 : Int32) (5 : Int32) (0 : Int32) (0 : Int32) (0 : Int32) (by omega)) fun w3 => ?_
      refine Go_cmz rfl rfl rfl ?_ ?_
      ·
        refine Go_blk 7 (pc' := 61) (L' := [(0, .ref 47)]) (S' := [.int (0 : Int32), .int (0 : Int32), .int (0 : Int32), .int (25 : Int32), .int (1 : Int32), .int (4 : Int32), .ref 47]) (h' := (hh X g w3.2)) rfl ?_
        refine Go_cW (y' := 282) (As := [.ref 47, .int (4 : Int32), .int (1 : Int32), .int (25 : Int32), .int (0 : Int32), .int (0 : Int32), .int (0 : Int32)]) (r := []) rfl (g_m_takes282 (4 : Int32) (1 : Int32) (25 : Int32) (0 : Int32) (0 : Int32) (0 : Int32) (by omega)) fun w4 => ?_
        refine Go_cmz rfl rfl rfl ?_ ?_
        ·
          refine Go_blk 7 (pc' := 80) (L' := [(0, .ref 47)]) (S' := [.int (20 : Int32), .int (14 : Int32), .int (5 : Int32), .int (9 : Int32), .int (12 : Int32), .int (3 : Int32), .ref 47]) (h' := (hh X g w4.2)) rfl ?_
          refine Go_cW (y' := 282) (As := [.ref 47, .int (3 : Int32), .int (12 : Int32), .int (9 : Int32), .int (5 : Int32), .int (14 : Int32), .int (20 : Int32)]) (r := []) rfl (g_m_takes282 (3 : Int32) (12 : Int32) (9 : Int32) (5 : Int32) (14 : Int32) (20 : Int32) (by omega)) fun w5 => ?_
          refine Go_cmz rfl rfl rfl ?_ ?_
          ·
            refine Go_blk 7 (pc' := 98) (L' := [(0, .ref 47)]) (S' := [.int (0 : Int32), .int (19 : Int32), .int (13 : Int32), .int (1 : Int32), .int (5 : Int32), .int (19 : Int32), .ref 47]) (h' := (hh X g w5.2)) rfl ?_
            refine Go_cW (y' := 282) (As := [.ref 47, .int (19 : Int32), .int (5 : Int32), .int (1 : Int32), .int (13 : Int32), .int (19 : Int32), .int (0 : Int32)]) (r := []) rfl (g_m_takes282 (19 : Int32) (5 : Int32) (1 : Int32) (13 : Int32) (19 : Int32) (0 : Int32) (by omega)) fun w6 => ?_
            refine Go_seq (pcj := 109) (fun (b7 : Int32) => []) (fun (b7 : Int32) => [.int b7]) (fun (b7 : Int32) => (hh X g w6.2)) (fun b7 => ?_) ?_
            ·
              exact Go_ret (fun _ h => h) rfl
            ·
              refine Go_cmz rfl rfl rfl ?_ ?_
              ·
                refine Go_blk 1 (pc' := 109) (L' := [(0, .ref 47)]) (S' := [.int (-1 : Int32)]) (h' := (hh X g w6.2)) rfl ?_
                exact Go_jmp [] rfl trivial (fun _ h => h)
              ·
                refine Go_blk 2 (pc' := 109) (L' := [(0, .ref 47)]) (S' := [.int (5 : Int32)]) (h' := (hh X g w6.2)) rfl ?_
                exact Go_jmp [] rfl trivial (fun _ h => h)
          ·
            refine Go_blk 1 (pc' := 87) (L' := [(0, .ref 47)]) (S' := [.int (4 : Int32)]) (h' := (hh X g w5.2)) rfl ?_
            exact Go_ret (fun _ h => h) rfl
        ·
          refine Go_blk 1 (pc' := 68) (L' := [(0, .ref 47)]) (S' := [.int (3 : Int32)]) (h' := (hh X g w4.2)) rfl ?_
          exact Go_ret (fun _ h => h) rfl
      ·
        refine Go_blk 1 (pc' := 52) (L' := [(0, .ref 47)]) (S' := [.int (2 : Int32)]) (h' := (hh X g w3.2)) rfl ?_
        exact Go_ret (fun _ h => h) rfl
    ·
      refine Go_blk 1 (pc' := 36) (L' := [(0, .ref 47)]) (S' := [.int (1 : Int32)]) (h' := (hh X g w2.2)) rfl ?_
      exact Go_ret (fun _ h => h) rfl
  ·
    refine Go_blk 1 (pc' := 18) (L' := [(0, .ref 47)]) (S' := [.int (0 : Int32)]) (h' := (hh X g w1.2)) rfl ?_
    exact Go_ret (fun _ h => h) rfl
set_option maxRecDepth 1000000 in
set_option maxHeartbeats 4000000 in
theorem G_m_one295 (r : MJ → Option (MJ)) (dr : Nat) (hM : 5 ≤ dr) (hr : ∀ (X : XX) (g : GG) (I : MJ), Go dr 293 0 (lv_args 0 [.ref 47]) [] (hh X g I) (r  I) (pV X g))  {X : XX} {g : GG} {I : MJ} {d : Nat} (hd : dr + 1 ≤ d) : Go d 295 0 (lv_args 0 [.ref 47]) [] (hh X g I) (F_m_one295 r  I) (pV X g) := by
  obtain ⟨d, rfl⟩ : ∃ k, d = k + 1 := ⟨d - 1, by omega⟩
  unfold F_m_one295
  refine Go_blk 2 (pc' := 4) (L' := [(0, .ref 47)]) (S' := [.int (I 47 5)]) (h' := (hh X g I)) rfl ?_
  refine Go_cmz rfl rfl rfl ?_ ?_
  ·
    refine Go_blk 1 (pc' := 9) (L' := [(0, .ref 47)]) (S' := [.ref 47]) (h' := (hh X g I)) rfl ?_
    refine Go_cV (y' := 270) (As := [.ref 47]) (r := []) rfl (g_m_blanks270  (by omega)) fun I1 => ?_
    refine Go_blk 7 (pc' := 22) (L' := [(0, .ref 47)]) (S' := [.int (0 : Int32), .int (20 : Int32), .int (19 : Int32), .int (1 : Int32), .int (5 : Int32), .int (12 : Int32), .ref 47]) (h' := (hh X g I1)) rfl ?_
    refine Go_cW (y' := 274) (As := [.ref 47, .int (12 : Int32), .int (5 : Int32), .int (1 : Int32), .int (19 : Int32), .int (20 : Int32), .int (0 : Int32)]) (r := []) rfl (g_m_isWord274 (12 : Int32) (5 : Int32) (1 : Int32) (19 : Int32) (20 : Int32) (0 : Int32) (by omega)) fun w2 => ?_
    refine Go_seq (pcj := 56) (fun (b3 : Int32 × MJ) => [(0, .ref 47)]) (fun (b3 : Int32 × MJ) => [.int b3.1]) (fun (b3 : Int32 × MJ) => (hh X g b3.2)) (fun b3 => ?_) ?_
    ·
      refine Go_blk 3 (pc' := 59) (L' := [(1, .int b3.1), (0, .ref 47)]) (S' := [.int (-1 : Int32), .int b3.1]) (h' := (hh X g b3.2)) rfl ?_
      refine Go_cmp rfl rfl rfl ?_ ?_
      ·
        refine Go_blk 3 (pc' := 122) (L' := [(1, .int b3.1), (0, .ref 47)]) (S' := [.int (b3.2 47 4), .ref 47]) (h' := (hh X g b3.2)) rfl ?_
        refine Go_cR (y' := 271) (As := [.ref 47, .int (b3.2 47 4)]) (r := []) rfl (g_m_byteAt271 (b3.2 47 4) (by omega)) fun v4 => ?_
        refine Go_blk 1 (pc' := 127) (L' := [(1, .int b3.1), (0, .ref 47)]) (S' := [.int (40 : Int32), .int v4]) (h' := (hh X g b3.2)) rfl ?_
        refine Go_cmpn rfl rfl rfl ?_ ?_
        ·
          refine Go_blk 1 (pc' := 131) (L' := [(1, .int b3.1), (0, .ref 47)]) (S' := [.ref 47]) (h' := (hh X g b3.2)) rfl ?_
          refine Go_cW (y' := 290) (As := [.ref 47]) (r := []) rfl (g_m_opens290  (by omega)) fun w5 => ?_
          refine Go_cmzn rfl rfl rfl ?_ ?_
          ·
            exact Go_ret (fun _ h => h) rfl
          ·
            refine Go_blk 7 (pc' := 149) (L' := [(1, .int b3.1), (0, .ref 47)]) (S' := [.ref 47]) (h' := (hh X g (ab_up1 w5.2 47 4 ((w5.2 47 4) + (1 : Int32))))) rfl ?_
            refine Go_cV (y' := 293) (As := [.ref 47]) (r := []) rfl (Go_dep (by omega) (hr  X g _)) fun I6 => ?_
            refine Go_blk 2 (pc' := 155) (L' := [(1, .int b3.1), (0, .ref 47)]) (S' := [.int (41 : Int32), .ref 47]) (h' := (hh X g I6)) rfl ?_
            refine Go_cV (y' := 285) (As := [.ref 47, .int (41 : Int32)]) (r := []) rfl (g_m_sign285 (41 : Int32) (by omega)) fun I7 => ?_
            refine Go_blk 6 (pc' := 168) (L' := [(1, .int b3.1), (0, .ref 47)]) (S' := []) (h' := (hh X g (ab_up1 I7 47 8 ((I7 47 8) - (1 : Int32))))) rfl ?_
            exact Go_ret (fun _ h => h) rfl
        ·
          refine Go_blk 1 (pc' := 170) (L' := [(1, .int b3.1), (0, .ref 47)]) (S' := [.ref 47]) (h' := (hh X g b3.2)) rfl ?_
          refine Go_cW (y' := 297) (As := [.ref 47]) (r := []) rfl (g_m_knownHere297  (by omega)) fun w8 => ?_
          refine Go_blk 3 (pc' := 176) (L' := [(2, .int w8.1), (1, .int b3.1), (0, .ref 47)]) (S' := [.int (-1 : Int32), .int w8.1]) (h' := (hh X g w8.2)) rfl ?_
          refine Go_seq (pcj := 201) (fun (b9 : MJ) => []) (fun (b9 : MJ) => []) (fun (b9 : MJ) => (hh X g b9)) (fun b9 => ?_) ?_
          ·
            exact Go_ret (fun _ h => h) rfl
          ·
            refine Go_cmp rfl rfl rfl ?_ ?_
            ·
              refine Go_blk 5 (pc' := 195) (L' := [(2, .int w8.1), (1, .int b3.1), (0, .ref 47)]) (S' := [.int (999 : Int32), .int (0 : Int32), .ref 47, .int (0 : Int32), .ref 47]) (h' := (hh X g w8.2)) rfl ?_
              refine Go_cW (y' := 283) (As := [.ref 47, .int (0 : Int32), .int (999 : Int32)]) (r := [.int (0 : Int32), .ref 47]) rfl (g_m_number283 (0 : Int32) (999 : Int32) (by omega)) fun w10 => ?_
              refine Go_cV (y' := 296) (As := [.ref 47, .int (0 : Int32), .int w10.1]) (r := []) rfl (g_m_notes296 (0 : Int32) w10.1 (by omega)) fun I11 => ?_
              exact Go_jmp [] rfl trivial (fun _ h => h)
            ·
              refine Go_blk 3 (pc' := 182) (L' := [(2, .int w8.1), (1, .int b3.1), (0, .ref 47)]) (S' := [.int w8.1, .int (1 : Int32), .ref 47]) (h' := (hh X g w8.2)) rfl ?_
              refine Go_cV (y' := 296) (As := [.ref 47, .int (1 : Int32), .int w8.1]) (r := []) rfl (g_m_notes296 (1 : Int32) w8.1 (by omega)) fun I12 => ?_
              refine Go_blk 1 (pc' := 201) (L' := [(2, .int w8.1), (1, .int b3.1), (0, .ref 47)]) (S' := []) (h' := (hh X g I12)) rfl ?_
              exact Go_jmp [] rfl trivial (fun _ h => h)
      ·
        refine Go_blk 1 (pc' := 63) (L' := [(1, .int b3.1), (0, .ref 47)]) (S' := [.ref 47]) (h' := (hh X g b3.2)) rfl ?_
        refine Go_cW (y' := 290) (As := [.ref 47]) (r := []) rfl (g_m_opens290  (by omega)) fun w13 => ?_
        refine Go_cmzn rfl rfl rfl ?_ ?_
        ·
          exact Go_ret (fun _ h => h) rfl
        ·
          refine Go_blk 1 (pc' := 71) (L' := [(1, .int b3.1), (0, .ref 47)]) (S' := [.ref 47]) (h' := (hh X g w13.2)) rfl ?_
          refine Go_cV (y' := 280) (As := [.ref 47]) (r := []) rfl (g_m_skipWord280  (by omega)) fun I14 => ?_
          refine Go_blk 2 (pc' := 77) (L' := [(1, .int b3.1), (0, .ref 47)]) (S' := [.int (91 : Int32), .ref 47]) (h' := (hh X g I14)) rfl ?_
          refine Go_cV (y' := 285) (As := [.ref 47, .int (91 : Int32)]) (r := []) rfl (g_m_sign285 (91 : Int32) (by omega)) fun I15 => ?_
          refine Go_blk 1 (pc' := 81) (L' := [(1, .int b3.1), (0, .ref 47)]) (S' := [.ref 47]) (h' := (hh X g I15)) rfl ?_
          refine Go_cV (y' := 293) (As := [.ref 47]) (r := []) rfl (Go_dep (by omega) (hr  X g _)) fun I16 => ?_
          refine Go_blk 2 (pc' := 87) (L' := [(1, .int b3.1), (0, .ref 47)]) (S' := [.int (44 : Int32), .ref 47]) (h' := (hh X g I16)) rfl ?_
          refine Go_cV (y' := 285) (As := [.ref 47, .int (44 : Int32)]) (r := []) rfl (g_m_sign285 (44 : Int32) (by omega)) fun I17 => ?_
          refine Go_blk 1 (pc' := 91) (L' := [(1, .int b3.1), (0, .ref 47)]) (S' := [.ref 47]) (h' := (hh X g I17)) rfl ?_
          refine Go_cV (y' := 293) (As := [.ref 47]) (r := []) rfl (Go_dep (by omega) (hr  X g _)) fun I18 => ?_
          refine Go_blk 2 (pc' := 97) (L' := [(1, .int b3.1), (0, .ref 47)]) (S' := [.int (93 : Int32), .ref 47]) (h' := (hh X g I18)) rfl ?_
          refine Go_cV (y' := 285) (As := [.ref 47, .int (93 : Int32)]) (r := []) rfl (g_m_sign285 (93 : Int32) (by omega)) fun I19 => ?_
          refine Go_blk 3 (pc' := 103) (L' := [(1, .int b3.1), (0, .ref 47)]) (S' := [.int (0 : Int32), .int b3.1, .ref 47]) (h' := (hh X g I19)) rfl ?_
          refine Go_cV (y' := 296) (As := [.ref 47, .int b3.1, .int (0 : Int32)]) (r := []) rfl (g_m_notes296 b3.1 (0 : Int32) (by omega)) fun I20 => ?_
          refine Go_blk 6 (pc' := 116) (L' := [(1, .int b3.1), (0, .ref 47)]) (S' := []) (h' := (hh X g (ab_up1 I20 47 8 ((I20 47 8) - (1 : Int32))))) rfl ?_
          exact Go_ret (fun _ h => h) rfl
    ·
      refine Go_cmz rfl rfl rfl ?_ ?_
      ·
        refine Go_blk 7 (pc' := 44) (L' := [(0, .ref 47)]) (S' := [.int (0 : Int32), .int (0 : Int32), .int (20 : Int32), .int (19 : Int32), .int (15 : Int32), .int (13 : Int32), .ref 47]) (h' := (hh X g w2.2)) rfl ?_
        refine Go_cW (y' := 274) (As := [.ref 47, .int (13 : Int32), .int (15 : Int32), .int (19 : Int32), .int (20 : Int32), .int (0 : Int32), .int (0 : Int32)]) (r := []) rfl (g_m_isWord274 (13 : Int32) (15 : Int32) (19 : Int32) (20 : Int32) (0 : Int32) (0 : Int32) (by omega)) fun w21 => ?_
        refine Go_cmz rfl rfl rfl ?_ ?_
        ·
          refine Go_blk 1 (pc' := 56) (L' := [(0, .ref 47)]) (S' := [.int (-1 : Int32)]) (h' := (hh X g w21.2)) rfl ?_
          exact Go_jmp [(0, .ref 47)] rfl ⟨rfl, trivial⟩ (fun _ h => h)
        ·
          refine Go_blk 2 (pc' := 56) (L' := [(0, .ref 47)]) (S' := [.int (8 : Int32)]) (h' := (hh X g w21.2)) rfl ?_
          exact Go_jmp [(0, .ref 47)] rfl ⟨rfl, trivial⟩ (fun _ h => h)
      ·
        refine Go_blk 2 (pc' := 56) (L' := [(0, .ref 47)]) (S' := [.int (7 : Int32)]) (h' := (hh X g w2.2)) rfl ?_
        exact Go_jmp [(0, .ref 47)] rfl ⟨rfl, trivial⟩ (fun _ h => h)
  ·
    exact Go_ret (fun _ h => h) rfl
set_option maxRecDepth 1000000 in
set_option maxHeartbeats 4000000 in
theorem G_m_product294 (r : MJ → Option (MJ)) (dr : Nat) (hM : 5 ≤ dr) (hr : ∀ (X : XX) (g : GG) (I : MJ), Go dr 293 0 (lv_args 0 [.ref 47]) [] (hh X g I) (r  I) (pV X g))  {X : XX} {g : GG} {I : MJ} {d : Nat} (hd : dr + 2 ≤ d) : Go d 294 0 (lv_args 0 [.ref 47]) [] (hh X g I) (F_m_product294 r  I) (pV X g) := by
  obtain ⟨d, rfl⟩ : ∃ k, d = k + 1 := ⟨d - 1, by omega⟩
  unfold F_m_product294
  refine Go_blk 1 (pc' := 1) (L' := [(0, .ref 47)]) (S' := [.ref 47]) (h' := (hh X g I)) rfl ?_
  refine Go_cV (y' := 295) (As := [.ref 47]) (r := []) rfl (G_m_one295 r dr hM hr  (by omega)) fun I1 => ?_
  refine Go_lcs [(0, .ref 47)] rfl ⟨rfl, trivial⟩ ?_
  refine Go_wh (fun (s2 : MJ) => [(0, .ref 47)]) (fun _ => []) (fun (s2 : MJ) => (hh X g s2)) (fun s2 => ?_) I1
  refine Go_blk 2 (pc' := 8) (L' := [(0, .ref 47)]) (S' := [.int (s2 47 5)]) (h' := (hh X g s2)) rfl ?_
  refine Go_cmzn rfl rfl rfl ?_ ?_
  ·
    refine Go_blk 2 (pc' := 14) (L' := [(0, .ref 47)]) (S' := [.int (42 : Int32), .ref 47]) (h' := (hh X g s2)) rfl ?_
    refine Go_cW (y' := 298) (As := [.ref 47, .int (42 : Int32)]) (r := []) rfl (g_m_takesSign298 (42 : Int32) (by omega)) fun w3 => ?_
    refine Go_seq (pcj := 52) (fun (b4 : Int32 × MJ) => [(0, .ref 47)]) (fun (b4 : Int32 × MJ) => [.int b4.1]) (fun (b4 : Int32 × MJ) => (hh X g b4.2)) (fun b4 => ?_) ?_
    ·
      refine Go_blk 3 (pc' := 55) (L' := [(1, .int b4.1), (0, .ref 47)]) (S' := [.int (-1 : Int32), .int b4.1]) (h' := (hh X g b4.2)) rfl ?_
      refine Go_cmpn rfl rfl rfl ?_ ?_
      ·
        refine Go_inrS ?_
        exact Go_ret (fun _ h => h) rfl
      ·
        refine Go_blk 1 (pc' := 60) (L' := [(1, .int b4.1), (0, .ref 47)]) (S' := [.ref 47]) (h' := (hh X g b4.2)) rfl ?_
        refine Go_cV (y' := 295) (As := [.ref 47]) (r := []) rfl (G_m_one295 r dr hM hr  (by omega)) fun I5 => ?_
        refine Go_blk 3 (pc' := 66) (L' := [(1, .int b4.1), (0, .ref 47)]) (S' := [.int (0 : Int32), .int b4.1, .ref 47]) (h' := (hh X g I5)) rfl ?_
        refine Go_cV (y' := 296) (As := [.ref 47, .int b4.1, .int (0 : Int32)]) (r := []) rfl (g_m_notes296 b4.1 (0 : Int32) (by omega)) fun I6 => ?_
        refine Go_blk 1 (pc' := 4) (L' := [(1, .int b4.1), (0, .ref 47)]) (S' := []) (h' := (hh X g I6)) rfl ?_
        exact Go_jmp [(0, .ref 47)] rfl ⟨rfl, trivial⟩ (fun _ h => h)
    ·
      refine Go_cmz rfl rfl rfl ?_ ?_
      ·
        refine Go_blk 2 (pc' := 27) (L' := [(0, .ref 47)]) (S' := [.int (47 : Int32), .ref 47]) (h' := (hh X g w3.2)) rfl ?_
        refine Go_cW (y' := 298) (As := [.ref 47, .int (47 : Int32)]) (r := []) rfl (g_m_takesSign298 (47 : Int32) (by omega)) fun w7 => ?_
        refine Go_cmz rfl rfl rfl ?_ ?_
        ·
          refine Go_blk 2 (pc' := 40) (L' := [(0, .ref 47)]) (S' := [.int (37 : Int32), .ref 47]) (h' := (hh X g w7.2)) rfl ?_
          refine Go_cW (y' := 298) (As := [.ref 47, .int (37 : Int32)]) (r := []) rfl (g_m_takesSign298 (37 : Int32) (by omega)) fun w8 => ?_
          refine Go_cmz rfl rfl rfl ?_ ?_
          ·
            refine Go_blk 1 (pc' := 52) (L' := [(0, .ref 47)]) (S' := [.int (-1 : Int32)]) (h' := (hh X g w8.2)) rfl ?_
            exact Go_jmp [(0, .ref 47)] rfl ⟨rfl, trivial⟩ (fun _ h => h)
          ·
            refine Go_blk 2 (pc' := 52) (L' := [(0, .ref 47)]) (S' := [.int (6 : Int32)]) (h' := (hh X g w8.2)) rfl ?_
            exact Go_jmp [(0, .ref 47)] rfl ⟨rfl, trivial⟩ (fun _ h => h)
        ·
          refine Go_blk 2 (pc' := 52) (L' := [(0, .ref 47)]) (S' := [.int (5 : Int32)]) (h' := (hh X g w7.2)) rfl ?_
          exact Go_jmp [(0, .ref 47)] rfl ⟨rfl, trivial⟩ (fun _ h => h)
      ·
        refine Go_blk 2 (pc' := 52) (L' := [(0, .ref 47)]) (S' := [.int (4 : Int32)]) (h' := (hh X g w3.2)) rfl ?_
        exact Go_jmp [(0, .ref 47)] rfl ⟨rfl, trivial⟩ (fun _ h => h)
  ·
    refine Go_inrS ?_
    exact Go_ret (fun _ h => h) rfl
set_option maxRecDepth 1000000 in
set_option maxHeartbeats 4000000 in
theorem G_m_sum293 (r : MJ → Option (MJ)) (dr : Nat) (hM : 5 ≤ dr) (hr : ∀ (X : XX) (g : GG) (I : MJ), Go dr 293 0 (lv_args 0 [.ref 47]) [] (hh X g I) (r  I) (pV X g))  {X : XX} {g : GG} {I : MJ} {d : Nat} (hd : dr + 3 ≤ d) : Go d 293 0 (lv_args 0 [.ref 47]) [] (hh X g I) (F_m_sum293 r  I) (pV X g) := by
  obtain ⟨d, rfl⟩ : ∃ k, d = k + 1 := ⟨d - 1, by omega⟩
  unfold F_m_sum293
  refine Go_blk 1 (pc' := 1) (L' := [(0, .ref 47)]) (S' := [.ref 47]) (h' := (hh X g I)) rfl ?_
  refine Go_cV (y' := 294) (As := [.ref 47]) (r := []) rfl (G_m_product294 r dr hM hr  (by omega)) fun I1 => ?_
  refine Go_lcs [(0, .ref 47)] rfl ⟨rfl, trivial⟩ ?_
  refine Go_wh (fun (s2 : MJ) => [(0, .ref 47)]) (fun _ => []) (fun (s2 : MJ) => (hh X g s2)) (fun s2 => ?_) I1
  refine Go_blk 2 (pc' := 8) (L' := [(0, .ref 47)]) (S' := [.int (s2 47 5)]) (h' := (hh X g s2)) rfl ?_
  refine Go_cmzn rfl rfl rfl ?_ ?_
  ·
    refine Go_blk 2 (pc' := 14) (L' := [(0, .ref 47)]) (S' := [.int (43 : Int32), .ref 47]) (h' := (hh X g s2)) rfl ?_
    refine Go_cW (y' := 298) (As := [.ref 47, .int (43 : Int32)]) (r := []) rfl (g_m_takesSign298 (43 : Int32) (by omega)) fun w3 => ?_
    refine Go_seq (pcj := 38) (fun (b4 : Int32 × MJ) => [(0, .ref 47)]) (fun (b4 : Int32 × MJ) => [.int b4.1]) (fun (b4 : Int32 × MJ) => (hh X g b4.2)) (fun b4 => ?_) ?_
    ·
      refine Go_blk 3 (pc' := 41) (L' := [(1, .int b4.1), (0, .ref 47)]) (S' := [.int (-1 : Int32), .int b4.1]) (h' := (hh X g b4.2)) rfl ?_
      refine Go_cmpn rfl rfl rfl ?_ ?_
      ·
        refine Go_inrS ?_
        exact Go_ret (fun _ h => h) rfl
      ·
        refine Go_blk 1 (pc' := 46) (L' := [(1, .int b4.1), (0, .ref 47)]) (S' := [.ref 47]) (h' := (hh X g b4.2)) rfl ?_
        refine Go_cV (y' := 294) (As := [.ref 47]) (r := []) rfl (G_m_product294 r dr hM hr  (by omega)) fun I5 => ?_
        refine Go_blk 3 (pc' := 52) (L' := [(1, .int b4.1), (0, .ref 47)]) (S' := [.int (0 : Int32), .int b4.1, .ref 47]) (h' := (hh X g I5)) rfl ?_
        refine Go_cV (y' := 296) (As := [.ref 47, .int b4.1, .int (0 : Int32)]) (r := []) rfl (g_m_notes296 b4.1 (0 : Int32) (by omega)) fun I6 => ?_
        refine Go_blk 1 (pc' := 4) (L' := [(1, .int b4.1), (0, .ref 47)]) (S' := []) (h' := (hh X g I6)) rfl ?_
        exact Go_jmp [(0, .ref 47)] rfl ⟨rfl, trivial⟩ (fun _ h => h)
    ·
      refine Go_cmz rfl rfl rfl ?_ ?_
      ·
        refine Go_blk 2 (pc' := 27) (L' := [(0, .ref 47)]) (S' := [.int (45 : Int32), .ref 47]) (h' := (hh X g w3.2)) rfl ?_
        refine Go_cW (y' := 298) (As := [.ref 47, .int (45 : Int32)]) (r := []) rfl (g_m_takesSign298 (45 : Int32) (by omega)) fun w7 => ?_
        refine Go_cmz rfl rfl rfl ?_ ?_
        ·
          refine Go_blk 1 (pc' := 38) (L' := [(0, .ref 47)]) (S' := [.int (-1 : Int32)]) (h' := (hh X g w7.2)) rfl ?_
          exact Go_jmp [(0, .ref 47)] rfl ⟨rfl, trivial⟩ (fun _ h => h)
        ·
          refine Go_blk 2 (pc' := 38) (L' := [(0, .ref 47)]) (S' := [.int (3 : Int32)]) (h' := (hh X g w7.2)) rfl ?_
          exact Go_jmp [(0, .ref 47)] rfl ⟨rfl, trivial⟩ (fun _ h => h)
      ·
        refine Go_blk 2 (pc' := 38) (L' := [(0, .ref 47)]) (S' := [.int (2 : Int32)]) (h' := (hh X g w3.2)) rfl ?_
        exact Go_jmp [(0, .ref 47)] rfl ⟨rfl, trivial⟩ (fun _ h => h)
  ·
    refine Go_inrS ?_
    exact Go_ret (fun _ h => h) rfl
theorem g_m_sum293 (k : Nat) : ∀  {X : XX} {g : GG} {I : MJ} {d : Nat}, 5 + 3 * k ≤ d → Go d 293 0 (lv_args 0 [.ref 47]) [] (hh X g I) (f_m_sum293 k  I) (pV X g) := by
  induction k with
  | zero => intros; exact Go_none
  | succ k ih =>
    intro  X g I d hd
    exact G_m_sum293 (f_m_sum293 k) (5 + 3 * k) (by omega) (fun  X g I => ih  (Nat.le_refl _))  (by omega)
set_option maxRecDepth 1000000 in
set_option maxHeartbeats 4000000 in
theorem g_m_law292 (p1 : Int32) {X : XX} {g : GG} {I : MJ} {d : Nat} (hd : 54 ≤ d) : Go d 292 0 (lv_args 0 [.ref 47, .int p1]) [] (hh X g I) (f_m_law292 p1 I) (pW X g) := by
  obtain ⟨d, rfl⟩ : ∃ k, d = k + 1 := ⟨d - 1, by omega⟩
  unfold f_m_law292
  refine Go_blk 8 (pc' := 12) (L' := [(0, .ref 47), (1, .int p1)]) (S' := [.int (I 47 1), .int (0 : Int32), .int p1, .ref 47]) (h' := (hh X g (ab_up1 I 47 0 (0 : Int32)))) rfl ?_
  refine Go_cR (y' := 264) (As := [.int p1, .int (0 : Int32), .int (I 47 1)]) (r := [.ref 47]) rfl (g_m_in264 p1 (0 : Int32) (I 47 1) (by omega)) fun v1 => ?_
  refine Go_seq (pcj := 30) (fun (b2 : Int32) => [(0, .ref 47), (1, .int p1)]) (fun (b2 : Int32) => [.int b2, .ref 47]) (fun (b2 : Int32) => (hh X g (ab_up1 I 47 0 (0 : Int32)))) (fun b2 => ?_) ?_
  ·
    refine Go_blk 2 (pc' := 32) (L' := [(0, .ref 47), (1, .int p1)]) (S' := [.int (1 : Int32), .int (1 : Int32), .int b2, .ref 47]) (h' := (hh X g (ab_up1 I 47 0 (0 : Int32)))) rfl ?_
    refine Go_cW (y' := 268) (As := [.ref 47, .int b2, .int (1 : Int32), .int (1 : Int32)]) (r := []) rfl (g_m_bad268 b2 (1 : Int32) (1 : Int32) (by omega)) fun w3 => ?_
    refine Go_cmz rfl rfl rfl ?_ ?_
    ·
      refine Go_blk 2 (pc' := 42) (L' := [(0, .ref 47), (1, .int p1)]) (S' := [.int p1, .ref 47]) (h' := (hh X g w3.2)) rfl ?_
      refine Go_cV (y' := 269) (As := [.ref 47, .int p1]) (r := []) rfl (g_m_starts269 p1 (by omega)) fun I4 => ?_
      refine Go_blk 4 (pc' := 51) (L' := [(0, .ref 47), (1, .int p1)]) (S' := [.ref 47]) (h' := (hh X g (ab_up1 I4 47 26 (0 : Int32)))) rfl ?_
      refine Go_cV (y' := 293) (As := [.ref 47]) (r := []) rfl (g_m_sum293 16  (by omega)) fun I5 => ?_
      refine Go_blk 1 (pc' := 55) (L' := [(0, .ref 47), (1, .int p1)]) (S' := [.ref 47]) (h' := (hh X g I5)) rfl ?_
      refine Go_cV (y' := 270) (As := [.ref 47]) (r := []) rfl (g_m_blanks270  (by omega)) fun I6 => ?_
      refine Go_blk 2 (pc' := 62) (L' := [(0, .ref 47), (1, .int p1)]) (S' := [.int (I6 47 5)]) (h' := (hh X g I6)) rfl ?_
      refine Go_seq (pcj := 85) (fun (b7 : MJ) => [(0, .ref 47)]) (fun (b7 : MJ) => []) (fun (b7 : MJ) => (hh X g b7)) (fun b7 => ?_) ?_
      ·
        refine Go_blk 2 (pc' := 89) (L' := [(0, .ref 47)]) (S' := [.int (b7 47 5)]) (h' := (hh X g b7)) rfl ?_
        refine Go_cmz rfl rfl rfl ?_ ?_
        ·
          refine Go_blk 13 (pc' := 122) (L' := [(0, .ref 47)]) (S' := [.int (b7 47 26), .ref 145, .ref 306]) (h' := (hh X g (ab_up1 (ab_up1 b7 47 3 (-1 : Int32)) 47 25 (b7 47 26)))) rfl ?_
          refine Go_cV (y' := 263) (As := [.ref 306, .ref 145, .int (b7 47 26)]) (r := []) rfl (g_m_lays263 306 145 (b7 47 26) (by omega)) fun I8 => ?_
          refine Go_blk 1 (pc' := 126) (L' := [(0, .ref 47)]) (S' := [.int (1 : Int32)]) (h' := (hh X g I8)) rfl ?_
          exact Go_ret (fun _ h => h) rfl
        ·
          refine Go_blk 1 (pc' := 93) (L' := [(0, .ref 47)]) (S' := [.ref 47]) (h' := (hh X g b7)) rfl ?_
          refine Go_cW (y' := 286) (As := [.ref 47]) (r := []) rfl (g_m_ends286  (by omega)) fun w9 => ?_
          exact Go_ret (fun _ h => h) rfl
      ·
        refine Go_cmzn rfl rfl rfl ?_ ?_
        ·
          refine Go_blk 4 (pc' := 73) (L' := [(0, .ref 47), (1, .int p1)]) (S' := [.int (I6 47 2), .int (I6 47 4)]) (h' := (hh X g I6)) rfl ?_
          refine Go_cmpn rfl rfl (ab_cge _ _) ?_ ?_
          ·
            refine Go_blk 4 (pc' := 82) (L' := [(0, .ref 47), (1, .int p1)]) (S' := [.int (I6 47 4), .int (1 : Int32), .ref 47]) (h' := (hh X g I6)) rfl ?_
            refine Go_cV (y' := 278) (As := [.ref 47, .int (1 : Int32), .int (I6 47 4)]) (r := []) rfl (g_m_wrong278 (1 : Int32) (I6 47 4) (by omega)) fun I10 => ?_
            exact Go_jmp [(0, .ref 47)] rfl ⟨rfl, trivial⟩ (fun _ h => h)
          ·
            exact Go_jmp [(0, .ref 47)] rfl ⟨rfl, trivial⟩ (fun _ h => h)
        ·
          exact Go_jmp [(0, .ref 47)] rfl ⟨rfl, trivial⟩ (fun _ h => h)
    ·
      refine Go_blk 1 (pc' := 39) (L' := [(0, .ref 47), (1, .int p1)]) (S' := [.int (0 : Int32)]) (h' := (hh X g w3.2)) rfl ?_
      exact Go_ret (fun _ h => h) rfl
  ·
    refine Go_cmz rfl rfl rfl ?_ ?_
    ·
      refine Go_blk 2 (pc' := 30) (L' := [(0, .ref 47), (1, .int p1)]) (S' := [.int (1 : Int32), .ref 47]) (h' := (hh X g (ab_up1 I 47 0 (0 : Int32)))) rfl ?_
      exact Go_jmp [(0, .ref 47), (1, .int p1)] rfl ⟨rfl, rfl, trivial⟩ (fun _ h => h)
    ·
      refine Go_blk 2 (pc' := 22) (L' := [(0, .ref 47), (1, .int p1)]) (S' := [.int (150 : Int32), .int p1, .ref 47]) (h' := (hh X g (ab_up1 I 47 0 (0 : Int32)))) rfl ?_
      refine Go_cmpn rfl rfl (ab_cle _ _) ?_ ?_
      ·
        refine Go_blk 2 (pc' := 30) (L' := [(0, .ref 47), (1, .int p1)]) (S' := [.int (1 : Int32), .ref 47]) (h' := (hh X g (ab_up1 I 47 0 (0 : Int32)))) rfl ?_
        exact Go_jmp [(0, .ref 47), (1, .int p1)] rfl ⟨rfl, rfl, trivial⟩ (fun _ h => h)
      ·
        refine Go_blk 1 (pc' := 30) (L' := [(0, .ref 47), (1, .int p1)]) (S' := [.int (0 : Int32), .ref 47]) (h' := (hh X g (ab_up1 I 47 0 (0 : Int32)))) rfl ?_
        exact Go_jmp [(0, .ref 47), (1, .int p1)] rfl ⟨rfl, rfl, trivial⟩ (fun _ h => h)
set_option maxRecDepth 1000000 in
set_option maxHeartbeats 4000000 in
theorem g_pas_isFull93  {X : XX} {g : GG} {I : MJ} {d : Nat} (hd : 0 ≤ d) : Go d 93 0 (lv_args 0 [.ref 31]) [] (hh X g I) (f_pas_isFull93  I) (pR X g I) := by
  unfold f_pas_isFull93
  refine Go_blk 3 (pc' := 6) (L' := [(0, .ref 31)]) (S' := [.int (16 : Int32), .int (I 31 3)]) (h' := (hh X g I)) rfl ?_
  refine Go_seq (pcj := 14) (fun (b1 : Int32) => []) (fun (b1 : Int32) => [.int b1]) (fun (b1 : Int32) => (hh X g I)) (fun b1 => ?_) ?_
  ·
    exact Go_ret (fun _ h => h) rfl
  ·
    refine Go_cmp rfl rfl rfl ?_ ?_
    ·
      refine Go_blk 1 (pc' := 14) (L' := [(0, .ref 31)]) (S' := [.int (0 : Int32)]) (h' := (hh X g I)) rfl ?_
      exact Go_jmp [] rfl trivial (fun _ h => h)
    ·
      refine Go_blk 2 (pc' := 14) (L' := [(0, .ref 31)]) (S' := [.int (1 : Int32)]) (h' := (hh X g I)) rfl ?_
      exact Go_jmp [] rfl trivial (fun _ h => h)
set_option maxRecDepth 1000000 in
set_option maxHeartbeats 4000000 in
theorem g_pla_write97 (p1 : Int32) (p2 : Int32) (p3 : Int32) {X : XX} {g : GG} {I : MJ} {d : Nat} (hd : 1 ≤ d) : Go d 97 0 (lv_args 0 [.ref 29, .int p1, .int p2, .int p3]) [] (hh X g I) (f_pla_write97 p1 p2 p3 I) (pV X g) := by
  obtain ⟨d, rfl⟩ : ∃ k, d = k + 1 := ⟨d - 1, by omega⟩
  unfold f_pla_write97
  refine Go_blk 8 (pc' := 10) (L' := [(0, .ref 29), (1, .int p1), (2, .int p2), (3, .int p3)]) (S' := [.int p3, .int (((4 : Int32) * p1) + p2), .ref 30]) (h' := (hh X g I)) rfl ?_
  refine Go_cV (y' := 15) (As := [.ref 30, .int (((4 : Int32) * p1) + p2), .int p3]) (r := []) rfl (g_x_put15 30 (((4 : Int32) * p1) + p2) p3 (by omega)) fun I1 => ?_
  exact Go_ret (fun _ h => h) rfl
set_option maxRecDepth 1000000 in
set_option maxHeartbeats 4000000 in
theorem G_pla_readAgain98 (r : Int32 → MJ → Option (MJ)) (dr : Nat) (hM : 2 ≤ dr) (hr : ∀ (p3 : Int32) (X : XX) (g : GG) (I : MJ), Go dr 95 0 (lv_args 0 [.ref 29, .ref 1, .ref 3, .int p3]) [] (hh X g I) (r p3 I) (pV X g)) (p3 : Int32) (p4 : Int32) {X : XX} {g : GG} {I : MJ} {d : Nat} (hd : dr + 1 ≤ d) : Go d 98 0 (lv_args 0 [.ref 29, .ref 1, .ref 3, .int p3, .int p4]) [] (hh X g I) (F_pla_readAgain98 r p3 p4 I) (pV X g) := by
  obtain ⟨d, rfl⟩ : ∃ k, d = k + 1 := ⟨d - 1, by omega⟩
  unfold F_pla_readAgain98
  refine Go_blk 2 (pc' := 3) (L' := [(0, .ref 29), (1, .ref 1), (2, .ref 3), (3, .int p3), (4, .int p4)]) (S' := [.int (6 : Int32), .int p3]) (h' := (hh X g I)) rfl ?_
  refine Go_seq (pcj := 15) (fun (b1 : MJ) => [(0, .ref 29), (1, .ref 1), (2, .ref 3), (3, .int p3), (4, .int p4)]) (fun (b1 : MJ) => []) (fun (b1 : MJ) => (hh X g b1)) (fun b1 => ?_) ?_
  ·
    refine Go_blk 6 (pc' := 23) (L' := [(0, .ref 29), (1, .ref 1), (2, .ref 3), (3, .int p3), (4, .int p4)]) (S' := [.int (20 : Int32), .int (0 : Int32), .ref 1, .int (1 : Int32), .int p4, .ref 29]) (h' := (hh X g b1)) rfl ?_
    refine Go_cW (y' := 53) (As := [.ref 1, .int (0 : Int32), .int (20 : Int32)]) (r := [.int (1 : Int32), .int p4, .ref 29]) rfl (g_tap_number53 (0 : Int32) (20 : Int32) (by omega)) fun w2 => ?_
    refine Go_cV (y' := 97) (As := [.ref 29, .int p4, .int (1 : Int32), .int w2.1]) (r := []) rfl (g_pla_write97 p4 (1 : Int32) w2.1 (by omega)) fun I3 => ?_
    refine Go_blk 2 (pc' := 32) (L' := [(0, .ref 29), (1, .ref 1), (2, .ref 3), (3, .int p3), (4, .int p4)]) (S' := [.int (91 : Int32), .ref 1]) (h' := (hh X g I3)) rfl ?_
    refine Go_cV (y' := 58) (As := [.ref 1, .int (91 : Int32)]) (r := []) rfl (g_tap_sign58 (91 : Int32) (by omega)) fun I4 => ?_
    refine Go_blk 1 (pc' := 36) (L' := [(0, .ref 29), (1, .ref 1), (2, .ref 3), (3, .int p3), (4, .int p4)]) (S' := [.ref 1]) (h' := (hh X g I4)) rfl ?_
    refine Go_cR (y' := 59) (As := [.ref 1]) (r := []) rfl (g_tap_isSound59  (by omega)) fun v5 => ?_
    refine Go_seq (pcj := 51) (fun (b6 : MJ) => [(0, .ref 29), (1, .ref 1), (4, .int p4)]) (fun (b6 : MJ) => []) (fun (b6 : MJ) => (hh X g b6)) (fun b6 => ?_) ?_
    ·
      refine Go_blk 2 (pc' := 54) (L' := [(0, .ref 29), (1, .ref 1), (4, .int p4)]) (S' := [.int (93 : Int32), .ref 1]) (h' := (hh X g b6)) rfl ?_
      refine Go_cV (y' := 58) (As := [.ref 1, .int (93 : Int32)]) (r := []) rfl (g_tap_sign58 (93 : Int32) (by omega)) fun I7 => ?_
      refine Go_blk 5 (pc' := 65) (L' := [(0, .ref 29), (1, .ref 1), (4, .int p4)]) (S' := [.int (I7 29 1), .int (2 : Int32), .int p4, .ref 29]) (h' := (hh X g I7)) rfl ?_
      refine Go_cV (y' := 97) (As := [.ref 29, .int p4, .int (2 : Int32), .int (I7 29 1)]) (r := []) rfl (g_pla_write97 p4 (2 : Int32) (I7 29 1) (by omega)) fun I8 => ?_
      exact Go_ret (fun _ h => h) rfl
    ·
      refine Go_cmz rfl rfl rfl ?_ ?_
      ·
        exact Go_jmp [(0, .ref 29), (1, .ref 1), (4, .int p4)] rfl ⟨rfl, rfl, rfl, trivial⟩ (fun _ h => h)
      ·
        refine Go_blk 6 (pc' := 48) (L' := [(0, .ref 29), (1, .ref 1), (2, .ref 3), (3, .int p3), (4, .int p4)]) (S' := [.int (p3 + (1 : Int32)), .ref 3, .ref 1, .ref 29]) (h' := (hh X g I4)) rfl ?_
        refine Go_cV (y' := 95) (As := [.ref 29, .ref 1, .ref 3, .int (p3 + (1 : Int32))]) (r := []) rfl (Go_dep (by omega) (hr (p3 + (1 : Int32)) X g _)) fun I9 => ?_
        exact Go_jmp [(0, .ref 29), (1, .ref 1), (4, .int p4)] rfl ⟨rfl, rfl, rfl, trivial⟩ (fun _ h => h)
  ·
    refine Go_cmp rfl rfl rfl ?_ ?_
    ·
      exact Go_jmp [(0, .ref 29), (1, .ref 1), (2, .ref 3), (3, .int p3), (4, .int p4)] rfl ⟨rfl, rfl, rfl, rfl, rfl, trivial⟩ (fun _ h => h)
    ·
      refine Go_blk 4 (pc' := 12) (L' := [(0, .ref 29), (1, .ref 1), (2, .ref 3), (3, .int p3), (4, .int p4)]) (S' := [.int (I 1 4), .int (3 : Int32), .ref 1]) (h' := (hh X g I)) rfl ?_
      refine Go_cV (y' := 50) (As := [.ref 1, .int (3 : Int32), .int (I 1 4)]) (r := []) rfl (g_tap_fail50 (3 : Int32) (I 1 4) (by omega)) fun I10 => ?_
      exact Go_jmp [(0, .ref 29), (1, .ref 1), (2, .ref 3), (3, .int p3), (4, .int p4)] rfl ⟨rfl, rfl, rfl, rfl, rfl, trivial⟩ (fun _ h => h)
set_option maxRecDepth 1000000 in
set_option maxHeartbeats 4000000 in
theorem G_pla_readStep96 (r : Int32 → MJ → Option (MJ)) (dr : Nat) (hM : 2 ≤ dr) (hr : ∀ (p3 : Int32) (X : XX) (g : GG) (I : MJ), Go dr 95 0 (lv_args 0 [.ref 29, .ref 1, .ref 3, .int p3]) [] (hh X g I) (r p3 I) (pV X g)) (p3 : Int32) {X : XX} {g : GG} {I : MJ} {d : Nat} (hd : dr + 2 ≤ d) : Go d 96 0 (lv_args 0 [.ref 29, .ref 1, .ref 3, .int p3]) [] (hh X g I) (F_pla_readStep96 r p3 I) (pV X g) := by
  obtain ⟨d, rfl⟩ : ∃ k, d = k + 1 := ⟨d - 1, by omega⟩
  unfold F_pla_readStep96
  refine Go_blk 2 (pc' := 3) (L' := [(0, .ref 29), (1, .ref 1), (2, .ref 3), (3, .int p3)]) (S' := [.ref 2000005, .ref 1]) (h' := (hh X g I)) rfl ?_
  refine Go_cW (y' := 45) (As := [.ref 1, .ref 2000005]) (r := []) rfl (g_tap_word45 2000005 (by omega)) fun w1 => ?_
  refine Go_blk 14 (pc' := 30) (L' := [(5, .int (w1.2 29 1)), (4, .int w1.1), (0, .ref 29), (1, .ref 1), (2, .ref 3), (3, .int p3)]) (S' := [.int w1.1, .int (0 : Int32), .int (w1.2 29 1), .ref 29]) (h' := (hh X g (ab_up1 w1.2 29 1 ((w1.2 29 1) + (1 : Int32))))) rfl ?_
  refine Go_cV (y' := 97) (As := [.ref 29, .int (w1.2 29 1), .int (0 : Int32), .int w1.1]) (r := []) rfl (g_pla_write97 (w1.2 29 1) (0 : Int32) w1.1 (by omega)) fun I2 => ?_
  refine Go_blk 2 (pc' := 37) (L' := [(5, .int (w1.2 29 1)), (4, .int w1.1), (0, .ref 29), (1, .ref 1), (2, .ref 3), (3, .int p3)]) (S' := [.int (6 : Int32), .int w1.1]) (h' := (hh X g I2)) rfl ?_
  refine Go_seq (pcj := 103) (fun (b3 : MJ) => [(0, .ref 29), (1, .ref 1), (4, .int w1.1), (5, .int (w1.2 29 1))]) (fun (b3 : MJ) => []) (fun (b3 : MJ) => (hh X g b3)) (fun b3 => ?_) ?_
  ·
    refine Go_blk 1 (pc' := 105) (L' := [(0, .ref 29), (1, .ref 1), (4, .int w1.1), (5, .int (w1.2 29 1))]) (S' := [.int w1.1]) (h' := (hh X g b3)) rfl ?_
    refine Go_seq (pcj := 157) (fun (b4 : MJ) => []) (fun (b4 : MJ) => []) (fun (b4 : MJ) => (hh X g b4)) (fun b4 => ?_) ?_
    ·
      exact Go_ret (fun _ h => h) rfl
    ·
      refine Go_cmzn rfl rfl rfl ?_ ?_
      ·
        refine Go_blk 6 (pc' := 115) (L' := [(0, .ref 29), (1, .ref 1), (4, .int w1.1), (5, .int (w1.2 29 1))]) (S' := [.int (5 : Int32), .int (0 : Int32), .ref 1, .int (2 : Int32), .int (w1.2 29 1), .ref 29]) (h' := (hh X g b3)) rfl ?_
        refine Go_cW (y' := 53) (As := [.ref 1, .int (0 : Int32), .int (5 : Int32)]) (r := [.int (2 : Int32), .int (w1.2 29 1), .ref 29]) rfl (g_tap_number53 (0 : Int32) (5 : Int32) (by omega)) fun w5 => ?_
        refine Go_cV (y' := 97) (As := [.ref 29, .int (w1.2 29 1), .int (2 : Int32), .int w5.1]) (r := []) rfl (g_pla_write97 (w1.2 29 1) (2 : Int32) w5.1 (by omega)) fun I6 => ?_
        refine Go_blk 1 (pc' := 157) (L' := [(0, .ref 29), (1, .ref 1), (4, .int w1.1), (5, .int (w1.2 29 1))]) (S' := []) (h' := (hh X g I6)) rfl ?_
        exact Go_jmp [] rfl trivial (fun _ h => h)
      ·
        refine Go_blk 2 (pc' := 127) (L' := [(0, .ref 29), (1, .ref 1), (4, .int w1.1), (5, .int (w1.2 29 1))]) (S' := [.int (1 : Int32), .int w1.1]) (h' := (hh X g b3)) rfl ?_
        refine Go_cmpn rfl rfl rfl ?_ ?_
        ·
          refine Go_blk 6 (pc' := 138) (L' := [(0, .ref 29), (1, .ref 1), (4, .int w1.1), (5, .int (w1.2 29 1))]) (S' := [.int (11 : Int32), .int (0 : Int32), .ref 1, .int (2 : Int32), .int (w1.2 29 1), .ref 29]) (h' := (hh X g b3)) rfl ?_
          refine Go_cW (y' := 53) (As := [.ref 1, .int (0 : Int32), .int (11 : Int32)]) (r := [.int (2 : Int32), .int (w1.2 29 1), .ref 29]) rfl (g_tap_number53 (0 : Int32) (11 : Int32) (by omega)) fun w7 => ?_
          refine Go_cV (y' := 97) (As := [.ref 29, .int (w1.2 29 1), .int (2 : Int32), .int w7.1]) (r := []) rfl (g_pla_write97 (w1.2 29 1) (2 : Int32) w7.1 (by omega)) fun I8 => ?_
          refine Go_blk 5 (pc' := 151) (L' := [(0, .ref 29), (1, .ref 1), (4, .int w1.1), (5, .int (w1.2 29 1))]) (S' := [.ref 2000006, .ref 1, .int (3 : Int32), .int (w1.2 29 1), .ref 29]) (h' := (hh X g I8)) rfl ?_
          refine Go_cW (y' := 45) (As := [.ref 1, .ref 2000006]) (r := [.int (3 : Int32), .int (w1.2 29 1), .ref 29]) rfl (g_tap_word45 2000006 (by omega)) fun w9 => ?_
          refine Go_cV (y' := 97) (As := [.ref 29, .int (w1.2 29 1), .int (3 : Int32), .int w9.1]) (r := []) rfl (g_pla_write97 (w1.2 29 1) (3 : Int32) w9.1 (by omega)) fun I10 => ?_
          exact Go_jmp [] rfl trivial (fun _ h => h)
        ·
          exact Go_jmp [] rfl trivial (fun _ h => h)
  ·
    refine Go_cmpn rfl rfl rfl ?_ ?_
    ·
      refine Go_blk 5 (pc' := 46) (L' := [(5, .int (w1.2 29 1)), (4, .int w1.1), (0, .ref 29), (1, .ref 1), (2, .ref 3), (3, .int p3)]) (S' := [.int (w1.2 29 1), .int p3, .ref 3, .ref 1, .ref 29]) (h' := (hh X g I2)) rfl ?_
      refine Go_cV (y' := 98) (As := [.ref 29, .ref 1, .ref 3, .int p3, .int (w1.2 29 1)]) (r := []) rfl (G_pla_readAgain98 r dr hM hr p3 (w1.2 29 1) (by omega)) fun I11 => ?_
      refine Go_blk 1 (pc' := 103) (L' := [(5, .int (w1.2 29 1)), (4, .int w1.1), (0, .ref 29), (1, .ref 1), (2, .ref 3), (3, .int p3)]) (S' := []) (h' := (hh X g I11)) rfl ?_
      exact Go_jmp [(0, .ref 29), (1, .ref 1), (4, .int w1.1), (5, .int (w1.2 29 1))] rfl ⟨rfl, rfl, rfl, rfl, trivial⟩ (fun _ h => h)
    ·
      refine Go_blk 2 (pc' := 55) (L' := [(5, .int (w1.2 29 1)), (4, .int w1.1), (0, .ref 29), (1, .ref 1), (2, .ref 3), (3, .int p3)]) (S' := [.int (4 : Int32), .int w1.1]) (h' := (hh X g I2)) rfl ?_
      refine Go_cmpn rfl rfl rfl ?_ ?_
      ·
        refine Go_blk 9 (pc' := 70) (L' := [(5, .int (w1.2 29 1)), (4, .int w1.1), (0, .ref 29), (1, .ref 1), (2, .ref 3), (3, .int p3)]) (S' := [.int ((I2 3 8) - (1 : Int32)), .int (0 : Int32), .ref 1, .int (1 : Int32), .int (w1.2 29 1), .ref 29]) (h' := (hh X g I2)) rfl ?_
        refine Go_cW (y' := 53) (As := [.ref 1, .int (0 : Int32), .int ((I2 3 8) - (1 : Int32))]) (r := [.int (1 : Int32), .int (w1.2 29 1), .ref 29]) rfl (g_tap_number53 (0 : Int32) ((I2 3 8) - (1 : Int32)) (by omega)) fun w12 => ?_
        refine Go_cV (y' := 97) (As := [.ref 29, .int (w1.2 29 1), .int (1 : Int32), .int w12.1]) (r := []) rfl (g_pla_write97 (w1.2 29 1) (1 : Int32) w12.1 (by omega)) fun I13 => ?_
        refine Go_blk 1 (pc' := 103) (L' := [(5, .int (w1.2 29 1)), (4, .int w1.1), (0, .ref 29), (1, .ref 1), (2, .ref 3), (3, .int p3)]) (S' := []) (h' := (hh X g I13)) rfl ?_
        exact Go_jmp [(0, .ref 29), (1, .ref 1), (4, .int w1.1), (5, .int (w1.2 29 1))] rfl ⟨rfl, rfl, rfl, rfl, trivial⟩ (fun _ h => h)
      ·
        refine Go_blk 2 (pc' := 82) (L' := [(5, .int (w1.2 29 1)), (4, .int w1.1), (0, .ref 29), (1, .ref 1), (2, .ref 3), (3, .int p3)]) (S' := [.int (5 : Int32), .int w1.1]) (h' := (hh X g I2)) rfl ?_
        refine Go_cmp rfl rfl rfl ?_ ?_
        ·
          exact Go_jmp [(0, .ref 29), (1, .ref 1), (4, .int w1.1), (5, .int (w1.2 29 1))] rfl ⟨rfl, rfl, rfl, rfl, trivial⟩ (fun _ h => h)
        ·
          refine Go_blk 9 (pc' := 97) (L' := [(5, .int (w1.2 29 1)), (4, .int w1.1), (0, .ref 29), (1, .ref 1), (2, .ref 3), (3, .int p3)]) (S' := [.int ((I2 3 6) - (1 : Int32)), .int (0 : Int32), .ref 1, .int (1 : Int32), .int (w1.2 29 1), .ref 29]) (h' := (hh X g I2)) rfl ?_
          refine Go_cW (y' := 53) (As := [.ref 1, .int (0 : Int32), .int ((I2 3 6) - (1 : Int32))]) (r := [.int (1 : Int32), .int (w1.2 29 1), .ref 29]) rfl (g_tap_number53 (0 : Int32) ((I2 3 6) - (1 : Int32)) (by omega)) fun w14 => ?_
          refine Go_cV (y' := 97) (As := [.ref 29, .int (w1.2 29 1), .int (1 : Int32), .int w14.1]) (r := []) rfl (g_pla_write97 (w1.2 29 1) (1 : Int32) w14.1 (by omega)) fun I15 => ?_
          exact Go_jmp [(0, .ref 29), (1, .ref 1), (4, .int w1.1), (5, .int (w1.2 29 1))] rfl ⟨rfl, rfl, rfl, rfl, trivial⟩ (fun _ h => h)
