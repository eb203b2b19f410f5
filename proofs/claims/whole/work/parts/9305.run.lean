/-! the machine runs them (written by wip/whole/dec.py) -/
set_option maxRecDepth 1000000 in
set_option maxHeartbeats 4000000 in
theorem g_mot_eat131_17 (p2 : Int32) {X : XX} {g : GG} {I : MJ} {d : Nat} (hd : 3 ≤ d) : Go d 131 0 (lv_args 0 [.ref 23, .ref 17, .int p2]) [] (hh X g I) (f_mot_eat131 17 p2 I) (pV X g) := by
  obtain ⟨d, rfl⟩ : ∃ k, d = k + 1 := ⟨d - 1, by omega⟩
  unfold f_mot_eat131
  refine Go_blk 5 (pc' := 7) (L' := [(0, .ref 23), (1, .ref 17), (2, .int p2)]) (S' := [.int p2, .ref 17, .int (2 : Int32), .ref 27]) (h' := (hh X g I)) rfl ?_
  refine Go_cR (y' := 132) (As := [.ref 17, .int p2]) (r := [.int (2 : Int32), .ref 27]) rfl (g_sta_ageOf132_17 p2 (by omega)) fun v1 => ?_
  refine Go_cV (y' := 15) (As := [.ref 27, .int (2 : Int32), .int v1]) (r := []) rfl (g_x_put15 27 (2 : Int32) v1 (by omega)) fun I2 => ?_
  refine Go_blk 4 (pc' := 19) (L' := [(0, .ref 23), (1, .ref 17), (2, .int p2)]) (S' := [.ref 17, .int (3 : Int32), .ref 27]) (h' := (hh X g I2)) rfl ?_
  refine Go_cR (y' := 113) (As := [.ref 17]) (r := [.int (3 : Int32), .ref 27]) rfl (g_sta_day113_17  (by omega)) fun v3 => ?_
  refine Go_cV (y' := 15) (As := [.ref 27, .int (3 : Int32), .int v3]) (r := []) rfl (g_x_put15 27 (3 : Int32) v3 (by omega)) fun I4 => ?_
  refine Go_blk 4 (pc' := 31) (L' := [(0, .ref 23), (1, .ref 17), (2, .int p2)]) (S' := [.int p2, .int (4 : Int32), .ref 27]) (h' := (hh X g I4)) rfl ?_
  refine Go_cV (y' := 15) (As := [.ref 27, .int (4 : Int32), .int p2]) (r := []) rfl (g_x_put15 27 (4 : Int32) p2 (by omega)) fun I5 => ?_
  refine Go_blk 7 (pc' := 45) (L' := [(0, .ref 23), (1, .ref 17), (2, .int p2)]) (S' := [.int p2, .ref 17, .ref 18, .int (5 : Int32), .ref 27]) (h' := (hh X g I5)) rfl ?_
  refine Go_cR (y' := 114) (As := [.ref 17, .int p2]) (r := [.ref 18, .int (5 : Int32), .ref 27]) rfl (g_sta_suitAt114_17 p2 (by omega)) fun v6 => ?_
  refine Go_cR (y' := 133) (As := [.ref 18, .int v6]) (r := [.int (5 : Int32), .ref 27]) rfl (g_x_seamsOf133 18 v6 (by omega)) fun v7 => ?_
  refine Go_cV (y' := 15) (As := [.ref 27, .int (5 : Int32), .int v7]) (r := []) rfl (g_x_put15 27 (5 : Int32) v7 (by omega)) fun I8 => ?_
  refine Go_blk 2 (pc' := 56) (L' := [(3, .int (0 : Int32)), (0, .ref 23), (1, .ref 17), (2, .int p2)]) (S' := []) (h' := (hh X g I8)) rfl ?_
  refine Go_lcs [(0, .ref 23), (1, .ref 17), (2, .int p2), (3, .int (0 : Int32))] rfl ⟨rfl, rfl, rfl, rfl, trivial⟩ ?_
  refine Go_seq (pcj := 106) (fun (b10 : MJ) => []) (fun (b10 : MJ) => []) (fun (b10 : MJ) => (hh X g b10)) (fun b10 => ?_) ?_
  ·
    exact Go_ret (fun _ h => h) rfl
  ·
    refine Go_wh (fun (s9 : Int32 × MJ) => [(0, .ref 23), (1, .ref 17), (2, .int p2), (3, .int s9.1)]) (fun _ => []) (fun (s9 : Int32 × MJ) => (hh X g s9.2)) (fun s9 => ?_) ((0 : Int32), I8)
    refine Go_blk 2 (pc' := 59) (L' := [(0, .ref 23), (1, .ref 17), (2, .int p2), (3, .int s9.1)]) (S' := [.int (12 : Int32), .int s9.1]) (h' := (hh X g s9.2)) rfl ?_
    refine Go_cmpn rfl rfl (ab_cge _ _) ?_ ?_
    ·
      refine Go_blk 4 (pc' := 68) (L' := [(0, .ref 23), (1, .ref 17), (2, .int p2), (3, .int s9.1)]) (S' := [.int s9.1, .int (0 : Int32), .ref 27]) (h' := (hh X g s9.2)) rfl ?_
      refine Go_cV (y' := 15) (As := [.ref 27, .int (0 : Int32), .int s9.1]) (r := []) rfl (g_x_put15 27 (0 : Int32) s9.1 (by omega)) fun I11 => ?_
      refine Go_blk 6 (pc' := 79) (L' := [(0, .ref 23), (1, .ref 17), (2, .int p2), (3, .int s9.1)]) (S' := [.int s9.1, .int p2, .ref 17, .int (1 : Int32), .ref 27]) (h' := (hh X g I11)) rfl ?_
      refine Go_cR (y' := 116) (As := [.ref 17, .int p2, .int s9.1]) (r := [.int (1 : Int32), .ref 27]) rfl (g_sta_wornAt116_17 p2 s9.1 (by omega)) fun v12 => ?_
      refine Go_cV (y' := 15) (As := [.ref 27, .int (1 : Int32), .int v12]) (r := []) rfl (g_x_put15 27 (1 : Int32) v12 (by omega)) fun I13 => ?_
      refine Go_blk 1 (pc' := 86) (L' := [(0, .ref 23), (1, .ref 17), (2, .int p2), (3, .int s9.1)]) (S' := [.ref 23]) (h' := (hh X g I13)) rfl ?_
      refine Go_cW (y' := 134) (As := [.ref 23]) (r := []) rfl (g_mot_value134  (by omega)) fun w14 => ?_
      refine Go_seq (pcj := 100) (fun (b15 : MJ) => [(0, .ref 23), (1, .ref 17), (2, .int p2), (3, .int s9.1)]) (fun (b15 : MJ) => []) (fun (b15 : MJ) => (hh X g b15)) (fun b15 => ?_) ?_
      ·
        refine Go_blk 2 (pc' := 56) (L' := [(3, .int (s9.1 + (1 : Int32))), (0, .ref 23), (1, .ref 17), (2, .int p2)]) (S' := []) (h' := (hh X g b15)) rfl ?_
        exact Go_jmp [(0, .ref 23), (1, .ref 17), (2, .int p2), (3, .int (s9.1 + (1 : Int32)))] rfl ⟨rfl, rfl, rfl, rfl, trivial⟩ (fun _ h => h)
      ·
        refine Go_cmzn rfl rfl (ab_cle0 _) ?_ ?_
        ·
          refine Go_blk 4 (pc' := 97) (L' := [(0, .ref 23), (1, .ref 17), (2, .int p2), (3, .int s9.1)]) (S' := [.int (6 : Int32), .int s9.1, .int p2, .ref 17]) (h' := (hh X g w14.2)) rfl ?_
          refine Go_cV (y' := 117) (As := [.ref 17, .int p2, .int s9.1, .int (6 : Int32)]) (r := []) rfl (g_sta_alter117_17 p2 s9.1 (6 : Int32) (by omega)) fun I16 => ?_
          exact Go_jmp [(0, .ref 23), (1, .ref 17), (2, .int p2), (3, .int s9.1)] rfl ⟨rfl, rfl, rfl, rfl, trivial⟩ (fun _ h => h)
        ·
          exact Go_jmp [(0, .ref 23), (1, .ref 17), (2, .int p2), (3, .int s9.1)] rfl ⟨rfl, rfl, rfl, rfl, trivial⟩ (fun _ h => h)
    ·
      exact Go_jmp [] rfl trivial (fun _ h => h)
set_option maxRecDepth 1000000 in
set_option maxHeartbeats 4000000 in
theorem g_mot_eat131_15 (p2 : Int32) {X : XX} {g : GG} {I : MJ} {d : Nat} (hd : 3 ≤ d) : Go d 131 0 (lv_args 0 [.ref 23, .ref 15, .int p2]) [] (hh X g I) (f_mot_eat131 15 p2 I) (pV X g) := by
  obtain ⟨d, rfl⟩ : ∃ k, d = k + 1 := ⟨d - 1, by omega⟩
  unfold f_mot_eat131
  refine Go_blk 5 (pc' := 7) (L' := [(0, .ref 23), (1, .ref 15), (2, .int p2)]) (S' := [.int p2, .ref 15, .int (2 : Int32), .ref 27]) (h' := (hh X g I)) rfl ?_
  refine Go_cR (y' := 132) (As := [.ref 15, .int p2]) (r := [.int (2 : Int32), .ref 27]) rfl (g_sta_ageOf132_15 p2 (by omega)) fun v1 => ?_
  refine Go_cV (y' := 15) (As := [.ref 27, .int (2 : Int32), .int v1]) (r := []) rfl (g_x_put15 27 (2 : Int32) v1 (by omega)) fun I2 => ?_
  refine Go_blk 4 (pc' := 19) (L' := [(0, .ref 23), (1, .ref 15), (2, .int p2)]) (S' := [.ref 15, .int (3 : Int32), .ref 27]) (h' := (hh X g I2)) rfl ?_
  refine Go_cR (y' := 113) (As := [.ref 15]) (r := [.int (3 : Int32), .ref 27]) rfl (g_sta_day113_15  (by omega)) fun v3 => ?_
  refine Go_cV (y' := 15) (As := [.ref 27, .int (3 : Int32), .int v3]) (r := []) rfl (g_x_put15 27 (3 : Int32) v3 (by omega)) fun I4 => ?_
  refine Go_blk 4 (pc' := 31) (L' := [(0, .ref 23), (1, .ref 15), (2, .int p2)]) (S' := [.int p2, .int (4 : Int32), .ref 27]) (h' := (hh X g I4)) rfl ?_
  refine Go_cV (y' := 15) (As := [.ref 27, .int (4 : Int32), .int p2]) (r := []) rfl (g_x_put15 27 (4 : Int32) p2 (by omega)) fun I5 => ?_
  refine Go_blk 7 (pc' := 45) (L' := [(0, .ref 23), (1, .ref 15), (2, .int p2)]) (S' := [.int p2, .ref 15, .ref 16, .int (5 : Int32), .ref 27]) (h' := (hh X g I5)) rfl ?_
  refine Go_cR (y' := 114) (As := [.ref 15, .int p2]) (r := [.ref 16, .int (5 : Int32), .ref 27]) rfl (g_sta_suitAt114_15 p2 (by omega)) fun v6 => ?_
  refine Go_cR (y' := 133) (As := [.ref 16, .int v6]) (r := [.int (5 : Int32), .ref 27]) rfl (g_x_seamsOf133 16 v6 (by omega)) fun v7 => ?_
  refine Go_cV (y' := 15) (As := [.ref 27, .int (5 : Int32), .int v7]) (r := []) rfl (g_x_put15 27 (5 : Int32) v7 (by omega)) fun I8 => ?_
  refine Go_blk 2 (pc' := 56) (L' := [(3, .int (0 : Int32)), (0, .ref 23), (1, .ref 15), (2, .int p2)]) (S' := []) (h' := (hh X g I8)) rfl ?_
  refine Go_lcs [(0, .ref 23), (1, .ref 15), (2, .int p2), (3, .int (0 : Int32))] rfl ⟨rfl, rfl, rfl, rfl, trivial⟩ ?_
  refine Go_seq (pcj := 106) (fun (b10 : MJ) => []) (fun (b10 : MJ) => []) (fun (b10 : MJ) => (hh X g b10)) (fun b10 => ?_) ?_
  ·
    exact Go_ret (fun _ h => h) rfl
  ·
    refine Go_wh (fun (s9 : Int32 × MJ) => [(0, .ref 23), (1, .ref 15), (2, .int p2), (3, .int s9.1)]) (fun _ => []) (fun (s9 : Int32 × MJ) => (hh X g s9.2)) (fun s9 => ?_) ((0 : Int32), I8)
    refine Go_blk 2 (pc' := 59) (L' := [(0, .ref 23), (1, .ref 15), (2, .int p2), (3, .int s9.1)]) (S' := [.int (12 : Int32), .int s9.1]) (h' := (hh X g s9.2)) rfl ?_
    refine Go_cmpn rfl rfl (ab_cge _ _) ?_ ?_
    ·
      refine Go_blk 4 (pc' := 68) (L' := [(0, .ref 23), (1, .ref 15), (2, .int p2), (3, .int s9.1)]) (S' := [.int s9.1, .int (0 : Int32), .ref 27]) (h' := (hh X g s9.2)) rfl ?_
      refine Go_cV (y' := 15) (As := [.ref 27, .int (0 : Int32), .int s9.1]) (r := []) rfl (g_x_put15 27 (0 : Int32) s9.1 (by omega)) fun I11 => ?_
      refine Go_blk 6 (pc' := 79) (L' := [(0, .ref 23), (1, .ref 15), (2, .int p2), (3, .int s9.1)]) (S' := [.int s9.1, .int p2, .ref 15, .int (1 : Int32), .ref 27]) (h' := (hh X g I11)) rfl ?_
      refine Go_cR (y' := 116) (As := [.ref 15, .int p2, .int s9.1]) (r := [.int (1 : Int32), .ref 27]) rfl (g_sta_wornAt116_15 p2 s9.1 (by omega)) fun v12 => ?_
      refine Go_cV (y' := 15) (As := [.ref 27, .int (1 : Int32), .int v12]) (r := []) rfl (g_x_put15 27 (1 : Int32) v12 (by omega)) fun I13 => ?_
      refine Go_blk 1 (pc' := 86) (L' := [(0, .ref 23), (1, .ref 15), (2, .int p2), (3, .int s9.1)]) (S' := [.ref 23]) (h' := (hh X g I13)) rfl ?_
      refine Go_cW (y' := 134) (As := [.ref 23]) (r := []) rfl (g_mot_value134  (by omega)) fun w14 => ?_
      refine Go_seq (pcj := 100) (fun (b15 : MJ) => [(0, .ref 23), (1, .ref 15), (2, .int p2), (3, .int s9.1)]) (fun (b15 : MJ) => []) (fun (b15 : MJ) => (hh X g b15)) (fun b15 => ?_) ?_
      ·
        refine Go_blk 2 (pc' := 56) (L' := [(3, .int (s9.1 + (1 : Int32))), (0, .ref 23), (1, .ref 15), (2, .int p2)]) (S' := []) (h' := (hh X g b15)) rfl ?_
        exact Go_jmp [(0, .ref 23), (1, .ref 15), (2, .int p2), (3, .int (s9.1 + (1 : Int32)))] rfl ⟨rfl, rfl, rfl, rfl, trivial⟩ (fun _ h => h)
      ·
        refine Go_cmzn rfl rfl (ab_cle0 _) ?_ ?_
        ·
          refine Go_blk 4 (pc' := 97) (L' := [(0, .ref 23), (1, .ref 15), (2, .int p2), (3, .int s9.1)]) (S' := [.int (6 : Int32), .int s9.1, .int p2, .ref 15]) (h' := (hh X g w14.2)) rfl ?_
          refine Go_cV (y' := 117) (As := [.ref 15, .int p2, .int s9.1, .int (6 : Int32)]) (r := []) rfl (g_sta_alter117_15 p2 s9.1 (6 : Int32) (by omega)) fun I16 => ?_
          exact Go_jmp [(0, .ref 23), (1, .ref 15), (2, .int p2), (3, .int s9.1)] rfl ⟨rfl, rfl, rfl, rfl, trivial⟩ (fun _ h => h)
        ·
          exact Go_jmp [(0, .ref 23), (1, .ref 15), (2, .int p2), (3, .int s9.1)] rfl ⟨rfl, rfl, rfl, rfl, trivial⟩ (fun _ h => h)
    ·
      exact Go_jmp [] rfl trivial (fun _ h => h)
set_option maxRecDepth 1000000 in
set_option maxHeartbeats 4000000 in
theorem g_tra_passDay129_17  {X : XX} {g : GG} {I : MJ} {d : Nat} (hd : 4 ≤ d) : Go d 129 0 (lv_args 0 [.ref 28, .ref 17]) [] (hh X g I) (f_tra_passDay129 17 I) (pW X g) := by
  obtain ⟨d, rfl⟩ : ∃ k, d = k + 1 := ⟨d - 1, by omega⟩
  unfold f_tra_passDay129
  refine Go_blk 1 (pc' := 1) (L' := [(0, .ref 28), (1, .ref 17)]) (S' := [.ref 17]) (h' := (hh X g I)) rfl ?_
  refine Go_cR (y' := 113) (As := [.ref 17]) (r := []) rfl (g_sta_day113_17  (by omega)) fun v1 => ?_
  refine Go_blk 1 (pc' := 6) (L' := [(0, .ref 28), (1, .ref 17)]) (S' := [.int (60 : Int32), .int v1]) (h' := (hh X g I)) rfl ?_
  refine Go_cmp rfl rfl rfl ?_ ?_
  ·
    refine Go_blk 1 (pc' := 12) (L' := [(0, .ref 28), (1, .ref 17)]) (S' := [.ref 17]) (h' := (hh X g I)) rfl ?_
    refine Go_cV (y' := 130) (As := [.ref 17]) (r := []) rfl (g_sta_nextDay130_17  (by omega)) fun I2 => ?_
    refine Go_blk 2 (pc' := 17) (L' := [(2, .int (0 : Int32)), (0, .ref 28), (1, .ref 17)]) (S' := []) (h' := (hh X g I2)) rfl ?_
    refine Go_lcs [(0, .ref 28), (1, .ref 17), (2, .int (0 : Int32))] rfl ⟨rfl, rfl, rfl, trivial⟩ ?_
    refine Go_seq (pcj := 51) (fun (b4 : MJ) => []) (fun (b4 : MJ) => []) (fun (b4 : MJ) => (hh X g b4)) (fun b4 => ?_) ?_
    ·
      refine Go_blk 1 (pc' := 52) (L' := []) (S' := [.int (1 : Int32)]) (h' := (hh X g b4)) rfl ?_
      exact Go_ret (fun _ h => h) rfl
    ·
      refine Go_wh (fun (s3 : Int32 × MJ) => [(0, .ref 28), (1, .ref 17), (2, .int s3.1)]) (fun _ => []) (fun (s3 : Int32 × MJ) => (hh X g s3.2)) (fun s3 => ?_) ((0 : Int32), I2)
      refine Go_blk 4 (pc' := 25) (L' := [(0, .ref 28), (1, .ref 17), (2, .int s3.1)]) (S' := [.int (s3.2 3 6), .int s3.1]) (h' := (hh X g s3.2)) rfl ?_
      refine Go_cmpn rfl rfl (ab_cge _ _) ?_ ?_
      ·
        refine Go_blk 2 (pc' := 30) (L' := [(0, .ref 28), (1, .ref 17), (2, .int s3.1)]) (S' := [.int s3.1, .ref 17]) (h' := (hh X g s3.2)) rfl ?_
        refine Go_cR (y' := 108) (As := [.ref 17, .int s3.1]) (r := []) rfl (g_sta_hasSuit108_17 s3.1 (by omega)) fun v5 => ?_
        refine Go_seq (pcj := 45) (fun (b6 : MJ) => [(0, .ref 28), (1, .ref 17), (2, .int s3.1)]) (fun (b6 : MJ) => []) (fun (b6 : MJ) => (hh X g b6)) (fun b6 => ?_) ?_
        ·
          refine Go_blk 2 (pc' := 17) (L' := [(2, .int (s3.1 + (1 : Int32))), (0, .ref 28), (1, .ref 17)]) (S' := []) (h' := (hh X g b6)) rfl ?_
          exact Go_jmp [(0, .ref 28), (1, .ref 17), (2, .int (s3.1 + (1 : Int32)))] rfl ⟨rfl, rfl, rfl, trivial⟩ (fun _ h => h)
        ·
          refine Go_cmz rfl rfl rfl ?_ ?_
          ·
            exact Go_jmp [(0, .ref 28), (1, .ref 17), (2, .int s3.1)] rfl ⟨rfl, rfl, rfl, trivial⟩ (fun _ h => h)
          ·
            refine Go_blk 4 (pc' := 42) (L' := [(0, .ref 28), (1, .ref 17), (2, .int s3.1)]) (S' := [.int s3.1, .ref 17, .ref 23]) (h' := (hh X g s3.2)) rfl ?_
            refine Go_cV (y' := 131) (As := [.ref 23, .ref 17, .int s3.1]) (r := []) rfl (g_mot_eat131_17 s3.1 (by omega)) fun I7 => ?_
            exact Go_jmp [(0, .ref 28), (1, .ref 17), (2, .int s3.1)] rfl ⟨rfl, rfl, rfl, trivial⟩ (fun _ h => h)
      ·
        exact Go_jmp [] rfl trivial (fun _ h => h)
  ·
    refine Go_blk 1 (pc' := 10) (L' := [(0, .ref 28), (1, .ref 17)]) (S' := [.int (0 : Int32)]) (h' := (hh X g I)) rfl ?_
    exact Go_ret (fun _ h => h) rfl
set_option maxRecDepth 1000000 in
set_option maxHeartbeats 4000000 in
theorem g_tra_passDay129_15  {X : XX} {g : GG} {I : MJ} {d : Nat} (hd : 4 ≤ d) : Go d 129 0 (lv_args 0 [.ref 28, .ref 15]) [] (hh X g I) (f_tra_passDay129 15 I) (pW X g) := by
  obtain ⟨d, rfl⟩ : ∃ k, d = k + 1 := ⟨d - 1, by omega⟩
  unfold f_tra_passDay129
  refine Go_blk 1 (pc' := 1) (L' := [(0, .ref 28), (1, .ref 15)]) (S' := [.ref 15]) (h' := (hh X g I)) rfl ?_
  refine Go_cR (y' := 113) (As := [.ref 15]) (r := []) rfl (g_sta_day113_15  (by omega)) fun v1 => ?_
  refine Go_blk 1 (pc' := 6) (L' := [(0, .ref 28), (1, .ref 15)]) (S' := [.int (60 : Int32), .int v1]) (h' := (hh X g I)) rfl ?_
  refine Go_cmp rfl rfl rfl ?_ ?_
  ·
    refine Go_blk 1 (pc' := 12) (L' := [(0, .ref 28), (1, .ref 15)]) (S' := [.ref 15]) (h' := (hh X g I)) rfl ?_
    refine Go_cV (y' := 130) (As := [.ref 15]) (r := []) rfl (g_sta_nextDay130_15  (by omega)) fun I2 => ?_
    refine Go_blk 2 (pc' := 17) (L' := [(2, .int (0 : Int32)), (0, .ref 28), (1, .ref 15)]) (S' := []) (h' := (hh X g I2)) rfl ?_
    refine Go_lcs [(0, .ref 28), (1, .ref 15), (2, .int (0 : Int32))] rfl ⟨rfl, rfl, rfl, trivial⟩ ?_
    refine Go_seq (pcj := 51) (fun (b4 : MJ) => []) (fun (b4 : MJ) => []) (fun (b4 : MJ) => (hh X g b4)) (fun b4 => ?_) ?_
    ·
      refine Go_blk 1 (pc' := 52) (L' := []) (S' := [.int (1 : Int32)]) (h' := (hh X g b4)) rfl ?_
      exact Go_ret (fun _ h => h) rfl
    ·
      refine Go_wh (fun (s3 : Int32 × MJ) => [(0, .ref 28), (1, .ref 15), (2, .int s3.1)]) (fun _ => []) (fun (s3 : Int32 × MJ) => (hh X g s3.2)) (fun s3 => ?_) ((0 : Int32), I2)
      refine Go_blk 4 (pc' := 25) (L' := [(0, .ref 28), (1, .ref 15), (2, .int s3.1)]) (S' := [.int (s3.2 3 6), .int s3.1]) (h' := (hh X g s3.2)) rfl ?_
      refine Go_cmpn rfl rfl (ab_cge _ _) ?_ ?_
      ·
        refine Go_blk 2 (pc' := 30) (L' := [(0, .ref 28), (1, .ref 15), (2, .int s3.1)]) (S' := [.int s3.1, .ref 15]) (h' := (hh X g s3.2)) rfl ?_
        refine Go_cR (y' := 108) (As := [.ref 15, .int s3.1]) (r := []) rfl (g_sta_hasSuit108_15 s3.1 (by omega)) fun v5 => ?_
        refine Go_seq (pcj := 45) (fun (b6 : MJ) => [(0, .ref 28), (1, .ref 15), (2, .int s3.1)]) (fun (b6 : MJ) => []) (fun (b6 : MJ) => (hh X g b6)) (fun b6 => ?_) ?_
        ·
          refine Go_blk 2 (pc' := 17) (L' := [(2, .int (s3.1 + (1 : Int32))), (0, .ref 28), (1, .ref 15)]) (S' := []) (h' := (hh X g b6)) rfl ?_
          exact Go_jmp [(0, .ref 28), (1, .ref 15), (2, .int (s3.1 + (1 : Int32)))] rfl ⟨rfl, rfl, rfl, trivial⟩ (fun _ h => h)
        ·
          refine Go_cmz rfl rfl rfl ?_ ?_
          ·
            exact Go_jmp [(0, .ref 28), (1, .ref 15), (2, .int s3.1)] rfl ⟨rfl, rfl, rfl, trivial⟩ (fun _ h => h)
          ·
            refine Go_blk 4 (pc' := 42) (L' := [(0, .ref 28), (1, .ref 15), (2, .int s3.1)]) (S' := [.int s3.1, .ref 15, .ref 23]) (h' := (hh X g s3.2)) rfl ?_
            refine Go_cV (y' := 131) (As := [.ref 23, .ref 15, .int s3.1]) (r := []) rfl (g_mot_eat131_15 s3.1 (by omega)) fun I7 => ?_
            exact Go_jmp [(0, .ref 28), (1, .ref 15), (2, .int s3.1)] rfl ⟨rfl, rfl, rfl, trivial⟩ (fun _ h => h)
      ·
        exact Go_jmp [] rfl trivial (fun _ h => h)
  ·
    refine Go_blk 1 (pc' := 10) (L' := [(0, .ref 28), (1, .ref 15)]) (S' := [.int (0 : Int32)]) (h' := (hh X g I)) rfl ?_
    exact Go_ret (fun _ h => h) rfl
set_option maxRecDepth 1000000 in
set_option maxHeartbeats 4000000 in
theorem g_tra_step104 (p1 : Int32) (p2 : Int32) (p3 : Int32) (p4 : Int32) {X : XX} {g : GG} {I : MJ} {d : Nat} (hd : 5 ≤ d) : Go d 104 0 (lv_args 0 [.ref 28, .int p1, .int p2, .int p3, .int p4]) [] (hh X g I) (f_tra_step104 p1 p2 p3 p4 I) (pW X g) := by
  obtain ⟨d, rfl⟩ : ∃ k, d = k + 1 := ⟨d - 1, by omega⟩
  unfold f_tra_step104
  refine Go_blk 1 (pc' := 1) (L' := [(0, .ref 28), (1, .int p1), (2, .int p2), (3, .int p3), (4, .int p4)]) (S' := [.int p1]) (h' := (hh X g I)) rfl ?_
  refine Go_sw ?_ fun h0 => ?_
  ·
    refine Go_blk 1 (pc' := 36) (L' := [(0, .ref 28), (1, .int p1), (2, .int p2), (3, .int p3), (4, .int p4)]) (S' := []) (h' := (hh X g I)) rfl ?_
    refine Go_blk 3 (pc' := 39) (L' := [(0, .ref 28), (1, .int p1), (2, .int p2), (3, .int p3), (4, .int p4)]) (S' := [.int p3, .int p2, .ref 28]) (h' := (hh X g I)) rfl ?_
    refine Go_cW (y' := 105) (As := [.ref 28, .int p2, .int p3]) (r := []) rfl (g_tra_cutSuit105 p2 p3 (by omega)) fun w1 => ?_
    exact Go_ret (fun _ h => h) rfl
  refine Go_sw ?_ fun h1 => ?_
  ·
    refine Go_blk 1 (pc' := 43) (L' := [(0, .ref 28), (1, .int p1), (2, .int p2), (3, .int p3), (4, .int p4)]) (S' := []) (h' := (hh X g I)) rfl ?_
    refine Go_blk 4 (pc' := 48) (L' := [(0, .ref 28), (1, .int p1), (2, .int p2), (3, .int p3), (4, .int p4)]) (S' := [.int p4, .int p3, .int p2, .ref 28]) (h' := (hh X g I)) rfl ?_
    refine Go_cW (y' := 115) (As := [.ref 28, .int p2, .int p3, .int p4]) (r := []) rfl (g_tra_alterHour115 p2 p3 p4 (by omega)) fun w2 => ?_
    exact Go_ret (fun _ h => h) rfl
  refine Go_sw ?_ fun h2 => ?_
  ·
    refine Go_blk 1 (pc' := 52) (L' := [(0, .ref 28), (1, .int p1), (2, .int p2), (3, .int p3), (4, .int p4)]) (S' := []) (h' := (hh X g I)) rfl ?_
    refine Go_blk 2 (pc' := 54) (L' := [(0, .ref 28), (1, .int p1), (2, .int p2), (3, .int p3), (4, .int p4)]) (S' := [.int p2, .ref 28]) (h' := (hh X g I)) rfl ?_
    refine Go_cW (y' := 118) (As := [.ref 28, .int p2]) (r := []) rfl (g_tra_turnSuit118 p2 (by omega)) fun w3 => ?_
    exact Go_ret (fun _ h => h) rfl
  refine Go_sw ?_ fun h3 => ?_
  ·
    refine Go_blk 1 (pc' := 58) (L' := [(0, .ref 28), (1, .int p1), (2, .int p2), (3, .int p3), (4, .int p4)]) (S' := []) (h' := (hh X g I)) rfl ?_
    refine Go_blk 2 (pc' := 60) (L' := [(0, .ref 28), (1, .int p1), (2, .int p2), (3, .int p3), (4, .int p4)]) (S' := [.int p2, .ref 28]) (h' := (hh X g I)) rfl ?_
    refine Go_cW (y' := 120) (As := [.ref 28, .int p2]) (r := []) rfl (g_tra_stripSuit120 p2 (by omega)) fun w4 => ?_
    exact Go_ret (fun _ h => h) rfl
  refine Go_sw ?_ fun h4 => ?_
  ·
    refine Go_blk 1 (pc' := 64) (L' := [(0, .ref 28), (1, .int p1), (2, .int p2), (3, .int p3), (4, .int p4)]) (S' := []) (h' := (hh X g I)) rfl ?_
    refine Go_blk 2 (pc' := 66) (L' := [(0, .ref 28), (1, .int p1), (2, .int p2), (3, .int p3), (4, .int p4)]) (S' := [.int p2, .ref 28]) (h' := (hh X g I)) rfl ?_
    refine Go_cW (y' := 121) (As := [.ref 28, .int p2]) (r := []) rfl (g_tra_sellOrder121 p2 (by omega)) fun w5 => ?_
    exact Go_ret (fun _ h => h) rfl
  refine Go_swd (t := 70) 5 rfl (by decide) (by decide) (by decide) ⟨⟨⟨⟨⟨trivial, h0⟩, h1⟩, h2⟩, h3⟩, h4⟩ rfl ?_
  refine Go_blk 3 (pc' := 75) (L' := [(0, .ref 28), (1, .int p1), (2, .int p2), (3, .int p3), (4, .int p4)]) (S' := [.ref 15, .ref 28]) (h' := (hh X g I)) rfl ?_
  refine Go_cW (y' := 129) (As := [.ref 28, .ref 15]) (r := []) rfl (g_tra_passDay129_15  (by omega)) fun w6 => ?_
  exact Go_ret (fun _ h => h) rfl
set_option maxRecDepth 1000000 in
set_option maxHeartbeats 4000000 in
theorem G_pla_doAgain103 (r : Int32 → Int32 → Int32 → MJ → Option (MJ)) (dr : Nat) (hM : 5 ≤ dr) (hr : ∀ (p2 : Int32) (p3 : Int32) (p4 : Int32) (X : XX) (g : GG) (I : MJ), Go dr 101 0 (lv_args 0 [.ref 29, .ref 28, .int p2, .int p3, .int p4]) [] (hh X g I) (r p2 p3 p4 I) (pV X g)) (p2 : Int32) (p3 : Int32) {X : XX} {g : GG} {I : MJ} {d : Nat} (hd : dr + 1 ≤ d) : Go d 103 0 (lv_args 0 [.ref 29, .ref 28, .int p2, .int p3]) [] (hh X g I) (F_pla_doAgain103 r p2 p3 I) (pV X g) := by
  obtain ⟨d, rfl⟩ : ∃ k, d = k + 1 := ⟨d - 1, by omega⟩
  unfold F_pla_doAgain103
  refine Go_blk 2 (pc' := 3) (L' := [(4, .int (0 : Int32)), (0, .ref 29), (1, .ref 28), (2, .int p2), (3, .int p3)]) (S' := []) (h' := (hh X g I)) rfl ?_
  refine Go_lcs [(0, .ref 29), (1, .ref 28), (2, .int p2), (3, .int p3), (4, .int (0 : Int32))] rfl ⟨rfl, rfl, rfl, rfl, rfl, trivial⟩ ?_
  refine Go_seq (pcj := 53) (fun (b2 : MJ) => []) (fun (b2 : MJ) => []) (fun (b2 : MJ) => (hh X g b2)) (fun b2 => ?_) ?_
  ·
    exact Go_ret (fun _ h => h) rfl
  ·
    refine Go_wh (fun (s1 : Int32 × MJ) => [(0, .ref 29), (1, .ref 28), (2, .int p2), (3, .int p3), (4, .int s1.1)]) (fun _ => []) (fun (s1 : Int32 × MJ) => (hh X g s1.2)) (fun s1 => ?_) ((0 : Int32), I)
    refine Go_blk 4 (pc' := 8) (L' := [(0, .ref 29), (1, .ref 28), (2, .int p2), (3, .int p3), (4, .int s1.1)]) (S' := [.int (1 : Int32), .int p2, .ref 29, .int s1.1]) (h' := (hh X g s1.2)) rfl ?_
    refine Go_cR (y' := 102) (As := [.ref 29, .int p2, .int (1 : Int32)]) (r := [.int s1.1]) rfl (g_pla_part102 p2 (1 : Int32) (by omega)) fun v3 => ?_
    refine Go_cmpn rfl rfl (ab_cge _ _) ?_ ?_
    ·
      refine Go_blk 3 (pc' := 21) (L' := [(0, .ref 29), (1, .ref 28), (2, .int p2), (3, .int p3), (4, .int s1.1)]) (S' := [.int (200 : Int32), .int (s1.2 29 2)]) (h' := (hh X g s1.2)) rfl ?_
      refine Go_cmpn rfl rfl (ab_cge _ _) ?_ ?_
      ·
        refine Go_blk 2 (pc' := 27) (L' := [(0, .ref 29), (1, .ref 28), (2, .int p2), (3, .int p3), (4, .int s1.1)]) (S' := [.int (6 : Int32), .int p3]) (h' := (hh X g s1.2)) rfl ?_
        refine Go_cmpn rfl rfl (ab_cge _ _) ?_ ?_
        ·
          refine Go_blk 8 (pc' := 38) (L' := [(0, .ref 29), (1, .ref 28), (2, .int p2), (3, .int p3), (4, .int s1.1)]) (S' := [.int (2 : Int32), .int p2, .ref 29, .int (p2 + (1 : Int32)), .ref 28, .ref 29]) (h' := (hh X g s1.2)) rfl ?_
          refine Go_cR (y' := 102) (As := [.ref 29, .int p2, .int (2 : Int32)]) (r := [.int (p2 + (1 : Int32)), .ref 28, .ref 29]) rfl (g_pla_part102 p2 (2 : Int32) (by omega)) fun v4 => ?_
          refine Go_blk 3 (pc' := 44) (L' := [(0, .ref 29), (1, .ref 28), (2, .int p2), (3, .int p3), (4, .int s1.1)]) (S' := [.int (p3 + (1 : Int32)), .int v4, .int (p2 + (1 : Int32)), .ref 28, .ref 29]) (h' := (hh X g s1.2)) rfl ?_
          refine Go_cV (y' := 101) (As := [.ref 29, .ref 28, .int (p2 + (1 : Int32)), .int v4, .int (p3 + (1 : Int32))]) (r := []) rfl (Go_dep (by omega) (hr (p2 + (1 : Int32)) v4 (p3 + (1 : Int32)) X g _)) fun I5 => ?_
          refine Go_blk 2 (pc' := 3) (L' := [(4, .int (s1.1 + (1 : Int32))), (0, .ref 29), (1, .ref 28), (2, .int p2), (3, .int p3)]) (S' := []) (h' := (hh X g I5)) rfl ?_
          exact Go_jmp [(0, .ref 29), (1, .ref 28), (2, .int p2), (3, .int p3), (4, .int (s1.1 + (1 : Int32)))] rfl ⟨rfl, rfl, rfl, rfl, rfl, trivial⟩ (fun _ h => h)
        ·
          exact Go_jmp [] rfl trivial (fun _ h => h)
      ·
        exact Go_jmp [] rfl trivial (fun _ h => h)
    ·
      exact Go_jmp [] rfl trivial (fun _ h => h)
set_option maxRecDepth 1000000 in
set_option maxHeartbeats 4000000 in
theorem G_pla_doSteps101 (r : Int32 → Int32 → Int32 → MJ → Option (MJ)) (dr : Nat) (hM : 5 ≤ dr) (hr : ∀ (p2 : Int32) (p3 : Int32) (p4 : Int32) (X : XX) (g : GG) (I : MJ), Go dr 101 0 (lv_args 0 [.ref 29, .ref 28, .int p2, .int p3, .int p4]) [] (hh X g I) (r p2 p3 p4 I) (pV X g)) (p2 : Int32) (p3 : Int32) (p4 : Int32) {X : XX} {g : GG} {I : MJ} {d : Nat} (hd : dr + 2 ≤ d) : Go d 101 0 (lv_args 0 [.ref 29, .ref 28, .int p2, .int p3, .int p4]) [] (hh X g I) (F_pla_doSteps101 r p2 p3 p4 I) (pV X g) := by
  obtain ⟨d, rfl⟩ : ∃ k, d = k + 1 := ⟨d - 1, by omega⟩
  unfold F_pla_doSteps101
  refine Go_blk 2 (pc' := 3) (L' := [(5, .int p2), (0, .ref 29), (1, .ref 28), (2, .int p2), (3, .int p3), (4, .int p4)]) (S' := []) (h' := (hh X g I)) rfl ?_
  refine Go_lcs [(0, .ref 29), (1, .ref 28), (3, .int p3), (4, .int p4), (5, .int p2)] rfl ⟨rfl, rfl, rfl, rfl, rfl, trivial⟩ ?_
  refine Go_seq (pcj := 133) (fun (b2 : MJ) => []) (fun (b2 : MJ) => []) (fun (b2 : MJ) => (hh X g b2)) (fun b2 => ?_) ?_
  ·
    exact Go_ret (fun _ h => h) rfl
  ·
    refine Go_wh (fun (s1 : Int32 × MJ) => [(0, .ref 29), (1, .ref 28), (3, .int p3), (4, .int p4), (5, .int s1.1)]) (fun _ => []) (fun (s1 : Int32 × MJ) => (hh X g s1.2)) (fun s1 => ?_) (p2, I)
    refine Go_blk 2 (pc' := 6) (L' := [(0, .ref 29), (1, .ref 28), (3, .int p3), (4, .int p4), (5, .int s1.1)]) (S' := [.int p3, .int s1.1]) (h' := (hh X g s1.2)) rfl ?_
    refine Go_cmpn rfl rfl (ab_cge _ _) ?_ ?_
    ·
      refine Go_blk 3 (pc' := 16) (L' := [(0, .ref 29), (1, .ref 28), (3, .int p3), (4, .int p4), (5, .int s1.1)]) (S' := [.int (200 : Int32), .int (s1.2 29 2)]) (h' := (hh X g s1.2)) rfl ?_
      refine Go_cmpn rfl rfl (ab_cge _ _) ?_ ?_
      ·
        refine Go_blk 9 (pc' := 33) (L' := [(0, .ref 29), (1, .ref 28), (3, .int p3), (4, .int p4), (5, .int s1.1)]) (S' := [.int (0 : Int32), .int s1.1, .ref 29]) (h' := (hh X g (ab_up1 s1.2 29 2 ((s1.2 29 2) + (1 : Int32))))) rfl ?_
        refine Go_cR (y' := 102) (As := [.ref 29, .int s1.1, .int (0 : Int32)]) (r := []) rfl (g_pla_part102 s1.1 (0 : Int32) (by omega)) fun v3 => ?_
        refine Go_blk 1 (pc' := 38) (L' := [(0, .ref 29), (1, .ref 28), (3, .int p3), (4, .int p4), (5, .int s1.1)]) (S' := [.int (6 : Int32), .int v3]) (h' := (hh X g (ab_up1 s1.2 29 2 ((s1.2 29 2) + (1 : Int32))))) rfl ?_
        refine Go_seq (pcj := 127) (fun (b4 : Int32 × MJ) => [(0, .ref 29), (1, .ref 28), (3, .int p3), (4, .int p4), (5, .int b4.1)]) (fun (b4 : Int32 × MJ) => []) (fun (b4 : Int32 × MJ) => (hh X g b4.2)) (fun b4 => ?_) ?_
        ·
          refine Go_blk 2 (pc' := 3) (L' := [(5, .int (b4.1 + (1 : Int32))), (0, .ref 29), (1, .ref 28), (3, .int p3), (4, .int p4)]) (S' := []) (h' := (hh X g b4.2)) rfl ?_
          exact Go_jmp [(0, .ref 29), (1, .ref 28), (3, .int p3), (4, .int p4), (5, .int (b4.1 + (1 : Int32)))] rfl ⟨rfl, rfl, rfl, rfl, rfl, trivial⟩ (fun _ h => h)
        ·
          refine Go_cmpn rfl rfl rfl ?_ ?_
          ·
            refine Go_blk 4 (pc' := 47) (L' := [(0, .ref 29), (1, .ref 28), (3, .int p3), (4, .int p4), (5, .int s1.1)]) (S' := [.int p4, .int s1.1, .ref 28, .ref 29]) (h' := (hh X g (ab_up1 s1.2 29 2 ((s1.2 29 2) + (1 : Int32))))) rfl ?_
            refine Go_cV (y' := 103) (As := [.ref 29, .ref 28, .int s1.1, .int p4]) (r := []) rfl (G_pla_doAgain103 r dr hM hr s1.1 p4 (by omega)) fun I5 => ?_
            refine Go_blk 4 (pc' := 56) (L' := [(0, .ref 29), (1, .ref 28), (3, .int p3), (4, .int p4), (5, .int s1.1)]) (S' := [.int (2 : Int32), .int s1.1, .ref 29, .int s1.1]) (h' := (hh X g I5)) rfl ?_
            refine Go_cR (y' := 102) (As := [.ref 29, .int s1.1, .int (2 : Int32)]) (r := [.int s1.1]) rfl (g_pla_part102 s1.1 (2 : Int32) (by omega)) fun v6 => ?_
            refine Go_blk 5 (pc' := 127) (L' := [(5, .int (if s1.1 < (v6 - (1 : Int32)) then (v6 - (1 : Int32)) else s1.1)), (0, .ref 29), (1, .ref 28), (3, .int p3), (4, .int p4)]) (S' := []) (h' := (hh X g I5)) rfl ?_
            exact Go_jmp [(0, .ref 29), (1, .ref 28), (3, .int p3), (4, .int p4), (5, .int (if s1.1 < (v6 - (1 : Int32)) then (v6 - (1 : Int32)) else s1.1))] rfl ⟨rfl, rfl, rfl, rfl, rfl, trivial⟩ (fun _ h => h)
          ·
            refine Go_blk 4 (pc' := 74) (L' := [(0, .ref 29), (1, .ref 28), (3, .int p3), (4, .int p4), (5, .int s1.1)]) (S' := [.int (0 : Int32), .int s1.1, .ref 29, .ref 28]) (h' := (hh X g (ab_up1 s1.2 29 2 ((s1.2 29 2) + (1 : Int32))))) rfl ?_
            refine Go_cR (y' := 102) (As := [.ref 29, .int s1.1, .int (0 : Int32)]) (r := [.ref 28]) rfl (g_pla_part102 s1.1 (0 : Int32) (by omega)) fun v7 => ?_
            refine Go_blk 3 (pc' := 81) (L' := [(0, .ref 29), (1, .ref 28), (3, .int p3), (4, .int p4), (5, .int s1.1)]) (S' := [.int (1 : Int32), .int s1.1, .ref 29, .int v7, .ref 28]) (h' := (hh X g (ab_up1 s1.2 29 2 ((s1.2 29 2) + (1 : Int32))))) rfl ?_
            refine Go_cR (y' := 102) (As := [.ref 29, .int s1.1, .int (1 : Int32)]) (r := [.int v7, .ref 28]) rfl (g_pla_part102 s1.1 (1 : Int32) (by omega)) fun v8 => ?_
            refine Go_blk 3 (pc' := 88) (L' := [(0, .ref 29), (1, .ref 28), (3, .int p3), (4, .int p4), (5, .int s1.1)]) (S' := [.int (2 : Int32), .int s1.1, .ref 29, .int v8, .int v7, .ref 28]) (h' := (hh X g (ab_up1 s1.2 29 2 ((s1.2 29 2) + (1 : Int32))))) rfl ?_
            refine Go_cR (y' := 102) (As := [.ref 29, .int s1.1, .int (2 : Int32)]) (r := [.int v8, .int v7, .ref 28]) rfl (g_pla_part102 s1.1 (2 : Int32) (by omega)) fun v9 => ?_
            refine Go_blk 3 (pc' := 95) (L' := [(0, .ref 29), (1, .ref 28), (3, .int p3), (4, .int p4), (5, .int s1.1)]) (S' := [.int (3 : Int32), .int s1.1, .ref 29, .int v9, .int v8, .int v7, .ref 28]) (h' := (hh X g (ab_up1 s1.2 29 2 ((s1.2 29 2) + (1 : Int32))))) rfl ?_
            refine Go_cR (y' := 102) (As := [.ref 29, .int s1.1, .int (3 : Int32)]) (r := [.int v9, .int v8, .int v7, .ref 28]) rfl (g_pla_part102 s1.1 (3 : Int32) (by omega)) fun v10 => ?_
            refine Go_cW (y' := 104) (As := [.ref 28, .int v7, .int v8, .int v9, .int v10]) (r := []) rfl (g_tra_step104 v7 v8 v9 v10 (by omega)) fun w11 => ?_
            refine Go_cmz rfl rfl rfl ?_ ?_
            ·
              refine Go_blk 6 (pc' := 127) (L' := [(0, .ref 29), (1, .ref 28), (3, .int p3), (4, .int p4), (5, .int s1.1)]) (S' := []) (h' := (hh X g (ab_up1 w11.2 29 4 ((w11.2 29 4) + (1 : Int32))))) rfl ?_
              exact Go_jmp [(0, .ref 29), (1, .ref 28), (3, .int p3), (4, .int p4), (5, .int s1.1)] rfl ⟨rfl, rfl, rfl, rfl, rfl, trivial⟩ (fun _ h => h)
            ·
              refine Go_blk 7 (pc' := 127) (L' := [(0, .ref 29), (1, .ref 28), (3, .int p3), (4, .int p4), (5, .int s1.1)]) (S' := []) (h' := (hh X g (ab_up1 w11.2 29 3 ((w11.2 29 3) + (1 : Int32))))) rfl ?_
              exact Go_jmp [(0, .ref 29), (1, .ref 28), (3, .int p3), (4, .int p4), (5, .int s1.1)] rfl ⟨rfl, rfl, rfl, rfl, rfl, trivial⟩ (fun _ h => h)
      ·
        exact Go_jmp [] rfl trivial (fun _ h => h)
    ·
      exact Go_jmp [] rfl trivial (fun _ h => h)
theorem g_pla_doSteps101 (k : Nat) : ∀ (p2 : Int32) (p3 : Int32) (p4 : Int32) {X : XX} {g : GG} {I : MJ} {d : Nat}, 5 + 2 * k ≤ d → Go d 101 0 (lv_args 0 [.ref 29, .ref 28, .int p2, .int p3, .int p4]) [] (hh X g I) (f_pla_doSteps101 k p2 p3 p4 I) (pV X g) := by
  induction k with
  | zero => intros; exact Go_none
  | succ k ih =>
    intro p2 p3 p4 X g I d hd
    exact G_pla_doSteps101 (f_pla_doSteps101 k) (5 + 2 * k) (by omega) (fun p2 p3 p4 X g I => ih p2 p3 p4 (Nat.le_refl _)) p2 p3 p4 (by omega)
set_option maxRecDepth 1000000 in
set_option maxHeartbeats 4000000 in
theorem g_x_work92 (p1 : Int32) {X : XX} {g : GG} {I : MJ} {d : Nat} (hd : 52 ≤ d) : Go d 92 0 (lv_args 0 [.ref 0, .int p1]) [] (hh X g I) (f_x_work92 p1 I) (pT vI X g) := by
  obtain ⟨d, rfl⟩ : ∃ k, d = k + 1 := ⟨d - 1, by omega⟩
  unfold f_x_work92
  refine Go_blk 3 (pc' := 5) (L' := [(0, .ref 0), (1, .int p1)]) (S' := [.int (200 : Int32), .int p1, .ref 0]) (h' := (hh X g I)) rfl ?_
  refine Go_cT (y' := 37) (As := [.ref 0, .int p1, .int (200 : Int32)]) (r := []) rfl rfl (g_x_needText37 p1 (200 : Int32) (by omega)) fun v1 I2 => ?_
  refine Go_blk 3 (pc' := 13) (L' := [(0, .ref 0), (1, .int p1)]) (S' := [.int p1, .ref 1]) (h' := (hh X g I2)) rfl ?_
  refine Go_cV (y' := 40) (As := [.ref 1, .int p1]) (r := []) rfl (g_tap_open40 p1 (by omega)) fun I3 => ?_
  refine Go_blk 2 (pc' := 20) (L' := [(0, .ref 0), (1, .int p1)]) (S' := [.ref 31]) (h' := (hh X g I3)) rfl ?_
  refine Go_cR (y' := 93) (As := [.ref 31]) (r := []) rfl (g_pas_isFull93  (by omega)) fun v4 => ?_
  refine Go_cmz rfl rfl rfl ?_ ?_
  ·
    refine Go_blk 6 (pc' := 48) (L' := [(0, .ref 0), (1, .int p1)]) (S' := [.ref 3, .ref 1, .ref 29]) (h' := (hh X g I3)) rfl ?_
    refine Go_cV (y' := 94) (As := [.ref 29, .ref 1, .ref 3]) (r := []) rfl (g_pla_readFrom94  (by omega)) fun I5 => ?_
    refine Go_blk 2 (pc' := 55) (L' := [(0, .ref 0), (1, .int p1)]) (S' := [.ref 1]) (h' := (hh X g I5)) rfl ?_
    refine Go_cR (y' := 59) (As := [.ref 1]) (r := []) rfl (g_tap_isSound59  (by omega)) fun v6 => ?_
    refine Go_seq (pcj := 110) (fun (b7 : MJ) => [(0, .ref 0)]) (fun (b7 : MJ) => []) (fun (b7 : MJ) => (hh X g b7)) (fun b7 => ?_) ?_
    ·
      refine Go_blk 5 (pc' := 121) (L' := [(0, .ref 0)]) (S' := [.int (b7 29 3), .ref 1]) (h' := (hh X g b7)) rfl ?_
      refine Go_cW (y' := 65) (As := [.ref 1, .int (b7 29 3)]) (r := []) rfl (g_tap_close65 (b7 29 3) (by omega)) fun w8 => ?_
      exact Go_ret (fun _ h => h) rfl
    ·
      refine Go_cmz rfl rfl rfl ?_ ?_
      ·
        exact Go_jmp [(0, .ref 0)] rfl ⟨rfl, trivial⟩ (fun _ h => h)
      ·
        refine Go_blk 4 (pc' := 69) (L' := [(0, .ref 0), (1, .int p1)]) (S' := [.ref 15, .ref 31]) (h' := (hh X g I5)) rfl ?_
        refine Go_cV (y' := 99) (As := [.ref 31, .ref 15]) (r := []) rfl (g_pas_keepWork99  (by omega)) fun I9 => ?_
        refine Go_blk 2 (pc' := 76) (L' := [(0, .ref 0), (1, .int p1)]) (S' := [.ref 29]) (h' := (hh X g I9)) rfl ?_
        refine Go_cV (y' := 100) (As := [.ref 29]) (r := []) rfl (g_pla_begin100  (by omega)) fun I10 => ?_
        refine Go_blk 9 (pc' := 96) (L' := [(0, .ref 0), (1, .int p1)]) (S' := [.int (0 : Int32), .int (I10 29 1), .int (0 : Int32), .ref 28, .ref 29]) (h' := (hh X g I10)) rfl ?_
        refine Go_cV (y' := 101) (As := [.ref 29, .ref 28, .int (0 : Int32), .int (I10 29 1), .int (0 : Int32)]) (r := []) rfl (g_pla_doSteps101 16 (0 : Int32) (I10 29 1) (0 : Int32) (by omega)) fun I11 => ?_
        refine Go_blk 5 (pc' := 110) (L' := [(0, .ref 0), (1, .int p1)]) (S' := []) (h' := (hh X g (ab_up1 I11 0 13 (I11 29 4)))) rfl ?_
        exact Go_jmp [(0, .ref 0)] rfl ⟨rfl, trivial⟩ (fun _ h => h)
  ·
    refine Go_blk 3 (pc' := 32) (L' := [(0, .ref 0), (1, .int p1)]) (S' := [.int (-20 : Int32), .ref 1]) (h' := (hh X g I3)) rfl ?_
    refine Go_cW (y' := 65) (As := [.ref 1, .int (-20 : Int32)]) (r := []) rfl (g_tap_close65 (-20 : Int32) (by omega)) fun w12 => ?_
    exact Go_ret (fun _ h => h) rfl
set_option maxRecDepth 1000000 in
set_option maxHeartbeats 4000000 in
theorem g_l_work91 (p1 : Int32) {X : XX} {g : GG} {I : MJ} {d : Nat} (hd : 53 ≤ d) : Go d 91 0 (lv_args 0 [.ref 0, .int p1, .ref 698]) [] (hh X g I) (f_l_work91 p1 I g) (pG X) := by
  obtain ⟨d, rfl⟩ : ∃ k, d = k + 1 := ⟨d - 1, by omega⟩
  unfold f_l_work91
  refine Go_blk 4 (pc' := 4) (L' := [(0, .ref 0), (1, .int p1), (2, .ref 698)]) (S' := [.int p1, .ref 0, .int (0 : Int32), .ref 698]) (h' := (hh X g I)) rfl ?_
  refine Go_try (y' := 92) (As := [.ref 0, .int p1]) (r := [.int (0 : Int32), .ref 698]) rfl (g_x_work92 p1 (by omega)) (fun v1 I2 => ?_) (fun E2 I2 => ?_)
  ·
    refine Go_blk 1 (pc' := 8) (L' := [(0, .ref 0), (1, .int p1), (2, .ref 698)]) (S' := [.long (v1.toInt64), .int (0 : Int32), .ref 698]) (h' := (hh X g I2)) rfl ?_
    refine Go_last rfl fun g3 => ?_
    refine Go_blk 2 (pc' := 16) (L' := [(0, .ref 0), (1, .int p1), (2, .ref 698)]) (S' := [.int (0 : Int32)]) (h' := (hh X g3 I2)) rfl ?_
    exact Go_ret (fun _ h => h) rfl
  ·
    refine GX_ite ?_ ?_
    ·
      refine GX_go rfl (t := 13) (k := 3) rfl ?_
      refine Go_blk 1 (pc' := 14) (L' := [(0, .ref 0), (1, .int p1), (2, .ref 698)]) (S' := [.int (1 : Int32)]) (h' := (hh X (thr g) I2)) rfl ?_
      exact Go_ret (fun _ h => h) rfl
    exact GX_none
set_option maxRecDepth 1000000 in
set_option maxHeartbeats 4000000 in
theorem g_m_stepHere301  {X : XX} {g : GG} {I : MJ} {d : Nat} (hd : 4 ≤ d) : Go d 301 0 (lv_args 0 [.ref 47]) [] (hh X g I) (f_m_stepHere301  I) (pW X g) := by
  obtain ⟨d, rfl⟩ : ∃ k, d = k + 1 := ⟨d - 1, by omega⟩
  unfold f_m_stepHere301
  refine Go_blk 7 (pc' := 9) (L' := [(0, .ref 47)]) (S' := [.int (0 : Int32), .int (0 : Int32), .int (0 : Int32), .int (20 : Int32), .int (21 : Int32), .int (3 : Int32), .ref 47]) (h' := (hh X g I)) rfl ?_
  refine Go_cW (y' := 274) (As := [.ref 47, .int (3 : Int32), .int (21 : Int32), .int (20 : Int32), .int (0 : Int32), .int (0 : Int32), .int (0 : Int32)]) (r := []) rfl (g_m_isWord274 (3 : Int32) (21 : Int32) (20 : Int32) (0 : Int32) (0 : Int32) (0 : Int32) (by omega)) fun w1 => ?_
  refine Go_cmz rfl rfl rfl ?_ ?_
  ·
    refine Go_blk 7 (pc' := 27) (L' := [(0, .ref 47)]) (S' := [.int (0 : Int32), .int (18 : Int32), .int (5 : Int32), .int (20 : Int32), .int (12 : Int32), .int (1 : Int32), .ref 47]) (h' := (hh X g w1.2)) rfl ?_
    refine Go_cW (y' := 274) (As := [.ref 47, .int (1 : Int32), .int (12 : Int32), .int (20 : Int32), .int (5 : Int32), .int (18 : Int32), .int (0 : Int32)]) (r := []) rfl (g_m_isWord274 (1 : Int32) (12 : Int32) (20 : Int32) (5 : Int32) (18 : Int32) (0 : Int32) (by omega)) fun w2 => ?_
    refine Go_cmz rfl rfl rfl ?_ ?_
    ·
      refine Go_blk 7 (pc' := 46) (L' := [(0, .ref 47)]) (S' := [.int (0 : Int32), .int (0 : Int32), .int (14 : Int32), .int (18 : Int32), .int (21 : Int32), .int (20 : Int32), .ref 47]) (h' := (hh X g w2.2)) rfl ?_
      refine Go_cW (y' := 274) (As := [.ref 47, .int (20 : Int32), .int (21 : Int32), .int (18 : Int32), .int (14 : Int32), .int (0 : Int32), .int (0 : Int32)]) (r := []) rfl (g_m_isWord274 (20 : Int32) (21 : Int32) (18 : Int32) (14 : Int32) (0 : Int32) (0 : Int32) (by omega)) fun w3 => ?_
      refine Go_cmz rfl rfl rfl ?_ ?_
      ·
        refine Go_blk 7 (pc' := 66) (L' := [(0, .ref 47)]) (S' := [.int (0 : Int32), .int (16 : Int32), .int (9 : Int32), .int (18 : Int32), .int (20 : Int32), .int (19 : Int32), .ref 47]) (h' := (hh X g w3.2)) rfl ?_
        refine Go_cW (y' := 274) (As := [.ref 47, .int (19 : Int32), .int (20 : Int32), .int (18 : Int32), .int (9 : Int32), .int (16 : Int32), .int (0 : Int32)]) (r := []) rfl (g_m_isWord274 (19 : Int32) (20 : Int32) (18 : Int32) (9 : Int32) (16 : Int32) (0 : Int32) (by omega)) fun w4 => ?_
        refine Go_cmz rfl rfl rfl ?_ ?_
        ·
          refine Go_blk 7 (pc' := 84) (L' := [(0, .ref 47)]) (S' := [.int (0 : Int32), .int (0 : Int32), .int (12 : Int32), .int (12 : Int32), .int (5 : Int32), .int (19 : Int32), .ref 47]) (h' := (hh X g w4.2)) rfl ?_
          refine Go_cW (y' := 274) (As := [.ref 47, .int (19 : Int32), .int (5 : Int32), .int (12 : Int32), .int (12 : Int32), .int (0 : Int32), .int (0 : Int32)]) (r := []) rfl (g_m_isWord274 (19 : Int32) (5 : Int32) (12 : Int32) (12 : Int32) (0 : Int32) (0 : Int32) (by omega)) fun w5 => ?_
          refine Go_cmz rfl rfl rfl ?_ ?_
          ·
            refine Go_blk 7 (pc' := 100) (L' := [(0, .ref 47)]) (S' := [.int (0 : Int32), .int (0 : Int32), .int (0 : Int32), .int (25 : Int32), .int (1 : Int32), .int (4 : Int32), .ref 47]) (h' := (hh X g w5.2)) rfl ?_
            refine Go_cW (y' := 274) (As := [.ref 47, .int (4 : Int32), .int (1 : Int32), .int (25 : Int32), .int (0 : Int32), .int (0 : Int32), .int (0 : Int32)]) (r := []) rfl (g_m_isWord274 (4 : Int32) (1 : Int32) (25 : Int32) (0 : Int32) (0 : Int32) (0 : Int32) (by omega)) fun w6 => ?_
            refine Go_cmz rfl rfl rfl ?_ ?_
            ·
              refine Go_blk 7 (pc' := 118) (L' := [(0, .ref 47)]) (S' := [.int (0 : Int32), .int (14 : Int32), .int (9 : Int32), .int (1 : Int32), .int (7 : Int32), .int (1 : Int32), .ref 47]) (h' := (hh X g w6.2)) rfl ?_
              refine Go_cW (y' := 274) (As := [.ref 47, .int (1 : Int32), .int (7 : Int32), .int (1 : Int32), .int (9 : Int32), .int (14 : Int32), .int (0 : Int32)]) (r := []) rfl (g_m_isWord274 (1 : Int32) (7 : Int32) (1 : Int32) (9 : Int32) (14 : Int32) (0 : Int32) (by omega)) fun w7 => ?_
              refine Go_seq (pcj := 130) (fun (b8 : Int32) => []) (fun (b8 : Int32) => [.int b8]) (fun (b8 : Int32) => (hh X g w7.2)) (fun b8 => ?_) ?_
              ·
                exact Go_ret (fun _ h => h) rfl
              ·
                refine Go_cmz rfl rfl rfl ?_ ?_
                ·
                  refine Go_blk 1 (pc' := 130) (L' := [(0, .ref 47)]) (S' := [.int (-1 : Int32)]) (h' := (hh X g w7.2)) rfl ?_
                  exact Go_jmp [] rfl trivial (fun _ h => h)
                ·
                  refine Go_blk 2 (pc' := 130) (L' := [(0, .ref 47)]) (S' := [.int (6 : Int32)]) (h' := (hh X g w7.2)) rfl ?_
                  exact Go_jmp [] rfl trivial (fun _ h => h)
            ·
              refine Go_blk 1 (pc' := 107) (L' := [(0, .ref 47)]) (S' := [.int (5 : Int32)]) (h' := (hh X g w6.2)) rfl ?_
              exact Go_ret (fun _ h => h) rfl
          ·
            refine Go_blk 1 (pc' := 91) (L' := [(0, .ref 47)]) (S' := [.int (4 : Int32)]) (h' := (hh X g w5.2)) rfl ?_
            exact Go_ret (fun _ h => h) rfl
        ·
          refine Go_blk 1 (pc' := 73) (L' := [(0, .ref 47)]) (S' := [.int (3 : Int32)]) (h' := (hh X g w4.2)) rfl ?_
          exact Go_ret (fun _ h => h) rfl
      ·
        refine Go_blk 1 (pc' := 53) (L' := [(0, .ref 47)]) (S' := [.int (2 : Int32)]) (h' := (hh X g w3.2)) rfl ?_
        exact Go_ret (fun _ h => h) rfl
    ·
      refine Go_blk 1 (pc' := 34) (L' := [(0, .ref 47)]) (S' := [.int (1 : Int32)]) (h' := (hh X g w2.2)) rfl ?_
      exact Go_ret (fun _ h => h) rfl
  ·
    refine Go_blk 1 (pc' := 16) (L' := [(0, .ref 47)]) (S' := [.int (0 : Int32)]) (h' := (hh X g w1.2)) rfl ?_
    exact Go_ret (fun _ h => h) rfl
set_option maxRecDepth 1000000 in
set_option maxHeartbeats 4000000 in
theorem G_m_readsStep300 (r : MJ → Option (MJ)) (dr : Nat) (hM : 5 ≤ dr) (hr : ∀ (X : XX) (g : GG) (I : MJ), Go dr 300 0 (lv_args 0 [.ref 47]) [] (hh X g I) (r  I) (pV X g))  {X : XX} {g : GG} {I : MJ} {d : Nat} (hd : dr + 1 ≤ d) : Go d 300 0 (lv_args 0 [.ref 47]) [] (hh X g I) (F_m_readsStep300 r  I) (pV X g) := by
  obtain ⟨d, rfl⟩ : ∃ k, d = k + 1 := ⟨d - 1, by omega⟩
  unfold F_m_readsStep300
  refine Go_blk 1 (pc' := 1) (L' := [(0, .ref 47)]) (S' := [.ref 47]) (h' := (hh X g I)) rfl ?_
  refine Go_cW (y' := 301) (As := [.ref 47]) (r := []) rfl (g_m_stepHere301  (by omega)) fun w1 => ?_
  refine Go_blk 3 (pc' := 7) (L' := [(1, .int w1.1), (0, .ref 47)]) (S' := [.int (-1 : Int32), .int w1.1]) (h' := (hh X g w1.2)) rfl ?_
  refine Go_seq (pcj := 19) (fun (b2 : MJ) => [(0, .ref 47), (1, .int w1.1)]) (fun (b2 : MJ) => []) (fun (b2 : MJ) => (hh X g b2)) (fun b2 => ?_) ?_
  ·
    refine Go_blk 2 (pc' := 22) (L' := [(0, .ref 47), (1, .int w1.1)]) (S' := [.int (6 : Int32), .int w1.1]) (h' := (hh X g b2)) rfl ?_
    refine Go_cmpn rfl rfl rfl ?_ ?_
    ·
      refine Go_blk 1 (pc' := 26) (L' := [(0, .ref 47), (1, .int w1.1)]) (S' := [.ref 47]) (h' := (hh X g b2)) rfl ?_
      refine Go_cW (y' := 290) (As := [.ref 47]) (r := []) rfl (g_m_opens290  (by omega)) fun w3 => ?_
      refine Go_cmzn rfl rfl rfl ?_ ?_
      ·
        exact Go_ret (fun _ h => h) rfl
      ·
        refine Go_blk 2 (pc' := 37) (L' := [(0, .ref 47), (1, .int w1.1)]) (S' := [.int (w3.2 47 5)]) (h' := (hh X g w3.2)) rfl ?_
        refine Go_cmz rfl rfl rfl ?_ ?_
        ·
          refine Go_blk 1 (pc' := 42) (L' := [(0, .ref 47), (1, .int w1.1)]) (S' := [.ref 47]) (h' := (hh X g w3.2)) rfl ?_
          refine Go_cV (y' := 280) (As := [.ref 47]) (r := []) rfl (g_m_skipWord280  (by omega)) fun I4 => ?_
          refine Go_blk 4 (pc' := 53) (L' := [(0, .ref 47), (1, .int w1.1)]) (S' := [.int (I4 47 34), .ref 495]) (h' := (hh X g I4)) rfl ?_
          refine Go_aald rfl fun r5 => ?_
          refine Go_blk 10 (pc' := 68) (L' := [(2, .ref r5), (0, .ref 47), (1, .int w1.1)]) (S' := [.int w1.1, .int (0 : Int32), .ref r5]) (h' := (hh X g (ab_up1 I4 47 34 ((I4 47 34) + (1 : Int32))))) rfl ?_
          refine Go_iast rfl fun I6 => ?_
          refine Go_blk 2 (pc' := 71) (L' := [(2, .ref r5), (0, .ref 47), (1, .int w1.1)]) (S' := [.int (4 : Int32), .int w1.1]) (h' := (hh X g I6)) rfl ?_
          refine Go_seq (pcj := 90) (fun (b7 : MJ) => [(0, .ref 47), (1, .int w1.1), (2, .ref r5)]) (fun (b7 : MJ) => []) (fun (b7 : MJ) => (hh X g b7)) (fun b7 => ?_) ?_
          ·
            refine Go_blk 1 (pc' := 91) (L' := [(0, .ref 47), (1, .int w1.1), (2, .ref r5)]) (S' := [.int w1.1]) (h' := (hh X g b7)) rfl ?_
            refine Go_seq (pcj := 103) (fun (b8 : MJ) => [(0, .ref 47), (1, .int w1.1), (2, .ref r5)]) (fun (b8 : MJ) => []) (fun (b8 : MJ) => (hh X g b8)) (fun b8 => ?_) ?_
            ·
              refine Go_blk 2 (pc' := 105) (L' := [(0, .ref 47), (1, .int w1.1), (2, .ref r5)]) (S' := [.int (1 : Int32), .int w1.1]) (h' := (hh X g b8)) rfl ?_
              refine Go_seq (pcj := 136) (fun (b9 : MJ) => [(0, .ref 47), (1, .int w1.1), (2, .ref r5)]) (fun (b9 : MJ) => []) (fun (b9 : MJ) => (hh X g b9)) (fun b9 => ?_) ?_
              ·
                refine Go_blk 2 (pc' := 138) (L' := [(0, .ref 47), (1, .int w1.1), (2, .ref r5)]) (S' := [.int (4 : Int32), .int w1.1]) (h' := (hh X g b9)) rfl ?_
                refine Go_seq (pcj := 157) (fun (b10 : MJ) => [(0, .ref 47), (1, .int w1.1), (2, .ref r5)]) (fun (b10 : MJ) => []) (fun (b10 : MJ) => (hh X g b10)) (fun b10 => ?_) ?_
                ·
                  refine Go_blk 2 (pc' := 160) (L' := [(0, .ref 47), (1, .int w1.1), (2, .ref r5)]) (S' := [.int (6 : Int32), .int w1.1]) (h' := (hh X g b10)) rfl ?_
                  refine Go_seq (pcj := 230) (fun (b11 : MJ) => [(0, .ref 47), (2, .ref r5)]) (fun (b11 : MJ) => []) (fun (b11 : MJ) => (hh X g b11)) (fun b11 => ?_) ?_
                  ·
                    refine Go_blk 4 (pc' := 236) (L' := [(0, .ref 47), (2, .ref r5)]) (S' := [.int (b11 47 34), .int (4 : Int32), .ref r5]) (h' := (hh X g b11)) rfl ?_
                    refine Go_iast rfl fun I12 => ?_
                    refine Go_blk 2 (pc' := 240) (L' := [(0, .ref 47), (2, .ref r5)]) (S' := [.int (59 : Int32), .ref 47]) (h' := (hh X g I12)) rfl ?_
                    refine Go_cV (y' := 285) (As := [.ref 47, .int (59 : Int32)]) (r := []) rfl (g_m_sign285 (59 : Int32) (by omega)) fun I13 => ?_
                    exact Go_ret (fun _ h => h) rfl
                  ·
                    refine Go_cmpn rfl rfl rfl ?_ ?_
                    ·
                      refine Go_blk 5 (pc' := 169) (L' := [(0, .ref 47), (1, .int w1.1), (2, .ref r5)]) (S' := [.int (20 : Int32), .int (0 : Int32), .ref 47, .int (1 : Int32), .ref r5]) (h' := (hh X g b10)) rfl ?_
                      refine Go_cW (y' := 283) (As := [.ref 47, .int (0 : Int32), .int (20 : Int32)]) (r := [.int (1 : Int32), .ref r5]) rfl (g_m_number283 (0 : Int32) (20 : Int32) (by omega)) fun w14 => ?_
                      refine Go_iast rfl fun I15 => ?_
                      refine Go_blk 2 (pc' := 176) (L' := [(0, .ref 47), (1, .int w1.1), (2, .ref r5)]) (S' := [.int (91 : Int32), .ref 47]) (h' := (hh X g I15)) rfl ?_
                      refine Go_cV (y' := 285) (As := [.ref 47, .int (91 : Int32)]) (r := []) rfl (g_m_sign285 (91 : Int32) (by omega)) fun I16 => ?_
                      refine Go_blk 1 (pc' := 180) (L' := [(0, .ref 47), (1, .int w1.1), (2, .ref r5)]) (S' := [.ref 47]) (h' := (hh X g I16)) rfl ?_
                      refine Go_cV (y' := 270) (As := [.ref 47]) (r := []) rfl (g_m_blanks270  (by omega)) fun I17 => ?_
                      refine Go_lcs [(0, .ref 47), (2, .ref r5)] rfl ⟨rfl, rfl, trivial⟩ ?_
                      refine Go_seq (pcj := 214) (fun (b19 : MJ) => [(0, .ref 47), (2, .ref r5)]) (fun (b19 : MJ) => []) (fun (b19 : MJ) => (hh X g b19)) (fun b19 => ?_) ?_
                      ·
                        refine Go_blk 2 (pc' := 217) (L' := [(0, .ref 47), (2, .ref r5)]) (S' := [.int (93 : Int32), .ref 47]) (h' := (hh X g b19)) rfl ?_
                        refine Go_cV (y' := 285) (As := [.ref 47, .int (93 : Int32)]) (r := []) rfl (g_m_sign285 (93 : Int32) (by omega)) fun I20 => ?_
                        refine Go_blk 6 (pc' := 230) (L' := [(0, .ref 47), (2, .ref r5)]) (S' := []) (h' := (hh X g (ab_up1 I20 47 8 ((I20 47 8) - (1 : Int32))))) rfl ?_
                        exact Go_jmp [(0, .ref 47), (2, .ref r5)] rfl ⟨rfl, rfl, trivial⟩ (fun _ h => h)
                      ·
                        refine Go_wh (fun (s18 : MJ) => [(0, .ref 47), (2, .ref r5)]) (fun _ => []) (fun (s18 : MJ) => (hh X g s18)) (fun s18 => ?_) I17
                        refine Go_blk 2 (pc' := 187) (L' := [(0, .ref 47), (2, .ref r5)]) (S' := [.int (s18 47 5)]) (h' := (hh X g s18)) rfl ?_
                        refine Go_cmzn rfl rfl rfl ?_ ?_
                        ·
                          refine Go_blk 3 (pc' := 195) (L' := [(0, .ref 47), (2, .ref r5)]) (S' := [.int (s18 47 4), .ref 47]) (h' := (hh X g s18)) rfl ?_
                          refine Go_cR (y' := 271) (As := [.ref 47, .int (s18 47 4)]) (r := []) rfl (g_m_byteAt271 (s18 47 4) (by omega)) fun v21 => ?_
                          refine Go_blk 1 (pc' := 200) (L' := [(0, .ref 47), (2, .ref r5)]) (S' := [.int (93 : Int32), .int v21]) (h' := (hh X g s18)) rfl ?_
                          refine Go_cmp rfl rfl rfl ?_ ?_
                          ·
                            exact Go_jmp [(0, .ref 47), (2, .ref r5)] rfl ⟨rfl, rfl, trivial⟩ (fun _ h => h)
                          ·
                            refine Go_blk 1 (pc' := 204) (L' := [(0, .ref 47), (2, .ref r5)]) (S' := [.ref 47]) (h' := (hh X g s18)) rfl ?_
                            refine Go_cV (y' := 300) (As := [.ref 47]) (r := []) rfl (Go_dep (by omega) (hr  X g _)) fun I22 => ?_
                            refine Go_blk 1 (pc' := 208) (L' := [(0, .ref 47), (2, .ref r5)]) (S' := [.ref 47]) (h' := (hh X g I22)) rfl ?_
                            refine Go_cV (y' := 270) (As := [.ref 47]) (r := []) rfl (g_m_blanks270  (by omega)) fun I23 => ?_
                            refine Go_blk 1 (pc' := 183) (L' := [(0, .ref 47), (2, .ref r5)]) (S' := []) (h' := (hh X g I23)) rfl ?_
                            exact Go_jmp [(0, .ref 47), (2, .ref r5)] rfl ⟨rfl, rfl, trivial⟩ (fun _ h => h)
                        ·
                          exact Go_jmp [(0, .ref 47), (2, .ref r5)] rfl ⟨rfl, rfl, trivial⟩ (fun _ h => h)
                    ·
                      exact Go_jmp [(0, .ref 47), (2, .ref r5)] rfl ⟨rfl, rfl, trivial⟩ (fun _ h => h)
                ·
                  refine Go_cmpn rfl rfl rfl ?_ ?_
                  ·
                    refine Go_blk 10 (pc' := 153) (L' := [(0, .ref 47), (1, .int w1.1), (2, .ref r5)]) (S' := [.int ((b9 51 3) - (1 : Int32)), .int (0 : Int32), .ref 47, .int (1 : Int32), .ref r5]) (h' := (hh X g b9)) rfl ?_
                    refine Go_cW (y' := 283) (As := [.ref 47, .int (0 : Int32), .int ((b9 51 3) - (1 : Int32))]) (r := [.int (1 : Int32), .ref r5]) rfl (g_m_number283 (0 : Int32) ((b9 51 3) - (1 : Int32)) (by omega)) fun w24 => ?_
                    refine Go_iast rfl fun I25 => ?_
                    exact Go_jmp [(0, .ref 47), (1, .int w1.1), (2, .ref r5)] rfl ⟨rfl, rfl, rfl, trivial⟩ (fun _ h => h)
                  ·
                    exact Go_jmp [(0, .ref 47), (1, .int w1.1), (2, .ref r5)] rfl ⟨rfl, rfl, rfl, trivial⟩ (fun _ h => h)
              ·
                refine Go_cmpn rfl rfl rfl ?_ ?_
                ·
                  refine Go_blk 5 (pc' := 114) (L' := [(0, .ref 47), (1, .int w1.1), (2, .ref r5)]) (S' := [.int (11 : Int32), .int (0 : Int32), .ref 47, .int (2 : Int32), .ref r5]) (h' := (hh X g b8)) rfl ?_
                  refine Go_cW (y' := 283) (As := [.ref 47, .int (0 : Int32), .int (11 : Int32)]) (r := [.int (2 : Int32), .ref r5]) rfl (g_m_number283 (0 : Int32) (11 : Int32) (by omega)) fun w26 => ?_
                  refine Go_iast rfl fun I27 => ?_
                  refine Go_blk 4 (pc' := 124) (L' := [(0, .ref 47), (1, .int w1.1), (2, .ref r5)]) (S' := [.int (I27 47 5), .int (3 : Int32), .ref r5]) (h' := (hh X g I27)) rfl ?_
                  refine Go_seq (pcj := 135) (fun (b28 : Int32 × MJ) => [(0, .ref 47), (1, .int w1.1), (2, .ref r5)]) (fun (b28 : Int32 × MJ) => [.int b28.1, .int (3 : Int32), .ref r5]) (fun (b28 : Int32 × MJ) => (hh X g b28.2)) (fun b28 => ?_) ?_
                  ·
                    refine Go_iast rfl fun I29 => ?_
                    exact Go_jmp [(0, .ref 47), (1, .int w1.1), (2, .ref r5)] rfl ⟨rfl, rfl, rfl, trivial⟩ (fun _ h => h)
                  ·
                    refine Go_cmzn rfl rfl rfl ?_ ?_
                    ·
                      refine Go_blk 1 (pc' := 128) (L' := [(0, .ref 47), (1, .int w1.1), (2, .ref r5)]) (S' := [.ref 47, .int (3 : Int32), .ref r5]) (h' := (hh X g I27)) rfl ?_
                      refine Go_cW (y' := 281) (As := [.ref 47]) (r := [.int (3 : Int32), .ref r5]) rfl (g_m_skyHere281  (by omega)) fun w30 => ?_
                      refine Go_blk 1 (pc' := 135) (L' := [(0, .ref 47), (1, .int w1.1), (2, .ref r5)]) (S' := [.int w30.1, .int (3 : Int32), .ref r5]) (h' := (hh X g w30.2)) rfl ?_
                      exact Go_jmp [(0, .ref 47), (1, .int w1.1), (2, .ref r5)] rfl ⟨rfl, rfl, rfl, trivial⟩ (fun _ h => h)
                    ·
                      refine Go_blk 1 (pc' := 135) (L' := [(0, .ref 47), (1, .int w1.1), (2, .ref r5)]) (S' := [.int (0 : Int32), .int (3 : Int32), .ref r5]) (h' := (hh X g I27)) rfl ?_
                      exact Go_jmp [(0, .ref 47), (1, .int w1.1), (2, .ref r5)] rfl ⟨rfl, rfl, rfl, trivial⟩ (fun _ h => h)
                ·
                  exact Go_jmp [(0, .ref 47), (1, .int w1.1), (2, .ref r5)] rfl ⟨rfl, rfl, rfl, trivial⟩ (fun _ h => h)
            ·
              refine Go_cmzn rfl rfl rfl ?_ ?_
              ·
                refine Go_blk 5 (pc' := 99) (L' := [(0, .ref 47), (1, .int w1.1), (2, .ref r5)]) (S' := [.int (5 : Int32), .int (0 : Int32), .ref 47, .int (2 : Int32), .ref r5]) (h' := (hh X g b7)) rfl ?_
                refine Go_cW (y' := 283) (As := [.ref 47, .int (0 : Int32), .int (5 : Int32)]) (r := [.int (2 : Int32), .ref r5]) rfl (g_m_number283 (0 : Int32) (5 : Int32) (by omega)) fun w31 => ?_
                refine Go_iast rfl fun I32 => ?_
                exact Go_jmp [(0, .ref 47), (1, .int w1.1), (2, .ref r5)] rfl ⟨rfl, rfl, rfl, trivial⟩ (fun _ h => h)
              ·
                exact Go_jmp [(0, .ref 47), (1, .int w1.1), (2, .ref r5)] rfl ⟨rfl, rfl, rfl, trivial⟩ (fun _ h => h)
          ·
            refine Go_cmpn rfl rfl (ab_cge _ _) ?_ ?_
            ·
              refine Go_blk 10 (pc' := 86) (L' := [(2, .ref r5), (0, .ref 47), (1, .int w1.1)]) (S' := [.int ((I6 51 1) - (1 : Int32)), .int (0 : Int32), .ref 47, .int (1 : Int32), .ref r5]) (h' := (hh X g I6)) rfl ?_
              refine Go_cW (y' := 283) (As := [.ref 47, .int (0 : Int32), .int ((I6 51 1) - (1 : Int32))]) (r := [.int (1 : Int32), .ref r5]) rfl (g_m_number283 (0 : Int32) ((I6 51 1) - (1 : Int32)) (by omega)) fun w33 => ?_
              refine Go_iast rfl fun I34 => ?_
              exact Go_jmp [(0, .ref 47), (1, .int w1.1), (2, .ref r5)] rfl ⟨rfl, rfl, rfl, trivial⟩ (fun _ h => h)
            ·
              exact Go_jmp [(0, .ref 47), (1, .int w1.1), (2, .ref r5)] rfl ⟨rfl, rfl, rfl, trivial⟩ (fun _ h => h)
        ·
          exact Go_ret (fun _ h => h) rfl
    ·
      refine Go_blk 2 (pc' := 37) (L' := [(0, .ref 47), (1, .int w1.1)]) (S' := [.int (b2 47 5)]) (h' := (hh X g b2)) rfl ?_
      refine Go_cmz rfl rfl rfl ?_ ?_
      ·
        refine Go_blk 1 (pc' := 42) (L' := [(0, .ref 47), (1, .int w1.1)]) (S' := [.ref 47]) (h' := (hh X g b2)) rfl ?_
        refine Go_cV (y' := 280) (As := [.ref 47]) (r := []) rfl (g_m_skipWord280  (by omega)) fun I35 => ?_
        refine Go_blk 4 (pc' := 53) (L' := [(0, .ref 47), (1, .int w1.1)]) (S' := [.int (I35 47 34), .ref 495]) (h' := (hh X g I35)) rfl ?_
        refine Go_aald rfl fun r36 => ?_
        refine Go_blk 10 (pc' := 68) (L' := [(2, .ref r36), (0, .ref 47), (1, .int w1.1)]) (S' := [.int w1.1, .int (0 : Int32), .ref r36]) (h' := (hh X g (ab_up1 I35 47 34 ((I35 47 34) + (1 : Int32))))) rfl ?_
        refine Go_iast rfl fun I37 => ?_
        refine Go_blk 2 (pc' := 71) (L' := [(2, .ref r36), (0, .ref 47), (1, .int w1.1)]) (S' := [.int (4 : Int32), .int w1.1]) (h' := (hh X g I37)) rfl ?_
        refine Go_seq (pcj := 90) (fun (b38 : MJ) => [(0, .ref 47), (1, .int w1.1), (2, .ref r36)]) (fun (b38 : MJ) => []) (fun (b38 : MJ) => (hh X g b38)) (fun b38 => ?_) ?_
        ·
          refine Go_blk 1 (pc' := 91) (L' := [(0, .ref 47), (1, .int w1.1), (2, .ref r36)]) (S' := [.int w1.1]) (h' := (hh X g b38)) rfl ?_
          refine Go_seq (pcj := 103) (fun (b39 : MJ) => [(0, .ref 47), (1, .int w1.1), (2, .ref r36)]) (fun (b39 : MJ) => []) (fun (b39 : MJ) => (hh X g b39)) (fun b39 => ?_) ?_
          ·
            refine Go_blk 2 (pc' := 105) (L' := [(0, .ref 47), (1, .int w1.1), (2, .ref r36)]) (S' := [.int (1 : Int32), .int w1.1]) (h' := (hh X g b39)) rfl ?_
            refine Go_seq (pcj := 136) (fun (b40 : MJ) => [(0, .ref 47), (1, .int w1.1), (2, .ref r36)]) (fun (b40 : MJ) => []) (fun (b40 : MJ) => (hh X g b40)) (fun b40 => ?_) ?_
            ·
              refine Go_blk 2 (pc' := 138) (L' := [(0, .ref 47), (1, .int w1.1), (2, .ref r36)]) (S' := [.int (4 : Int32), .int w1.1]) (h' := (hh X g b40)) rfl ?_
              refine Go_seq (pcj := 157) (fun (b41 : MJ) => [(0, .ref 47), (1, .int w1.1), (2, .ref r36)]) (fun (b41 : MJ) => []) (fun (b41 : MJ) => (hh X g b41)) (fun b41 => ?_) ?_
              ·
                refine Go_blk 2 (pc' := 160) (L' := [(0, .ref 47), (1, .int w1.1), (2, .ref r36)]) (S' := [.int (6 : Int32), .int w1.1]) (h' := (hh X g b41)) rfl ?_
                refine Go_seq (pcj := 230) (fun (b42 : MJ) => [(0, .ref 47), (2, .ref r36)]) (fun (b42 : MJ) => []) (fun (b42 : MJ) => (hh X g b42)) (fun b42 => ?_) ?_
                ·
                  refine Go_blk 4 (pc' := 236) (L' := [(0, .ref 47), (2, .ref r36)]) (S' := [.int (b42 47 34), .int (4 : Int32), .ref r36]) (h' := (hh X g b42)) rfl ?_
                  refine Go_iast rfl fun I43 => ?_
                  refine Go_blk 2 (pc' := 240) (L' := [(0, .ref 47), (2, .ref r36)]) (S' := [.int (59 : Int32), .ref 47]) (h' := (hh X g I43)) rfl ?_
                  refine Go_cV (y' := 285) (As := [.ref 47, .int (59 : Int32)]) (r := []) rfl (g_m_sign285 (59 : Int32) (by omega)) fun I44 => ?_
                  exact Go_ret (fun _ h => h) rfl
                ·
                  refine Go_cmpn rfl rfl rfl ?_ ?_
                  ·
                    refine Go_blk 5 (pc' := 169) (L' := [(0, .ref 47), (1, .int w1.1), (2, .ref r36)]) (S' := [.int (20 : Int32), .int (0 : Int32), .ref 47, .int (1 : Int32), .ref r36]) (h' := (hh X g b41)) rfl ?_
                    refine Go_cW (y' := 283) (As := [.ref 47, .int (0 : Int32), .int (20 : Int32)]) (r := [.int (1 : Int32), .ref r36]) rfl (g_m_number283 (0 : Int32) (20 : Int32) (by omega)) fun w45 => ?_
                    refine Go_iast rfl fun I46 => ?_
                    refine Go_blk 2 (pc' := 176) (L' := [(0, .ref 47), (1, .int w1.1), (2, .ref r36)]) (S' := [.int (91 : Int32), .ref 47]) (h' := (hh X g I46)) rfl ?_
                    refine Go_cV (y' := 285) (As := [.ref 47, .int (91 : Int32)]) (r := []) rfl (g_m_sign285 (91 : Int32) (by omega)) fun I47 => ?_
                    refine Go_blk 1 (pc' := 180) (L' := [(0, .ref 47), (1, .int w1.1), (2, .ref r36)]) (S' := [.ref 47]) (h' := (hh X g I47)) rfl ?_
                    refine Go_cV (y' := 270) (As := [.ref 47]) (r := []) rfl (g_m_blanks270  (by omega)) fun I48 => ?_
                    refine Go_lcs [(0, .ref 47), (2, .ref r36)] rfl ⟨rfl, rfl, trivial⟩ ?_
                    refine Go_seq (pcj := 214) (fun (b50 : MJ) => [(0, .ref 47), (2, .ref r36)]) (fun (b50 : MJ) => []) (fun (b50 : MJ) => (hh X g b50)) (fun b50 => ?_) ?_
                    ·
                      refine Go_blk 2 (pc' := 217) (L' := [(0, .ref 47), (2, .ref r36)]) (S' := [.int (93 : Int32), .ref 47]) (h' := (hh X g b50)) rfl ?_
                      refine Go_cV (y' := 285) (As := [.ref 47, .int (93 : Int32)]) (r := []) rfl (g_m_sign285 (93 : Int32) (by omega)) fun I51 => ?_
                      refine Go_blk 6 (pc' := 230) (L' := [(0, .ref 47), (2, .ref r36)]) (S' := []) (h' := (hh X g (ab_up1 I51 47 8 ((I51 47 8) - (1 : Int32))))) rfl ?_
                      exact Go_jmp [(0, .ref 47), (2, .ref r36)] rfl ⟨rfl, rfl, trivial⟩ (fun _ h => h)
                    ·
                      refine Go_wh (fun (s49 : MJ) => [(0, .ref 47), (2, .ref r36)]) (fun _ => []) (fun (s49 : MJ) => (hh X g s49)) (fun s49 => ?_) I48
                      refine Go_blk 2 (pc' := 187) (L' := [(0, .ref 47), (2, .ref r36)]) (S' := [.int (s49 47 5)]) (h' := (hh X g s49)) rfl ?_
                      refine Go_cmzn rfl rfl rfl ?_ ?_
                      ·
                        refine Go_blk 3 (pc' := 195) (L' := [(0, .ref 47), (2, .ref r36)]) (S' := [.int (s49 47 4), .ref 47]) (h' := (hh X g s49)) rfl ?_
                        refine Go_cR (y' := 271) (As := [.ref 47, .int (s49 47 4)]) (r := []) rfl (g_m_byteAt271 (s49 47 4) (by omega)) fun v52 => ?_
                        refine Go_blk 1 (pc' := 200) (L' := [(0, .ref 47), (2, .ref r36)]) (S' := [.int (93 : Int32), .int v52]) (h' := (hh X g s49)) rfl ?_
                        refine Go_cmp rfl rfl rfl ?_ ?_
                        ·
                          exact Go_jmp [(0, .ref 47), (2, .ref r36)] rfl ⟨rfl, rfl, trivial⟩ (fun _ h => h)
                        ·
                          refine Go_blk 1 (pc' := 204) (L' := [(0, .ref 47), (2, .ref r36)]) (S' := [.ref 47]) (h' := (hh X g s49)) rfl ?_
                          refine Go_cV (y' := 300) (As := [.ref 47]) (r := []) rfl (Go_dep (by omega) (hr  X g _)) fun I53 => ?_
                          refine Go_blk 1 (pc' := 208) (L' := [(0, .ref 47), (2, .ref r36)]) (S' := [.ref 47]) (h' := (hh X g I53)) rfl ?_
                          refine Go_cV (y' := 270) (As := [.ref 47]) (r := []) rfl (g_m_blanks270  (by omega)) fun I54 => ?_
                          refine Go_blk 1 (pc' := 183) (L' := [(0, .ref 47), (2, .ref r36)]) (S' := []) (h' := (hh X g I54)) rfl ?_
                          exact Go_jmp [(0, .ref 47), (2, .ref r36)] rfl ⟨rfl, rfl, trivial⟩ (fun _ h => h)
                      ·
                        exact Go_jmp [(0, .ref 47), (2, .ref r36)] rfl ⟨rfl, rfl, trivial⟩ (fun _ h => h)
                  ·
                    exact Go_jmp [(0, .ref 47), (2, .ref r36)] rfl ⟨rfl, rfl, trivial⟩ (fun _ h => h)
              ·
                refine Go_cmpn rfl rfl rfl ?_ ?_
                ·
                  refine Go_blk 10 (pc' := 153) (L' := [(0, .ref 47), (1, .int w1.1), (2, .ref r36)]) (S' := [.int ((b40 51 3) - (1 : Int32)), .int (0 : Int32), .ref 47, .int (1 : Int32), .ref r36]) (h' := (hh X g b40)) rfl ?_
                  refine Go_cW (y' := 283) (As := [.ref 47, .int (0 : Int32), .int ((b40 51 3) - (1 : Int32))]) (r := [.int (1 : Int32), .ref r36]) rfl (g_m_number283 (0 : Int32) ((b40 51 3) - (1 : Int32)) (by omega)) fun w55 => ?_
                  refine Go_iast rfl fun I56 => ?_
                  exact Go_jmp [(0, .ref 47), (1, .int w1.1), (2, .ref r36)] rfl ⟨rfl, rfl, rfl, trivial⟩ (fun _ h => h)
                ·
                  exact Go_jmp [(0, .ref 47), (1, .int w1.1), (2, .ref r36)] rfl ⟨rfl, rfl, rfl, trivial⟩ (fun _ h => h)
            ·
              refine Go_cmpn rfl rfl rfl ?_ ?_
              ·
                refine Go_blk 5 (pc' := 114) (L' := [(0, .ref 47), (1, .int w1.1), (2, .ref r36)]) (S' := [.int (11 : Int32), .int (0 : Int32), .ref 47, .int (2 : Int32), .ref r36]) (h' := (hh X g b39)) rfl ?_
                refine Go_cW (y' := 283) (As := [.ref 47, .int (0 : Int32), .int (11 : Int32)]) (r := [.int (2 : Int32), .ref r36]) rfl (g_m_number283 (0 : Int32) (11 : Int32) (by omega)) fun w57 => ?_
                refine Go_iast rfl fun I58 => ?_
                refine Go_blk 4 (pc' := 124) (L' := [(0, .ref 47), (1, .int w1.1), (2, .ref r36)]) (S' := [.int (I58 47 5), .int (3 : Int32), .ref r36]) (h' := (hh X g I58)) rfl ?_
                refine Go_seq (pcj := 135) (fun (b59 : Int32 × MJ) => [(0, .ref 47), (1, .int w1.1), (2, .ref r36)]) (fun (b59 : Int32 × MJ) => [.int b59.1, .int (3 : Int32), .ref r36]) (fun (b59 : Int32 × MJ) => (hh X g b59.2)) (fun b59 => ?_) ?_
                ·
                  refine Go_iast rfl fun I60 => ?_
                  exact Go_jmp [(0, .ref 47), (1, .int w1.1), (2, .ref r36)] rfl ⟨rfl, rfl, rfl, trivial⟩ (fun _ h => h)
                ·
                  refine Go_cmzn rfl rfl rfl ?_ ?_
                  ·
                    refine Go_blk 1 (pc' := 128) (L' := [(0, .ref 47), (1, .int w1.1), (2, .ref r36)]) (S' := [.ref 47, .int (3 : Int32), .ref r36]) (h' := (hh X g I58)) rfl ?_
                    refine Go_cW (y' := 281) (As := [.ref 47]) (r := [.int (3 : Int32), .ref r36]) rfl (g_m_skyHere281  (by omega)) fun w61 => ?_
                    refine Go_blk 1 (pc' := 135) (L' := [(0, .ref 47), (1, .int w1.1), (2, .ref r36)]) (S' := [.int w61.1, .int (3 : Int32), .ref r36]) (h' := (hh X g w61.2)) rfl ?_
                    exact Go_jmp [(0, .ref 47), (1, .int w1.1), (2, .ref r36)] rfl ⟨rfl, rfl, rfl, trivial⟩ (fun _ h => h)
                  ·
                    refine Go_blk 1 (pc' := 135) (L' := [(0, .ref 47), (1, .int w1.1), (2, .ref r36)]) (S' := [.int (0 : Int32), .int (3 : Int32), .ref r36]) (h' := (hh X g I58)) rfl ?_
                    exact Go_jmp [(0, .ref 47), (1, .int w1.1), (2, .ref r36)] rfl ⟨rfl, rfl, rfl, trivial⟩ (fun _ h => h)
              ·
                exact Go_jmp [(0, .ref 47), (1, .int w1.1), (2, .ref r36)] rfl ⟨rfl, rfl, rfl, trivial⟩ (fun _ h => h)
          ·
            refine Go_cmzn rfl rfl rfl ?_ ?_
            ·
              refine Go_blk 5 (pc' := 99) (L' := [(0, .ref 47), (1, .int w1.1), (2, .ref r36)]) (S' := [.int (5 : Int32), .int (0 : Int32), .ref 47, .int (2 : Int32), .ref r36]) (h' := (hh X g b38)) rfl ?_
              refine Go_cW (y' := 283) (As := [.ref 47, .int (0 : Int32), .int (5 : Int32)]) (r := [.int (2 : Int32), .ref r36]) rfl (g_m_number283 (0 : Int32) (5 : Int32) (by omega)) fun w62 => ?_
              refine Go_iast rfl fun I63 => ?_
              exact Go_jmp [(0, .ref 47), (1, .int w1.1), (2, .ref r36)] rfl ⟨rfl, rfl, rfl, trivial⟩ (fun _ h => h)
            ·
              exact Go_jmp [(0, .ref 47), (1, .int w1.1), (2, .ref r36)] rfl ⟨rfl, rfl, rfl, trivial⟩ (fun _ h => h)
        ·
          refine Go_cmpn rfl rfl (ab_cge _ _) ?_ ?_
          ·
            refine Go_blk 10 (pc' := 86) (L' := [(2, .ref r36), (0, .ref 47), (1, .int w1.1)]) (S' := [.int ((I37 51 1) - (1 : Int32)), .int (0 : Int32), .ref 47, .int (1 : Int32), .ref r36]) (h' := (hh X g I37)) rfl ?_
            refine Go_cW (y' := 283) (As := [.ref 47, .int (0 : Int32), .int ((I37 51 1) - (1 : Int32))]) (r := [.int (1 : Int32), .ref r36]) rfl (g_m_number283 (0 : Int32) ((I37 51 1) - (1 : Int32)) (by omega)) fun w64 => ?_
            refine Go_iast rfl fun I65 => ?_
            exact Go_jmp [(0, .ref 47), (1, .int w1.1), (2, .ref r36)] rfl ⟨rfl, rfl, rfl, trivial⟩ (fun _ h => h)
          ·
            exact Go_jmp [(0, .ref 47), (1, .int w1.1), (2, .ref r36)] rfl ⟨rfl, rfl, rfl, trivial⟩ (fun _ h => h)
      ·
        exact Go_ret (fun _ h => h) rfl
  ·
    refine Go_cmpn rfl rfl rfl ?_ ?_
    ·
      refine Go_blk 4 (pc' := 16) (L' := [(1, .int w1.1), (0, .ref 47)]) (S' := [.int (w1.2 47 4), .int (1 : Int32), .ref 47]) (h' := (hh X g w1.2)) rfl ?_
      refine Go_cV (y' := 278) (As := [.ref 47, .int (1 : Int32), .int (w1.2 47 4)]) (r := []) rfl (g_m_wrong278 (1 : Int32) (w1.2 47 4) (by omega)) fun I66 => ?_
      exact Go_jmp [(0, .ref 47), (1, .int w1.1)] rfl ⟨rfl, rfl, trivial⟩ (fun _ h => h)
    ·
      exact Go_jmp [(0, .ref 47), (1, .int w1.1)] rfl ⟨rfl, rfl, trivial⟩ (fun _ h => h)
theorem g_m_readsStep300 (k : Nat) : ∀  {X : XX} {g : GG} {I : MJ} {d : Nat}, 5 + 1 * k ≤ d → Go d 300 0 (lv_args 0 [.ref 47]) [] (hh X g I) (f_m_readsStep300 k  I) (pV X g) := by
  induction k with
  | zero => intros; exact Go_none
  | succ k ih =>
    intro  X g I d hd
    exact G_m_readsStep300 (f_m_readsStep300 k) (5 + 1 * k) (by omega) (fun  X g I => ih  (Nat.le_refl _))  (by omega)
set_option maxRecDepth 1000000 in
set_option maxHeartbeats 4000000 in
theorem g_m_copies302 (p0 : Nat) (p1 : Nat) {X : XX} {g : GG} {I : MJ} {d : Nat} (hd : 0 ≤ d) : Go d 302 0 (lv_args 0 [.ref p0, .ref p1]) [] (hh X g I) (f_m_copies302 p0 p1 I) (pV X g) := by
  unfold f_m_copies302
  refine Go_blk 2 (pc' := 2) (L' := [(2, .int (0 : Int32)), (0, .ref p0), (1, .ref p1)]) (S' := []) (h' := (hh X g I)) rfl ?_
  refine Go_lcs [(0, .ref p0), (1, .ref p1), (2, .int (0 : Int32))] rfl ⟨rfl, rfl, rfl, trivial⟩ ?_
  refine Go_seq (pcj := 20) (fun (b2 : MJ) => []) (fun (b2 : MJ) => []) (fun (b2 : MJ) => (hh X g b2)) (fun b2 => ?_) ?_
  ·
    exact Go_ret (fun _ h => h) rfl
  ·
    refine Go_wh (fun (s1 : Int32 × MJ) => [(0, .ref p0), (1, .ref p1), (2, .int s1.1)]) (fun _ => []) (fun (s1 : Int32 × MJ) => (hh X g s1.2)) (fun s1 => ?_) ((0 : Int32), I)
    refine Go_blk 2 (pc' := 5) (L' := [(0, .ref p0), (1, .ref p1), (2, .int s1.1)]) (S' := [.int (91 : Int32), .int s1.1]) (h' := (hh X g s1.2)) rfl ?_
    refine Go_cmpn rfl rfl (ab_cge _ _) ?_ ?_
    ·
      refine Go_blk 4 (pc' := 12) (L' := [(0, .ref p0), (1, .ref p1), (2, .int s1.1)]) (S' := [.int s1.1, .ref p0, .int s1.1, .ref p1]) (h' := (hh X g s1.2)) rfl ?_
      refine Go_iald rfl fun v3 => ?_
      refine Go_iast rfl fun I4 => ?_
      refine Go_blk 2 (pc' := 2) (L' := [(2, .int (s1.1 + (1 : Int32))), (0, .ref p0), (1, .ref p1)]) (S' := []) (h' := (hh X g I4)) rfl ?_
      exact Go_jmp [(0, .ref p0), (1, .ref p1), (2, .int (s1.1 + (1 : Int32)))] rfl ⟨rfl, rfl, rfl, trivial⟩ (fun _ h => h)
    ·
      exact Go_jmp [] rfl trivial (fun _ h => h)
set_option maxRecDepth 1000000 in
set_option maxHeartbeats 4000000 in
theorem g_m_hasSuit305 (p0 : Nat) (p1 : Int32) {X : XX} {g : GG} {I : MJ} {d : Nat} (hd : 0 ≤ d) : Go d 305 0 (lv_args 0 [.ref p0, .int p1]) [] (hh X g I) (f_m_hasSuit305 p0 p1 I) (pR X g I) := by
  unfold f_m_hasSuit305
  refine Go_blk 4 (pc' := 5) (L' := [(0, .ref p0), (1, .int p1)]) (S' := [.int ((82 : Int32) + p1), .ref p0]) (h' := (hh X g I)) rfl ?_
  refine Go_iald rfl fun v1 => ?_
  refine Go_blk 1 (pc' := 7) (L' := [(0, .ref p0), (1, .int p1)]) (S' := [.int (-1 : Int32), .int v1]) (h' := (hh X g I)) rfl ?_
  refine Go_seq (pcj := 15) (fun (b2 : Int32) => []) (fun (b2 : Int32) => [.int b2]) (fun (b2 : Int32) => (hh X g I)) (fun b2 => ?_) ?_
  ·
    exact Go_ret (fun _ h => h) rfl
  ·
    refine Go_cmp rfl rfl rfl ?_ ?_
    ·
      refine Go_blk 1 (pc' := 15) (L' := [(0, .ref p0), (1, .int p1)]) (S' := [.int (0 : Int32)]) (h' := (hh X g I)) rfl ?_
      exact Go_jmp [] rfl trivial (fun _ h => h)
    ·
      refine Go_blk 2 (pc' := 15) (L' := [(0, .ref p0), (1, .int p1)]) (S' := [.int (1 : Int32)]) (h' := (hh X g I)) rfl ?_
      exact Go_jmp [] rfl trivial (fun _ h => h)
set_option maxRecDepth 1000000 in
set_option maxHeartbeats 4000000 in
theorem g_m_runAt308 (p0 : Nat) (p1 : Int32) (p2 : Int32) {X : XX} {g : GG} {I : MJ} {d : Nat} (hd : 0 ≤ d) : Go d 308 0 (lv_args 0 [.ref p0, .int p1, .int p2]) [] (hh X g I) (f_m_runAt308 p0 p1 p2 I) (pR X g I) := by
  unfold f_m_runAt308
  refine Go_blk 2 (pc' := 2) (L' := [(3, .int (1 : Int32)), (0, .ref p0), (1, .int p1), (2, .int p2)]) (S' := []) (h' := (hh X g I)) rfl ?_
  refine Go_lcs [(0, .ref p0), (1, .int p1), (2, .int p2), (3, .int (1 : Int32))] rfl ⟨rfl, rfl, rfl, rfl, trivial⟩ ?_
  refine Go_seq (pcj := 31) (fun (b2 : Int32) => [(3, .int b2)]) (fun (b2 : Int32) => []) (fun (b2 : Int32) => (hh X g I)) (fun b2 => ?_) ?_
  ·
    refine Go_blk 1 (pc' := 32) (L' := [(3, .int b2)]) (S' := [.int b2]) (h' := (hh X g I)) rfl ?_
    exact Go_ret (fun _ h => h) rfl
  ·
    refine Go_wh (fun (s1 : Int32) => [(0, .ref p0), (1, .int p1), (2, .int p2), (3, .int s1)]) (fun _ => []) (fun (s1 : Int32) => (hh X g I)) (fun s1 => ?_) (1 : Int32)
    refine Go_blk 4 (pc' := 7) (L' := [(0, .ref p0), (1, .int p1), (2, .int p2), (3, .int s1)]) (S' := [.int (12 : Int32), .int (p2 + s1)]) (h' := (hh X g I)) rfl ?_
    refine Go_cmpn rfl rfl (ab_cge _ _) ?_ ?_
    ·
      refine Go_blk 6 (pc' := 16) (L' := [(0, .ref p0), (1, .int p1), (2, .int p2), (3, .int s1)]) (S' := [.int ((p1 + p2) + s1), .ref p0]) (h' := (hh X g I)) rfl ?_
      refine Go_iald rfl fun v3 => ?_
      refine Go_blk 4 (pc' := 21) (L' := [(0, .ref p0), (1, .int p1), (2, .int p2), (3, .int s1)]) (S' := [.int (p1 + p2), .ref p0, .int v3]) (h' := (hh X g I)) rfl ?_
      refine Go_iald rfl fun v4 => ?_
      refine Go_cmpn rfl rfl rfl ?_ ?_
      ·
        refine Go_blk 2 (pc' := 2) (L' := [(3, .int (s1 + (1 : Int32))), (0, .ref p0), (1, .int p1), (2, .int p2)]) (S' := []) (h' := (hh X g I)) rfl ?_
        exact Go_jmp [(0, .ref p0), (1, .int p1), (2, .int p2), (3, .int (s1 + (1 : Int32)))] rfl ⟨rfl, rfl, rfl, rfl, trivial⟩ (fun _ h => h)
      ·
        exact Go_jmp [(3, .int s1)] rfl ⟨rfl, trivial⟩ (fun _ h => h)
    ·
      exact Go_jmp [(3, .int s1)] rfl ⟨rfl, trivial⟩ (fun _ h => h)
set_option maxRecDepth 1000000 in
set_option maxHeartbeats 4000000 in
theorem g_m_boltFor309 (p1 : Nat) (p2 : Int32) (p3 : Int32) {X : XX} {g : GG} {I : MJ} {d : Nat} (hd : 0 ≤ d) : Go d 309 0 (lv_args 0 [.ref 47, .ref p1, .int p2, .int p3]) [] (hh X g I) (f_m_boltFor309 p1 p2 p3 I) (pR X g I) := by
  unfold f_m_boltFor309
  refine Go_blk 4 (pc' := 6) (L' := [(5, .int (0 : Int32)), (4, .int (-1 : Int32)), (0, .ref 47), (1, .ref p1), (2, .int p2), (3, .int p3)]) (S' := []) (h' := (hh X g I)) rfl ?_
  refine Go_lcs [(0, .ref 47), (1, .ref p1), (2, .int p2), (3, .int p3), (4, .int (-1 : Int32)), (5, .int (0 : Int32))] rfl ⟨rfl, rfl, rfl, rfl, rfl, rfl, trivial⟩ ?_
  refine Go_seq (pcj := 71) (fun (b2 : Int32) => [(4, .int b2)]) (fun (b2 : Int32) => []) (fun (b2 : Int32) => (hh X g I)) (fun b2 => ?_) ?_
  ·
    refine Go_blk 1 (pc' := 73) (L' := [(4, .int b2)]) (S' := [.int b2]) (h' := (hh X g I)) rfl ?_
    exact Go_ret (fun _ h => h) rfl
  ·
    refine Go_wh (fun (s1 : Int32 × Int32) => [(0, .ref 47), (1, .ref p1), (2, .int p2), (3, .int p3), (4, .int s1.1), (5, .int s1.2)]) (fun _ => []) (fun (s1 : Int32 × Int32) => (hh X g I)) (fun s1 => ?_) ((-1 : Int32), (0 : Int32))
    refine Go_blk 5 (pc' := 14) (L' := [(0, .ref 47), (1, .ref p1), (2, .int p2), (3, .int p3), (4, .int s1.1), (5, .int s1.2)]) (S' := [.int (I 51 0), .int s1.2]) (h' := (hh X g I)) rfl ?_
    refine Go_cmpn rfl rfl (ab_cge _ _) ?_ ?_
    ·
      refine Go_blk 3 (pc' := 23) (L' := [(0, .ref 47), (1, .ref p1), (2, .int p2), (3, .int p3), (4, .int s1.1), (5, .int s1.2)]) (S' := [.int s1.2, .ref 65]) (h' := (hh X g I)) rfl ?_
      refine Go_aald rfl fun r3 => ?_
      refine Go_blk 1 (pc' := 25) (L' := [(0, .ref 47), (1, .ref p1), (2, .int p2), (3, .int p3), (4, .int s1.1), (5, .int s1.2)]) (S' := [.int (0 : Int32), .ref r3]) (h' := (hh X g I)) rfl ?_
      refine Go_iald rfl fun v4 => ?_
      refine Go_blk 1 (pc' := 27) (L' := [(0, .ref 47), (1, .ref p1), (2, .int p2), (3, .int p3), (4, .int s1.1), (5, .int s1.2)]) (S' := [.int p2, .int v4]) (h' := (hh X g I)) rfl ?_
      refine Go_seq (pcj := 65) (fun (b5 : Int32) => [(0, .ref 47), (1, .ref p1), (2, .int p2), (3, .int p3), (4, .int b5), (5, .int s1.2)]) (fun (b5 : Int32) => []) (fun (b5 : Int32) => (hh X g I)) (fun b5 => ?_) ?_
      ·
        refine Go_blk 2 (pc' := 6) (L' := [(5, .int (s1.2 + (1 : Int32))), (0, .ref 47), (1, .ref p1), (2, .int p2), (3, .int p3), (4, .int b5)]) (S' := []) (h' := (hh X g I)) rfl ?_
        exact Go_jmp [(0, .ref 47), (1, .ref p1), (2, .int p2), (3, .int p3), (4, .int b5), (5, .int (s1.2 + (1 : Int32)))] rfl ⟨rfl, rfl, rfl, rfl, rfl, rfl, trivial⟩ (fun _ h => h)
      ·
        refine Go_cmpn rfl rfl rfl ?_ ?_
        ·
          refine Go_blk 4 (pc' := 35) (L' := [(0, .ref 47), (1, .ref p1), (2, .int p2), (3, .int p3), (4, .int s1.1), (5, .int s1.2)]) (S' := [.int ((0 : Int32) + s1.2), .ref p1]) (h' := (hh X g I)) rfl ?_
          refine Go_iald rfl fun v6 => ?_
          refine Go_blk 1 (pc' := 37) (L' := [(0, .ref 47), (1, .ref p1), (2, .int p2), (3, .int p3), (4, .int s1.1), (5, .int s1.2)]) (S' := [.int p3, .int v6]) (h' := (hh X g I)) rfl ?_
          refine Go_cmp rfl rfl rfl ?_ ?_
          ·
            exact Go_jmp [(0, .ref 47), (1, .ref p1), (2, .int p2), (3, .int p3), (4, .int s1.1), (5, .int s1.2)] rfl ⟨rfl, rfl, rfl, rfl, rfl, rfl, trivial⟩ (fun _ h => h)
          ·
            refine Go_blk 2 (pc' := 43) (L' := [(0, .ref 47), (1, .ref p1), (2, .int p2), (3, .int p3), (4, .int s1.1), (5, .int s1.2)]) (S' := [.int (-1 : Int32), .int s1.1]) (h' := (hh X g I)) rfl ?_
            refine Go_cmp rfl rfl rfl ?_ ?_
            ·
              refine Go_blk 2 (pc' := 65) (L' := [(4, .int s1.2), (0, .ref 47), (1, .ref p1), (2, .int p2), (3, .int p3), (5, .int s1.2)]) (S' := []) (h' := (hh X g I)) rfl ?_
              exact Go_jmp [(0, .ref 47), (1, .ref p1), (2, .int p2), (3, .int p3), (4, .int s1.2), (5, .int s1.2)] rfl ⟨rfl, rfl, rfl, rfl, rfl, rfl, trivial⟩ (fun _ h => h)
            ·
              refine Go_blk 4 (pc' := 51) (L' := [(0, .ref 47), (1, .ref p1), (2, .int p2), (3, .int p3), (4, .int s1.1), (5, .int s1.2)]) (S' := [.int ((0 : Int32) + s1.2), .ref p1]) (h' := (hh X g I)) rfl ?_
              refine Go_iald rfl fun v7 => ?_
              refine Go_blk 4 (pc' := 57) (L' := [(0, .ref 47), (1, .ref p1), (2, .int p2), (3, .int p3), (4, .int s1.1), (5, .int s1.2)]) (S' := [.int ((0 : Int32) + s1.1), .ref p1, .int v7]) (h' := (hh X g I)) rfl ?_
              refine Go_iald rfl fun v8 => ?_
              refine Go_cmpn rfl rfl (ab_cge _ _) ?_ ?_
              ·
                refine Go_blk 2 (pc' := 65) (L' := [(4, .int s1.2), (0, .ref 47), (1, .ref p1), (2, .int p2), (3, .int p3), (5, .int s1.2)]) (S' := []) (h' := (hh X g I)) rfl ?_
                exact Go_jmp [(0, .ref 47), (1, .ref p1), (2, .int p2), (3, .int p3), (4, .int s1.2), (5, .int s1.2)] rfl ⟨rfl, rfl, rfl, rfl, rfl, rfl, trivial⟩ (fun _ h => h)
              ·
                exact Go_jmp [(0, .ref 47), (1, .ref p1), (2, .int p2), (3, .int p3), (4, .int s1.1), (5, .int s1.2)] rfl ⟨rfl, rfl, rfl, rfl, rfl, rfl, trivial⟩ (fun _ h => h)
        ·
          exact Go_jmp [(0, .ref 47), (1, .ref p1), (2, .int p2), (3, .int p3), (4, .int s1.1), (5, .int s1.2)] rfl ⟨rfl, rfl, rfl, rfl, rfl, rfl, trivial⟩ (fun _ h => h)
    ·
      exact Go_jmp [(4, .int s1.1)] rfl ⟨rfl, trivial⟩ (fun _ h => h)
set_option maxRecDepth 1000000 in
set_option maxHeartbeats 4000000 in
theorem g_m_cuts307 (p1 : Nat) (p2 : Int32) {X : XX} {g : GG} {I : MJ} {d : Nat} (hd : 1 ≤ d) : Go d 307 0 (lv_args 0 [.ref 47, .ref p1, .int p2]) [] (hh X g I) (f_m_cuts307 p1 p2 I) (pW X g) := by
  obtain ⟨d, rfl⟩ : ∃ k, d = k + 1 := ⟨d - 1, by omega⟩
  unfold f_m_cuts307
  refine Go_blk 3 (pc' := 5) (L' := [(0, .ref 47), (1, .ref p1), (2, .int p2)]) (S' := [.int p2, .ref 135]) (h' := (hh X g I)) rfl ?_
  refine Go_bald rfl fun v1 => ?_
  refine Go_cmzn rfl rfl rfl ?_ ?_
  ·
    refine Go_blk 1 (pc' := 10) (L' := [(0, .ref 47), (1, .ref p1), (2, .int p2)]) (S' := [.int (0 : Int32)]) (h' := (hh X g I)) rfl ?_
    exact Go_ret (fun _ h => h) rfl
  ·
    refine Go_blk 3 (pc' := 16) (L' := [(0, .ref 47), (1, .ref p1), (2, .int p2)]) (S' := [.ref 599, .ref p1]) (h' := (hh X g I)) rfl ?_
    refine Go_cV (y' := 302) (As := [.ref p1, .ref 599]) (r := []) rfl (g_m_copies302 p1 599 (by omega)) fun I2 => ?_
    refine Go_blk 2 (pc' := 21) (L' := [(3, .int (0 : Int32)), (0, .ref 47), (1, .ref p1), (2, .int p2)]) (S' := []) (h' := (hh X g I2)) rfl ?_
    refine Go_lcs [(0, .ref 47), (2, .int p2), (3, .int (0 : Int32))] rfl ⟨rfl, rfl, rfl, trivial⟩ ?_
    refine Go_wh (fun (s3 : Int32 × MJ) => [(0, .ref 47), (2, .int p2), (3, .int s3.1)]) (fun _ => []) (fun (s3 : Int32 × MJ) => (hh X g s3.2)) (fun s3 => ?_) ((0 : Int32), I2)
    refine Go_blk 2 (pc' := 24) (L' := [(0, .ref 47), (2, .int p2), (3, .int s3.1)]) (S' := [.int (12 : Int32), .int s3.1]) (h' := (hh X g s3.2)) rfl ?_
    refine Go_cmpn rfl rfl (ab_cge _ _) ?_ ?_
    ·
      refine Go_blk 3 (pc' := 32) (L' := [(0, .ref 47), (2, .int p2), (3, .int s3.1)]) (S' := [.int p2, .ref 128]) (h' := (hh X g s3.2)) rfl ?_
      refine Go_aald rfl fun r4 => ?_
      refine Go_blk 2 (pc' := 35) (L' := [(0, .ref 47), (2, .int p2), (3, .int s3.1)]) (S' := [.int s3.1, .int (0 : Int32), .ref r4]) (h' := (hh X g s3.2)) rfl ?_
      refine Go_cR (y' := 308) (As := [.ref r4, .int (0 : Int32), .int s3.1]) (r := []) rfl (g_m_runAt308 r4 (0 : Int32) s3.1 (by omega)) fun v5 => ?_
      refine Go_blk 7 (pc' := 50) (L' := [(4, .int v5), (0, .ref 47), (2, .int p2), (3, .int s3.1)]) (S' := [.int p2, .ref 128, .ref 599, .ref 47]) (h' := (hh X g s3.2)) rfl ?_
      refine Go_aald rfl fun r6 => ?_
      refine Go_blk 1 (pc' := 52) (L' := [(4, .int v5), (0, .ref 47), (2, .int p2), (3, .int s3.1)]) (S' := [.int s3.1, .ref r6, .ref 599, .ref 47]) (h' := (hh X g s3.2)) rfl ?_
      refine Go_iald rfl fun v7 => ?_
      refine Go_blk 1 (pc' := 55) (L' := [(4, .int v5), (0, .ref 47), (2, .int p2), (3, .int s3.1)]) (S' := [.int v5, .int v7, .ref 599, .ref 47]) (h' := (hh X g s3.2)) rfl ?_
      refine Go_cR (y' := 309) (As := [.ref 47, .ref 599, .int v7, .int v5]) (r := []) rfl (g_m_boltFor309 599 v7 v5 (by omega)) fun v8 => ?_
      refine Go_blk 3 (pc' := 63) (L' := [(5, .int v8), (4, .int v5), (0, .ref 47), (2, .int p2), (3, .int s3.1)]) (S' := [.int (-1 : Int32), .int v8]) (h' := (hh X g s3.2)) rfl ?_
      refine Go_cmpn rfl rfl rfl ?_ ?_
      ·
        refine Go_inrS ?_
        refine Go_blk 1 (pc' := 67) (L' := [(5, .int v8), (4, .int v5), (0, .ref 47), (2, .int p2), (3, .int s3.1)]) (S' := [.int (0 : Int32)]) (h' := (hh X g s3.2)) rfl ?_
        exact Go_ret (fun _ h => h) rfl
      ·
        refine Go_blk 6 (pc' := 77) (L' := [(5, .int v8), (4, .int v5), (0, .ref 47), (2, .int p2), (3, .int s3.1)]) (S' := [.int ((0 : Int32) + v8), .ref 599, .int ((0 : Int32) + v8), .ref 599]) (h' := (hh X g s3.2)) rfl ?_
        refine Go_iald rfl fun v9 => ?_
        refine Go_blk 2 (pc' := 81) (L' := [(5, .int v8), (4, .int v5), (0, .ref 47), (2, .int p2), (3, .int s3.1)]) (S' := [.int (v9 - v5), .int ((0 : Int32) + v8), .ref 599]) (h' := (hh X g s3.2)) rfl ?_
        refine Go_iast rfl fun I10 => ?_
        refine Go_blk 4 (pc' := 88) (L' := [(5, .int v8), (4, .int v5), (0, .ref 47), (2, .int p2), (3, .int s3.1)]) (S' := [.int p2, .ref 128, .int s3.1]) (h' := (hh X g I10)) rfl ?_
        refine Go_aald rfl fun r11 => ?_
        refine Go_blk 2 (pc' := 91) (L' := [(5, .int v8), (4, .int v5), (0, .ref 47), (2, .int p2), (3, .int s3.1)]) (S' := [.int s3.1, .int (0 : Int32), .ref r11, .int s3.1]) (h' := (hh X g I10)) rfl ?_
        refine Go_cR (y' := 308) (As := [.ref r11, .int (0 : Int32), .int s3.1]) (r := [.int s3.1]) rfl (g_m_runAt308 r11 (0 : Int32) s3.1 (by omega)) fun v12 => ?_
        refine Go_blk 3 (pc' := 21) (L' := [(3, .int (s3.1 + v12)), (5, .int v8), (4, .int v5), (0, .ref 47), (2, .int p2)]) (S' := []) (h' := (hh X g I10)) rfl ?_
        exact Go_jmp [(0, .ref 47), (2, .int p2), (3, .int (s3.1 + v12))] rfl ⟨rfl, rfl, rfl, trivial⟩ (fun _ h => h)
    ·
      refine Go_inrS ?_
      refine Go_blk 1 (pc' := 100) (L' := [(0, .ref 47), (2, .int p2), (3, .int s3.1)]) (S' := [.int (1 : Int32)]) (h' := (hh X g s3.2)) rfl ?_
      exact Go_ret (fun _ h => h) rfl
set_option maxRecDepth 1000000 in
set_option maxHeartbeats 4000000 in
theorem g_m_canCut306 (p1 : Nat) (p2 : Int32) (p3 : Int32) {X : XX} {g : GG} {I : MJ} {d : Nat} (hd : 2 ≤ d) : Go d 306 0 (lv_args 0 [.ref 47, .ref p1, .int p2, .int p3]) [] (hh X g I) (f_m_canCut306 p1 p2 p3 I) (pW X g) := by
  obtain ⟨d, rfl⟩ : ∃ k, d = k + 1 := ⟨d - 1, by omega⟩
  unfold f_m_canCut306
  refine Go_blk 2 (pc' := 2) (L' := [(0, .ref 47), (1, .ref p1), (2, .int p2), (3, .int p3)]) (S' := [.int p2, .ref p1]) (h' := (hh X g I)) rfl ?_
  refine Go_cR (y' := 305) (As := [.ref p1, .int p2]) (r := []) rfl (g_m_hasSuit305 p1 p2 (by omega)) fun v1 => ?_
  refine Go_seq (pcj := 22) (fun (b2 : Int32 × MJ) => []) (fun (b2 : Int32 × MJ) => [.int b2.1]) (fun (b2 : Int32 × MJ) => (hh X g b2.2)) (fun b2 => ?_) ?_
  ·
    exact Go_ret (fun _ h => h) rfl
  ·
    refine Go_cmzn rfl rfl rfl ?_ ?_
    ·
      refine Go_blk 3 (pc' := 11) (L' := [(0, .ref 47), (1, .ref p1), (2, .int p2), (3, .int p3)]) (S' := [.int p3, .ref p1, .ref 47]) (h' := (hh X g I)) rfl ?_
      refine Go_cW (y' := 307) (As := [.ref 47, .ref p1, .int p3]) (r := []) rfl (g_m_cuts307 p1 p3 (by omega)) fun w3 => ?_
      refine Go_cmz rfl rfl rfl ?_ ?_
      ·
        refine Go_blk 1 (pc' := 22) (L' := [(0, .ref 47), (1, .ref p1), (2, .int p2), (3, .int p3)]) (S' := [.int (0 : Int32)]) (h' := (hh X g w3.2)) rfl ?_
        exact Go_jmp [] rfl trivial (fun _ h => h)
      ·
        refine Go_blk 2 (pc' := 22) (L' := [(0, .ref 47), (1, .ref p1), (2, .int p2), (3, .int p3)]) (S' := [.int (1 : Int32)]) (h' := (hh X g w3.2)) rfl ?_
        exact Go_jmp [] rfl trivial (fun _ h => h)
    ·
      refine Go_blk 1 (pc' := 22) (L' := [(0, .ref 47), (1, .ref p1), (2, .int p2), (3, .int p3)]) (S' := [.int (0 : Int32)]) (h' := (hh X g I)) rfl ?_
      exact Go_jmp [] rfl trivial (fun _ h => h)
set_option maxRecDepth 1000000 in
set_option maxHeartbeats 4000000 in
theorem g_m_suitOf310 (p0 : Int32) {X : XX} {g : GG} {I : MJ} {d : Nat} (hd : 0 ≤ d) : Go d 310 0 (lv_args 0 [.int p0]) [] (hh X g I) (f_m_suitOf310 p0 I) (pR X g I) := by
  unfold f_m_suitOf310
  refine Go_blk 5 (pc' := 7) (L' := [(0, .int p0)]) (S' := [.int ((10 : Int32) + ((12 : Int32) * p0))]) (h' := (hh X g I)) rfl ?_
  exact Go_ret (fun _ h => h) rfl
set_option maxRecDepth 1000000 in
set_option maxHeartbeats 4000000 in
theorem g_m_has313 (p0 : Int32) (p1 : Int32) {X : XX} {g : GG} {I : MJ} {d : Nat} (hd : 0 ≤ d) : Go d 313 0 (lv_args 0 [.int p0, .int p1]) [] (hh X g I) (f_m_has313 p0 p1 I) (pR X g I) := by
  unfold f_m_has313
  refine Go_blk 6 (pc' := 6) (L' := [(0, .int p0), (1, .int p1)]) (S' := [.int (1 : Int32), .int ((p0 >>> (p1 &&& 31)) &&& (1 : Int32))]) (h' := (hh X g I)) rfl ?_
  refine Go_seq (pcj := 14) (fun (b1 : Int32) => []) (fun (b1 : Int32) => [.int b1]) (fun (b1 : Int32) => (hh X g I)) (fun b1 => ?_) ?_
  ·
    exact Go_ret (fun _ h => h) rfl
  ·
    refine Go_cmpn rfl rfl rfl ?_ ?_
    ·
      refine Go_blk 2 (pc' := 14) (L' := [(0, .int p0), (1, .int p1)]) (S' := [.int (1 : Int32)]) (h' := (hh X g I)) rfl ?_
      exact Go_jmp [] rfl trivial (fun _ h => h)
    ·
      refine Go_blk 1 (pc' := 14) (L' := [(0, .int p0), (1, .int p1)]) (S' := [.int (0 : Int32)]) (h' := (hh X g I)) rfl ?_
      exact Go_jmp [] rfl trivial (fun _ h => h)
set_option maxRecDepth 1000000 in
set_option maxHeartbeats 4000000 in
theorem g_m_stateOf312 (p1 : Nat) (p2 : Int32) {X : XX} {g : GG} {I : MJ} {d : Nat} (hd : 1 ≤ d) : Go d 312 0 (lv_args 0 [.ref 47, .ref p1, .int p2]) [] (hh X g I) (f_m_stateOf312 p1 p2 I) (pR X g I) := by
  obtain ⟨d, rfl⟩ : ∃ k, d = k + 1 := ⟨d - 1, by omega⟩
  unfold f_m_stateOf312
  refine Go_blk 2 (pc' := 3) (L' := [(0, .ref 47), (1, .ref p1), (2, .int p2)]) (S' := [.int (88 : Int32), .ref p1]) (h' := (hh X g I)) rfl ?_
  refine Go_iald rfl fun v1 => ?_
  refine Go_blk 1 (pc' := 5) (L' := [(0, .ref 47), (1, .ref p1), (2, .int p2)]) (S' := [.int p2, .int v1]) (h' := (hh X g I)) rfl ?_
  refine Go_cR (y' := 313) (As := [.int v1, .int p2]) (r := []) rfl (g_m_has313 v1 p2 (by omega)) fun v2 => ?_
  refine Go_seq (pcj := 35) (fun (b3 : Int32) => []) (fun (b3 : Int32) => [.int b3]) (fun (b3 : Int32) => (hh X g I)) (fun b3 => ?_) ?_
  ·
    exact Go_ret (fun _ h => h) rfl
  ·
    refine Go_cmz rfl rfl rfl ?_ ?_
    ·
      refine Go_blk 2 (pc' := 18) (L' := [(0, .ref 47), (1, .ref p1), (2, .int p2)]) (S' := [.int (89 : Int32), .ref p1]) (h' := (hh X g I)) rfl ?_
      refine Go_iald rfl fun v4 => ?_
      refine Go_blk 3 (pc' := 24) (L' := [(0, .ref 47), (1, .ref p1), (2, .int p2)]) (S' := [.int p2, .ref 119, .int v4]) (h' := (hh X g I)) rfl ?_
      refine Go_aald rfl fun r5 => ?_
      refine Go_blk 1 (pc' := 26) (L' := [(0, .ref 47), (1, .ref p1), (2, .int p2)]) (S' := [.int (2 : Int32), .ref r5, .int v4]) (h' := (hh X g I)) rfl ?_
      refine Go_iald rfl fun v6 => ?_
      refine Go_cmpn rfl rfl (ab_cle _ _) ?_ ?_
      ·
        refine Go_blk 2 (pc' := 35) (L' := [(0, .ref 47), (1, .ref p1), (2, .int p2)]) (S' := [.int (2 : Int32)]) (h' := (hh X g I)) rfl ?_
        exact Go_jmp [] rfl trivial (fun _ h => h)
      ·
        refine Go_blk 1 (pc' := 35) (L' := [(0, .ref 47), (1, .ref p1), (2, .int p2)]) (S' := [.int (0 : Int32)]) (h' := (hh X g I)) rfl ?_
        exact Go_jmp [] rfl trivial (fun _ h => h)
    ·
      refine Go_blk 2 (pc' := 35) (L' := [(0, .ref 47), (1, .ref p1), (2, .int p2)]) (S' := [.int (1 : Int32)]) (h' := (hh X g I)) rfl ?_
      exact Go_jmp [] rfl trivial (fun _ h => h)
