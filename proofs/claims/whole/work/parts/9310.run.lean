/-! the machine runs them (written by wip/whole/dec.py) -/
set_option maxRecDepth 1000000 in
set_option maxHeartbeats 4000000 in
theorem g_fit_findBest184 (p1 : Int32) {X : XX} {g : GG} {I : MJ} {d : Nat} (hd : 4 ≤ d) : Go d 184 0 (lv_args 0 [.ref 39, .int p1]) [] (hh X g I) (f_fit_findBest184 p1 I) (pW X g) := by
  obtain ⟨d, rfl⟩ : ∃ k, d = k + 1 := ⟨d - 1, by omega⟩
  unfold f_fit_findBest184
  refine Go_blk 2 (pc' := 3) (L' := [(2, .int (11 : Int32)), (0, .ref 39), (1, .int p1)]) (S' := []) (h' := (hh X g I)) rfl ?_
  refine Go_lcs [(0, .ref 39), (1, .int p1), (2, .int (11 : Int32))] rfl ⟨rfl, rfl, rfl, trivial⟩ ?_
  refine Go_seq (pcj := 78) (fun (b2 : MJ) => [(0, .ref 39)]) (fun (b2 : MJ) => []) (fun (b2 : MJ) => (hh X g b2)) (fun b2 => ?_) ?_
  ·
    refine Go_blk 4 (pc' := 82) (L' := [(3, .int (1 : Int32)), (2, .int (0 : Int32)), (0, .ref 39)]) (S' := []) (h' := (hh X g b2)) rfl ?_
    refine Go_lcs [(0, .ref 39), (2, .int (0 : Int32)), (3, .int (1 : Int32))] rfl ⟨rfl, rfl, rfl, trivial⟩ ?_
    refine Go_seq (pcj := 129) (fun (b4 : Int32) => [(0, .ref 39), (2, .int b4)]) (fun (b4 : Int32) => []) (fun (b4 : Int32) => (hh X g b2)) (fun b4 => ?_) ?_
    ·
      refine Go_blk 2 (pc' := 131) (L' := [(0, .ref 39), (2, .int b4)]) (S' := [.int b4, .ref 39]) (h' := (hh X g b2)) rfl ?_
      refine Go_cV (y' := 190) (As := [.ref 39, .int b4]) (r := []) rfl (g_fit_follow190 b4 (by omega)) fun I5 => ?_
      refine Go_blk 5 (pc' := 141) (L' := [(0, .ref 39), (2, .int b4)]) (S' := [.int b4, .int (0 : Int32), .int (0 : Int32), .ref 41]) (h' := (hh X g I5)) rfl ?_
      refine Go_cR (y' := 189) (As := [.int (0 : Int32), .int (0 : Int32), .int b4]) (r := [.ref 41]) rfl (g_fit_cell189 (0 : Int32) (0 : Int32) b4 (by omega)) fun v6 => ?_
      refine Go_cR (y' := 16) (As := [.ref 41, .int v6]) (r := []) rfl (g_x_at16 41 v6 (by omega)) fun v7 => ?_
      exact Go_ret (fun _ h => h) rfl
    ·
      refine Go_wh (fun (s3 : Int32 × Int32) => [(0, .ref 39), (2, .int s3.1), (3, .int s3.2)]) (fun _ => []) (fun (s3 : Int32 × Int32) => (hh X g b2)) (fun s3 => ?_) ((0 : Int32), (1 : Int32))
      refine Go_blk 2 (pc' := 85) (L' := [(0, .ref 39), (2, .int s3.1), (3, .int s3.2)]) (S' := [.int (6 : Int32), .int s3.2]) (h' := (hh X g b2)) rfl ?_
      refine Go_cmpn rfl rfl (ab_cge _ _) ?_ ?_
      ·
        refine Go_blk 5 (pc' := 95) (L' := [(0, .ref 39), (2, .int s3.1), (3, .int s3.2)]) (S' := [.int s3.2, .int (0 : Int32), .int (0 : Int32), .ref 41]) (h' := (hh X g b2)) rfl ?_
        refine Go_cR (y' := 189) (As := [.int (0 : Int32), .int (0 : Int32), .int s3.2]) (r := [.ref 41]) rfl (g_fit_cell189 (0 : Int32) (0 : Int32) s3.2 (by omega)) fun v8 => ?_
        refine Go_cR (y' := 16) (As := [.ref 41, .int v8]) (r := []) rfl (g_x_at16 41 v8 (by omega)) fun v9 => ?_
        refine Go_blk 5 (pc' := 108) (L' := [(0, .ref 39), (2, .int s3.1), (3, .int s3.2)]) (S' := [.int s3.1, .int (0 : Int32), .int (0 : Int32), .ref 41, .int v9]) (h' := (hh X g b2)) rfl ?_
        refine Go_cR (y' := 189) (As := [.int (0 : Int32), .int (0 : Int32), .int s3.1]) (r := [.ref 41, .int v9]) rfl (g_fit_cell189 (0 : Int32) (0 : Int32) s3.1 (by omega)) fun v10 => ?_
        refine Go_cR (y' := 16) (As := [.ref 41, .int v10]) (r := [.int v9]) rfl (g_x_at16 41 v10 (by omega)) fun v11 => ?_
        refine Go_seq (pcj := 122) (fun (b12 : Int32) => [(0, .ref 39), (3, .int s3.2)]) (fun (b12 : Int32) => [.int b12]) (fun (b12 : Int32) => (hh X g b2)) (fun b12 => ?_) ?_
        ·
          refine Go_blk 3 (pc' := 82) (L' := [(3, .int (s3.2 + (1 : Int32))), (2, .int b12), (0, .ref 39)]) (S' := []) (h' := (hh X g b2)) rfl ?_
          exact Go_jmp [(0, .ref 39), (2, .int b12), (3, .int (s3.2 + (1 : Int32)))] rfl ⟨rfl, rfl, rfl, trivial⟩ (fun _ h => h)
        ·
          refine Go_cmpn rfl rfl (ab_cle _ _) ?_ ?_
          ·
            refine Go_blk 2 (pc' := 122) (L' := [(0, .ref 39), (2, .int s3.1), (3, .int s3.2)]) (S' := [.int s3.2]) (h' := (hh X g b2)) rfl ?_
            exact Go_jmp [(0, .ref 39), (3, .int s3.2)] rfl ⟨rfl, rfl, trivial⟩ (fun _ h => h)
          ·
            refine Go_blk 1 (pc' := 122) (L' := [(0, .ref 39), (2, .int s3.1), (3, .int s3.2)]) (S' := [.int s3.1]) (h' := (hh X g b2)) rfl ?_
            exact Go_jmp [(0, .ref 39), (3, .int s3.2)] rfl ⟨rfl, rfl, trivial⟩ (fun _ h => h)
      ·
        exact Go_jmp [(0, .ref 39), (2, .int s3.1)] rfl ⟨rfl, rfl, trivial⟩ (fun _ h => h)
  ·
    refine Go_wh (fun (s1 : Int32 × MJ) => [(0, .ref 39), (1, .int p1), (2, .int s1.1)]) (fun _ => []) (fun (s1 : Int32 × MJ) => (hh X g s1.2)) (fun s1 => ?_) ((11 : Int32), I)
    refine Go_blk 1 (pc' := 4) (L' := [(0, .ref 39), (1, .int p1), (2, .int s1.1)]) (S' := [.int s1.1]) (h' := (hh X g s1.2)) rfl ?_
    refine Go_cmz rfl rfl rfl ?_ ?_
    ·
      exact Go_jmp [(0, .ref 39)] rfl ⟨rfl, trivial⟩ (fun _ h => h)
    ·
      refine Go_blk 2 (pc' := 9) (L' := [(3, .int (0 : Int32)), (0, .ref 39), (1, .int p1), (2, .int s1.1)]) (S' := []) (h' := (hh X g s1.2)) rfl ?_
      refine Go_lcs [(0, .ref 39), (1, .int p1), (2, .int s1.1), (3, .int (0 : Int32))] rfl ⟨rfl, rfl, rfl, rfl, trivial⟩ ?_
      refine Go_seq (pcj := 72) (fun (b14 : MJ) => [(0, .ref 39), (1, .int p1), (2, .int s1.1)]) (fun (b14 : MJ) => []) (fun (b14 : MJ) => (hh X g b14)) (fun b14 => ?_) ?_
      ·
        refine Go_blk 2 (pc' := 3) (L' := [(2, .int (s1.1 + (-1 : Int32))), (0, .ref 39), (1, .int p1)]) (S' := []) (h' := (hh X g b14)) rfl ?_
        exact Go_jmp [(0, .ref 39), (1, .int p1), (2, .int (s1.1 + (-1 : Int32)))] rfl ⟨rfl, rfl, rfl, trivial⟩ (fun _ h => h)
      ·
        refine Go_wh (fun (s13 : Int32 × MJ) => [(0, .ref 39), (1, .int p1), (2, .int s1.1), (3, .int s13.1)]) (fun _ => []) (fun (s13 : Int32 × MJ) => (hh X g s13.2)) (fun s13 => ?_) ((0 : Int32), s1.2)
        refine Go_blk 2 (pc' := 11) (L' := [(0, .ref 39), (1, .int p1), (2, .int s1.1), (3, .int s13.1)]) (S' := [.int s1.1, .int s13.1]) (h' := (hh X g s13.2)) rfl ?_
        refine Go_cmp rfl rfl rfl ?_ ?_
        ·
          exact Go_jmp [(0, .ref 39), (1, .int p1), (2, .int s1.1)] rfl ⟨rfl, rfl, rfl, trivial⟩ (fun _ h => h)
        ·
          refine Go_blk 2 (pc' := 17) (L' := [(4, .int (0 : Int32)), (0, .ref 39), (1, .int p1), (2, .int s1.1), (3, .int s13.1)]) (S' := []) (h' := (hh X g s13.2)) rfl ?_
          refine Go_lcs [(0, .ref 39), (1, .int p1), (2, .int s1.1), (3, .int s13.1), (4, .int (0 : Int32))] rfl ⟨rfl, rfl, rfl, rfl, rfl, trivial⟩ ?_
          refine Go_seq (pcj := 66) (fun (b16 : MJ) => [(0, .ref 39), (1, .int p1), (2, .int s1.1), (3, .int s13.1)]) (fun (b16 : MJ) => []) (fun (b16 : MJ) => (hh X g b16)) (fun b16 => ?_) ?_
          ·
            refine Go_blk 2 (pc' := 9) (L' := [(3, .int (s13.1 + (1 : Int32))), (0, .ref 39), (1, .int p1), (2, .int s1.1)]) (S' := []) (h' := (hh X g b16)) rfl ?_
            exact Go_jmp [(0, .ref 39), (1, .int p1), (2, .int s1.1), (3, .int (s13.1 + (1 : Int32)))] rfl ⟨rfl, rfl, rfl, rfl, trivial⟩ (fun _ h => h)
          ·
            refine Go_wh (fun (s15 : Int32 × MJ) => [(0, .ref 39), (1, .int p1), (2, .int s1.1), (3, .int s13.1), (4, .int s15.1)]) (fun _ => []) (fun (s15 : Int32 × MJ) => (hh X g s15.2)) (fun s15 => ?_) ((0 : Int32), s13.2)
            refine Go_blk 2 (pc' := 21) (L' := [(0, .ref 39), (1, .int p1), (2, .int s1.1), (3, .int s13.1), (4, .int s15.1)]) (S' := [.int (6 : Int32), .int s15.1]) (h' := (hh X g s15.2)) rfl ?_
            refine Go_cmpn rfl rfl (ab_cge _ _) ?_ ?_
            ·
              refine Go_blk 5 (pc' := 30) (L' := [(0, .ref 39), (1, .int p1), (2, .int s1.1), (3, .int s13.1), (4, .int s15.1)]) (S' := [.int s15.1, .int s13.1, .int s1.1, .int p1, .ref 39]) (h' := (hh X g s15.2)) rfl ?_
              refine Go_cR (y' := 185) (As := [.ref 39, .int p1, .int s1.1, .int s13.1, .int s15.1]) (r := []) rfl (g_fit_gain185 p1 s1.1 s13.1 s15.1 (by omega)) fun v17 => ?_
              refine Go_blk 4 (pc' := 38) (L' := [(0, .ref 39), (1, .int p1), (2, .int s1.1), (3, .int s13.1), (4, .int s15.1)]) (S' := [.int s15.1, .int s13.1, .int s1.1, .ref 39, .int v17]) (h' := (hh X g s15.2)) rfl ?_
              refine Go_cR (y' := 186) (As := [.ref 39, .int s1.1, .int s13.1, .int s15.1]) (r := [.int v17]) rfl (g_fit_onward186 s1.1 s13.1 s15.1 (by omega)) fun v18 => ?_
              refine Go_blk 7 (pc' := 52) (L' := [(5, .int (v17 + v18)), (0, .ref 39), (1, .int p1), (2, .int s1.1), (3, .int s13.1), (4, .int s15.1)]) (S' := [.int s15.1, .int s13.1, .int s1.1, .ref 41]) (h' := (hh X g s15.2)) rfl ?_
              refine Go_cR (y' := 189) (As := [.int s1.1, .int s13.1, .int s15.1]) (r := [.ref 41]) rfl (g_fit_cell189 s1.1 s13.1 s15.1 (by omega)) fun v19 => ?_
              refine Go_blk 1 (pc' := 57) (L' := [(5, .int (v17 + v18)), (0, .ref 39), (1, .int p1), (2, .int s1.1), (3, .int s13.1), (4, .int s15.1)]) (S' := [.int (v17 + v18), .int v19, .ref 41]) (h' := (hh X g s15.2)) rfl ?_
              refine Go_cV (y' := 15) (As := [.ref 41, .int v19, .int (v17 + v18)]) (r := []) rfl (g_x_put15 41 v19 (v17 + v18) (by omega)) fun I20 => ?_
              refine Go_blk 2 (pc' := 17) (L' := [(4, .int (s15.1 + (1 : Int32))), (5, .int (v17 + v18)), (0, .ref 39), (1, .int p1), (2, .int s1.1), (3, .int s13.1)]) (S' := []) (h' := (hh X g I20)) rfl ?_
              exact Go_jmp [(0, .ref 39), (1, .int p1), (2, .int s1.1), (3, .int s13.1), (4, .int (s15.1 + (1 : Int32)))] rfl ⟨rfl, rfl, rfl, rfl, rfl, trivial⟩ (fun _ h => h)
            ·
              exact Go_jmp [(0, .ref 39), (1, .int p1), (2, .int s1.1), (3, .int s13.1)] rfl ⟨rfl, rfl, rfl, rfl, trivial⟩ (fun _ h => h)
set_option maxRecDepth 1000000 in
set_option maxHeartbeats 4000000 in
theorem g_x_best183 (p1 : Int32) {X : XX} {g : GG} {I : MJ} {d : Nat} (hd : 5 ≤ d) : Go d 183 0 (lv_args 0 [.ref 0, .int p1]) [] (hh X g I) (f_x_best183 p1 I) (pT vI X g) := by
  obtain ⟨d, rfl⟩ : ∃ k, d = k + 1 := ⟨d - 1, by omega⟩
  unfold f_x_best183
  refine Go_blk 5 (pc' := 9) (L' := [(0, .ref 0), (1, .int p1)]) (S' := [.int (I 3 6), .int p1, .ref 0]) (h' := (hh X g I)) rfl ?_
  refine Go_cT (y' := 69) (As := [.ref 0, .int p1, .int (I 3 6)]) (r := []) rfl rfl (g_x_needElement69 p1 (I 3 6) (by omega)) fun v1 I2 => ?_
  refine Go_blk 3 (pc' := 17) (L' := [(0, .ref 0), (1, .int p1)]) (S' := [.int p1, .ref 39]) (h' := (hh X g I2)) rfl ?_
  refine Go_cW (y' := 184) (As := [.ref 39, .int p1]) (r := []) rfl (g_fit_findBest184 p1 (by omega)) fun w3 => ?_
  exact Go_ret (fun _ h => h) rfl
set_option maxRecDepth 1000000 in
set_option maxHeartbeats 4000000 in
theorem g_l_best182 (p1 : Int32) {X : XX} {g : GG} {I : MJ} {d : Nat} (hd : 6 ≤ d) : Go d 182 0 (lv_args 0 [.ref 0, .int p1, .ref 698]) [] (hh X g I) (f_l_best182 p1 I g) (pG X) := by
  obtain ⟨d, rfl⟩ : ∃ k, d = k + 1 := ⟨d - 1, by omega⟩
  unfold f_l_best182
  refine Go_blk 4 (pc' := 4) (L' := [(0, .ref 0), (1, .int p1), (2, .ref 698)]) (S' := [.int p1, .ref 0, .int (0 : Int32), .ref 698]) (h' := (hh X g I)) rfl ?_
  refine Go_try (y' := 183) (As := [.ref 0, .int p1]) (r := [.int (0 : Int32), .ref 698]) rfl (g_x_best183 p1 (by omega)) (fun v1 I2 => ?_) (fun E2 I2 => ?_)
  ·
    refine Go_blk 1 (pc' := 8) (L' := [(0, .ref 0), (1, .int p1), (2, .ref 698)]) (S' := [.long (v1.toInt64), .int (0 : Int32), .ref 698]) (h' := (hh X g I2)) rfl ?_
    refine Go_last rfl fun g3 => ?_
    refine Go_blk 2 (pc' := 16) (L' := [(0, .ref 0), (1, .int p1), (2, .ref 698)]) (S' := [.int (0 : Int32)]) (h' := (hh X g3 I2)) rfl ?_
    exact Go_ret (fun _ h => h) rfl
  ·
    refine GX_ite ?_ ?_
    ·
      refine GX_go rfl (t := 13) (k := 3) rfl ?_
      refine Go_blk 1 (pc' := 14) (L' := [(0, .ref 0), (1, .int p1), (2, .ref 698)]) (S' := [.int (1 : Int32)]) (h' := (hh X (thr g) I2)) rfl ?_
      exact Go_ret (fun _ h => h) rfl
    exact GX_none
set_option maxRecDepth 1000000 in
set_option maxHeartbeats 4000000 in
theorem g_m_endsIn347 (p1 : Int32) (p2 : Int32) (p3 : Int32) (p4 : Int32) {X : XX} {g : GG} {I : MJ} {d : Nat} (hd : 0 ≤ d) : Go d 347 0 (lv_args 0 [.ref 47, .int p1, .int p2, .int p3, .int p4]) [] (hh X g I) (f_m_endsIn347 p1 p2 p3 p4 I) (pR X g I) := by
  unfold f_m_endsIn347
  refine Go_blk 4 (pc' := 6) (L' := [(6, .int (0 : Int32)), (5, .int (0 : Int32)), (0, .ref 47), (1, .int p1), (2, .int p2), (3, .int p3), (4, .int p4)]) (S' := []) (h' := (hh X g I)) rfl ?_
  refine Go_lcs [(0, .ref 47), (1, .int p1), (2, .int p2), (3, .int p3), (4, .int p4), (5, .int (0 : Int32)), (6, .int (0 : Int32))] rfl ⟨rfl, rfl, rfl, rfl, rfl, rfl, rfl, trivial⟩ ?_
  refine Go_seq (pcj := 94) (fun (b2 : Int32) => [(5, .int b2)]) (fun (b2 : Int32) => []) (fun (b2 : Int32) => (hh X g I)) (fun b2 => ?_) ?_
  ·
    refine Go_blk 1 (pc' := 96) (L' := [(5, .int b2)]) (S' := [.int b2]) (h' := (hh X g I)) rfl ?_
    exact Go_ret (fun _ h => h) rfl
  ·
    refine Go_wh (fun (s1 : Int32 × Int32) => [(0, .ref 47), (1, .int p1), (2, .int p2), (3, .int p3), (4, .int p4), (5, .int s1.1), (6, .int s1.2)]) (fun _ => []) (fun (s1 : Int32 × Int32) => (hh X g I)) (fun s1 => ?_) ((0 : Int32), (0 : Int32))
    refine Go_blk 5 (pc' := 14) (L' := [(0, .ref 47), (1, .int p1), (2, .int p2), (3, .int p3), (4, .int p4), (5, .int s1.1), (6, .int s1.2)]) (S' := [.int (I 51 2), .int s1.2]) (h' := (hh X g I)) rfl ?_
    refine Go_cmpn rfl rfl (ab_cge _ _) ?_ ?_
    ·
      refine Go_blk 4 (pc' := 25) (L' := [(0, .ref 47), (1, .int p1), (2, .int p2), (3, .int p3), (4, .int p4), (5, .int s1.1), (6, .int s1.2)]) (S' := [.int s1.2, .ref 93, .int s1.1]) (h' := (hh X g I)) rfl ?_
      refine Go_aald rfl fun r3 => ?_
      refine Go_blk 1 (pc' := 27) (L' := [(0, .ref 47), (1, .int p1), (2, .int p2), (3, .int p3), (4, .int p4), (5, .int s1.1), (6, .int s1.2)]) (S' := [.int (0 : Int32), .ref r3, .int s1.1]) (h' := (hh X g I)) rfl ?_
      refine Go_iald rfl fun v4 => ?_
      refine Go_blk 1 (pc' := 29) (L' := [(0, .ref 47), (1, .int p1), (2, .int p2), (3, .int p3), (4, .int p4), (5, .int s1.1), (6, .int s1.2)]) (S' := [.int p1, .int v4, .int s1.1]) (h' := (hh X g I)) rfl ?_
      refine Go_seq (pcj := 85) (fun (b5 : Int32) => [(0, .ref 47), (1, .int p1), (2, .int p2), (3, .int p3), (4, .int p4), (6, .int s1.2)]) (fun (b5 : Int32) => [.int b5, .int s1.1]) (fun (b5 : Int32) => (hh X g I)) (fun b5 => ?_) ?_
      ·
        refine Go_blk 4 (pc' := 6) (L' := [(6, .int (s1.2 + (1 : Int32))), (5, .int (s1.1 + b5)), (0, .ref 47), (1, .int p1), (2, .int p2), (3, .int p3), (4, .int p4)]) (S' := []) (h' := (hh X g I)) rfl ?_
        exact Go_jmp [(0, .ref 47), (1, .int p1), (2, .int p2), (3, .int p3), (4, .int p4), (5, .int (s1.1 + b5)), (6, .int (s1.2 + (1 : Int32)))] rfl ⟨rfl, rfl, rfl, rfl, rfl, rfl, rfl, trivial⟩ (fun _ h => h)
      ·
        refine Go_cmpn rfl rfl rfl ?_ ?_
        ·
          refine Go_blk 3 (pc' := 38) (L' := [(0, .ref 47), (1, .int p1), (2, .int p2), (3, .int p3), (4, .int p4), (5, .int s1.1), (6, .int s1.2)]) (S' := [.int s1.2, .ref 93, .int s1.1]) (h' := (hh X g I)) rfl ?_
          refine Go_aald rfl fun r6 => ?_
          refine Go_blk 1 (pc' := 40) (L' := [(0, .ref 47), (1, .int p1), (2, .int p2), (3, .int p3), (4, .int p4), (5, .int s1.1), (6, .int s1.2)]) (S' := [.int (3 : Int32), .ref r6, .int s1.1]) (h' := (hh X g I)) rfl ?_
          refine Go_iald rfl fun v7 => ?_
          refine Go_blk 1 (pc' := 42) (L' := [(0, .ref 47), (1, .int p1), (2, .int p2), (3, .int p3), (4, .int p4), (5, .int s1.1), (6, .int s1.2)]) (S' := [.int p2, .int v7, .int s1.1]) (h' := (hh X g I)) rfl ?_
          refine Go_cmpn rfl rfl rfl ?_ ?_
          ·
            refine Go_blk 3 (pc' := 51) (L' := [(0, .ref 47), (1, .int p1), (2, .int p2), (3, .int p3), (4, .int p4), (5, .int s1.1), (6, .int s1.2)]) (S' := [.int s1.2, .ref 93, .int s1.1]) (h' := (hh X g I)) rfl ?_
            refine Go_aald rfl fun r8 => ?_
            refine Go_blk 1 (pc' := 53) (L' := [(0, .ref 47), (1, .int p1), (2, .int p2), (3, .int p3), (4, .int p4), (5, .int s1.1), (6, .int s1.2)]) (S' := [.int (2 : Int32), .ref r8, .int s1.1]) (h' := (hh X g I)) rfl ?_
            refine Go_iald rfl fun v9 => ?_
            refine Go_blk 1 (pc' := 56) (L' := [(0, .ref 47), (1, .int p1), (2, .int p2), (3, .int p3), (4, .int p4), (5, .int s1.1), (6, .int s1.2)]) (S' := [.int p4, .int v9, .int s1.1]) (h' := (hh X g I)) rfl ?_
            refine Go_cmpn rfl rfl rfl ?_ ?_
            ·
              refine Go_blk 3 (pc' := 65) (L' := [(0, .ref 47), (1, .int p1), (2, .int p2), (3, .int p3), (4, .int p4), (5, .int s1.1), (6, .int s1.2)]) (S' := [.int s1.2, .ref 93, .int s1.1]) (h' := (hh X g I)) rfl ?_
              refine Go_aald rfl fun r10 => ?_
              refine Go_blk 1 (pc' := 67) (L' := [(0, .ref 47), (1, .int p1), (2, .int p2), (3, .int p3), (4, .int p4), (5, .int s1.1), (6, .int s1.2)]) (S' := [.int (1 : Int32), .ref r10, .int s1.1]) (h' := (hh X g I)) rfl ?_
              refine Go_iald rfl fun v11 => ?_
              refine Go_blk 1 (pc' := 69) (L' := [(0, .ref 47), (1, .int p1), (2, .int p2), (3, .int p3), (4, .int p4), (5, .int s1.1), (6, .int s1.2)]) (S' := [.int p3, .int v11, .int s1.1]) (h' := (hh X g I)) rfl ?_
              refine Go_cmp rfl rfl rfl ?_ ?_
              ·
                refine Go_blk 1 (pc' := 85) (L' := [(0, .ref 47), (1, .int p1), (2, .int p2), (3, .int p3), (4, .int p4), (5, .int s1.1), (6, .int s1.2)]) (S' := [.int (0 : Int32), .int s1.1]) (h' := (hh X g I)) rfl ?_
                exact Go_jmp [(0, .ref 47), (1, .int p1), (2, .int p2), (3, .int p3), (4, .int p4), (6, .int s1.2)] rfl ⟨rfl, rfl, rfl, rfl, rfl, rfl, trivial⟩ (fun _ h => h)
              ·
                refine Go_blk 3 (pc' := 78) (L' := [(0, .ref 47), (1, .int p1), (2, .int p2), (3, .int p3), (4, .int p4), (5, .int s1.1), (6, .int s1.2)]) (S' := [.int s1.2, .ref 93, .int s1.1]) (h' := (hh X g I)) rfl ?_
                refine Go_aald rfl fun r12 => ?_
                refine Go_blk 1 (pc' := 80) (L' := [(0, .ref 47), (1, .int p1), (2, .int p2), (3, .int p3), (4, .int p4), (5, .int s1.1), (6, .int s1.2)]) (S' := [.int (4 : Int32), .ref r12, .int s1.1]) (h' := (hh X g I)) rfl ?_
                refine Go_iald rfl fun v13 => ?_
                refine Go_blk 1 (pc' := 85) (L' := [(0, .ref 47), (1, .int p1), (2, .int p2), (3, .int p3), (4, .int p4), (5, .int s1.1), (6, .int s1.2)]) (S' := [.int v13, .int s1.1]) (h' := (hh X g I)) rfl ?_
                exact Go_jmp [(0, .ref 47), (1, .int p1), (2, .int p2), (3, .int p3), (4, .int p4), (6, .int s1.2)] rfl ⟨rfl, rfl, rfl, rfl, rfl, rfl, trivial⟩ (fun _ h => h)
            ·
              refine Go_blk 1 (pc' := 85) (L' := [(0, .ref 47), (1, .int p1), (2, .int p2), (3, .int p3), (4, .int p4), (5, .int s1.1), (6, .int s1.2)]) (S' := [.int (0 : Int32), .int s1.1]) (h' := (hh X g I)) rfl ?_
              exact Go_jmp [(0, .ref 47), (1, .int p1), (2, .int p2), (3, .int p3), (4, .int p4), (6, .int s1.2)] rfl ⟨rfl, rfl, rfl, rfl, rfl, rfl, trivial⟩ (fun _ h => h)
          ·
            refine Go_blk 1 (pc' := 85) (L' := [(0, .ref 47), (1, .int p1), (2, .int p2), (3, .int p3), (4, .int p4), (5, .int s1.1), (6, .int s1.2)]) (S' := [.int (0 : Int32), .int s1.1]) (h' := (hh X g I)) rfl ?_
            exact Go_jmp [(0, .ref 47), (1, .int p1), (2, .int p2), (3, .int p3), (4, .int p4), (6, .int s1.2)] rfl ⟨rfl, rfl, rfl, rfl, rfl, rfl, trivial⟩ (fun _ h => h)
        ·
          refine Go_blk 1 (pc' := 85) (L' := [(0, .ref 47), (1, .int p1), (2, .int p2), (3, .int p3), (4, .int p4), (5, .int s1.1), (6, .int s1.2)]) (S' := [.int (0 : Int32), .int s1.1]) (h' := (hh X g I)) rfl ?_
          exact Go_jmp [(0, .ref 47), (1, .int p1), (2, .int p2), (3, .int p3), (4, .int p4), (6, .int s1.2)] rfl ⟨rfl, rfl, rfl, rfl, rfl, rfl, trivial⟩ (fun _ h => h)
    ·
      exact Go_jmp [(5, .int s1.1)] rfl ⟨rfl, trivial⟩ (fun _ h => h)
set_option maxRecDepth 1000000 in
set_option maxHeartbeats 4000000 in
theorem g_m_gainOf346 (p1 : Int32) (p2 : Int32) (p3 : Int32) (p4 : Int32) (p5 : Int32) {X : XX} {g : GG} {I : MJ} {d : Nat} (hd : 1 ≤ d) : Go d 346 0 (lv_args 0 [.ref 47, .int p1, .int p2, .int p3, .int p4, .int p5]) [] (hh X g I) (f_m_gainOf346 p1 p2 p3 p4 p5 I) (pR X g I) := by
  obtain ⟨d, rfl⟩ : ∃ k, d = k + 1 := ⟨d - 1, by omega⟩
  unfold f_m_gainOf346
  refine Go_blk 1 (pc' := 1) (L' := [(0, .ref 47), (1, .int p1), (2, .int p2), (3, .int p3), (4, .int p4), (5, .int p5)]) (S' := [.int p2]) (h' := (hh X g I)) rfl ?_
  refine Go_seq (pcj := 16) (fun (b1 : Int32) => [(0, .ref 47), (1, .int p1), (2, .int p2), (3, .int p3), (5, .int p5)]) (fun (b1 : Int32) => [.int b1]) (fun (b1 : Int32) => (hh X g I)) (fun b1 => ?_) ?_
  ·
    refine Go_blk 6 (pc' := 25) (L' := [(6, .int b1), (0, .ref 47), (1, .int p1), (2, .int p2), (3, .int p3), (5, .int p5)]) (S' := [.int p2, .int b1, .int p5, .int p1, .ref 47]) (h' := (hh X g I)) rfl ?_
    refine Go_cR (y' := 347) (As := [.ref 47, .int p1, .int p5, .int b1, .int p2]) (r := []) rfl (g_m_endsIn347 p1 p5 b1 p2 (by omega)) fun v2 => ?_
    refine Go_blk 1 (pc' := 29) (L' := [(6, .int b1), (0, .ref 47), (1, .int p1), (2, .int p2), (3, .int p3), (5, .int p5)]) (S' := [.int p2, .int v2]) (h' := (hh X g I)) rfl ?_
    refine Go_seq (pcj := 48) (fun (b3 : Int32) => [(0, .ref 47), (2, .int p2), (5, .int p5), (6, .int b1)]) (fun (b3 : Int32) => [.int b3, .int v2]) (fun (b3 : Int32) => (hh X g I)) (fun b3 => ?_) ?_
    ·
      refine Go_blk 6 (pc' := 56) (L' := [(0, .ref 47), (2, .int p2), (5, .int p5), (6, .int b1)]) (S' := [.int (p2 + (1 : Int32)), .ref 601, .int (v2 - b3)]) (h' := (hh X g I)) rfl ?_
      refine Go_aald rfl fun r4 => ?_
      refine Go_blk 1 (pc' := 59) (L' := [(0, .ref 47), (2, .int p2), (5, .int p5), (6, .int b1)]) (S' := [.int p5, .ref r4, .int (v2 - b3)]) (h' := (hh X g I)) rfl ?_
      refine Go_aald rfl fun r5 => ?_
      refine Go_blk 1 (pc' := 62) (L' := [(0, .ref 47), (2, .int p2), (5, .int p5), (6, .int b1)]) (S' := [.int b1, .ref r5, .int (v2 - b3)]) (h' := (hh X g I)) rfl ?_
      refine Go_iald rfl fun v6 => ?_
      refine Go_blk 1 (pc' := 64) (L' := [(0, .ref 47), (2, .int p2), (5, .int p5), (6, .int b1)]) (S' := [.int ((v2 - b3) + v6)]) (h' := (hh X g I)) rfl ?_
      exact Go_ret (fun _ h => h) rfl
    ·
      refine Go_cmzn rfl rfl (ab_cle0 _) ?_ ?_
      ·
        refine Go_blk 2 (pc' := 35) (L' := [(6, .int b1), (0, .ref 47), (1, .int p1), (2, .int p2), (3, .int p3), (5, .int p5)]) (S' := [.int p3, .int p5, .int v2]) (h' := (hh X g I)) rfl ?_
        refine Go_cmp rfl rfl rfl ?_ ?_
        ·
          refine Go_blk 1 (pc' := 48) (L' := [(6, .int b1), (0, .ref 47), (1, .int p1), (2, .int p2), (3, .int p3), (5, .int p5)]) (S' := [.int (0 : Int32), .int v2]) (h' := (hh X g I)) rfl ?_
          exact Go_jmp [(0, .ref 47), (2, .int p2), (5, .int p5), (6, .int b1)] rfl ⟨rfl, rfl, rfl, rfl, trivial⟩ (fun _ h => h)
        ·
          refine Go_blk 5 (pc' := 48) (L' := [(6, .int b1), (0, .ref 47), (1, .int p1), (2, .int p2), (3, .int p3), (5, .int p5)]) (S' := [.int (I 51 4), .int v2]) (h' := (hh X g I)) rfl ?_
          exact Go_jmp [(0, .ref 47), (2, .int p2), (5, .int p5), (6, .int b1)] rfl ⟨rfl, rfl, rfl, rfl, trivial⟩ (fun _ h => h)
      ·
        refine Go_blk 1 (pc' := 48) (L' := [(6, .int b1), (0, .ref 47), (1, .int p1), (2, .int p2), (3, .int p3), (5, .int p5)]) (S' := [.int (0 : Int32), .int v2]) (h' := (hh X g I)) rfl ?_
        exact Go_jmp [(0, .ref 47), (2, .int p2), (5, .int p5), (6, .int b1)] rfl ⟨rfl, rfl, rfl, rfl, trivial⟩ (fun _ h => h)
  ·
    refine Go_cmzn rfl rfl (ab_cle0 _) ?_ ?_
    ·
      refine Go_blk 2 (pc' := 7) (L' := [(0, .ref 47), (1, .int p1), (2, .int p2), (3, .int p3), (4, .int p4), (5, .int p5)]) (S' := [.int p3, .int p5]) (h' := (hh X g I)) rfl ?_
      refine Go_cmpn rfl rfl rfl ?_ ?_
      ·
        refine Go_blk 2 (pc' := 16) (L' := [(0, .ref 47), (1, .int p1), (2, .int p2), (3, .int p3), (4, .int p4), (5, .int p5)]) (S' := [.int p4]) (h' := (hh X g I)) rfl ?_
        exact Go_jmp [(0, .ref 47), (1, .int p1), (2, .int p2), (3, .int p3), (5, .int p5)] rfl ⟨rfl, rfl, rfl, rfl, rfl, trivial⟩ (fun _ h => h)
      ·
        refine Go_blk 1 (pc' := 16) (L' := [(0, .ref 47), (1, .int p1), (2, .int p2), (3, .int p3), (4, .int p4), (5, .int p5)]) (S' := [.int p2]) (h' := (hh X g I)) rfl ?_
        exact Go_jmp [(0, .ref 47), (1, .int p1), (2, .int p2), (3, .int p3), (5, .int p5)] rfl ⟨rfl, rfl, rfl, rfl, rfl, trivial⟩ (fun _ h => h)
    ·
      refine Go_blk 1 (pc' := 16) (L' := [(0, .ref 47), (1, .int p1), (2, .int p2), (3, .int p3), (4, .int p4), (5, .int p5)]) (S' := [.int p2]) (h' := (hh X g I)) rfl ?_
      exact Go_jmp [(0, .ref 47), (1, .int p1), (2, .int p2), (3, .int p3), (5, .int p5)] rfl ⟨rfl, rfl, rfl, rfl, rfl, trivial⟩ (fun _ h => h)
set_option maxRecDepth 1000000 in
set_option maxHeartbeats 4000000 in
theorem g_m_laysBest345 (p1 : Int32) {X : XX} {g : GG} {I : MJ} {d : Nat} (hd : 2 ≤ d) : Go d 345 0 (lv_args 0 [.ref 47, .int p1]) [] (hh X g I) (f_m_laysBest345 p1 I) (pW X g) := by
  obtain ⟨d, rfl⟩ : ∃ k, d = k + 1 := ⟨d - 1, by omega⟩
  unfold f_m_laysBest345
  refine Go_blk 2 (pc' := 2) (L' := [(2, .int (0 : Int32)), (0, .ref 47), (1, .int p1)]) (S' := []) (h' := (hh X g I)) rfl ?_
  refine Go_lcs [(0, .ref 47), (1, .int p1), (2, .int (0 : Int32))] rfl ⟨rfl, rfl, rfl, trivial⟩ ?_
  refine Go_seq (pcj := 40) (fun (b2 : MJ) => [(0, .ref 47), (1, .int p1)]) (fun (b2 : MJ) => []) (fun (b2 : MJ) => (hh X g b2)) (fun b2 => ?_) ?_
  ·
    refine Go_blk 2 (pc' := 43) (L' := [(2, .int (11 : Int32)), (0, .ref 47), (1, .int p1)]) (S' := []) (h' := (hh X g b2)) rfl ?_
    refine Go_lcs [(0, .ref 47), (1, .int p1), (2, .int (11 : Int32))] rfl ⟨rfl, rfl, rfl, trivial⟩ ?_
    refine Go_seq (pcj := 155) (fun (b4 : MJ) => [(0, .ref 47), (1, .int p1)]) (fun (b4 : MJ) => []) (fun (b4 : MJ) => (hh X g b4)) (fun b4 => ?_) ?_
    ·
      refine Go_blk 6 (pc' := 162) (L' := [(4, .int (0 : Int32)), (3, .int (0 : Int32)), (2, .int (0 : Int32)), (0, .ref 47), (1, .int p1)]) (S' := []) (h' := (hh X g b4)) rfl ?_
      refine Go_lcs [(0, .ref 47), (1, .int p1), (2, .int (0 : Int32)), (3, .int (0 : Int32)), (4, .int (0 : Int32))] rfl ⟨rfl, rfl, rfl, rfl, rfl, trivial⟩ ?_
      refine Go_seq (pcj := 239) (fun (b6 : MJ) => [(0, .ref 47)]) (fun (b6 : MJ) => []) (fun (b6 : MJ) => (hh X g b6)) (fun b6 => ?_) ?_
      ·
        refine Go_blk 8 (pc' := 249) (L' := [(0, .ref 47)]) (S' := [.int (b6 603 0)]) (h' := (hh X g b6)) rfl ?_
        exact Go_ret (fun _ h => h) rfl
      ·
        refine Go_wh (fun (s5 : Int32 × Int32 × Int32 × MJ) => [(0, .ref 47), (1, .int p1), (2, .int s5.1), (3, .int s5.2.1), (4, .int s5.2.2.1)]) (fun _ => []) (fun (s5 : Int32 × Int32 × Int32 × MJ) => (hh X g s5.2.2.2)) (fun s5 => ?_) ((0 : Int32), (0 : Int32), (0 : Int32), b4)
        refine Go_blk 2 (pc' := 166) (L' := [(0, .ref 47), (1, .int p1), (2, .int s5.1), (3, .int s5.2.1), (4, .int s5.2.2.1)]) (S' := [.int (12 : Int32), .int s5.2.2.1]) (h' := (hh X g s5.2.2.2)) rfl ?_
        refine Go_cmpn rfl rfl (ab_cge _ _) ?_ ?_
        ·
          refine Go_blk 2 (pc' := 172) (L' := [(5, .int (0 : Int32)), (0, .ref 47), (1, .int p1), (2, .int s5.1), (3, .int s5.2.1), (4, .int s5.2.2.1)]) (S' := []) (h' := (hh X g s5.2.2.2)) rfl ?_
          refine Go_lcs [(0, .ref 47), (1, .int p1), (2, .int s5.1), (3, .int s5.2.1), (4, .int s5.2.2.1), (5, .int (0 : Int32))] rfl ⟨rfl, rfl, rfl, rfl, rfl, rfl, trivial⟩ ?_
          refine Go_seq (pcj := 203) (fun (b8 : Int32) => [(0, .ref 47), (1, .int p1), (2, .int s5.1), (3, .int s5.2.1), (4, .int s5.2.2.1), (5, .int b8)]) (fun (b8 : Int32) => []) (fun (b8 : Int32) => (hh X g s5.2.2.2)) (fun b8 => ?_) ?_
          ·
            refine Go_blk 1 (pc' := 205) (L' := [(0, .ref 47), (1, .int p1), (2, .int s5.1), (3, .int s5.2.1), (4, .int s5.2.2.1), (5, .int b8)]) (S' := [.int s5.2.2.1]) (h' := (hh X g s5.2.2.2)) rfl ?_
            refine Go_seq (pcj := 220) (fun (b9 : Int32) => [(0, .ref 47), (1, .int p1), (4, .int s5.2.2.1), (5, .int b8)]) (fun (b9 : Int32) => [.int b9]) (fun (b9 : Int32) => (hh X g s5.2.2.2)) (fun b9 => ?_) ?_
            ·
              refine Go_blk 7 (pc' := 232) (L' := [(2, .int b8), (3, .int b9), (0, .ref 47), (1, .int p1), (4, .int s5.2.2.1), (5, .int b8)]) (S' := [.int b8, .int s5.2.2.1, .ref 693]) (h' := (hh X g s5.2.2.2)) rfl ?_
              refine Go_iast rfl fun I10 => ?_
              refine Go_blk 2 (pc' := 162) (L' := [(4, .int (s5.2.2.1 + (1 : Int32))), (2, .int b8), (3, .int b9), (0, .ref 47), (1, .int p1), (5, .int b8)]) (S' := []) (h' := (hh X g I10)) rfl ?_
              exact Go_jmp [(0, .ref 47), (1, .int p1), (2, .int b8), (3, .int b9), (4, .int (s5.2.2.1 + (1 : Int32)))] rfl ⟨rfl, rfl, rfl, rfl, rfl, trivial⟩ (fun _ h => h)
            ·
              refine Go_cmzn rfl rfl (ab_cle0 _) ?_ ?_
              ·
                refine Go_blk 2 (pc' := 211) (L' := [(0, .ref 47), (1, .int p1), (2, .int s5.1), (3, .int s5.2.1), (4, .int s5.2.2.1), (5, .int b8)]) (S' := [.int s5.1, .int b8]) (h' := (hh X g s5.2.2.2)) rfl ?_
                refine Go_cmpn rfl rfl rfl ?_ ?_
                ·
                  refine Go_blk 2 (pc' := 220) (L' := [(0, .ref 47), (1, .int p1), (2, .int s5.1), (3, .int s5.2.1), (4, .int s5.2.2.1), (5, .int b8)]) (S' := [.int s5.2.1]) (h' := (hh X g s5.2.2.2)) rfl ?_
                  exact Go_jmp [(0, .ref 47), (1, .int p1), (4, .int s5.2.2.1), (5, .int b8)] rfl ⟨rfl, rfl, rfl, rfl, trivial⟩ (fun _ h => h)
                ·
                  refine Go_blk 1 (pc' := 220) (L' := [(0, .ref 47), (1, .int p1), (2, .int s5.1), (3, .int s5.2.1), (4, .int s5.2.2.1), (5, .int b8)]) (S' := [.int s5.2.2.1]) (h' := (hh X g s5.2.2.2)) rfl ?_
                  exact Go_jmp [(0, .ref 47), (1, .int p1), (4, .int s5.2.2.1), (5, .int b8)] rfl ⟨rfl, rfl, rfl, rfl, trivial⟩ (fun _ h => h)
              ·
                refine Go_blk 1 (pc' := 220) (L' := [(0, .ref 47), (1, .int p1), (2, .int s5.1), (3, .int s5.2.1), (4, .int s5.2.2.1), (5, .int b8)]) (S' := [.int s5.2.2.1]) (h' := (hh X g s5.2.2.2)) rfl ?_
                exact Go_jmp [(0, .ref 47), (1, .int p1), (4, .int s5.2.2.1), (5, .int b8)] rfl ⟨rfl, rfl, rfl, rfl, trivial⟩ (fun _ h => h)
          ·
            refine Go_wh (fun (s7 : Int32) => [(0, .ref 47), (1, .int p1), (2, .int s5.1), (3, .int s5.2.1), (4, .int s5.2.2.1), (5, .int s7)]) (fun _ => []) (fun (s7 : Int32) => (hh X g s5.2.2.2)) (fun s7 => ?_) (0 : Int32)
            refine Go_blk 6 (pc' := 180) (L' := [(0, .ref 47), (1, .int p1), (2, .int s5.1), (3, .int s5.2.1), (4, .int s5.2.2.1), (5, .int s7)]) (S' := [.int s7, .int s5.2.1, .int s5.1, .int s5.2.2.1, .int p1, .ref 47]) (h' := (hh X g s5.2.2.2)) rfl ?_
            refine Go_cR (y' := 346) (As := [.ref 47, .int p1, .int s5.2.2.1, .int s5.1, .int s5.2.1, .int s7]) (r := []) rfl (g_m_gainOf346 p1 s5.2.2.1 s5.1 s5.2.1 s7 (by omega)) fun v11 => ?_
            refine Go_blk 3 (pc' := 189) (L' := [(0, .ref 47), (1, .int p1), (2, .int s5.1), (3, .int s5.2.1), (4, .int s5.2.2.1), (5, .int s7)]) (S' := [.int s5.2.2.1, .ref 601, .int v11]) (h' := (hh X g s5.2.2.2)) rfl ?_
            refine Go_aald rfl fun r12 => ?_
            refine Go_blk 1 (pc' := 191) (L' := [(0, .ref 47), (1, .int p1), (2, .int s5.1), (3, .int s5.2.1), (4, .int s5.2.2.1), (5, .int s7)]) (S' := [.int s5.1, .ref r12, .int v11]) (h' := (hh X g s5.2.2.2)) rfl ?_
            refine Go_aald rfl fun r13 => ?_
            refine Go_blk 1 (pc' := 193) (L' := [(0, .ref 47), (1, .int p1), (2, .int s5.1), (3, .int s5.2.1), (4, .int s5.2.2.1), (5, .int s7)]) (S' := [.int s5.2.1, .ref r13, .int v11]) (h' := (hh X g s5.2.2.2)) rfl ?_
            refine Go_iald rfl fun v14 => ?_
            refine Go_cmp rfl rfl rfl ?_ ?_
            ·
              exact Go_jmp [(0, .ref 47), (1, .int p1), (2, .int s5.1), (3, .int s5.2.1), (4, .int s5.2.2.1), (5, .int s7)] rfl ⟨rfl, rfl, rfl, rfl, rfl, rfl, trivial⟩ (fun _ h => h)
            ·
              refine Go_blk 2 (pc' := 172) (L' := [(5, .int (s7 + (1 : Int32))), (0, .ref 47), (1, .int p1), (2, .int s5.1), (3, .int s5.2.1), (4, .int s5.2.2.1)]) (S' := []) (h' := (hh X g s5.2.2.2)) rfl ?_
              exact Go_jmp [(0, .ref 47), (1, .int p1), (2, .int s5.1), (3, .int s5.2.1), (4, .int s5.2.2.1), (5, .int (s7 + (1 : Int32)))] rfl ⟨rfl, rfl, rfl, rfl, rfl, rfl, trivial⟩ (fun _ h => h)
        ·
          exact Go_jmp [(0, .ref 47)] rfl ⟨rfl, trivial⟩ (fun _ h => h)
    ·
      refine Go_wh (fun (s3 : Int32 × MJ) => [(0, .ref 47), (1, .int p1), (2, .int s3.1)]) (fun _ => []) (fun (s3 : Int32 × MJ) => (hh X g s3.2)) (fun s3 => ?_) ((11 : Int32), b2)
      refine Go_blk 1 (pc' := 44) (L' := [(0, .ref 47), (1, .int p1), (2, .int s3.1)]) (S' := [.int s3.1]) (h' := (hh X g s3.2)) rfl ?_
      refine Go_cmz rfl rfl rfl ?_ ?_
      ·
        exact Go_jmp [(0, .ref 47), (1, .int p1)] rfl ⟨rfl, rfl, trivial⟩ (fun _ h => h)
      ·
        refine Go_blk 2 (pc' := 49) (L' := [(3, .int (0 : Int32)), (0, .ref 47), (1, .int p1), (2, .int s3.1)]) (S' := []) (h' := (hh X g s3.2)) rfl ?_
        refine Go_lcs [(0, .ref 47), (1, .int p1), (2, .int s3.1), (3, .int (0 : Int32))] rfl ⟨rfl, rfl, rfl, rfl, trivial⟩ ?_
        refine Go_seq (pcj := 149) (fun (b16 : MJ) => [(0, .ref 47), (1, .int p1), (2, .int s3.1)]) (fun (b16 : MJ) => []) (fun (b16 : MJ) => (hh X g b16)) (fun b16 => ?_) ?_
        ·
          refine Go_blk 2 (pc' := 43) (L' := [(2, .int (s3.1 + (-1 : Int32))), (0, .ref 47), (1, .int p1)]) (S' := []) (h' := (hh X g b16)) rfl ?_
          exact Go_jmp [(0, .ref 47), (1, .int p1), (2, .int (s3.1 + (-1 : Int32)))] rfl ⟨rfl, rfl, rfl, trivial⟩ (fun _ h => h)
        ·
          refine Go_wh (fun (s15 : Int32 × MJ) => [(0, .ref 47), (1, .int p1), (2, .int s3.1), (3, .int s15.1)]) (fun _ => []) (fun (s15 : Int32 × MJ) => (hh X g s15.2)) (fun s15 => ?_) ((0 : Int32), s3.2)
          refine Go_blk 2 (pc' := 52) (L' := [(0, .ref 47), (1, .int p1), (2, .int s3.1), (3, .int s15.1)]) (S' := [.int (6 : Int32), .int s15.1]) (h' := (hh X g s15.2)) rfl ?_
          refine Go_cmpn rfl rfl (ab_cge _ _) ?_ ?_
          ·
            refine Go_blk 2 (pc' := 58) (L' := [(4, .int (0 : Int32)), (0, .ref 47), (1, .int p1), (2, .int s3.1), (3, .int s15.1)]) (S' := []) (h' := (hh X g s15.2)) rfl ?_
            refine Go_lcs [(0, .ref 47), (1, .int p1), (2, .int s3.1), (3, .int s15.1), (4, .int (0 : Int32))] rfl ⟨rfl, rfl, rfl, rfl, rfl, trivial⟩ ?_
            refine Go_seq (pcj := 143) (fun (b18 : MJ) => [(0, .ref 47), (1, .int p1), (2, .int s3.1), (3, .int s15.1)]) (fun (b18 : MJ) => []) (fun (b18 : MJ) => (hh X g b18)) (fun b18 => ?_) ?_
            ·
              refine Go_blk 2 (pc' := 49) (L' := [(3, .int (s15.1 + (1 : Int32))), (0, .ref 47), (1, .int p1), (2, .int s3.1)]) (S' := []) (h' := (hh X g b18)) rfl ?_
              exact Go_jmp [(0, .ref 47), (1, .int p1), (2, .int s3.1), (3, .int (s15.1 + (1 : Int32)))] rfl ⟨rfl, rfl, rfl, rfl, trivial⟩ (fun _ h => h)
            ·
              refine Go_wh (fun (s17 : Int32 × MJ) => [(0, .ref 47), (1, .int p1), (2, .int s3.1), (3, .int s15.1), (4, .int s17.1)]) (fun _ => []) (fun (s17 : Int32 × MJ) => (hh X g s17.2)) (fun s17 => ?_) ((0 : Int32), s15.2)
              refine Go_blk 2 (pc' := 61) (L' := [(0, .ref 47), (1, .int p1), (2, .int s3.1), (3, .int s15.1), (4, .int s17.1)]) (S' := [.int s3.1, .int s17.1]) (h' := (hh X g s17.2)) rfl ?_
              refine Go_cmp rfl rfl rfl ?_ ?_
              ·
                exact Go_jmp [(0, .ref 47), (1, .int p1), (2, .int s3.1), (3, .int s15.1)] rfl ⟨rfl, rfl, rfl, rfl, trivial⟩ (fun _ h => h)
              ·
                refine Go_blk 3 (pc' := 69) (L' := [(0, .ref 47), (1, .int p1), (2, .int s3.1), (3, .int s15.1), (4, .int s17.1)]) (S' := [.int s3.1, .ref 601]) (h' := (hh X g s17.2)) rfl ?_
                refine Go_aald rfl fun r19 => ?_
                refine Go_blk 1 (pc' := 71) (L' := [(0, .ref 47), (1, .int p1), (2, .int s3.1), (3, .int s15.1), (4, .int s17.1)]) (S' := [.int s15.1, .ref r19]) (h' := (hh X g s17.2)) rfl ?_
                refine Go_aald rfl fun r20 => ?_
                refine Go_blk 7 (pc' := 81) (L' := [(0, .ref 47), (1, .int p1), (2, .int s3.1), (3, .int s15.1), (4, .int s17.1)]) (S' := [.int (0 : Int32), .int s17.1, .int s15.1, .int s3.1, .int p1, .ref 47, .int s17.1, .ref r20]) (h' := (hh X g s17.2)) rfl ?_
                refine Go_cR (y' := 346) (As := [.ref 47, .int p1, .int s3.1, .int s15.1, .int s17.1, .int (0 : Int32)]) (r := [.int s17.1, .ref r20]) rfl (g_m_gainOf346 p1 s3.1 s15.1 s17.1 (0 : Int32) (by omega)) fun v21 => ?_
                refine Go_iast rfl fun I22 => ?_
                refine Go_blk 2 (pc' := 88) (L' := [(5, .int (1 : Int32)), (0, .ref 47), (1, .int p1), (2, .int s3.1), (3, .int s15.1), (4, .int s17.1)]) (S' := []) (h' := (hh X g I22)) rfl ?_
                refine Go_lcs [(0, .ref 47), (1, .int p1), (2, .int s3.1), (3, .int s15.1), (4, .int s17.1), (5, .int (1 : Int32))] rfl ⟨rfl, rfl, rfl, rfl, rfl, rfl, trivial⟩ ?_
                refine Go_seq (pcj := 137) (fun (b24 : MJ) => [(0, .ref 47), (1, .int p1), (2, .int s3.1), (3, .int s15.1), (4, .int s17.1)]) (fun (b24 : MJ) => []) (fun (b24 : MJ) => (hh X g b24)) (fun b24 => ?_) ?_
                ·
                  refine Go_blk 2 (pc' := 58) (L' := [(4, .int (s17.1 + (1 : Int32))), (0, .ref 47), (1, .int p1), (2, .int s3.1), (3, .int s15.1)]) (S' := []) (h' := (hh X g b24)) rfl ?_
                  exact Go_jmp [(0, .ref 47), (1, .int p1), (2, .int s3.1), (3, .int s15.1), (4, .int (s17.1 + (1 : Int32)))] rfl ⟨rfl, rfl, rfl, rfl, rfl, trivial⟩ (fun _ h => h)
                ·
                  refine Go_wh (fun (s23 : Int32 × MJ) => [(0, .ref 47), (1, .int p1), (2, .int s3.1), (3, .int s15.1), (4, .int s17.1), (5, .int s23.1)]) (fun _ => []) (fun (s23 : Int32 × MJ) => (hh X g s23.2)) (fun s23 => ?_) ((1 : Int32), I22)
                  refine Go_blk 2 (pc' := 92) (L' := [(0, .ref 47), (1, .int p1), (2, .int s3.1), (3, .int s15.1), (4, .int s17.1), (5, .int s23.1)]) (S' := [.int (6 : Int32), .int s23.1]) (h' := (hh X g s23.2)) rfl ?_
                  refine Go_cmpn rfl rfl (ab_cge _ _) ?_ ?_
                  ·
                    refine Go_blk 3 (pc' := 100) (L' := [(0, .ref 47), (1, .int p1), (2, .int s3.1), (3, .int s15.1), (4, .int s17.1), (5, .int s23.1)]) (S' := [.int s3.1, .ref 601]) (h' := (hh X g s23.2)) rfl ?_
                    refine Go_aald rfl fun r25 => ?_
                    refine Go_blk 1 (pc' := 102) (L' := [(0, .ref 47), (1, .int p1), (2, .int s3.1), (3, .int s15.1), (4, .int s17.1), (5, .int s23.1)]) (S' := [.int s15.1, .ref r25]) (h' := (hh X g s23.2)) rfl ?_
                    refine Go_aald rfl fun r26 => ?_
                    refine Go_blk 4 (pc' := 110) (L' := [(0, .ref 47), (1, .int p1), (2, .int s3.1), (3, .int s15.1), (4, .int s17.1), (5, .int s23.1)]) (S' := [.int s3.1, .ref 601, .int s17.1, .ref r26]) (h' := (hh X g s23.2)) rfl ?_
                    refine Go_aald rfl fun r27 => ?_
                    refine Go_blk 1 (pc' := 112) (L' := [(0, .ref 47), (1, .int p1), (2, .int s3.1), (3, .int s15.1), (4, .int s17.1), (5, .int s23.1)]) (S' := [.int s15.1, .ref r27, .int s17.1, .ref r26]) (h' := (hh X g s23.2)) rfl ?_
                    refine Go_aald rfl fun r28 => ?_
                    refine Go_blk 1 (pc' := 115) (L' := [(0, .ref 47), (1, .int p1), (2, .int s3.1), (3, .int s15.1), (4, .int s17.1), (5, .int s23.1)]) (S' := [.int s17.1, .ref r28, .int s17.1, .ref r26]) (h' := (hh X g s23.2)) rfl ?_
                    refine Go_iald rfl fun v29 => ?_
                    refine Go_blk 6 (pc' := 124) (L' := [(0, .ref 47), (1, .int p1), (2, .int s3.1), (3, .int s15.1), (4, .int s17.1), (5, .int s23.1)]) (S' := [.int s23.1, .int s17.1, .int s15.1, .int s3.1, .int p1, .ref 47, .int v29, .int s17.1, .ref r26]) (h' := (hh X g s23.2)) rfl ?_
                    refine Go_cR (y' := 346) (As := [.ref 47, .int p1, .int s3.1, .int s15.1, .int s17.1, .int s23.1]) (r := [.int v29, .int s17.1, .ref r26]) rfl (g_m_gainOf346 p1 s3.1 s15.1 s17.1 s23.1 (by omega)) fun v30 => ?_
                    refine Go_cR (y' := 320) (As := [.int v29, .int v30]) (r := [.int s17.1, .ref r26]) rfl (g_m_more320 v29 v30 (by omega)) fun v31 => ?_
                    refine Go_iast rfl fun I32 => ?_
                    refine Go_blk 2 (pc' := 88) (L' := [(5, .int (s23.1 + (1 : Int32))), (0, .ref 47), (1, .int p1), (2, .int s3.1), (3, .int s15.1), (4, .int s17.1)]) (S' := []) (h' := (hh X g I32)) rfl ?_
                    exact Go_jmp [(0, .ref 47), (1, .int p1), (2, .int s3.1), (3, .int s15.1), (4, .int s17.1), (5, .int (s23.1 + (1 : Int32)))] rfl ⟨rfl, rfl, rfl, rfl, rfl, rfl, trivial⟩ (fun _ h => h)
                  ·
                    exact Go_jmp [(0, .ref 47), (1, .int p1), (2, .int s3.1), (3, .int s15.1), (4, .int s17.1)] rfl ⟨rfl, rfl, rfl, rfl, rfl, trivial⟩ (fun _ h => h)
          ·
            exact Go_jmp [(0, .ref 47), (1, .int p1), (2, .int s3.1)] rfl ⟨rfl, rfl, rfl, trivial⟩ (fun _ h => h)
  ·
    refine Go_wh (fun (s1 : Int32 × MJ) => [(0, .ref 47), (1, .int p1), (2, .int s1.1)]) (fun _ => []) (fun (s1 : Int32 × MJ) => (hh X g s1.2)) (fun s1 => ?_) ((0 : Int32), I)
    refine Go_blk 2 (pc' := 5) (L' := [(0, .ref 47), (1, .int p1), (2, .int s1.1)]) (S' := [.int (6 : Int32), .int s1.1]) (h' := (hh X g s1.2)) rfl ?_
    refine Go_cmpn rfl rfl (ab_cge _ _) ?_ ?_
    ·
      refine Go_blk 2 (pc' := 10) (L' := [(3, .int (0 : Int32)), (0, .ref 47), (1, .int p1), (2, .int s1.1)]) (S' := []) (h' := (hh X g s1.2)) rfl ?_
      refine Go_lcs [(0, .ref 47), (1, .int p1), (2, .int s1.1), (3, .int (0 : Int32))] rfl ⟨rfl, rfl, rfl, rfl, trivial⟩ ?_
      refine Go_seq (pcj := 34) (fun (b34 : MJ) => [(0, .ref 47), (1, .int p1), (2, .int s1.1)]) (fun (b34 : MJ) => []) (fun (b34 : MJ) => (hh X g b34)) (fun b34 => ?_) ?_
      ·
        refine Go_blk 2 (pc' := 2) (L' := [(2, .int (s1.1 + (1 : Int32))), (0, .ref 47), (1, .int p1)]) (S' := []) (h' := (hh X g b34)) rfl ?_
        exact Go_jmp [(0, .ref 47), (1, .int p1), (2, .int (s1.1 + (1 : Int32)))] rfl ⟨rfl, rfl, rfl, trivial⟩ (fun _ h => h)
      ·
        refine Go_wh (fun (s33 : Int32 × MJ) => [(0, .ref 47), (1, .int p1), (2, .int s1.1), (3, .int s33.1)]) (fun _ => []) (fun (s33 : Int32 × MJ) => (hh X g s33.2)) (fun s33 => ?_) ((0 : Int32), s1.2)
        refine Go_blk 2 (pc' := 13) (L' := [(0, .ref 47), (1, .int p1), (2, .int s1.1), (3, .int s33.1)]) (S' := [.int (12 : Int32), .int s33.1]) (h' := (hh X g s33.2)) rfl ?_
        refine Go_cmp rfl rfl rfl ?_ ?_
        ·
          exact Go_jmp [(0, .ref 47), (1, .int p1), (2, .int s1.1)] rfl ⟨rfl, rfl, rfl, trivial⟩ (fun _ h => h)
        ·
          refine Go_blk 5 (pc' := 24) (L' := [(0, .ref 47), (1, .int p1), (2, .int s1.1), (3, .int s33.1)]) (S' := [.int s1.1, .ref 686]) (h' := (hh X g s33.2)) rfl ?_
          refine Go_aald rfl fun r35 => ?_
          refine Go_blk 2 (pc' := 27) (L' := [(0, .ref 47), (1, .int p1), (2, .int s1.1), (3, .int s33.1)]) (S' := [.int (0 : Int32), .int s33.1, .ref r35]) (h' := (hh X g s33.2)) rfl ?_
          refine Go_iast rfl fun I36 => ?_
          refine Go_blk 2 (pc' := 10) (L' := [(3, .int (s33.1 + (1 : Int32))), (0, .ref 47), (1, .int p1), (2, .int s1.1)]) (S' := []) (h' := (hh X g I36)) rfl ?_
          exact Go_jmp [(0, .ref 47), (1, .int p1), (2, .int s1.1), (3, .int (s33.1 + (1 : Int32)))] rfl ⟨rfl, rfl, rfl, rfl, trivial⟩ (fun _ h => h)
    ·
      exact Go_jmp [(0, .ref 47), (1, .int p1)] rfl ⟨rfl, rfl, trivial⟩ (fun _ h => h)
set_option maxRecDepth 1000000 in
set_option maxHeartbeats 4000000 in
theorem g_m_best344 (p1 : Int32) {X : XX} {g : GG} {I : MJ} {d : Nat} (hd : 3 ≤ d) : Go d 344 0 (lv_args 0 [.ref 47, .int p1]) [] (hh X g I) (f_m_best344 p1 I) (pW X g) := by
  obtain ⟨d, rfl⟩ : ∃ k, d = k + 1 := ⟨d - 1, by omega⟩
  unfold f_m_best344
  refine Go_blk 6 (pc' := 8) (L' := [(0, .ref 47), (1, .int p1)]) (S' := [.int p1, .ref 47, .ref 47]) (h' := (hh X g (ab_up1 I 47 0 (0 : Int32)))) rfl ?_
  refine Go_cR (y' := 328) (As := [.ref 47, .int p1]) (r := [.ref 47]) rfl (g_m_isClient328 p1 (by omega)) fun v1 => ?_
  refine Go_seq (pcj := 19) (fun (b2 : Int32) => [(0, .ref 47), (1, .int p1)]) (fun (b2 : Int32) => [.int b2, .ref 47]) (fun (b2 : Int32) => (hh X g (ab_up1 I 47 0 (0 : Int32)))) (fun b2 => ?_) ?_
  ·
    refine Go_blk 2 (pc' := 21) (L' := [(0, .ref 47), (1, .int p1)]) (S' := [.int (0 : Int32), .int (1 : Int32), .int b2, .ref 47]) (h' := (hh X g (ab_up1 I 47 0 (0 : Int32)))) rfl ?_
    refine Go_cW (y' := 268) (As := [.ref 47, .int b2, .int (1 : Int32), .int (0 : Int32)]) (r := []) rfl (g_m_bad268 b2 (1 : Int32) (0 : Int32) (by omega)) fun w3 => ?_
    refine Go_cmz rfl rfl rfl ?_ ?_
    ·
      refine Go_blk 2 (pc' := 31) (L' := [(0, .ref 47), (1, .int p1)]) (S' := [.int p1, .ref 47]) (h' := (hh X g w3.2)) rfl ?_
      refine Go_cW (y' := 345) (As := [.ref 47, .int p1]) (r := []) rfl (g_m_laysBest345 p1 (by omega)) fun w4 => ?_
      exact Go_ret (fun _ h => h) rfl
    ·
      refine Go_blk 1 (pc' := 28) (L' := [(0, .ref 47), (1, .int p1)]) (S' := [.int (0 : Int32)]) (h' := (hh X g w3.2)) rfl ?_
      exact Go_ret (fun _ h => h) rfl
  ·
    refine Go_cmzn rfl rfl rfl ?_ ?_
    ·
      refine Go_blk 2 (pc' := 19) (L' := [(0, .ref 47), (1, .int p1)]) (S' := [.int (1 : Int32), .ref 47]) (h' := (hh X g (ab_up1 I 47 0 (0 : Int32)))) rfl ?_
      exact Go_jmp [(0, .ref 47), (1, .int p1)] rfl ⟨rfl, rfl, trivial⟩ (fun _ h => h)
    ·
      refine Go_blk 1 (pc' := 19) (L' := [(0, .ref 47), (1, .int p1)]) (S' := [.int (0 : Int32), .ref 47]) (h' := (hh X g (ab_up1 I 47 0 (0 : Int32)))) rfl ?_
      exact Go_jmp [(0, .ref 47), (1, .int p1)] rfl ⟨rfl, rfl, trivial⟩ (fun _ h => h)
set_option maxRecDepth 1000000 in
set_option maxHeartbeats 4000000 in
theorem g_x_bestAt192 (p1 : Int32) (p2 : Int32) {X : XX} {g : GG} {I : MJ} {d : Nat} (hd : 5 ≤ d) : Go d 192 0 (lv_args 0 [.ref 0, .int p1, .int p2]) [] (hh X g I) (f_x_bestAt192 p1 p2 I) (pT vI X g) := by
  obtain ⟨d, rfl⟩ : ∃ k, d = k + 1 := ⟨d - 1, by omega⟩
  unfold f_x_bestAt192
  refine Go_blk 5 (pc' := 9) (L' := [(0, .ref 0), (1, .int p1), (2, .int p2)]) (S' := [.int (I 3 6), .int p1, .ref 0]) (h' := (hh X g I)) rfl ?_
  refine Go_cT (y' := 69) (As := [.ref 0, .int p1, .int (I 3 6)]) (r := []) rfl rfl (g_x_needElement69 p1 (I 3 6) (by omega)) fun v1 I2 => ?_
  refine Go_blk 4 (pc' := 17) (L' := [(0, .ref 0), (1, .int p1), (2, .int p2)]) (S' := [.int (11 : Int32), .int (0 : Int32), .int p2, .ref 0]) (h' := (hh X g I2)) rfl ?_
  refine Go_cT (y' := 38) (As := [.ref 0, .int p2, .int (0 : Int32), .int (11 : Int32)]) (r := []) rfl rfl (g_x_needWithin38 p2 (0 : Int32) (11 : Int32) (by omega)) fun v3 I4 => ?_
  refine Go_blk 3 (pc' := 25) (L' := [(0, .ref 0), (1, .int p1), (2, .int p2)]) (S' := [.int p1, .ref 39]) (h' := (hh X g I4)) rfl ?_
  refine Go_cW (y' := 184) (As := [.ref 39, .int p1]) (r := []) rfl (g_fit_findBest184 p1 (by omega)) fun w5 => ?_
  refine Go_blk 5 (pc' := 37) (L' := [(0, .ref 0), (1, .int p1), (2, .int p2)]) (S' := [.int p2, .ref 40]) (h' := (hh X g w5.2)) rfl ?_
  refine Go_cR (y' := 16) (As := [.ref 40, .int p2]) (r := []) rfl (g_x_at16 40 p2 (by omega)) fun v6 => ?_
  exact Go_ret (fun _ h => h) rfl
set_option maxRecDepth 1000000 in
set_option maxHeartbeats 4000000 in
theorem g_l_bestAt191 (p1 : Int32) (p2 : Int32) {X : XX} {g : GG} {I : MJ} {d : Nat} (hd : 6 ≤ d) : Go d 191 0 (lv_args 0 [.ref 0, .int p1, .int p2, .ref 698]) [] (hh X g I) (f_l_bestAt191 p1 p2 I g) (pG X) := by
  obtain ⟨d, rfl⟩ : ∃ k, d = k + 1 := ⟨d - 1, by omega⟩
  unfold f_l_bestAt191
  refine Go_blk 5 (pc' := 5) (L' := [(0, .ref 0), (1, .int p1), (2, .int p2), (3, .ref 698)]) (S' := [.int p2, .int p1, .ref 0, .int (0 : Int32), .ref 698]) (h' := (hh X g I)) rfl ?_
  refine Go_try (y' := 192) (As := [.ref 0, .int p1, .int p2]) (r := [.int (0 : Int32), .ref 698]) rfl (g_x_bestAt192 p1 p2 (by omega)) (fun v1 I2 => ?_) (fun E2 I2 => ?_)
  ·
    refine Go_blk 1 (pc' := 9) (L' := [(0, .ref 0), (1, .int p1), (2, .int p2), (3, .ref 698)]) (S' := [.long (v1.toInt64), .int (0 : Int32), .ref 698]) (h' := (hh X g I2)) rfl ?_
    refine Go_last rfl fun g3 => ?_
    refine Go_blk 2 (pc' := 22) (L' := [(0, .ref 0), (1, .int p1), (2, .int p2), (3, .ref 698)]) (S' := [.int (0 : Int32)]) (h' := (hh X g3 I2)) rfl ?_
    exact Go_ret (fun _ h => h) rfl
  ·
    refine GX_ite ?_ ?_
    ·
      refine GX_go rfl (t := 15) (k := 4) rfl ?_
      refine Go_blk 1 (pc' := 16) (L' := [(0, .ref 0), (1, .int p1), (2, .int p2), (3, .ref 698)]) (S' := [.int (1 : Int32)]) (h' := (hh X (thr g) I2)) rfl ?_
      exact Go_ret (fun _ h => h) rfl
    refine GX_ite ?_ ?_
    ·
      refine GX_go rfl (t := 19) (k := 4) rfl ?_
      refine Go_blk 1 (pc' := 20) (L' := [(0, .ref 0), (1, .int p1), (2, .int p2), (3, .ref 698)]) (S' := [.int (2 : Int32)]) (h' := (hh X (thr g) I2)) rfl ?_
      exact Go_ret (fun _ h => h) rfl
    exact GX_none
set_option maxRecDepth 1000000 in
set_option maxHeartbeats 4000000 in
theorem g_m_bestAt348 (p1 : Int32) (p2 : Int32) {X : XX} {g : GG} {I : MJ} {d : Nat} (hd : 3 ≤ d) : Go d 348 0 (lv_args 0 [.ref 47, .int p1, .int p2]) [] (hh X g I) (f_m_bestAt348 p1 p2 I) (pW X g) := by
  obtain ⟨d, rfl⟩ : ∃ k, d = k + 1 := ⟨d - 1, by omega⟩
  unfold f_m_bestAt348
  refine Go_blk 6 (pc' := 8) (L' := [(0, .ref 47), (1, .int p1), (2, .int p2)]) (S' := [.int p1, .ref 47, .ref 47]) (h' := (hh X g (ab_up1 I 47 0 (0 : Int32)))) rfl ?_
  refine Go_cR (y' := 328) (As := [.ref 47, .int p1]) (r := [.ref 47]) rfl (g_m_isClient328 p1 (by omega)) fun v1 => ?_
  refine Go_seq (pcj := 19) (fun (b2 : Int32) => [(0, .ref 47), (1, .int p1), (2, .int p2)]) (fun (b2 : Int32) => [.int b2, .ref 47]) (fun (b2 : Int32) => (hh X g (ab_up1 I 47 0 (0 : Int32)))) (fun b2 => ?_) ?_
  ·
    refine Go_blk 2 (pc' := 21) (L' := [(0, .ref 47), (1, .int p1), (2, .int p2)]) (S' := [.int (0 : Int32), .int (1 : Int32), .int b2, .ref 47]) (h' := (hh X g (ab_up1 I 47 0 (0 : Int32)))) rfl ?_
    refine Go_cW (y' := 268) (As := [.ref 47, .int b2, .int (1 : Int32), .int (0 : Int32)]) (r := []) rfl (g_m_bad268 b2 (1 : Int32) (0 : Int32) (by omega)) fun w3 => ?_
    refine Go_cmzn rfl rfl rfl ?_ ?_
    ·
      refine Go_blk 2 (pc' := 29) (L' := [(0, .ref 47), (1, .int p1), (2, .int p2)]) (S' := [.int p2, .ref 47]) (h' := (hh X g w3.2)) rfl ?_
      refine Go_cR (y' := 336) (As := [.int p2]) (r := [.ref 47]) rfl (g_m_isHour336 p2 (by omega)) fun v4 => ?_
      refine Go_seq (pcj := 40) (fun (b5 : Int32) => [(0, .ref 47), (1, .int p1), (2, .int p2)]) (fun (b5 : Int32) => [.int b5, .ref 47]) (fun (b5 : Int32) => (hh X g w3.2)) (fun b5 => ?_) ?_
      ·
        refine Go_blk 2 (pc' := 42) (L' := [(0, .ref 47), (1, .int p1), (2, .int p2)]) (S' := [.int (1 : Int32), .int (2 : Int32), .int b5, .ref 47]) (h' := (hh X g w3.2)) rfl ?_
        refine Go_cW (y' := 268) (As := [.ref 47, .int b5, .int (2 : Int32), .int (1 : Int32)]) (r := []) rfl (g_m_bad268 b5 (2 : Int32) (1 : Int32) (by omega)) fun w6 => ?_
        refine Go_cmz rfl rfl rfl ?_ ?_
        ·
          refine Go_blk 2 (pc' := 52) (L' := [(0, .ref 47), (1, .int p1), (2, .int p2)]) (S' := [.int p1, .ref 47]) (h' := (hh X g w6.2)) rfl ?_
          refine Go_cW (y' := 345) (As := [.ref 47, .int p1]) (r := []) rfl (g_m_laysBest345 p1 (by omega)) fun w7 => ?_
          refine Go_blk 4 (pc' := 61) (L' := [(0, .ref 47), (1, .int p1), (2, .int p2)]) (S' := [.int p2, .ref 693]) (h' := (hh X g w7.2)) rfl ?_
          refine Go_iald rfl fun v8 => ?_
          exact Go_ret (fun _ h => h) rfl
        ·
          refine Go_blk 1 (pc' := 49) (L' := [(0, .ref 47), (1, .int p1), (2, .int p2)]) (S' := [.int (0 : Int32)]) (h' := (hh X g w6.2)) rfl ?_
          exact Go_ret (fun _ h => h) rfl
      ·
        refine Go_cmzn rfl rfl rfl ?_ ?_
        ·
          refine Go_blk 2 (pc' := 40) (L' := [(0, .ref 47), (1, .int p1), (2, .int p2)]) (S' := [.int (1 : Int32), .ref 47]) (h' := (hh X g w3.2)) rfl ?_
          exact Go_jmp [(0, .ref 47), (1, .int p1), (2, .int p2)] rfl ⟨rfl, rfl, rfl, trivial⟩ (fun _ h => h)
        ·
          refine Go_blk 1 (pc' := 40) (L' := [(0, .ref 47), (1, .int p1), (2, .int p2)]) (S' := [.int (0 : Int32), .ref 47]) (h' := (hh X g w3.2)) rfl ?_
          exact Go_jmp [(0, .ref 47), (1, .int p1), (2, .int p2)] rfl ⟨rfl, rfl, rfl, trivial⟩ (fun _ h => h)
    ·
      refine Go_blk 1 (pc' := 49) (L' := [(0, .ref 47), (1, .int p1), (2, .int p2)]) (S' := [.int (0 : Int32)]) (h' := (hh X g w3.2)) rfl ?_
      exact Go_ret (fun _ h => h) rfl
  ·
    refine Go_cmzn rfl rfl rfl ?_ ?_
    ·
      refine Go_blk 2 (pc' := 19) (L' := [(0, .ref 47), (1, .int p1), (2, .int p2)]) (S' := [.int (1 : Int32), .ref 47]) (h' := (hh X g (ab_up1 I 47 0 (0 : Int32)))) rfl ?_
      exact Go_jmp [(0, .ref 47), (1, .int p1), (2, .int p2)] rfl ⟨rfl, rfl, rfl, trivial⟩ (fun _ h => h)
    ·
      refine Go_blk 1 (pc' := 19) (L' := [(0, .ref 47), (1, .int p1), (2, .int p2)]) (S' := [.int (0 : Int32), .ref 47]) (h' := (hh X g (ab_up1 I 47 0 (0 : Int32)))) rfl ?_
      exact Go_jmp [(0, .ref 47), (1, .int p1), (2, .int p2)] rfl ⟨rfl, rfl, rfl, trivial⟩ (fun _ h => h)
set_option maxRecDepth 1000000 in
set_option maxHeartbeats 4000000 in
theorem g_sho_clash196 (p1 : Int32) (p2 : Int32) {X : XX} {g : GG} {I : MJ} {d : Nat} (hd : 2 ≤ d) : Go d 196 0 (lv_args 0 [.ref 3, .int p1, .int p2]) [] (hh X g I) (f_sho_clash196 p1 p2 I) (pR X g I) := by
  obtain ⟨d, rfl⟩ : ∃ k, d = k + 1 := ⟨d - 1, by omega⟩
  unfold f_sho_clash196
  refine Go_blk 3 (pc' := 3) (L' := [(0, .ref 3), (1, .int p1), (2, .int p2)]) (S' := [.int (3 : Int32), .int p1, .ref 3]) (h' := (hh X g I)) rfl ?_
  refine Go_cR (y' := 152) (As := [.ref 3, .int p1, .int (3 : Int32)]) (r := []) rfl (g_sho_wantPart152 p1 (3 : Int32) (by omega)) fun v1 => ?_
  refine Go_blk 3 (pc' := 9) (L' := [(0, .ref 3), (1, .int p1), (2, .int p2)]) (S' := [.int (3 : Int32), .int p2, .ref 3, .int v1]) (h' := (hh X g I)) rfl ?_
  refine Go_cR (y' := 152) (As := [.ref 3, .int p2, .int (3 : Int32)]) (r := [.int v1]) rfl (g_sho_wantPart152 p2 (3 : Int32) (by omega)) fun v2 => ?_
  refine Go_seq (pcj := 50) (fun (b3 : Int32) => []) (fun (b3 : Int32) => [.int b3]) (fun (b3 : Int32) => (hh X g I)) (fun b3 => ?_) ?_
  ·
    exact Go_ret (fun _ h => h) rfl
  ·
    refine Go_cmp rfl rfl rfl ?_ ?_
    ·
      refine Go_blk 1 (pc' := 50) (L' := [(0, .ref 3), (1, .int p1), (2, .int p2)]) (S' := [.int (0 : Int32)]) (h' := (hh X g I)) rfl ?_
      exact Go_jmp [] rfl trivial (fun _ h => h)
    ·
      refine Go_blk 3 (pc' := 18) (L' := [(0, .ref 3), (1, .int p1), (2, .int p2)]) (S' := [.int (1 : Int32), .int p1, .ref 3]) (h' := (hh X g I)) rfl ?_
      refine Go_cR (y' := 152) (As := [.ref 3, .int p1, .int (1 : Int32)]) (r := []) rfl (g_sho_wantPart152 p1 (1 : Int32) (by omega)) fun v4 => ?_
      refine Go_blk 3 (pc' := 24) (L' := [(0, .ref 3), (1, .int p1), (2, .int p2)]) (S' := [.int (2 : Int32), .int p2, .ref 3, .int v4]) (h' := (hh X g I)) rfl ?_
      refine Go_cR (y' := 152) (As := [.ref 3, .int p2, .int (2 : Int32)]) (r := [.int v4]) rfl (g_sho_wantPart152 p2 (2 : Int32) (by omega)) fun v5 => ?_
      refine Go_cmp rfl rfl rfl ?_ ?_
      ·
        refine Go_blk 1 (pc' := 50) (L' := [(0, .ref 3), (1, .int p1), (2, .int p2)]) (S' := [.int (0 : Int32)]) (h' := (hh X g I)) rfl ?_
        exact Go_jmp [] rfl trivial (fun _ h => h)
      ·
        refine Go_blk 3 (pc' := 33) (L' := [(0, .ref 3), (1, .int p1), (2, .int p2)]) (S' := [.int (1 : Int32), .int p2, .ref 3]) (h' := (hh X g I)) rfl ?_
        refine Go_cR (y' := 152) (As := [.ref 3, .int p2, .int (1 : Int32)]) (r := []) rfl (g_sho_wantPart152 p2 (1 : Int32) (by omega)) fun v6 => ?_
        refine Go_blk 3 (pc' := 39) (L' := [(0, .ref 3), (1, .int p1), (2, .int p2)]) (S' := [.int (2 : Int32), .int p1, .ref 3, .int v6]) (h' := (hh X g I)) rfl ?_
        refine Go_cR (y' := 152) (As := [.ref 3, .int p1, .int (2 : Int32)]) (r := [.int v6]) rfl (g_sho_wantPart152 p1 (2 : Int32) (by omega)) fun v7 => ?_
        refine Go_cmp rfl rfl rfl ?_ ?_
        ·
          refine Go_blk 1 (pc' := 50) (L' := [(0, .ref 3), (1, .int p1), (2, .int p2)]) (S' := [.int (0 : Int32)]) (h' := (hh X g I)) rfl ?_
          exact Go_jmp [] rfl trivial (fun _ h => h)
        ·
          refine Go_blk 2 (pc' := 50) (L' := [(0, .ref 3), (1, .int p1), (2, .int p2)]) (S' := [.int (1 : Int32)]) (h' := (hh X g I)) rfl ?_
          exact Go_jmp [] rfl trivial (fun _ h => h)
set_option maxRecDepth 1000000 in
set_option maxHeartbeats 4000000 in
theorem g_sho_clashesAmong195 (p1 : Int32) {X : XX} {g : GG} {I : MJ} {d : Nat} (hd : 3 ≤ d) : Go d 195 0 (lv_args 0 [.ref 3, .int p1]) [] (hh X g I) (f_sho_clashesAmong195 p1 I) (pR X g I) := by
  obtain ⟨d, rfl⟩ : ∃ k, d = k + 1 := ⟨d - 1, by omega⟩
  unfold f_sho_clashesAmong195
  refine Go_blk 4 (pc' := 4) (L' := [(3, .int (0 : Int32)), (2, .int (0 : Int32)), (0, .ref 3), (1, .int p1)]) (S' := []) (h' := (hh X g I)) rfl ?_
  refine Go_lcs [(0, .ref 3), (1, .int p1), (2, .int (0 : Int32)), (3, .int (0 : Int32))] rfl ⟨rfl, rfl, rfl, rfl, trivial⟩ ?_
  refine Go_seq (pcj := 73) (fun (b2 : Int32) => [(2, .int b2)]) (fun (b2 : Int32) => []) (fun (b2 : Int32) => (hh X g I)) (fun b2 => ?_) ?_
  ·
    refine Go_blk 1 (pc' := 74) (L' := [(2, .int b2)]) (S' := [.int b2]) (h' := (hh X g I)) rfl ?_
    exact Go_ret (fun _ h => h) rfl
  ·
    refine Go_wh (fun (s1 : Int32 × Int32) => [(0, .ref 3), (1, .int p1), (2, .int s1.1), (3, .int s1.2)]) (fun _ => []) (fun (s1 : Int32 × Int32) => (hh X g I)) (fun s1 => ?_) ((0 : Int32), (0 : Int32))
    refine Go_blk 3 (pc' := 9) (L' := [(0, .ref 3), (1, .int p1), (2, .int s1.1), (3, .int s1.2)]) (S' := [.int (I 3 7), .int s1.2]) (h' := (hh X g I)) rfl ?_
    refine Go_cmpn rfl rfl (ab_cge _ _) ?_ ?_
    ·
      refine Go_blk 4 (pc' := 17) (L' := [(4, .int (s1.2 + (1 : Int32))), (0, .ref 3), (1, .int p1), (2, .int s1.1), (3, .int s1.2)]) (S' := []) (h' := (hh X g I)) rfl ?_
      refine Go_lcs [(0, .ref 3), (1, .int p1), (2, .int s1.1), (3, .int s1.2), (4, .int (s1.2 + (1 : Int32)))] rfl ⟨rfl, rfl, rfl, rfl, rfl, trivial⟩ ?_
      refine Go_seq (pcj := 67) (fun (b4 : Int32) => [(0, .ref 3), (1, .int p1), (2, .int b4), (3, .int s1.2)]) (fun (b4 : Int32) => []) (fun (b4 : Int32) => (hh X g I)) (fun b4 => ?_) ?_
      ·
        refine Go_blk 2 (pc' := 4) (L' := [(3, .int (s1.2 + (1 : Int32))), (0, .ref 3), (1, .int p1), (2, .int b4)]) (S' := []) (h' := (hh X g I)) rfl ?_
        exact Go_jmp [(0, .ref 3), (1, .int p1), (2, .int b4), (3, .int (s1.2 + (1 : Int32)))] rfl ⟨rfl, rfl, rfl, rfl, trivial⟩ (fun _ h => h)
      ·
        refine Go_wh (fun (s3 : Int32 × Int32) => [(0, .ref 3), (1, .int p1), (2, .int s3.1), (3, .int s1.2), (4, .int s3.2)]) (fun _ => []) (fun (s3 : Int32 × Int32) => (hh X g I)) (fun s3 => ?_) (s1.1, (s1.2 + (1 : Int32)))
        refine Go_blk 3 (pc' := 23) (L' := [(0, .ref 3), (1, .int p1), (2, .int s3.1), (3, .int s1.2), (4, .int s3.2)]) (S' := [.int (I 3 7), .int s3.2]) (h' := (hh X g I)) rfl ?_
        refine Go_cmpn rfl rfl (ab_cge _ _) ?_ ?_
        ·
          refine Go_blk 3 (pc' := 29) (L' := [(0, .ref 3), (1, .int p1), (2, .int s3.1), (3, .int s1.2), (4, .int s3.2)]) (S' := [.int s1.2, .int p1, .int s3.1]) (h' := (hh X g I)) rfl ?_
          refine Go_cR (y' := 26) (As := [.int p1, .int s1.2]) (r := [.int s3.1]) rfl (g_x_holds26 p1 s1.2 (by omega)) fun v5 => ?_
          refine Go_seq (pcj := 59) (fun (b6 : Int32) => [(0, .ref 3), (1, .int p1), (3, .int s1.2), (4, .int s3.2)]) (fun (b6 : Int32) => [.int b6, .int s3.1]) (fun (b6 : Int32) => (hh X g I)) (fun b6 => ?_) ?_
          ·
            refine Go_blk 4 (pc' := 17) (L' := [(4, .int (s3.2 + (1 : Int32))), (2, .int (s3.1 + b6)), (0, .ref 3), (1, .int p1), (3, .int s1.2)]) (S' := []) (h' := (hh X g I)) rfl ?_
            exact Go_jmp [(0, .ref 3), (1, .int p1), (2, .int (s3.1 + b6)), (3, .int s1.2), (4, .int (s3.2 + (1 : Int32)))] rfl ⟨rfl, rfl, rfl, rfl, rfl, trivial⟩ (fun _ h => h)
          ·
            refine Go_cmz rfl rfl rfl ?_ ?_
            ·
              refine Go_blk 1 (pc' := 59) (L' := [(0, .ref 3), (1, .int p1), (2, .int s3.1), (3, .int s1.2), (4, .int s3.2)]) (S' := [.int (0 : Int32), .int s3.1]) (h' := (hh X g I)) rfl ?_
              exact Go_jmp [(0, .ref 3), (1, .int p1), (3, .int s1.2), (4, .int s3.2)] rfl ⟨rfl, rfl, rfl, rfl, trivial⟩ (fun _ h => h)
            ·
              refine Go_blk 2 (pc' := 38) (L' := [(0, .ref 3), (1, .int p1), (2, .int s3.1), (3, .int s1.2), (4, .int s3.2)]) (S' := [.int s3.2, .int p1, .int s3.1]) (h' := (hh X g I)) rfl ?_
              refine Go_cR (y' := 26) (As := [.int p1, .int s3.2]) (r := [.int s3.1]) rfl (g_x_holds26 p1 s3.2 (by omega)) fun v7 => ?_
              refine Go_cmz rfl rfl rfl ?_ ?_
              ·
                refine Go_blk 1 (pc' := 59) (L' := [(0, .ref 3), (1, .int p1), (2, .int s3.1), (3, .int s1.2), (4, .int s3.2)]) (S' := [.int (0 : Int32), .int s3.1]) (h' := (hh X g I)) rfl ?_
                exact Go_jmp [(0, .ref 3), (1, .int p1), (3, .int s1.2), (4, .int s3.2)] rfl ⟨rfl, rfl, rfl, rfl, trivial⟩ (fun _ h => h)
              ·
                refine Go_blk 3 (pc' := 48) (L' := [(0, .ref 3), (1, .int p1), (2, .int s3.1), (3, .int s1.2), (4, .int s3.2)]) (S' := [.int s3.2, .int s1.2, .ref 3, .int s3.1]) (h' := (hh X g I)) rfl ?_
                refine Go_cR (y' := 196) (As := [.ref 3, .int s1.2, .int s3.2]) (r := [.int s3.1]) rfl (g_sho_clash196 s1.2 s3.2 (by omega)) fun v8 => ?_
                refine Go_cmz rfl rfl rfl ?_ ?_
                ·
                  refine Go_blk 1 (pc' := 59) (L' := [(0, .ref 3), (1, .int p1), (2, .int s3.1), (3, .int s1.2), (4, .int s3.2)]) (S' := [.int (0 : Int32), .int s3.1]) (h' := (hh X g I)) rfl ?_
                  exact Go_jmp [(0, .ref 3), (1, .int p1), (3, .int s1.2), (4, .int s3.2)] rfl ⟨rfl, rfl, rfl, rfl, trivial⟩ (fun _ h => h)
                ·
                  refine Go_blk 2 (pc' := 59) (L' := [(0, .ref 3), (1, .int p1), (2, .int s3.1), (3, .int s1.2), (4, .int s3.2)]) (S' := [.int (1 : Int32), .int s3.1]) (h' := (hh X g I)) rfl ?_
                  exact Go_jmp [(0, .ref 3), (1, .int p1), (3, .int s1.2), (4, .int s3.2)] rfl ⟨rfl, rfl, rfl, rfl, trivial⟩ (fun _ h => h)
        ·
          exact Go_jmp [(0, .ref 3), (1, .int p1), (2, .int s3.1), (3, .int s1.2)] rfl ⟨rfl, rfl, rfl, rfl, trivial⟩ (fun _ h => h)
    ·
      exact Go_jmp [(2, .int s1.1)] rfl ⟨rfl, trivial⟩ (fun _ h => h)
set_option maxRecDepth 1000000 in
set_option maxHeartbeats 4000000 in
theorem g_x_clashes194 (p1 : Int32) {X : XX} {g : GG} {I : MJ} {d : Nat} (hd : 4 ≤ d) : Go d 194 0 (lv_args 0 [.ref 0, .int p1]) [] (hh X g I) (f_x_clashes194 p1 I) (pT vI X g) := by
  obtain ⟨d, rfl⟩ : ∃ k, d = k + 1 := ⟨d - 1, by omega⟩
  unfold f_x_clashes194
  refine Go_blk 5 (pc' := 9) (L' := [(0, .ref 0), (1, .int p1)]) (S' := [.int (I 3 6), .int p1, .ref 0]) (h' := (hh X g I)) rfl ?_
  refine Go_cT (y' := 69) (As := [.ref 0, .int p1, .int (I 3 6)]) (r := []) rfl rfl (g_x_needElement69 p1 (I 3 6) (by omega)) fun v1 I2 => ?_
  refine Go_blk 5 (pc' := 21) (L' := [(0, .ref 0), (1, .int p1)]) (S' := [.int p1, .ref 3, .ref 3]) (h' := (hh X g I2)) rfl ?_
  refine Go_cR (y' := 151) (As := [.ref 3, .int p1]) (r := [.ref 3]) rfl (g_sho_wantsOf151 p1 (by omega)) fun v3 => ?_
  refine Go_cR (y' := 195) (As := [.ref 3, .int v3]) (r := []) rfl (g_sho_clashesAmong195 v3 (by omega)) fun v4 => ?_
  exact Go_ret (fun _ h => h) rfl
set_option maxRecDepth 1000000 in
set_option maxHeartbeats 4000000 in
theorem g_l_clashes193 (p1 : Int32) {X : XX} {g : GG} {I : MJ} {d : Nat} (hd : 5 ≤ d) : Go d 193 0 (lv_args 0 [.ref 0, .int p1, .ref 698]) [] (hh X g I) (f_l_clashes193 p1 I g) (pG X) := by
  obtain ⟨d, rfl⟩ : ∃ k, d = k + 1 := ⟨d - 1, by omega⟩
  unfold f_l_clashes193
  refine Go_blk 4 (pc' := 4) (L' := [(0, .ref 0), (1, .int p1), (2, .ref 698)]) (S' := [.int p1, .ref 0, .int (0 : Int32), .ref 698]) (h' := (hh X g I)) rfl ?_
  refine Go_try (y' := 194) (As := [.ref 0, .int p1]) (r := [.int (0 : Int32), .ref 698]) rfl (g_x_clashes194 p1 (by omega)) (fun v1 I2 => ?_) (fun E2 I2 => ?_)
  ·
    refine Go_blk 1 (pc' := 8) (L' := [(0, .ref 0), (1, .int p1), (2, .ref 698)]) (S' := [.long (v1.toInt64), .int (0 : Int32), .ref 698]) (h' := (hh X g I2)) rfl ?_
    refine Go_last rfl fun g3 => ?_
    refine Go_blk 2 (pc' := 16) (L' := [(0, .ref 0), (1, .int p1), (2, .ref 698)]) (S' := [.int (0 : Int32)]) (h' := (hh X g3 I2)) rfl ?_
    exact Go_ret (fun _ h => h) rfl
  ·
    refine GX_ite ?_ ?_
    ·
      refine GX_go rfl (t := 13) (k := 3) rfl ?_
      refine Go_blk 1 (pc' := 14) (L' := [(0, .ref 0), (1, .int p1), (2, .ref 698)]) (S' := [.int (1 : Int32)]) (h' := (hh X (thr g) I2)) rfl ?_
      exact Go_ret (fun _ h => h) rfl
    exact GX_none
set_option maxRecDepth 1000000 in
set_option maxHeartbeats 4000000 in
theorem g_m_isClash350 (p1 : Int32) (p2 : Int32) {X : XX} {g : GG} {I : MJ} {d : Nat} (hd : 0 ≤ d) : Go d 350 0 (lv_args 0 [.ref 47, .int p1, .int p2]) [] (hh X g I) (f_m_isClash350 p1 p2 I) (pR X g I) := by
  unfold f_m_isClash350
  refine Go_blk 3 (pc' := 5) (L' := [(0, .ref 47), (1, .int p1), (2, .int p2)]) (S' := [.int p1, .ref 93]) (h' := (hh X g I)) rfl ?_
  refine Go_aald rfl fun r1 => ?_
  refine Go_blk 1 (pc' := 7) (L' := [(0, .ref 47), (1, .int p1), (2, .int p2)]) (S' := [.int (3 : Int32), .ref r1]) (h' := (hh X g I)) rfl ?_
  refine Go_iald rfl fun v2 => ?_
  refine Go_blk 3 (pc' := 13) (L' := [(0, .ref 47), (1, .int p1), (2, .int p2)]) (S' := [.int p2, .ref 93, .int v2]) (h' := (hh X g I)) rfl ?_
  refine Go_aald rfl fun r3 => ?_
  refine Go_blk 1 (pc' := 15) (L' := [(0, .ref 47), (1, .int p1), (2, .int p2)]) (S' := [.int (3 : Int32), .ref r3, .int v2]) (h' := (hh X g I)) rfl ?_
  refine Go_iald rfl fun v4 => ?_
  refine Go_seq (pcj := 62) (fun (b5 : Int32) => []) (fun (b5 : Int32) => [.int b5]) (fun (b5 : Int32) => (hh X g I)) (fun b5 => ?_) ?_
  ·
    exact Go_ret (fun _ h => h) rfl
  ·
    refine Go_cmp rfl rfl rfl ?_ ?_
    ·
      refine Go_blk 1 (pc' := 62) (L' := [(0, .ref 47), (1, .int p1), (2, .int p2)]) (S' := [.int (0 : Int32)]) (h' := (hh X g I)) rfl ?_
      exact Go_jmp [] rfl trivial (fun _ h => h)
    ·
      refine Go_blk 3 (pc' := 24) (L' := [(0, .ref 47), (1, .int p1), (2, .int p2)]) (S' := [.int p1, .ref 93]) (h' := (hh X g I)) rfl ?_
      refine Go_aald rfl fun r6 => ?_
      refine Go_blk 1 (pc' := 26) (L' := [(0, .ref 47), (1, .int p1), (2, .int p2)]) (S' := [.int (1 : Int32), .ref r6]) (h' := (hh X g I)) rfl ?_
      refine Go_iald rfl fun v7 => ?_
      refine Go_blk 3 (pc' := 32) (L' := [(0, .ref 47), (1, .int p1), (2, .int p2)]) (S' := [.int p2, .ref 93, .int v7]) (h' := (hh X g I)) rfl ?_
      refine Go_aald rfl fun r8 => ?_
      refine Go_blk 1 (pc' := 34) (L' := [(0, .ref 47), (1, .int p1), (2, .int p2)]) (S' := [.int (2 : Int32), .ref r8, .int v7]) (h' := (hh X g I)) rfl ?_
      refine Go_iald rfl fun v9 => ?_
      refine Go_cmp rfl rfl rfl ?_ ?_
      ·
        refine Go_blk 1 (pc' := 62) (L' := [(0, .ref 47), (1, .int p1), (2, .int p2)]) (S' := [.int (0 : Int32)]) (h' := (hh X g I)) rfl ?_
        exact Go_jmp [] rfl trivial (fun _ h => h)
      ·
        refine Go_blk 3 (pc' := 43) (L' := [(0, .ref 47), (1, .int p1), (2, .int p2)]) (S' := [.int p2, .ref 93]) (h' := (hh X g I)) rfl ?_
        refine Go_aald rfl fun r10 => ?_
        refine Go_blk 1 (pc' := 45) (L' := [(0, .ref 47), (1, .int p1), (2, .int p2)]) (S' := [.int (1 : Int32), .ref r10]) (h' := (hh X g I)) rfl ?_
        refine Go_iald rfl fun v11 => ?_
        refine Go_blk 3 (pc' := 51) (L' := [(0, .ref 47), (1, .int p1), (2, .int p2)]) (S' := [.int p1, .ref 93, .int v11]) (h' := (hh X g I)) rfl ?_
        refine Go_aald rfl fun r12 => ?_
        refine Go_blk 1 (pc' := 53) (L' := [(0, .ref 47), (1, .int p1), (2, .int p2)]) (S' := [.int (2 : Int32), .ref r12, .int v11]) (h' := (hh X g I)) rfl ?_
        refine Go_iald rfl fun v13 => ?_
        refine Go_cmp rfl rfl rfl ?_ ?_
        ·
          refine Go_blk 1 (pc' := 62) (L' := [(0, .ref 47), (1, .int p1), (2, .int p2)]) (S' := [.int (0 : Int32)]) (h' := (hh X g I)) rfl ?_
          exact Go_jmp [] rfl trivial (fun _ h => h)
        ·
          refine Go_blk 2 (pc' := 62) (L' := [(0, .ref 47), (1, .int p1), (2, .int p2)]) (S' := [.int (1 : Int32)]) (h' := (hh X g I)) rfl ?_
          exact Go_jmp [] rfl trivial (fun _ h => h)
set_option maxRecDepth 1000000 in
set_option maxHeartbeats 4000000 in
theorem g_m_clashes349 (p1 : Int32) {X : XX} {g : GG} {I : MJ} {d : Nat} (hd : 2 ≤ d) : Go d 349 0 (lv_args 0 [.ref 47, .int p1]) [] (hh X g I) (f_m_clashes349 p1 I) (pW X g) := by
  obtain ⟨d, rfl⟩ : ∃ k, d = k + 1 := ⟨d - 1, by omega⟩
  unfold f_m_clashes349
  refine Go_blk 6 (pc' := 8) (L' := [(0, .ref 47), (1, .int p1)]) (S' := [.int p1, .ref 47, .ref 47]) (h' := (hh X g (ab_up1 I 47 0 (0 : Int32)))) rfl ?_
  refine Go_cR (y' := 328) (As := [.ref 47, .int p1]) (r := [.ref 47]) rfl (g_m_isClient328 p1 (by omega)) fun v1 => ?_
  refine Go_seq (pcj := 19) (fun (b2 : Int32) => [(0, .ref 47), (1, .int p1)]) (fun (b2 : Int32) => [.int b2, .ref 47]) (fun (b2 : Int32) => (hh X g (ab_up1 I 47 0 (0 : Int32)))) (fun b2 => ?_) ?_
  ·
    refine Go_blk 2 (pc' := 21) (L' := [(0, .ref 47), (1, .int p1)]) (S' := [.int (0 : Int32), .int (1 : Int32), .int b2, .ref 47]) (h' := (hh X g (ab_up1 I 47 0 (0 : Int32)))) rfl ?_
    refine Go_cW (y' := 268) (As := [.ref 47, .int b2, .int (1 : Int32), .int (0 : Int32)]) (r := []) rfl (g_m_bad268 b2 (1 : Int32) (0 : Int32) (by omega)) fun w3 => ?_
    refine Go_cmz rfl rfl rfl ?_ ?_
    ·
      refine Go_blk 4 (pc' := 33) (L' := [(3, .int (0 : Int32)), (2, .int (0 : Int32)), (0, .ref 47), (1, .int p1)]) (S' := []) (h' := (hh X g w3.2)) rfl ?_
      refine Go_lcs [(0, .ref 47), (1, .int p1), (2, .int (0 : Int32)), (3, .int (0 : Int32))] rfl ⟨rfl, rfl, rfl, rfl, trivial⟩ ?_
      refine Go_seq (pcj := 107) (fun (b5 : Int32) => [(2, .int b5)]) (fun (b5 : Int32) => []) (fun (b5 : Int32) => (hh X g w3.2)) (fun b5 => ?_) ?_
      ·
        refine Go_blk 1 (pc' := 108) (L' := [(2, .int b5)]) (S' := [.int b5]) (h' := (hh X g w3.2)) rfl ?_
        exact Go_ret (fun _ h => h) rfl
      ·
        refine Go_wh (fun (s4 : Int32 × Int32) => [(0, .ref 47), (1, .int p1), (2, .int s4.1), (3, .int s4.2)]) (fun _ => []) (fun (s4 : Int32 × Int32) => (hh X g w3.2)) (fun s4 => ?_) ((0 : Int32), (0 : Int32))
        refine Go_blk 5 (pc' := 40) (L' := [(0, .ref 47), (1, .int p1), (2, .int s4.1), (3, .int s4.2)]) (S' := [.int (w3.2 51 2), .int s4.2]) (h' := (hh X g w3.2)) rfl ?_
        refine Go_cmpn rfl rfl (ab_cge _ _) ?_ ?_
        ·
          refine Go_blk 2 (pc' := 46) (L' := [(4, .int (0 : Int32)), (0, .ref 47), (1, .int p1), (2, .int s4.1), (3, .int s4.2)]) (S' := []) (h' := (hh X g w3.2)) rfl ?_
          refine Go_lcs [(0, .ref 47), (1, .int p1), (2, .int s4.1), (3, .int s4.2), (4, .int (0 : Int32))] rfl ⟨rfl, rfl, rfl, rfl, rfl, trivial⟩ ?_
          refine Go_seq (pcj := 101) (fun (b7 : Int32) => [(0, .ref 47), (1, .int p1), (2, .int b7), (3, .int s4.2)]) (fun (b7 : Int32) => []) (fun (b7 : Int32) => (hh X g w3.2)) (fun b7 => ?_) ?_
          ·
            refine Go_blk 2 (pc' := 33) (L' := [(3, .int (s4.2 + (1 : Int32))), (0, .ref 47), (1, .int p1), (2, .int b7)]) (S' := []) (h' := (hh X g w3.2)) rfl ?_
            exact Go_jmp [(0, .ref 47), (1, .int p1), (2, .int b7), (3, .int (s4.2 + (1 : Int32)))] rfl ⟨rfl, rfl, rfl, rfl, trivial⟩ (fun _ h => h)
          ·
            refine Go_wh (fun (s6 : Int32 × Int32) => [(0, .ref 47), (1, .int p1), (2, .int s6.1), (3, .int s4.2), (4, .int s6.2)]) (fun _ => []) (fun (s6 : Int32 × Int32) => (hh X g w3.2)) (fun s6 => ?_) (s4.1, (0 : Int32))
            refine Go_blk 2 (pc' := 49) (L' := [(0, .ref 47), (1, .int p1), (2, .int s6.1), (3, .int s4.2), (4, .int s6.2)]) (S' := [.int s4.2, .int s6.2]) (h' := (hh X g w3.2)) rfl ?_
            refine Go_cmpn rfl rfl (ab_cge _ _) ?_ ?_
            ·
              refine Go_blk 4 (pc' := 58) (L' := [(0, .ref 47), (1, .int p1), (2, .int s6.1), (3, .int s4.2), (4, .int s6.2)]) (S' := [.int s4.2, .ref 93, .int s6.1]) (h' := (hh X g w3.2)) rfl ?_
              refine Go_aald rfl fun r8 => ?_
              refine Go_blk 1 (pc' := 60) (L' := [(0, .ref 47), (1, .int p1), (2, .int s6.1), (3, .int s4.2), (4, .int s6.2)]) (S' := [.int (0 : Int32), .ref r8, .int s6.1]) (h' := (hh X g w3.2)) rfl ?_
              refine Go_iald rfl fun v9 => ?_
              refine Go_blk 1 (pc' := 62) (L' := [(0, .ref 47), (1, .int p1), (2, .int s6.1), (3, .int s4.2), (4, .int s6.2)]) (S' := [.int p1, .int v9, .int s6.1]) (h' := (hh X g w3.2)) rfl ?_
              refine Go_seq (pcj := 93) (fun (b10 : Int32) => [(0, .ref 47), (1, .int p1), (3, .int s4.2), (4, .int s6.2)]) (fun (b10 : Int32) => [.int b10, .int s6.1]) (fun (b10 : Int32) => (hh X g w3.2)) (fun b10 => ?_) ?_
              ·
                refine Go_blk 4 (pc' := 46) (L' := [(4, .int (s6.2 + (1 : Int32))), (2, .int (s6.1 + b10)), (0, .ref 47), (1, .int p1), (3, .int s4.2)]) (S' := []) (h' := (hh X g w3.2)) rfl ?_
                exact Go_jmp [(0, .ref 47), (1, .int p1), (2, .int (s6.1 + b10)), (3, .int s4.2), (4, .int (s6.2 + (1 : Int32)))] rfl ⟨rfl, rfl, rfl, rfl, rfl, trivial⟩ (fun _ h => h)
              ·
                refine Go_cmpn rfl rfl rfl ?_ ?_
                ·
                  refine Go_blk 3 (pc' := 71) (L' := [(0, .ref 47), (1, .int p1), (2, .int s6.1), (3, .int s4.2), (4, .int s6.2)]) (S' := [.int s6.2, .ref 93, .int s6.1]) (h' := (hh X g w3.2)) rfl ?_
                  refine Go_aald rfl fun r11 => ?_
                  refine Go_blk 1 (pc' := 73) (L' := [(0, .ref 47), (1, .int p1), (2, .int s6.1), (3, .int s4.2), (4, .int s6.2)]) (S' := [.int (0 : Int32), .ref r11, .int s6.1]) (h' := (hh X g w3.2)) rfl ?_
                  refine Go_iald rfl fun v12 => ?_
                  refine Go_blk 1 (pc' := 75) (L' := [(0, .ref 47), (1, .int p1), (2, .int s6.1), (3, .int s4.2), (4, .int s6.2)]) (S' := [.int p1, .int v12, .int s6.1]) (h' := (hh X g w3.2)) rfl ?_
                  refine Go_cmpn rfl rfl rfl ?_ ?_
                  ·
                    refine Go_blk 3 (pc' := 82) (L' := [(0, .ref 47), (1, .int p1), (2, .int s6.1), (3, .int s4.2), (4, .int s6.2)]) (S' := [.int s6.2, .int s4.2, .ref 47, .int s6.1]) (h' := (hh X g w3.2)) rfl ?_
                    refine Go_cR (y' := 350) (As := [.ref 47, .int s4.2, .int s6.2]) (r := [.int s6.1]) rfl (g_m_isClash350 s4.2 s6.2 (by omega)) fun v13 => ?_
                    refine Go_cmz rfl rfl rfl ?_ ?_
                    ·
                      refine Go_blk 1 (pc' := 93) (L' := [(0, .ref 47), (1, .int p1), (2, .int s6.1), (3, .int s4.2), (4, .int s6.2)]) (S' := [.int (0 : Int32), .int s6.1]) (h' := (hh X g w3.2)) rfl ?_
                      exact Go_jmp [(0, .ref 47), (1, .int p1), (3, .int s4.2), (4, .int s6.2)] rfl ⟨rfl, rfl, rfl, rfl, trivial⟩ (fun _ h => h)
                    ·
                      refine Go_blk 2 (pc' := 93) (L' := [(0, .ref 47), (1, .int p1), (2, .int s6.1), (3, .int s4.2), (4, .int s6.2)]) (S' := [.int (1 : Int32), .int s6.1]) (h' := (hh X g w3.2)) rfl ?_
                      exact Go_jmp [(0, .ref 47), (1, .int p1), (3, .int s4.2), (4, .int s6.2)] rfl ⟨rfl, rfl, rfl, rfl, trivial⟩ (fun _ h => h)
                  ·
                    refine Go_blk 1 (pc' := 93) (L' := [(0, .ref 47), (1, .int p1), (2, .int s6.1), (3, .int s4.2), (4, .int s6.2)]) (S' := [.int (0 : Int32), .int s6.1]) (h' := (hh X g w3.2)) rfl ?_
                    exact Go_jmp [(0, .ref 47), (1, .int p1), (3, .int s4.2), (4, .int s6.2)] rfl ⟨rfl, rfl, rfl, rfl, trivial⟩ (fun _ h => h)
                ·
                  refine Go_blk 1 (pc' := 93) (L' := [(0, .ref 47), (1, .int p1), (2, .int s6.1), (3, .int s4.2), (4, .int s6.2)]) (S' := [.int (0 : Int32), .int s6.1]) (h' := (hh X g w3.2)) rfl ?_
                  exact Go_jmp [(0, .ref 47), (1, .int p1), (3, .int s4.2), (4, .int s6.2)] rfl ⟨rfl, rfl, rfl, rfl, trivial⟩ (fun _ h => h)
            ·
              exact Go_jmp [(0, .ref 47), (1, .int p1), (2, .int s6.1), (3, .int s4.2)] rfl ⟨rfl, rfl, rfl, rfl, trivial⟩ (fun _ h => h)
        ·
          exact Go_jmp [(2, .int s4.1)] rfl ⟨rfl, trivial⟩ (fun _ h => h)
    ·
      refine Go_blk 1 (pc' := 28) (L' := [(0, .ref 47), (1, .int p1)]) (S' := [.int (0 : Int32)]) (h' := (hh X g w3.2)) rfl ?_
      exact Go_ret (fun _ h => h) rfl
  ·
    refine Go_cmzn rfl rfl rfl ?_ ?_
    ·
      refine Go_blk 2 (pc' := 19) (L' := [(0, .ref 47), (1, .int p1)]) (S' := [.int (1 : Int32), .ref 47]) (h' := (hh X g (ab_up1 I 47 0 (0 : Int32)))) rfl ?_
      exact Go_jmp [(0, .ref 47), (1, .int p1)] rfl ⟨rfl, rfl, trivial⟩ (fun _ h => h)
    ·
      refine Go_blk 1 (pc' := 19) (L' := [(0, .ref 47), (1, .int p1)]) (S' := [.int (0 : Int32), .ref 47]) (h' := (hh X g (ab_up1 I 47 0 (0 : Int32)))) rfl ?_
      exact Go_jmp [(0, .ref 47), (1, .int p1)] rfl ⟨rfl, rfl, trivial⟩ (fun _ h => h)
set_option maxRecDepth 1000000 in
set_option maxHeartbeats 4000000 in
theorem g_x_needBits199 (p1 : Int32) (p2 : Int32) {X : XX} {g : GG} {I : MJ} {d : Nat} (hd : 1 ≤ d) : Go d 199 0 (lv_args 0 [.ref 0, .int p1, .int p2]) [] (hh X g I) (f_x_needBits199 p1 p2 I) (pT vU X g) := by
  obtain ⟨d, rfl⟩ : ∃ k, d = k + 1 := ⟨d - 1, by omega⟩
  unfold f_x_needBits199
  refine Go_blk 5 (pc' := 5) (L' := [(0, .ref 0), (1, .int p1), (2, .int p2)]) (S' := [.int (p1 &&& (p2 ^^^ (-1 : Int32)))]) (h' := (hh X g I)) rfl ?_
  refine Go_cmz rfl rfl rfl ?_ ?_
  ·
    exact Go_ret (fun _ h => h) rfl
  ·
    refine Go_blk 1 (pc' := 9) (L' := [(0, .ref 0), (1, .int p1), (2, .int p2)]) (S' := [.ref 0]) (h' := (hh X g I)) rfl ?_
    refine Go_cT (y' := 39) (As := [.ref 0]) (r := []) rfl rfl (g_x_refuseArgument39  (by omega)) fun v1 I2 => ?_
    exact Go_ret (fun _ h => h) rfl
set_option maxRecDepth 1000000 in
set_option maxHeartbeats 4000000 in
theorem g_sho_covers201 (p1 : Int32) (p2 : Int32) {X : XX} {g : GG} {I : MJ} {d : Nat} (hd : 2 ≤ d) : Go d 201 0 (lv_args 0 [.ref 3, .int p1, .int p2]) [] (hh X g I) (f_sho_covers201 p1 p2 I) (pR X g I) := by
  obtain ⟨d, rfl⟩ : ∃ k, d = k + 1 := ⟨d - 1, by omega⟩
  unfold f_sho_covers201
  refine Go_blk 4 (pc' := 4) (L' := [(0, .ref 3), (1, .int p1), (2, .int p2)]) (S' := [.int (1 : Int32), .int p1, .ref 3, .int p2]) (h' := (hh X g I)) rfl ?_
  refine Go_cR (y' := 152) (As := [.ref 3, .int p1, .int (1 : Int32)]) (r := [.int p2]) rfl (g_sho_wantPart152 p1 (1 : Int32) (by omega)) fun v1 => ?_
  refine Go_seq (pcj := 25) (fun (b2 : Int32) => []) (fun (b2 : Int32) => [.int b2]) (fun (b2 : Int32) => (hh X g I)) (fun b2 => ?_) ?_
  ·
    exact Go_ret (fun _ h => h) rfl
  ·
    refine Go_cmp rfl rfl rfl ?_ ?_
    ·
      refine Go_blk 1 (pc' := 25) (L' := [(0, .ref 3), (1, .int p1), (2, .int p2)]) (S' := [.int (0 : Int32)]) (h' := (hh X g I)) rfl ?_
      exact Go_jmp [] rfl trivial (fun _ h => h)
    ·
      refine Go_blk 4 (pc' := 14) (L' := [(0, .ref 3), (1, .int p1), (2, .int p2)]) (S' := [.int (2 : Int32), .int p1, .ref 3, .int p2]) (h' := (hh X g I)) rfl ?_
      refine Go_cR (y' := 152) (As := [.ref 3, .int p1, .int (2 : Int32)]) (r := [.int p2]) rfl (g_sho_wantPart152 p1 (2 : Int32) (by omega)) fun v3 => ?_
      refine Go_cmp rfl rfl rfl ?_ ?_
      ·
        refine Go_blk 1 (pc' := 25) (L' := [(0, .ref 3), (1, .int p1), (2, .int p2)]) (S' := [.int (0 : Int32)]) (h' := (hh X g I)) rfl ?_
        exact Go_jmp [] rfl trivial (fun _ h => h)
      ·
        refine Go_blk 2 (pc' := 25) (L' := [(0, .ref 3), (1, .int p1), (2, .int p2)]) (S' := [.int (1 : Int32)]) (h' := (hh X g I)) rfl ?_
        exact Go_jmp [] rfl trivial (fun _ h => h)
set_option maxRecDepth 1000000 in
set_option maxHeartbeats 4000000 in
theorem g_sho_kindWanted200 (p1 : Int32) (p2 : Int32) {X : XX} {g : GG} {I : MJ} {d : Nat} (hd : 3 ≤ d) : Go d 200 0 (lv_args 0 [.ref 3, .int p1, .int p2]) [] (hh X g I) (f_sho_kindWanted200 p1 p2 I) (pR X g I) := by
  obtain ⟨d, rfl⟩ : ∃ k, d = k + 1 := ⟨d - 1, by omega⟩
  unfold f_sho_kindWanted200
  refine Go_blk 2 (pc' := 2) (L' := [(3, .int (0 : Int32)), (0, .ref 3), (1, .int p1), (2, .int p2)]) (S' := []) (h' := (hh X g I)) rfl ?_
  refine Go_lcs [(0, .ref 3), (1, .int p1), (2, .int p2), (3, .int (0 : Int32))] rfl ⟨rfl, rfl, rfl, rfl, trivial⟩ ?_
  refine Go_wh (fun (s1 : Int32) => [(0, .ref 3), (1, .int p1), (2, .int p2), (3, .int s1)]) (fun _ => []) (fun (s1 : Int32) => (hh X g I)) (fun s1 => ?_) (0 : Int32)
  refine Go_blk 3 (pc' := 7) (L' := [(0, .ref 3), (1, .int p1), (2, .int p2), (3, .int s1)]) (S' := [.int (I 3 7), .int s1]) (h' := (hh X g I)) rfl ?_
  refine Go_cmpn rfl rfl (ab_cge _ _) ?_ ?_
  ·
    refine Go_blk 2 (pc' := 12) (L' := [(0, .ref 3), (1, .int p1), (2, .int p2), (3, .int s1)]) (S' := [.int s1, .int p1]) (h' := (hh X g I)) rfl ?_
    refine Go_cR (y' := 26) (As := [.int p1, .int s1]) (r := []) rfl (g_x_holds26 p1 s1 (by omega)) fun v2 => ?_
    refine Go_cmz rfl rfl rfl ?_ ?_
    ·
      refine Go_blk 2 (pc' := 2) (L' := [(3, .int (s1 + (1 : Int32))), (0, .ref 3), (1, .int p1), (2, .int p2)]) (S' := []) (h' := (hh X g I)) rfl ?_
      exact Go_jmp [(0, .ref 3), (1, .int p1), (2, .int p2), (3, .int (s1 + (1 : Int32)))] rfl ⟨rfl, rfl, rfl, rfl, trivial⟩ (fun _ h => h)
    ·
      refine Go_blk 3 (pc' := 21) (L' := [(0, .ref 3), (1, .int p1), (2, .int p2), (3, .int s1)]) (S' := [.int p2, .int s1, .ref 3]) (h' := (hh X g I)) rfl ?_
      refine Go_cR (y' := 201) (As := [.ref 3, .int s1, .int p2]) (r := []) rfl (g_sho_covers201 s1 p2 (by omega)) fun v3 => ?_
      refine Go_cmz rfl rfl rfl ?_ ?_
      ·
        refine Go_blk 2 (pc' := 2) (L' := [(3, .int (s1 + (1 : Int32))), (0, .ref 3), (1, .int p1), (2, .int p2)]) (S' := []) (h' := (hh X g I)) rfl ?_
        exact Go_jmp [(0, .ref 3), (1, .int p1), (2, .int p2), (3, .int (s1 + (1 : Int32)))] rfl ⟨rfl, rfl, rfl, rfl, trivial⟩ (fun _ h => h)
      ·
        refine Go_inr ?_
        refine Go_blk 3 (pc' := 30) (L' := [(0, .ref 3), (1, .int p1), (2, .int p2), (3, .int s1)]) (S' := [.int (3 : Int32), .int s1, .ref 3]) (h' := (hh X g I)) rfl ?_
        refine Go_cR (y' := 152) (As := [.ref 3, .int s1, .int (3 : Int32)]) (r := []) rfl (g_sho_wantPart152 s1 (3 : Int32) (by omega)) fun v4 => ?_
        exact Go_ret (fun _ h => h) rfl
  ·
    refine Go_inrS ?_
    refine Go_blk 1 (pc' := 41) (L' := [(0, .ref 3), (1, .int p1), (2, .int p2), (3, .int s1)]) (S' := [.int (-1 : Int32)]) (h' := (hh X g I)) rfl ?_
    exact Go_ret (fun _ h => h) rfl
set_option maxRecDepth 1000000 in
set_option maxHeartbeats 4000000 in
theorem g_x_mend198 (p1 : Int32) (p2 : Int32) {X : XX} {g : GG} {I : MJ} {d : Nat} (hd : 4 ≤ d) : Go d 198 0 (lv_args 0 [.ref 0, .int p1, .int p2]) [] (hh X g I) (f_x_mend198 p1 p2 I) (pT vI X g) := by
  obtain ⟨d, rfl⟩ : ∃ k, d = k + 1 := ⟨d - 1, by omega⟩
  unfold f_x_mend198
  refine Go_blk 5 (pc' := 9) (L' := [(0, .ref 0), (1, .int p1), (2, .int p2)]) (S' := [.int (I 3 6), .int p1, .ref 0]) (h' := (hh X g I)) rfl ?_
  refine Go_cT (y' := 69) (As := [.ref 0, .int p1, .int (I 3 6)]) (r := []) rfl rfl (g_x_needElement69 p1 (I 3 6) (by omega)) fun v1 I2 => ?_
  refine Go_blk 5 (pc' := 19) (L' := [(0, .ref 0), (1, .int p1), (2, .int p2)]) (S' := [.int p1, .ref 3, .int p2, .ref 0]) (h' := (hh X g I2)) rfl ?_
  refine Go_cR (y' := 151) (As := [.ref 3, .int p1]) (r := [.int p2, .ref 0]) rfl (g_sho_wantsOf151 p1 (by omega)) fun v3 => ?_
  refine Go_cT (y' := 199) (As := [.ref 0, .int p2, .int v3]) (r := []) rfl rfl (g_x_needBits199 p2 v3 (by omega)) fun v4 I5 => ?_
  refine Go_blk 3 (pc' := 30) (L' := [(0, .ref 0), (1, .int p1), (2, .int p2)]) (S' := [.int p1, .ref 15]) (h' := (hh X g I5)) rfl ?_
  refine Go_cR (y' := 108) (As := [.ref 15, .int p1]) (r := []) rfl (g_sta_hasSuit108_15 p1 (by omega)) fun v6 => ?_
  refine Go_cmz rfl rfl rfl ?_ ?_
  ·
    refine Go_blk 1 (pc' := 48) (L' := [(0, .ref 0), (1, .int p1), (2, .int p2)]) (S' := [.int (-1 : Int32)]) (h' := (hh X g I5)) rfl ?_
    exact Go_ret (fun _ h => h) rfl
  ·
    refine Go_blk 3 (pc' := 41) (L' := [(0, .ref 0), (1, .int p1), (2, .int p2)]) (S' := [.int p2, .ref 3]) (h' := (hh X g I5)) rfl ?_
    refine Go_cR (y' := 195) (As := [.ref 3, .int p2]) (r := []) rfl (g_sho_clashesAmong195 p2 (by omega)) fun v7 => ?_
    refine Go_cmzn rfl rfl (ab_cle0 _) ?_ ?_
    ·
      refine Go_blk 1 (pc' := 48) (L' := [(0, .ref 0), (1, .int p1), (2, .int p2)]) (S' := [.int (-1 : Int32)]) (h' := (hh X g I5)) rfl ?_
      exact Go_ret (fun _ h => h) rfl
    ·
      refine Go_blk 4 (pc' := 54) (L' := [(4, .int (0 : Int32)), (3, .int (0 : Int32)), (0, .ref 0), (1, .int p1), (2, .int p2)]) (S' := []) (h' := (hh X g I5)) rfl ?_
      refine Go_lcs [(0, .ref 0), (1, .int p1), (2, .int p2), (3, .int (0 : Int32)), (4, .int (0 : Int32))] rfl ⟨rfl, rfl, rfl, rfl, rfl, trivial⟩ ?_
      refine Go_seq (pcj := 108) (fun (b9 : Int32) => [(3, .int b9)]) (fun (b9 : Int32) => []) (fun (b9 : Int32) => (hh X g I5)) (fun b9 => ?_) ?_
      ·
        refine Go_blk 1 (pc' := 109) (L' := [(3, .int b9)]) (S' := [.int b9]) (h' := (hh X g I5)) rfl ?_
        exact Go_ret (fun _ h => h) rfl
      ·
        refine Go_wh (fun (s8 : Int32 × Int32) => [(0, .ref 0), (1, .int p1), (2, .int p2), (3, .int s8.1), (4, .int s8.2)]) (fun _ => []) (fun (s8 : Int32 × Int32) => (hh X g I5)) (fun s8 => ?_) ((0 : Int32), (0 : Int32))
        refine Go_blk 2 (pc' := 58) (L' := [(0, .ref 0), (1, .int p1), (2, .int p2), (3, .int s8.1), (4, .int s8.2)]) (S' := [.int (12 : Int32), .int s8.2]) (h' := (hh X g I5)) rfl ?_
        refine Go_cmpn rfl rfl (ab_cge _ _) ?_ ?_
        ·
          refine Go_blk 4 (pc' := 68) (L' := [(0, .ref 0), (1, .int p1), (2, .int p2), (3, .int s8.1), (4, .int s8.2)]) (S' := [.int s8.2, .int p2, .ref 3]) (h' := (hh X g I5)) rfl ?_
          refine Go_cR (y' := 200) (As := [.ref 3, .int p2, .int s8.2]) (r := []) rfl (g_sho_kindWanted200 p2 s8.2 (by omega)) fun v10 => ?_
          refine Go_blk 4 (pc' := 77) (L' := [(5, .int v10), (0, .ref 0), (1, .int p1), (2, .int p2), (3, .int s8.1), (4, .int s8.2)]) (S' := [.int (-1 : Int32), .int v10, .int s8.1]) (h' := (hh X g I5)) rfl ?_
          refine Go_seq (pcj := 100) (fun (b11 : Int32) => [(0, .ref 0), (1, .int p1), (2, .int p2), (4, .int s8.2)]) (fun (b11 : Int32) => [.int b11, .int s8.1]) (fun (b11 : Int32) => (hh X g I5)) (fun b11 => ?_) ?_
          ·
            refine Go_blk 4 (pc' := 54) (L' := [(4, .int (s8.2 + (1 : Int32))), (3, .int (s8.1 + b11)), (0, .ref 0), (1, .int p1), (2, .int p2)]) (S' := []) (h' := (hh X g I5)) rfl ?_
            exact Go_jmp [(0, .ref 0), (1, .int p1), (2, .int p2), (3, .int (s8.1 + b11)), (4, .int (s8.2 + (1 : Int32)))] rfl ⟨rfl, rfl, rfl, rfl, rfl, trivial⟩ (fun _ h => h)
          ·
            refine Go_cmp rfl rfl rfl ?_ ?_
            ·
              refine Go_blk 1 (pc' := 100) (L' := [(5, .int v10), (0, .ref 0), (1, .int p1), (2, .int p2), (3, .int s8.1), (4, .int s8.2)]) (S' := [.int (0 : Int32), .int s8.1]) (h' := (hh X g I5)) rfl ?_
              exact Go_jmp [(0, .ref 0), (1, .int p1), (2, .int p2), (4, .int s8.2)] rfl ⟨rfl, rfl, rfl, rfl, trivial⟩ (fun _ h => h)
            ·
              refine Go_blk 5 (pc' := 89) (L' := [(5, .int v10), (0, .ref 0), (1, .int p1), (2, .int p2), (3, .int s8.1), (4, .int s8.2)]) (S' := [.int s8.2, .int p1, .ref 15, .int v10, .int s8.1]) (h' := (hh X g I5)) rfl ?_
              refine Go_cR (y' := 116) (As := [.ref 15, .int p1, .int s8.2]) (r := [.int v10, .int s8.1]) rfl (g_sta_wornAt116_15 p1 s8.2 (by omega)) fun v12 => ?_
              refine Go_cmp rfl rfl rfl ?_ ?_
              ·
                refine Go_blk 1 (pc' := 100) (L' := [(5, .int v10), (0, .ref 0), (1, .int p1), (2, .int p2), (3, .int s8.1), (4, .int s8.2)]) (S' := [.int (0 : Int32), .int s8.1]) (h' := (hh X g I5)) rfl ?_
                exact Go_jmp [(0, .ref 0), (1, .int p1), (2, .int p2), (4, .int s8.2)] rfl ⟨rfl, rfl, rfl, rfl, trivial⟩ (fun _ h => h)
              ·
                refine Go_blk 2 (pc' := 100) (L' := [(5, .int v10), (0, .ref 0), (1, .int p1), (2, .int p2), (3, .int s8.1), (4, .int s8.2)]) (S' := [.int (1 : Int32), .int s8.1]) (h' := (hh X g I5)) rfl ?_
                exact Go_jmp [(0, .ref 0), (1, .int p1), (2, .int p2), (4, .int s8.2)] rfl ⟨rfl, rfl, rfl, rfl, trivial⟩ (fun _ h => h)
        ·
          exact Go_jmp [(3, .int s8.1)] rfl ⟨rfl, trivial⟩ (fun _ h => h)
set_option maxRecDepth 1000000 in
set_option maxHeartbeats 4000000 in
theorem g_l_mend197 (p1 : Int32) (p2 : Int32) {X : XX} {g : GG} {I : MJ} {d : Nat} (hd : 5 ≤ d) : Go d 197 0 (lv_args 0 [.ref 0, .int p1, .int p2, .ref 698]) [] (hh X g I) (f_l_mend197 p1 p2 I g) (pG X) := by
  obtain ⟨d, rfl⟩ : ∃ k, d = k + 1 := ⟨d - 1, by omega⟩
  unfold f_l_mend197
  refine Go_blk 5 (pc' := 5) (L' := [(0, .ref 0), (1, .int p1), (2, .int p2), (3, .ref 698)]) (S' := [.int p2, .int p1, .ref 0, .int (0 : Int32), .ref 698]) (h' := (hh X g I)) rfl ?_
  refine Go_try (y' := 198) (As := [.ref 0, .int p1, .int p2]) (r := [.int (0 : Int32), .ref 698]) rfl (g_x_mend198 p1 p2 (by omega)) (fun v1 I2 => ?_) (fun E2 I2 => ?_)
  ·
    refine Go_blk 1 (pc' := 9) (L' := [(0, .ref 0), (1, .int p1), (2, .int p2), (3, .ref 698)]) (S' := [.long (v1.toInt64), .int (0 : Int32), .ref 698]) (h' := (hh X g I2)) rfl ?_
    refine Go_last rfl fun g3 => ?_
    refine Go_blk 2 (pc' := 22) (L' := [(0, .ref 0), (1, .int p1), (2, .int p2), (3, .ref 698)]) (S' := [.int (0 : Int32)]) (h' := (hh X g3 I2)) rfl ?_
    exact Go_ret (fun _ h => h) rfl
  ·
    refine GX_ite ?_ ?_
    ·
      refine GX_go rfl (t := 15) (k := 4) rfl ?_
      refine Go_blk 1 (pc' := 16) (L' := [(0, .ref 0), (1, .int p1), (2, .int p2), (3, .ref 698)]) (S' := [.int (1 : Int32)]) (h' := (hh X (thr g) I2)) rfl ?_
      exact Go_ret (fun _ h => h) rfl
    refine GX_ite ?_ ?_
    ·
      refine GX_go rfl (t := 19) (k := 4) rfl ?_
      refine Go_blk 1 (pc' := 20) (L' := [(0, .ref 0), (1, .int p1), (2, .int p2), (3, .ref 698)]) (S' := [.int (2 : Int32)]) (h' := (hh X (thr g) I2)) rfl ?_
      exact Go_ret (fun _ h => h) rfl
    exact GX_none
