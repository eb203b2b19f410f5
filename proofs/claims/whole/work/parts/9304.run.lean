/-! the machine runs them (written by wip/whole/dec.py) -/
set_option maxRecDepth 1000000 in
set_option maxHeartbeats 4000000 in
theorem G_pla_readSteps95 (r : Int32 → MJ → Option (MJ)) (dr : Nat) (hM : 2 ≤ dr) (hr : ∀ (p3 : Int32) (X : XX) (g : GG) (I : MJ), Go dr 95 0 (lv_args 0 [.ref 29, .ref 1, .ref 3, .int p3]) [] (hh X g I) (r p3 I) (pV X g)) (p3 : Int32) {X : XX} {g : GG} {I : MJ} {d : Nat} (hd : dr + 3 ≤ d) : Go d 95 0 (lv_args 0 [.ref 29, .ref 1, .ref 3, .int p3]) [] (hh X g I) (F_pla_readSteps95 r p3 I) (pV X g) := by
  obtain ⟨d, rfl⟩ : ∃ k, d = k + 1 := ⟨d - 1, by omega⟩
  unfold F_pla_readSteps95
  refine Go_blk 2 (pc' := 3) (L' := [(4, .int (0 : Int32)), (0, .ref 29), (1, .ref 1), (2, .ref 3), (3, .int p3)]) (S' := []) (h' := (hh X g I)) rfl ?_
  refine Go_lcs [(0, .ref 29), (1, .ref 1), (2, .ref 3), (3, .int p3), (4, .int (0 : Int32))] rfl ⟨rfl, rfl, rfl, rfl, rfl, trivial⟩ ?_
  refine Go_seq (pcj := 50) (fun (b2 : MJ) => []) (fun (b2 : MJ) => []) (fun (b2 : MJ) => (hh X g b2)) (fun b2 => ?_) ?_
  ·
    exact Go_ret (fun _ h => h) rfl
  ·
    refine Go_wh (fun (s1 : Int32 × MJ) => [(0, .ref 29), (1, .ref 1), (2, .ref 3), (3, .int p3), (4, .int s1.1)]) (fun _ => []) (fun (s1 : Int32 × MJ) => (hh X g s1.2)) (fun s1 => ?_) ((0 : Int32), I)
    refine Go_blk 2 (pc' := 8) (L' := [(0, .ref 29), (1, .ref 1), (2, .ref 3), (3, .int p3), (4, .int s1.1)]) (S' := [.int (200 : Int32), .int s1.1]) (h' := (hh X g s1.2)) rfl ?_
    refine Go_cmp rfl rfl rfl ?_ ?_
    ·
      exact Go_jmp [] rfl trivial (fun _ h => h)
    ·
      refine Go_blk 1 (pc' := 12) (L' := [(0, .ref 29), (1, .ref 1), (2, .ref 3), (3, .int p3), (4, .int s1.1)]) (S' := [.ref 1]) (h' := (hh X g s1.2)) rfl ?_
      refine Go_cW (y' := 42) (As := [.ref 1]) (r := []) rfl (g_tap_hasMore42  (by omega)) fun w3 => ?_
      refine Go_cmz rfl rfl rfl ?_ ?_
      ·
        exact Go_jmp [] rfl trivial (fun _ h => h)
      ·
        refine Go_blk 1 (pc' := 19) (L' := [(0, .ref 29), (1, .ref 1), (2, .ref 3), (3, .int p3), (4, .int s1.1)]) (S' := [.int p3]) (h' := (hh X g w3.2)) rfl ?_
        refine Go_cmzn rfl rfl (ab_cle0 _) ?_ ?_
        ·
          refine Go_blk 2 (pc' := 25) (L' := [(0, .ref 29), (1, .ref 1), (2, .ref 3), (3, .int p3), (4, .int s1.1)]) (S' := [.int (93 : Int32), .ref 1]) (h' := (hh X g w3.2)) rfl ?_
          refine Go_cW (y' := 73) (As := [.ref 1, .int (93 : Int32)]) (r := []) rfl (g_tap_isNext73 (93 : Int32) (by omega)) fun w4 => ?_
          refine Go_cmzn rfl rfl rfl ?_ ?_
          ·
            refine Go_blk 4 (pc' := 35) (L' := [(0, .ref 29), (1, .ref 1), (2, .ref 3), (3, .int p3), (4, .int s1.1)]) (S' := [.int p3, .ref 3, .ref 1, .ref 29]) (h' := (hh X g w4.2)) rfl ?_
            refine Go_cV (y' := 96) (As := [.ref 29, .ref 1, .ref 3, .int p3]) (r := []) rfl (G_pla_readStep96 r dr hM hr p3 (by omega)) fun I5 => ?_
            refine Go_blk 2 (pc' := 41) (L' := [(0, .ref 29), (1, .ref 1), (2, .ref 3), (3, .int p3), (4, .int s1.1)]) (S' := [.int (59 : Int32), .ref 1]) (h' := (hh X g I5)) rfl ?_
            refine Go_cV (y' := 58) (As := [.ref 1, .int (59 : Int32)]) (r := []) rfl (g_tap_sign58 (59 : Int32) (by omega)) fun I6 => ?_
            refine Go_blk 2 (pc' := 3) (L' := [(4, .int (s1.1 + (1 : Int32))), (0, .ref 29), (1, .ref 1), (2, .ref 3), (3, .int p3)]) (S' := []) (h' := (hh X g I6)) rfl ?_
            exact Go_jmp [(0, .ref 29), (1, .ref 1), (2, .ref 3), (3, .int p3), (4, .int (s1.1 + (1 : Int32)))] rfl ⟨rfl, rfl, rfl, rfl, rfl, trivial⟩ (fun _ h => h)
          ·
            exact Go_jmp [] rfl trivial (fun _ h => h)
        ·
          refine Go_blk 4 (pc' := 35) (L' := [(0, .ref 29), (1, .ref 1), (2, .ref 3), (3, .int p3), (4, .int s1.1)]) (S' := [.int p3, .ref 3, .ref 1, .ref 29]) (h' := (hh X g w3.2)) rfl ?_
          refine Go_cV (y' := 96) (As := [.ref 29, .ref 1, .ref 3, .int p3]) (r := []) rfl (G_pla_readStep96 r dr hM hr p3 (by omega)) fun I7 => ?_
          refine Go_blk 2 (pc' := 41) (L' := [(0, .ref 29), (1, .ref 1), (2, .ref 3), (3, .int p3), (4, .int s1.1)]) (S' := [.int (59 : Int32), .ref 1]) (h' := (hh X g I7)) rfl ?_
          refine Go_cV (y' := 58) (As := [.ref 1, .int (59 : Int32)]) (r := []) rfl (g_tap_sign58 (59 : Int32) (by omega)) fun I8 => ?_
          refine Go_blk 2 (pc' := 3) (L' := [(4, .int (s1.1 + (1 : Int32))), (0, .ref 29), (1, .ref 1), (2, .ref 3), (3, .int p3)]) (S' := []) (h' := (hh X g I8)) rfl ?_
          exact Go_jmp [(0, .ref 29), (1, .ref 1), (2, .ref 3), (3, .int p3), (4, .int (s1.1 + (1 : Int32)))] rfl ⟨rfl, rfl, rfl, rfl, rfl, trivial⟩ (fun _ h => h)
theorem g_pla_readSteps95 (k : Nat) : ∀ (p3 : Int32) {X : XX} {g : GG} {I : MJ} {d : Nat}, 2 + 3 * k ≤ d → Go d 95 0 (lv_args 0 [.ref 29, .ref 1, .ref 3, .int p3]) [] (hh X g I) (f_pla_readSteps95 k p3 I) (pV X g) := by
  induction k with
  | zero => intros; exact Go_none
  | succ k ih =>
    intro p3 X g I d hd
    exact G_pla_readSteps95 (f_pla_readSteps95 k) (2 + 3 * k) (by omega) (fun p3 X g I => ih p3 (Nat.le_refl _)) p3 (by omega)
set_option maxRecDepth 1000000 in
set_option maxHeartbeats 4000000 in
theorem g_pla_readFrom94  {X : XX} {g : GG} {I : MJ} {d : Nat} (hd : 51 ≤ d) : Go d 94 0 (lv_args 0 [.ref 29, .ref 1, .ref 3]) [] (hh X g I) (f_pla_readFrom94  I) (pV X g) := by
  obtain ⟨d, rfl⟩ : ∃ k, d = k + 1 := ⟨d - 1, by omega⟩
  unfold f_pla_readFrom94
  refine Go_blk 7 (pc' := 9) (L' := [(0, .ref 29), (1, .ref 1), (2, .ref 3)]) (S' := [.int (0 : Int32), .ref 3, .ref 1, .ref 29]) (h' := (hh X g (ab_up1 I 29 1 (0 : Int32)))) rfl ?_
  refine Go_cV (y' := 95) (As := [.ref 29, .ref 1, .ref 3, .int (0 : Int32)]) (r := []) rfl (g_pla_readSteps95 16 (0 : Int32) (by omega)) fun I1 => ?_
  exact Go_ret (fun _ h => h) rfl
set_option maxRecDepth 1000000 in
set_option maxHeartbeats 4000000 in
theorem g_pas_keepWork99  {X : XX} {g : GG} {I : MJ} {d : Nat} (hd : 1 ≤ d) : Go d 99 0 (lv_args 0 [.ref 31, .ref 15]) [] (hh X g I) (f_pas_keepWork99  I) (pV X g) := by
  obtain ⟨d, rfl⟩ : ∃ k, d = k + 1 := ⟨d - 1, by omega⟩
  unfold f_pas_keepWork99
  refine Go_blk 10 (pc' := 18) (L' := [(0, .ref 31), (1, .ref 15)]) (S' := [.int (91 : Int32), .int ((I 31 3) * (91 : Int32)), .ref 32, .int (0 : Int32), .ref 16]) (h' := (hh X g I)) rfl ?_
  refine Go_cV (y' := 22) (As := [.ref 16, .int (0 : Int32), .ref 32, .int ((I 31 3) * (91 : Int32)), .int (91 : Int32)]) (r := []) rfl (g_x_copy22 16 (0 : Int32) 32 ((I 31 3) * (91 : Int32)) (91 : Int32) (by omega)) fun I1 => ?_
  refine Go_blk 6 (pc' := 31) (L' := [(0, .ref 31), (1, .ref 15)]) (S' := []) (h' := (hh X g (ab_up1 I1 31 3 ((I1 31 3) + (1 : Int32))))) rfl ?_
  exact Go_ret (fun _ h => h) rfl
set_option maxRecDepth 1000000 in
set_option maxHeartbeats 4000000 in
theorem g_pla_begin100  {X : XX} {g : GG} {I : MJ} {d : Nat} (hd : 0 ≤ d) : Go d 100 0 (lv_args 0 [.ref 29]) [] (hh X g I) (f_pla_begin100  I) (pV X g) := by
  unfold f_pla_begin100
  refine Go_blk 9 (pc' := 15) (L' := [(0, .ref 29)]) (S' := []) (h' := (hh X g (ab_up1 (ab_up1 (ab_up1 I 29 2 (0 : Int32)) 29 3 (0 : Int32)) 29 4 (0 : Int32)))) rfl ?_
  exact Go_ret (fun _ h => h) rfl
set_option maxRecDepth 1000000 in
set_option maxHeartbeats 4000000 in
theorem g_pla_part102 (p1 : Int32) (p2 : Int32) {X : XX} {g : GG} {I : MJ} {d : Nat} (hd : 1 ≤ d) : Go d 102 0 (lv_args 0 [.ref 29, .int p1, .int p2]) [] (hh X g I) (f_pla_part102 p1 p2 I) (pR X g I) := by
  obtain ⟨d, rfl⟩ : ∃ k, d = k + 1 := ⟨d - 1, by omega⟩
  unfold f_pla_part102
  refine Go_blk 7 (pc' := 9) (L' := [(0, .ref 29), (1, .int p1), (2, .int p2)]) (S' := [.int (((4 : Int32) * p1) + p2), .ref 30]) (h' := (hh X g I)) rfl ?_
  refine Go_cR (y' := 16) (As := [.ref 30, .int (((4 : Int32) * p1) + p2)]) (r := []) rfl (g_x_at16 30 (((4 : Int32) * p1) + p2) (by omega)) fun v1 => ?_
  exact Go_ret (fun _ h => h) rfl
set_option maxRecDepth 1000000 in
set_option maxHeartbeats 4000000 in
theorem g_sta_copyFrom107_17_15  {X : XX} {g : GG} {I : MJ} {d : Nat} (hd : 1 ≤ d) : Go d 107 0 (lv_args 0 [.ref 17, .ref 15]) [] (hh X g I) (f_sta_copyFrom107 17 15 I) (pV X g) := by
  obtain ⟨d, rfl⟩ : ∃ k, d = k + 1 := ⟨d - 1, by omega⟩
  unfold f_sta_copyFrom107
  refine Go_blk 7 (pc' := 12) (L' := [(0, .ref 17), (1, .ref 15)]) (S' := [.int (91 : Int32), .int (0 : Int32), .ref 18, .int (0 : Int32), .ref 16]) (h' := (hh X g I)) rfl ?_
  refine Go_cV (y' := 22) (As := [.ref 16, .int (0 : Int32), .ref 18, .int (0 : Int32), .int (91 : Int32)]) (r := []) rfl (g_x_copy22 16 (0 : Int32) 18 (0 : Int32) (91 : Int32) (by omega)) fun I1 => ?_
  exact Go_ret (fun _ h => h) rfl
set_option maxRecDepth 1000000 in
set_option maxHeartbeats 4000000 in
theorem g_sta_copyFrom107_15_17  {X : XX} {g : GG} {I : MJ} {d : Nat} (hd : 1 ≤ d) : Go d 107 0 (lv_args 0 [.ref 15, .ref 17]) [] (hh X g I) (f_sta_copyFrom107 15 17 I) (pV X g) := by
  obtain ⟨d, rfl⟩ : ∃ k, d = k + 1 := ⟨d - 1, by omega⟩
  unfold f_sta_copyFrom107
  refine Go_blk 7 (pc' := 12) (L' := [(0, .ref 15), (1, .ref 17)]) (S' := [.int (91 : Int32), .int (0 : Int32), .ref 16, .int (0 : Int32), .ref 18]) (h' := (hh X g I)) rfl ?_
  refine Go_cV (y' := 22) (As := [.ref 18, .int (0 : Int32), .ref 16, .int (0 : Int32), .int (91 : Int32)]) (r := []) rfl (g_x_copy22 18 (0 : Int32) 16 (0 : Int32) (91 : Int32) (by omega)) fun I1 => ?_
  exact Go_ret (fun _ h => h) rfl
set_option maxRecDepth 1000000 in
set_option maxHeartbeats 4000000 in
theorem g_sta_hasSuit108_17 (p1 : Int32) {X : XX} {g : GG} {I : MJ} {d : Nat} (hd : 1 ≤ d) : Go d 108 0 (lv_args 0 [.ref 17, .int p1]) [] (hh X g I) (f_sta_hasSuit108 17 p1 I) (pR X g I) := by
  obtain ⟨d, rfl⟩ : ∃ k, d = k + 1 := ⟨d - 1, by omega⟩
  unfold f_sta_hasSuit108
  refine Go_blk 5 (pc' := 7) (L' := [(0, .ref 17), (1, .int p1)]) (S' := [.int ((3 : Int32) + p1), .ref 18]) (h' := (hh X g I)) rfl ?_
  refine Go_cR (y' := 16) (As := [.ref 18, .int ((3 : Int32) + p1)]) (r := []) rfl (g_x_at16 18 ((3 : Int32) + p1) (by omega)) fun v1 => ?_
  refine Go_blk 1 (pc' := 11) (L' := [(0, .ref 17), (1, .int p1)]) (S' := [.int (-1 : Int32), .int v1]) (h' := (hh X g I)) rfl ?_
  refine Go_seq (pcj := 19) (fun (b2 : Int32) => []) (fun (b2 : Int32) => [.int b2]) (fun (b2 : Int32) => (hh X g I)) (fun b2 => ?_) ?_
  ·
    exact Go_ret (fun _ h => h) rfl
  ·
    refine Go_cmp rfl rfl rfl ?_ ?_
    ·
      refine Go_blk 1 (pc' := 19) (L' := [(0, .ref 17), (1, .int p1)]) (S' := [.int (0 : Int32)]) (h' := (hh X g I)) rfl ?_
      exact Go_jmp [] rfl trivial (fun _ h => h)
    ·
      refine Go_blk 2 (pc' := 19) (L' := [(0, .ref 17), (1, .int p1)]) (S' := [.int (1 : Int32)]) (h' := (hh X g I)) rfl ?_
      exact Go_jmp [] rfl trivial (fun _ h => h)
set_option maxRecDepth 1000000 in
set_option maxHeartbeats 4000000 in
theorem g_sta_hasSuit108_15 (p1 : Int32) {X : XX} {g : GG} {I : MJ} {d : Nat} (hd : 1 ≤ d) : Go d 108 0 (lv_args 0 [.ref 15, .int p1]) [] (hh X g I) (f_sta_hasSuit108 15 p1 I) (pR X g I) := by
  obtain ⟨d, rfl⟩ : ∃ k, d = k + 1 := ⟨d - 1, by omega⟩
  unfold f_sta_hasSuit108
  refine Go_blk 5 (pc' := 7) (L' := [(0, .ref 15), (1, .int p1)]) (S' := [.int ((3 : Int32) + p1), .ref 16]) (h' := (hh X g I)) rfl ?_
  refine Go_cR (y' := 16) (As := [.ref 16, .int ((3 : Int32) + p1)]) (r := []) rfl (g_x_at16 16 ((3 : Int32) + p1) (by omega)) fun v1 => ?_
  refine Go_blk 1 (pc' := 11) (L' := [(0, .ref 15), (1, .int p1)]) (S' := [.int (-1 : Int32), .int v1]) (h' := (hh X g I)) rfl ?_
  refine Go_seq (pcj := 19) (fun (b2 : Int32) => []) (fun (b2 : Int32) => [.int b2]) (fun (b2 : Int32) => (hh X g I)) (fun b2 => ?_) ?_
  ·
    exact Go_ret (fun _ h => h) rfl
  ·
    refine Go_cmp rfl rfl rfl ?_ ?_
    ·
      refine Go_blk 1 (pc' := 19) (L' := [(0, .ref 15), (1, .int p1)]) (S' := [.int (0 : Int32)]) (h' := (hh X g I)) rfl ?_
      exact Go_jmp [] rfl trivial (fun _ h => h)
    ·
      refine Go_blk 2 (pc' := 19) (L' := [(0, .ref 15), (1, .int p1)]) (S' := [.int (1 : Int32)]) (h' := (hh X g I)) rfl ?_
      exact Go_jmp [] rfl trivial (fun _ h => h)
set_option maxRecDepth 1000000 in
set_option maxHeartbeats 4000000 in
theorem g_x_holds26 (p0 : Int32) (p1 : Int32) {X : XX} {g : GG} {I : MJ} {d : Nat} (hd : 0 ≤ d) : Go d 26 0 (lv_args 0 [.int p0, .int p1]) [] (hh X g I) (f_x_holds26 p0 p1 I) (pR X g I) := by
  unfold f_x_holds26
  refine Go_blk 5 (pc' := 5) (L' := [(0, .int p0), (1, .int p1)]) (S' := [.int ((p0 >>> (p1 &&& 31)) &&& (1 : Int32))]) (h' := (hh X g I)) rfl ?_
  refine Go_seq (pcj := 13) (fun (b1 : Int32) => []) (fun (b1 : Int32) => [.int b1]) (fun (b1 : Int32) => (hh X g I)) (fun b1 => ?_) ?_
  ·
    exact Go_ret (fun _ h => h) rfl
  ·
    refine Go_cmz rfl rfl rfl ?_ ?_
    ·
      refine Go_blk 1 (pc' := 13) (L' := [(0, .int p0), (1, .int p1)]) (S' := [.int (0 : Int32)]) (h' := (hh X g I)) rfl ?_
      exact Go_jmp [] rfl trivial (fun _ h => h)
    ·
      refine Go_blk 2 (pc' := 13) (L' := [(0, .int p0), (1, .int p1)]) (S' := [.int (1 : Int32)]) (h' := (hh X g I)) rfl ?_
      exact Go_jmp [] rfl trivial (fun _ h => h)
set_option maxRecDepth 1000000 in
set_option maxHeartbeats 4000000 in
theorem g_pat_isTold25 (p1 : Int32) {X : XX} {g : GG} {I : MJ} {d : Nat} (hd : 1 ≤ d) : Go d 25 0 (lv_args 0 [.ref 19, .int p1]) [] (hh X g I) (f_pat_isTold25 p1 I) (pR X g I) := by
  obtain ⟨d, rfl⟩ : ∃ k, d = k + 1 := ⟨d - 1, by omega⟩
  unfold f_pat_isTold25
  refine Go_blk 1 (pc' := 1) (L' := [(0, .ref 19), (1, .int p1)]) (S' := [.int p1]) (h' := (hh X g I)) rfl ?_
  refine Go_seq (pcj := 26) (fun (b1 : Int32) => []) (fun (b1 : Int32) => [.int b1]) (fun (b1 : Int32) => (hh X g I)) (fun b1 => ?_) ?_
  ·
    exact Go_ret (fun _ h => h) rfl
  ·
    refine Go_cmz rfl rfl rfl ?_ ?_
    ·
      refine Go_blk 1 (pc' := 26) (L' := [(0, .ref 19), (1, .int p1)]) (S' := [.int (0 : Int32)]) (h' := (hh X g I)) rfl ?_
      exact Go_jmp [] rfl trivial (fun _ h => h)
    ·
      refine Go_blk 2 (pc' := 7) (L' := [(0, .ref 19), (1, .int p1)]) (S' := [.int (6 : Int32), .int p1]) (h' := (hh X g I)) rfl ?_
      refine Go_cmpn rfl rfl (ab_cge _ _) ?_ ?_
      ·
        refine Go_blk 3 (pc' := 15) (L' := [(0, .ref 19), (1, .int p1)]) (S' := [.int p1, .int (I 19 3)]) (h' := (hh X g I)) rfl ?_
        refine Go_cR (y' := 26) (As := [.int (I 19 3), .int p1]) (r := []) rfl (g_x_holds26 (I 19 3) p1 (by omega)) fun v2 => ?_
        refine Go_cmz rfl rfl rfl ?_ ?_
        ·
          refine Go_blk 1 (pc' := 26) (L' := [(0, .ref 19), (1, .int p1)]) (S' := [.int (0 : Int32)]) (h' := (hh X g I)) rfl ?_
          exact Go_jmp [] rfl trivial (fun _ h => h)
        ·
          refine Go_blk 2 (pc' := 26) (L' := [(0, .ref 19), (1, .int p1)]) (S' := [.int (1 : Int32)]) (h' := (hh X g I)) rfl ?_
          exact Go_jmp [] rfl trivial (fun _ h => h)
      ·
        refine Go_blk 1 (pc' := 26) (L' := [(0, .ref 19), (1, .int p1)]) (S' := [.int (0 : Int32)]) (h' := (hh X g I)) rfl ?_
        exact Go_jmp [] rfl trivial (fun _ h => h)
set_option maxRecDepth 1000000 in
set_option maxHeartbeats 4000000 in
theorem g_pat_kindAt110 (p1 : Int32) (p2 : Int32) {X : XX} {g : GG} {I : MJ} {d : Nat} (hd : 1 ≤ d) : Go d 110 0 (lv_args 0 [.ref 19, .int p1, .int p2]) [] (hh X g I) (f_pat_kindAt110 p1 p2 I) (pR X g I) := by
  obtain ⟨d, rfl⟩ : ∃ k, d = k + 1 := ⟨d - 1, by omega⟩
  unfold f_pat_kindAt110
  refine Go_blk 7 (pc' := 10) (L' := [(0, .ref 19), (1, .int p1), (2, .int p2)]) (S' := [.int (((12 : Int32) * p1) + p2), .ref 20]) (h' := (hh X g I)) rfl ?_
  refine Go_cR (y' := 16) (As := [.ref 20, .int (((12 : Int32) * p1) + p2)]) (r := []) rfl (g_x_at16 20 (((12 : Int32) * p1) + p2) (by omega)) fun v1 => ?_
  exact Go_ret (fun _ h => h) rfl
set_option maxRecDepth 1000000 in
set_option maxHeartbeats 4000000 in
theorem g_sta_take111_17 (p2 : Int32) (p3 : Int32) {X : XX} {g : GG} {I : MJ} {d : Nat} (hd : 1 ≤ d) : Go d 111 0 (lv_args 0 [.ref 17, .ref 3, .int p2, .int p3]) [] (hh X g I) (f_sta_take111 17 p2 p3 I) (pW X g) := by
  obtain ⟨d, rfl⟩ : ∃ k, d = k + 1 := ⟨d - 1, by omega⟩
  unfold f_sta_take111
  refine Go_blk 4 (pc' := 6) (L' := [(5, .int (0 : Int32)), (4, .int (-1 : Int32)), (0, .ref 17), (1, .ref 3), (2, .int p2), (3, .int p3)]) (S' := []) (h' := (hh X g I)) rfl ?_
  refine Go_lcs [(0, .ref 17), (1, .ref 3), (2, .int p2), (3, .int p3), (4, .int (-1 : Int32)), (5, .int (0 : Int32))] rfl ⟨rfl, rfl, rfl, rfl, rfl, rfl, trivial⟩ ?_
  refine Go_seq (pcj := 93) (fun (b2 : Int32) => [(0, .ref 17), (3, .int p3), (4, .int b2)]) (fun (b2 : Int32) => []) (fun (b2 : Int32) => (hh X g I)) (fun b2 => ?_) ?_
  ·
    refine Go_blk 2 (pc' := 96) (L' := [(0, .ref 17), (3, .int p3), (4, .int b2)]) (S' := [.int (-1 : Int32), .int b2]) (h' := (hh X g I)) rfl ?_
    refine Go_cmpn rfl rfl rfl ?_ ?_
    ·
      refine Go_blk 1 (pc' := 100) (L' := [(0, .ref 17), (3, .int p3), (4, .int b2)]) (S' := [.int (0 : Int32)]) (h' := (hh X g I)) rfl ?_
      exact Go_ret (fun _ h => h) rfl
    ·
      refine Go_blk 10 (pc' := 119) (L' := [(0, .ref 17), (3, .int p3), (4, .int b2)]) (S' := [.int ((9 : Int32) + b2), .ref 18, .int ((9 : Int32) + b2), .ref 18]) (h' := (hh X g I)) rfl ?_
      refine Go_cR (y' := 16) (As := [.ref 18, .int ((9 : Int32) + b2)]) (r := [.int ((9 : Int32) + b2), .ref 18]) rfl (g_x_at16 18 ((9 : Int32) + b2) (by omega)) fun v3 => ?_
      refine Go_blk 2 (pc' := 124) (L' := [(0, .ref 17), (3, .int p3), (4, .int b2)]) (S' := [.int (v3 - p3), .int ((9 : Int32) + b2), .ref 18]) (h' := (hh X g I)) rfl ?_
      refine Go_cV (y' := 15) (As := [.ref 18, .int ((9 : Int32) + b2), .int (v3 - p3)]) (r := []) rfl (g_x_put15 18 ((9 : Int32) + b2) (v3 - p3) (by omega)) fun I4 => ?_
      refine Go_blk 1 (pc' := 128) (L' := [(0, .ref 17), (3, .int p3), (4, .int b2)]) (S' := [.int (1 : Int32)]) (h' := (hh X g I4)) rfl ?_
      exact Go_ret (fun _ h => h) rfl
  ·
    refine Go_wh (fun (s1 : Int32 × Int32) => [(0, .ref 17), (1, .ref 3), (2, .int p2), (3, .int p3), (4, .int s1.1), (5, .int s1.2)]) (fun _ => []) (fun (s1 : Int32 × Int32) => (hh X g I)) (fun s1 => ?_) ((-1 : Int32), (0 : Int32))
    refine Go_blk 3 (pc' := 12) (L' := [(0, .ref 17), (1, .ref 3), (2, .int p2), (3, .int p3), (4, .int s1.1), (5, .int s1.2)]) (S' := [.int (I 3 5), .int s1.2]) (h' := (hh X g I)) rfl ?_
    refine Go_cmpn rfl rfl (ab_cge _ _) ?_ ?_
    ·
      refine Go_blk 5 (pc' := 24) (L' := [(0, .ref 17), (1, .ref 3), (2, .int p2), (3, .int p3), (4, .int s1.1), (5, .int s1.2)]) (S' := [.int ((9 : Int32) + s1.2), .ref 18]) (h' := (hh X g I)) rfl ?_
      refine Go_cR (y' := 16) (As := [.ref 18, .int ((9 : Int32) + s1.2)]) (r := []) rfl (g_x_at16 18 ((9 : Int32) + s1.2) (by omega)) fun v5 => ?_
      refine Go_blk 4 (pc' := 35) (L' := [(6, .int v5), (0, .ref 17), (1, .ref 3), (2, .int p2), (3, .int p3), (4, .int s1.1), (5, .int s1.2)]) (S' := [.int s1.2, .ref 4]) (h' := (hh X g I)) rfl ?_
      refine Go_cR (y' := 16) (As := [.ref 4, .int s1.2]) (r := []) rfl (g_x_at16 4 s1.2 (by omega)) fun v6 => ?_
      refine Go_blk 1 (pc' := 39) (L' := [(6, .int v5), (0, .ref 17), (1, .ref 3), (2, .int p2), (3, .int p3), (4, .int s1.1), (5, .int s1.2)]) (S' := [.int p2, .int v6]) (h' := (hh X g I)) rfl ?_
      refine Go_seq (pcj := 53) (fun (b7 : Int32) => [(0, .ref 17), (1, .ref 3), (2, .int p2), (3, .int p3), (4, .int s1.1), (5, .int s1.2), (6, .int v5)]) (fun (b7 : Int32) => [.int b7]) (fun (b7 : Int32) => (hh X g I)) (fun b7 => ?_) ?_
      ·
        refine Go_blk 2 (pc' := 57) (L' := [(7, .int b7), (0, .ref 17), (1, .ref 3), (2, .int p2), (3, .int p3), (4, .int s1.1), (5, .int s1.2), (6, .int v5)]) (S' := [.int b7]) (h' := (hh X g I)) rfl ?_
        refine Go_seq (pcj := 87) (fun (b8 : Int32) => [(0, .ref 17), (1, .ref 3), (2, .int p2), (3, .int p3), (4, .int b8), (5, .int s1.2)]) (fun (b8 : Int32) => []) (fun (b8 : Int32) => (hh X g I)) (fun b8 => ?_) ?_
        ·
          refine Go_blk 2 (pc' := 6) (L' := [(5, .int (s1.2 + (1 : Int32))), (0, .ref 17), (1, .ref 3), (2, .int p2), (3, .int p3), (4, .int b8)]) (S' := []) (h' := (hh X g I)) rfl ?_
          exact Go_jmp [(0, .ref 17), (1, .ref 3), (2, .int p2), (3, .int p3), (4, .int b8), (5, .int (s1.2 + (1 : Int32)))] rfl ⟨rfl, rfl, rfl, rfl, rfl, rfl, trivial⟩ (fun _ h => h)
        ·
          refine Go_cmz rfl rfl rfl ?_ ?_
          ·
            exact Go_jmp [(0, .ref 17), (1, .ref 3), (2, .int p2), (3, .int p3), (4, .int s1.1), (5, .int s1.2)] rfl ⟨rfl, rfl, rfl, rfl, rfl, rfl, trivial⟩ (fun _ h => h)
          ·
            refine Go_blk 2 (pc' := 63) (L' := [(7, .int b7), (0, .ref 17), (1, .ref 3), (2, .int p2), (3, .int p3), (4, .int s1.1), (5, .int s1.2), (6, .int v5)]) (S' := [.int (-1 : Int32), .int s1.1]) (h' := (hh X g I)) rfl ?_
            refine Go_cmp rfl rfl rfl ?_ ?_
            ·
              refine Go_blk 2 (pc' := 87) (L' := [(4, .int s1.2), (7, .int b7), (0, .ref 17), (1, .ref 3), (2, .int p2), (3, .int p3), (5, .int s1.2), (6, .int v5)]) (S' := []) (h' := (hh X g I)) rfl ?_
              exact Go_jmp [(0, .ref 17), (1, .ref 3), (2, .int p2), (3, .int p3), (4, .int s1.2), (5, .int s1.2)] rfl ⟨rfl, rfl, rfl, rfl, rfl, rfl, trivial⟩ (fun _ h => h)
            ·
              refine Go_blk 6 (pc' := 77) (L' := [(7, .int b7), (0, .ref 17), (1, .ref 3), (2, .int p2), (3, .int p3), (4, .int s1.1), (5, .int s1.2), (6, .int v5)]) (S' := [.int ((9 : Int32) + s1.1), .ref 18, .int v5]) (h' := (hh X g I)) rfl ?_
              refine Go_cR (y' := 16) (As := [.ref 18, .int ((9 : Int32) + s1.1)]) (r := [.int v5]) rfl (g_x_at16 18 ((9 : Int32) + s1.1) (by omega)) fun v9 => ?_
              refine Go_cmpn rfl rfl (ab_cge _ _) ?_ ?_
              ·
                refine Go_blk 2 (pc' := 87) (L' := [(4, .int s1.2), (7, .int b7), (0, .ref 17), (1, .ref 3), (2, .int p2), (3, .int p3), (5, .int s1.2), (6, .int v5)]) (S' := []) (h' := (hh X g I)) rfl ?_
                exact Go_jmp [(0, .ref 17), (1, .ref 3), (2, .int p2), (3, .int p3), (4, .int s1.2), (5, .int s1.2)] rfl ⟨rfl, rfl, rfl, rfl, rfl, rfl, trivial⟩ (fun _ h => h)
              ·
                exact Go_jmp [(0, .ref 17), (1, .ref 3), (2, .int p2), (3, .int p3), (4, .int s1.1), (5, .int s1.2)] rfl ⟨rfl, rfl, rfl, rfl, rfl, rfl, trivial⟩ (fun _ h => h)
      ·
        refine Go_cmpn rfl rfl rfl ?_ ?_
        ·
          refine Go_blk 2 (pc' := 45) (L' := [(6, .int v5), (0, .ref 17), (1, .ref 3), (2, .int p2), (3, .int p3), (4, .int s1.1), (5, .int s1.2)]) (S' := [.int p3, .int v5]) (h' := (hh X g I)) rfl ?_
          refine Go_cmp rfl rfl rfl ?_ ?_
          ·
            refine Go_blk 1 (pc' := 53) (L' := [(6, .int v5), (0, .ref 17), (1, .ref 3), (2, .int p2), (3, .int p3), (4, .int s1.1), (5, .int s1.2)]) (S' := [.int (0 : Int32)]) (h' := (hh X g I)) rfl ?_
            exact Go_jmp [(0, .ref 17), (1, .ref 3), (2, .int p2), (3, .int p3), (4, .int s1.1), (5, .int s1.2), (6, .int v5)] rfl ⟨rfl, rfl, rfl, rfl, rfl, rfl, rfl, trivial⟩ (fun _ h => h)
          ·
            refine Go_blk 2 (pc' := 53) (L' := [(6, .int v5), (0, .ref 17), (1, .ref 3), (2, .int p2), (3, .int p3), (4, .int s1.1), (5, .int s1.2)]) (S' := [.int (1 : Int32)]) (h' := (hh X g I)) rfl ?_
            exact Go_jmp [(0, .ref 17), (1, .ref 3), (2, .int p2), (3, .int p3), (4, .int s1.1), (5, .int s1.2), (6, .int v5)] rfl ⟨rfl, rfl, rfl, rfl, rfl, rfl, rfl, trivial⟩ (fun _ h => h)
        ·
          refine Go_blk 1 (pc' := 53) (L' := [(6, .int v5), (0, .ref 17), (1, .ref 3), (2, .int p2), (3, .int p3), (4, .int s1.1), (5, .int s1.2)]) (S' := [.int (0 : Int32)]) (h' := (hh X g I)) rfl ?_
          exact Go_jmp [(0, .ref 17), (1, .ref 3), (2, .int p2), (3, .int p3), (4, .int s1.1), (5, .int s1.2), (6, .int v5)] rfl ⟨rfl, rfl, rfl, rfl, rfl, rfl, rfl, trivial⟩ (fun _ h => h)
    ·
      exact Go_jmp [(0, .ref 17), (3, .int p3), (4, .int s1.1)] rfl ⟨rfl, rfl, rfl, trivial⟩ (fun _ h => h)
set_option maxRecDepth 1000000 in
set_option maxHeartbeats 4000000 in
theorem g_sta_take111_15 (p2 : Int32) (p3 : Int32) {X : XX} {g : GG} {I : MJ} {d : Nat} (hd : 1 ≤ d) : Go d 111 0 (lv_args 0 [.ref 15, .ref 3, .int p2, .int p3]) [] (hh X g I) (f_sta_take111 15 p2 p3 I) (pW X g) := by
  obtain ⟨d, rfl⟩ : ∃ k, d = k + 1 := ⟨d - 1, by omega⟩
  unfold f_sta_take111
  refine Go_blk 4 (pc' := 6) (L' := [(5, .int (0 : Int32)), (4, .int (-1 : Int32)), (0, .ref 15), (1, .ref 3), (2, .int p2), (3, .int p3)]) (S' := []) (h' := (hh X g I)) rfl ?_
  refine Go_lcs [(0, .ref 15), (1, .ref 3), (2, .int p2), (3, .int p3), (4, .int (-1 : Int32)), (5, .int (0 : Int32))] rfl ⟨rfl, rfl, rfl, rfl, rfl, rfl, trivial⟩ ?_
  refine Go_seq (pcj := 93) (fun (b2 : Int32) => [(0, .ref 15), (3, .int p3), (4, .int b2)]) (fun (b2 : Int32) => []) (fun (b2 : Int32) => (hh X g I)) (fun b2 => ?_) ?_
  ·
    refine Go_blk 2 (pc' := 96) (L' := [(0, .ref 15), (3, .int p3), (4, .int b2)]) (S' := [.int (-1 : Int32), .int b2]) (h' := (hh X g I)) rfl ?_
    refine Go_cmpn rfl rfl rfl ?_ ?_
    ·
      refine Go_blk 1 (pc' := 100) (L' := [(0, .ref 15), (3, .int p3), (4, .int b2)]) (S' := [.int (0 : Int32)]) (h' := (hh X g I)) rfl ?_
      exact Go_ret (fun _ h => h) rfl
    ·
      refine Go_blk 10 (pc' := 119) (L' := [(0, .ref 15), (3, .int p3), (4, .int b2)]) (S' := [.int ((9 : Int32) + b2), .ref 16, .int ((9 : Int32) + b2), .ref 16]) (h' := (hh X g I)) rfl ?_
      refine Go_cR (y' := 16) (As := [.ref 16, .int ((9 : Int32) + b2)]) (r := [.int ((9 : Int32) + b2), .ref 16]) rfl (g_x_at16 16 ((9 : Int32) + b2) (by omega)) fun v3 => ?_
      refine Go_blk 2 (pc' := 124) (L' := [(0, .ref 15), (3, .int p3), (4, .int b2)]) (S' := [.int (v3 - p3), .int ((9 : Int32) + b2), .ref 16]) (h' := (hh X g I)) rfl ?_
      refine Go_cV (y' := 15) (As := [.ref 16, .int ((9 : Int32) + b2), .int (v3 - p3)]) (r := []) rfl (g_x_put15 16 ((9 : Int32) + b2) (v3 - p3) (by omega)) fun I4 => ?_
      refine Go_blk 1 (pc' := 128) (L' := [(0, .ref 15), (3, .int p3), (4, .int b2)]) (S' := [.int (1 : Int32)]) (h' := (hh X g I4)) rfl ?_
      exact Go_ret (fun _ h => h) rfl
  ·
    refine Go_wh (fun (s1 : Int32 × Int32) => [(0, .ref 15), (1, .ref 3), (2, .int p2), (3, .int p3), (4, .int s1.1), (5, .int s1.2)]) (fun _ => []) (fun (s1 : Int32 × Int32) => (hh X g I)) (fun s1 => ?_) ((-1 : Int32), (0 : Int32))
    refine Go_blk 3 (pc' := 12) (L' := [(0, .ref 15), (1, .ref 3), (2, .int p2), (3, .int p3), (4, .int s1.1), (5, .int s1.2)]) (S' := [.int (I 3 5), .int s1.2]) (h' := (hh X g I)) rfl ?_
    refine Go_cmpn rfl rfl (ab_cge _ _) ?_ ?_
    ·
      refine Go_blk 5 (pc' := 24) (L' := [(0, .ref 15), (1, .ref 3), (2, .int p2), (3, .int p3), (4, .int s1.1), (5, .int s1.2)]) (S' := [.int ((9 : Int32) + s1.2), .ref 16]) (h' := (hh X g I)) rfl ?_
      refine Go_cR (y' := 16) (As := [.ref 16, .int ((9 : Int32) + s1.2)]) (r := []) rfl (g_x_at16 16 ((9 : Int32) + s1.2) (by omega)) fun v5 => ?_
      refine Go_blk 4 (pc' := 35) (L' := [(6, .int v5), (0, .ref 15), (1, .ref 3), (2, .int p2), (3, .int p3), (4, .int s1.1), (5, .int s1.2)]) (S' := [.int s1.2, .ref 4]) (h' := (hh X g I)) rfl ?_
      refine Go_cR (y' := 16) (As := [.ref 4, .int s1.2]) (r := []) rfl (g_x_at16 4 s1.2 (by omega)) fun v6 => ?_
      refine Go_blk 1 (pc' := 39) (L' := [(6, .int v5), (0, .ref 15), (1, .ref 3), (2, .int p2), (3, .int p3), (4, .int s1.1), (5, .int s1.2)]) (S' := [.int p2, .int v6]) (h' := (hh X g I)) rfl ?_
      refine Go_seq (pcj := 53) (fun (b7 : Int32) => [(0, .ref 15), (1, .ref 3), (2, .int p2), (3, .int p3), (4, .int s1.1), (5, .int s1.2), (6, .int v5)]) (fun (b7 : Int32) => [.int b7]) (fun (b7 : Int32) => (hh X g I)) (fun b7 => ?_) ?_
      ·
        refine Go_blk 2 (pc' := 57) (L' := [(7, .int b7), (0, .ref 15), (1, .ref 3), (2, .int p2), (3, .int p3), (4, .int s1.1), (5, .int s1.2), (6, .int v5)]) (S' := [.int b7]) (h' := (hh X g I)) rfl ?_
        refine Go_seq (pcj := 87) (fun (b8 : Int32) => [(0, .ref 15), (1, .ref 3), (2, .int p2), (3, .int p3), (4, .int b8), (5, .int s1.2)]) (fun (b8 : Int32) => []) (fun (b8 : Int32) => (hh X g I)) (fun b8 => ?_) ?_
        ·
          refine Go_blk 2 (pc' := 6) (L' := [(5, .int (s1.2 + (1 : Int32))), (0, .ref 15), (1, .ref 3), (2, .int p2), (3, .int p3), (4, .int b8)]) (S' := []) (h' := (hh X g I)) rfl ?_
          exact Go_jmp [(0, .ref 15), (1, .ref 3), (2, .int p2), (3, .int p3), (4, .int b8), (5, .int (s1.2 + (1 : Int32)))] rfl ⟨rfl, rfl, rfl, rfl, rfl, rfl, trivial⟩ (fun _ h => h)
        ·
          refine Go_cmz rfl rfl rfl ?_ ?_
          ·
            exact Go_jmp [(0, .ref 15), (1, .ref 3), (2, .int p2), (3, .int p3), (4, .int s1.1), (5, .int s1.2)] rfl ⟨rfl, rfl, rfl, rfl, rfl, rfl, trivial⟩ (fun _ h => h)
          ·
            refine Go_blk 2 (pc' := 63) (L' := [(7, .int b7), (0, .ref 15), (1, .ref 3), (2, .int p2), (3, .int p3), (4, .int s1.1), (5, .int s1.2), (6, .int v5)]) (S' := [.int (-1 : Int32), .int s1.1]) (h' := (hh X g I)) rfl ?_
            refine Go_cmp rfl rfl rfl ?_ ?_
            ·
              refine Go_blk 2 (pc' := 87) (L' := [(4, .int s1.2), (7, .int b7), (0, .ref 15), (1, .ref 3), (2, .int p2), (3, .int p3), (5, .int s1.2), (6, .int v5)]) (S' := []) (h' := (hh X g I)) rfl ?_
              exact Go_jmp [(0, .ref 15), (1, .ref 3), (2, .int p2), (3, .int p3), (4, .int s1.2), (5, .int s1.2)] rfl ⟨rfl, rfl, rfl, rfl, rfl, rfl, trivial⟩ (fun _ h => h)
            ·
              refine Go_blk 6 (pc' := 77) (L' := [(7, .int b7), (0, .ref 15), (1, .ref 3), (2, .int p2), (3, .int p3), (4, .int s1.1), (5, .int s1.2), (6, .int v5)]) (S' := [.int ((9 : Int32) + s1.1), .ref 16, .int v5]) (h' := (hh X g I)) rfl ?_
              refine Go_cR (y' := 16) (As := [.ref 16, .int ((9 : Int32) + s1.1)]) (r := [.int v5]) rfl (g_x_at16 16 ((9 : Int32) + s1.1) (by omega)) fun v9 => ?_
              refine Go_cmpn rfl rfl (ab_cge _ _) ?_ ?_
              ·
                refine Go_blk 2 (pc' := 87) (L' := [(4, .int s1.2), (7, .int b7), (0, .ref 15), (1, .ref 3), (2, .int p2), (3, .int p3), (5, .int s1.2), (6, .int v5)]) (S' := []) (h' := (hh X g I)) rfl ?_
                exact Go_jmp [(0, .ref 15), (1, .ref 3), (2, .int p2), (3, .int p3), (4, .int s1.2), (5, .int s1.2)] rfl ⟨rfl, rfl, rfl, rfl, rfl, rfl, trivial⟩ (fun _ h => h)
              ·
                exact Go_jmp [(0, .ref 15), (1, .ref 3), (2, .int p2), (3, .int p3), (4, .int s1.1), (5, .int s1.2)] rfl ⟨rfl, rfl, rfl, rfl, rfl, rfl, trivial⟩ (fun _ h => h)
      ·
        refine Go_cmpn rfl rfl rfl ?_ ?_
        ·
          refine Go_blk 2 (pc' := 45) (L' := [(6, .int v5), (0, .ref 15), (1, .ref 3), (2, .int p2), (3, .int p3), (4, .int s1.1), (5, .int s1.2)]) (S' := [.int p3, .int v5]) (h' := (hh X g I)) rfl ?_
          refine Go_cmp rfl rfl rfl ?_ ?_
          ·
            refine Go_blk 1 (pc' := 53) (L' := [(6, .int v5), (0, .ref 15), (1, .ref 3), (2, .int p2), (3, .int p3), (4, .int s1.1), (5, .int s1.2)]) (S' := [.int (0 : Int32)]) (h' := (hh X g I)) rfl ?_
            exact Go_jmp [(0, .ref 15), (1, .ref 3), (2, .int p2), (3, .int p3), (4, .int s1.1), (5, .int s1.2), (6, .int v5)] rfl ⟨rfl, rfl, rfl, rfl, rfl, rfl, rfl, trivial⟩ (fun _ h => h)
          ·
            refine Go_blk 2 (pc' := 53) (L' := [(6, .int v5), (0, .ref 15), (1, .ref 3), (2, .int p2), (3, .int p3), (4, .int s1.1), (5, .int s1.2)]) (S' := [.int (1 : Int32)]) (h' := (hh X g I)) rfl ?_
            exact Go_jmp [(0, .ref 15), (1, .ref 3), (2, .int p2), (3, .int p3), (4, .int s1.1), (5, .int s1.2), (6, .int v5)] rfl ⟨rfl, rfl, rfl, rfl, rfl, rfl, rfl, trivial⟩ (fun _ h => h)
        ·
          refine Go_blk 1 (pc' := 53) (L' := [(6, .int v5), (0, .ref 15), (1, .ref 3), (2, .int p2), (3, .int p3), (4, .int s1.1), (5, .int s1.2)]) (S' := [.int (0 : Int32)]) (h' := (hh X g I)) rfl ?_
          exact Go_jmp [(0, .ref 15), (1, .ref 3), (2, .int p2), (3, .int p3), (4, .int s1.1), (5, .int s1.2), (6, .int v5)] rfl ⟨rfl, rfl, rfl, rfl, rfl, rfl, rfl, trivial⟩ (fun _ h => h)
    ·
      exact Go_jmp [(0, .ref 15), (3, .int p3), (4, .int s1.1)] rfl ⟨rfl, rfl, rfl, trivial⟩ (fun _ h => h)
set_option maxRecDepth 1000000 in
set_option maxHeartbeats 4000000 in
theorem g_sta_takePattern109 (p3 : Int32) {X : XX} {g : GG} {I : MJ} {d : Nat} (hd : 2 ≤ d) : Go d 109 0 (lv_args 0 [.ref 17, .ref 3, .ref 19, .int p3]) [] (hh X g I) (f_sta_takePattern109 p3 I) (pW X g) := by
  obtain ⟨d, rfl⟩ : ∃ k, d = k + 1 := ⟨d - 1, by omega⟩
  unfold f_sta_takePattern109
  refine Go_blk 2 (pc' := 2) (L' := [(0, .ref 17), (1, .ref 3), (2, .ref 19), (3, .int p3)]) (S' := [.int p3, .ref 19]) (h' := (hh X g I)) rfl ?_
  refine Go_cR (y' := 25) (As := [.ref 19, .int p3]) (r := []) rfl (g_pat_isTold25 p3 (by omega)) fun v1 => ?_
  refine Go_cmzn rfl rfl rfl ?_ ?_
  ·
    refine Go_blk 1 (pc' := 9) (L' := [(0, .ref 17), (1, .ref 3), (2, .ref 19), (3, .int p3)]) (S' := [.int (0 : Int32)]) (h' := (hh X g I)) rfl ?_
    exact Go_ret (fun _ h => h) rfl
  ·
    refine Go_blk 4 (pc' := 16) (L' := [(5, .int (1 : Int32)), (4, .int (1 : Int32)), (0, .ref 17), (1, .ref 3), (2, .ref 19), (3, .int p3)]) (S' := []) (h' := (hh X g I)) rfl ?_
    refine Go_lcs [(0, .ref 17), (1, .ref 3), (2, .ref 19), (3, .int p3), (4, .int (1 : Int32)), (5, .int (1 : Int32))] rfl ⟨rfl, rfl, rfl, rfl, rfl, rfl, trivial⟩ ?_
    refine Go_wh (fun (s2 : Int32 × Int32 × MJ) => [(0, .ref 17), (1, .ref 3), (2, .ref 19), (3, .int p3), (4, .int s2.1), (5, .int s2.2.1)]) (fun _ => []) (fun (s2 : Int32 × Int32 × MJ) => (hh X g s2.2.2)) (fun s2 => ?_) ((1 : Int32), (1 : Int32), I)
    refine Go_blk 2 (pc' := 20) (L' := [(0, .ref 17), (1, .ref 3), (2, .ref 19), (3, .int p3), (4, .int s2.1), (5, .int s2.2.1)]) (S' := [.int (12 : Int32), .int s2.2.1]) (h' := (hh X g s2.2.2)) rfl ?_
    refine Go_cmp rfl rfl rfl ?_ ?_
    ·
      refine Go_inrS ?_
      refine Go_blk 1 (pc' := 86) (L' := [(0, .ref 17), (1, .ref 3), (2, .ref 19), (3, .int p3), (4, .int s2.1), (5, .int s2.2.1)]) (S' := [.int (1 : Int32)]) (h' := (hh X g s2.2.2)) rfl ?_
      exact Go_ret (fun _ h => h) rfl
    ·
      refine Go_blk 5 (pc' := 29) (L' := [(0, .ref 17), (1, .ref 3), (2, .ref 19), (3, .int p3), (4, .int s2.1), (5, .int s2.2.1)]) (S' := [.int (s2.2.1 - (1 : Int32)), .int p3, .ref 19]) (h' := (hh X g s2.2.2)) rfl ?_
      refine Go_cR (y' := 110) (As := [.ref 19, .int p3, .int (s2.2.1 - (1 : Int32))]) (r := []) rfl (g_pat_kindAt110 p3 (s2.2.1 - (1 : Int32)) (by omega)) fun v3 => ?_
      refine Go_blk 3 (pc' := 38) (L' := [(6, .int v3), (0, .ref 17), (1, .ref 3), (2, .ref 19), (3, .int p3), (4, .int s2.1), (5, .int s2.2.1)]) (S' := [.int (12 : Int32), .int s2.2.1]) (h' := (hh X g s2.2.2)) rfl ?_
      refine Go_cmpn rfl rfl (ab_cge _ _) ?_ ?_
      ·
        refine Go_blk 3 (pc' := 45) (L' := [(6, .int v3), (0, .ref 17), (1, .ref 3), (2, .ref 19), (3, .int p3), (4, .int s2.1), (5, .int s2.2.1)]) (S' := [.int s2.2.1, .int p3, .ref 19]) (h' := (hh X g s2.2.2)) rfl ?_
        refine Go_cR (y' := 110) (As := [.ref 19, .int p3, .int s2.2.1]) (r := []) rfl (g_pat_kindAt110 p3 s2.2.1 (by omega)) fun v4 => ?_
        refine Go_blk 1 (pc' := 50) (L' := [(6, .int v3), (0, .ref 17), (1, .ref 3), (2, .ref 19), (3, .int p3), (4, .int s2.1), (5, .int s2.2.1)]) (S' := [.int v3, .int v4]) (h' := (hh X g s2.2.2)) rfl ?_
        refine Go_cmpn rfl rfl rfl ?_ ?_
        ·
          refine Go_blk 4 (pc' := 16) (L' := [(5, .int (s2.2.1 + (1 : Int32))), (4, .int (s2.1 + (1 : Int32))), (6, .int v3), (0, .ref 17), (1, .ref 3), (2, .ref 19), (3, .int p3)]) (S' := []) (h' := (hh X g s2.2.2)) rfl ?_
          exact Go_jmp [(0, .ref 17), (1, .ref 3), (2, .ref 19), (3, .int p3), (4, .int (s2.1 + (1 : Int32))), (5, .int (s2.2.1 + (1 : Int32)))] rfl ⟨rfl, rfl, rfl, rfl, rfl, rfl, trivial⟩ (fun _ h => h)
        ·
          refine Go_blk 4 (pc' := 65) (L' := [(6, .int v3), (0, .ref 17), (1, .ref 3), (2, .ref 19), (3, .int p3), (4, .int s2.1), (5, .int s2.2.1)]) (S' := [.int s2.1, .int v3, .ref 3, .ref 17]) (h' := (hh X g s2.2.2)) rfl ?_
          refine Go_cW (y' := 111) (As := [.ref 17, .ref 3, .int v3, .int s2.1]) (r := []) rfl (g_sta_take111_17 v3 s2.1 (by omega)) fun w5 => ?_
          refine Go_cmz rfl rfl rfl ?_ ?_
          ·
            refine Go_inrS ?_
            refine Go_blk 1 (pc' := 78) (L' := [(6, .int v3), (0, .ref 17), (1, .ref 3), (2, .ref 19), (3, .int p3), (4, .int s2.1), (5, .int s2.2.1)]) (S' := [.int (0 : Int32)]) (h' := (hh X g w5.2)) rfl ?_
            exact Go_ret (fun _ h => h) rfl
          ·
            refine Go_blk 5 (pc' := 16) (L' := [(5, .int (s2.2.1 + (1 : Int32))), (4, .int (1 : Int32)), (6, .int v3), (0, .ref 17), (1, .ref 3), (2, .ref 19), (3, .int p3)]) (S' := []) (h' := (hh X g w5.2)) rfl ?_
            exact Go_jmp [(0, .ref 17), (1, .ref 3), (2, .ref 19), (3, .int p3), (4, .int (1 : Int32)), (5, .int (s2.2.1 + (1 : Int32)))] rfl ⟨rfl, rfl, rfl, rfl, rfl, rfl, trivial⟩ (fun _ h => h)
      ·
        refine Go_blk 4 (pc' := 65) (L' := [(6, .int v3), (0, .ref 17), (1, .ref 3), (2, .ref 19), (3, .int p3), (4, .int s2.1), (5, .int s2.2.1)]) (S' := [.int s2.1, .int v3, .ref 3, .ref 17]) (h' := (hh X g s2.2.2)) rfl ?_
        refine Go_cW (y' := 111) (As := [.ref 17, .ref 3, .int v3, .int s2.1]) (r := []) rfl (g_sta_take111_17 v3 s2.1 (by omega)) fun w6 => ?_
        refine Go_cmz rfl rfl rfl ?_ ?_
        ·
          refine Go_inrS ?_
          refine Go_blk 1 (pc' := 78) (L' := [(6, .int v3), (0, .ref 17), (1, .ref 3), (2, .ref 19), (3, .int p3), (4, .int s2.1), (5, .int s2.2.1)]) (S' := [.int (0 : Int32)]) (h' := (hh X g w6.2)) rfl ?_
          exact Go_ret (fun _ h => h) rfl
        ·
          refine Go_blk 5 (pc' := 16) (L' := [(5, .int (s2.2.1 + (1 : Int32))), (4, .int (1 : Int32)), (6, .int v3), (0, .ref 17), (1, .ref 3), (2, .ref 19), (3, .int p3)]) (S' := []) (h' := (hh X g w6.2)) rfl ?_
          exact Go_jmp [(0, .ref 17), (1, .ref 3), (2, .ref 19), (3, .int p3), (4, .int (1 : Int32)), (5, .int (s2.2.1 + (1 : Int32)))] rfl ⟨rfl, rfl, rfl, rfl, rfl, rfl, trivial⟩ (fun _ h => h)
set_option maxRecDepth 1000000 in
set_option maxHeartbeats 4000000 in
theorem g_tra_allowsCut106 (p1 : Int32) (p2 : Int32) {X : XX} {g : GG} {I : MJ} {d : Nat} (hd : 3 ≤ d) : Go d 106 0 (lv_args 0 [.ref 28, .int p1, .int p2]) [] (hh X g I) (f_tra_allowsCut106 p1 p2 I) (pW X g) := by
  obtain ⟨d, rfl⟩ : ∃ k, d = k + 1 := ⟨d - 1, by omega⟩
  unfold f_tra_allowsCut106
  refine Go_blk 4 (pc' := 8) (L' := [(0, .ref 28), (1, .int p1), (2, .int p2)]) (S' := [.ref 15, .ref 17]) (h' := (hh X g I)) rfl ?_
  refine Go_cV (y' := 107) (As := [.ref 17, .ref 15]) (r := []) rfl (g_sta_copyFrom107_17_15  (by omega)) fun I1 => ?_
  refine Go_blk 3 (pc' := 16) (L' := [(0, .ref 28), (1, .int p1), (2, .int p2)]) (S' := [.int p1, .ref 15]) (h' := (hh X g I1)) rfl ?_
  refine Go_cR (y' := 108) (As := [.ref 15, .int p1]) (r := []) rfl (g_sta_hasSuit108_15 p1 (by omega)) fun v2 => ?_
  refine Go_seq (pcj := 46) (fun (b3 : Int32 × MJ) => []) (fun (b3 : Int32 × MJ) => [.int b3.1]) (fun (b3 : Int32 × MJ) => (hh X g b3.2)) (fun b3 => ?_) ?_
  ·
    exact Go_ret (fun _ h => h) rfl
  ·
    refine Go_cmzn rfl rfl rfl ?_ ?_
    ·
      refine Go_blk 7 (pc' := 35) (L' := [(0, .ref 28), (1, .int p1), (2, .int p2)]) (S' := [.int p2, .ref 19, .ref 3, .ref 17]) (h' := (hh X g I1)) rfl ?_
      refine Go_cW (y' := 109) (As := [.ref 17, .ref 3, .ref 19, .int p2]) (r := []) rfl (g_sta_takePattern109 p2 (by omega)) fun w4 => ?_
      refine Go_cmz rfl rfl rfl ?_ ?_
      ·
        refine Go_blk 1 (pc' := 46) (L' := [(0, .ref 28), (1, .int p1), (2, .int p2)]) (S' := [.int (0 : Int32)]) (h' := (hh X g w4.2)) rfl ?_
        exact Go_jmp [] rfl trivial (fun _ h => h)
      ·
        refine Go_blk 2 (pc' := 46) (L' := [(0, .ref 28), (1, .int p1), (2, .int p2)]) (S' := [.int (1 : Int32)]) (h' := (hh X g w4.2)) rfl ?_
        exact Go_jmp [] rfl trivial (fun _ h => h)
    ·
      refine Go_blk 1 (pc' := 46) (L' := [(0, .ref 28), (1, .int p1), (2, .int p2)]) (S' := [.int (0 : Int32)]) (h' := (hh X g I1)) rfl ?_
      exact Go_jmp [] rfl trivial (fun _ h => h)
set_option maxRecDepth 1000000 in
set_option maxHeartbeats 4000000 in
theorem g_sta_day113_17  {X : XX} {g : GG} {I : MJ} {d : Nat} (hd : 1 ≤ d) : Go d 113 0 (lv_args 0 [.ref 17]) [] (hh X g I) (f_sta_day113 17 I) (pR X g I) := by
  obtain ⟨d, rfl⟩ : ∃ k, d = k + 1 := ⟨d - 1, by omega⟩
  unfold f_sta_day113
  refine Go_blk 3 (pc' := 5) (L' := [(0, .ref 17)]) (S' := [.int (0 : Int32), .ref 18]) (h' := (hh X g I)) rfl ?_
  refine Go_cR (y' := 16) (As := [.ref 18, .int (0 : Int32)]) (r := []) rfl (g_x_at16 18 (0 : Int32) (by omega)) fun v1 => ?_
  exact Go_ret (fun _ h => h) rfl
set_option maxRecDepth 1000000 in
set_option maxHeartbeats 4000000 in
theorem g_sta_day113_15  {X : XX} {g : GG} {I : MJ} {d : Nat} (hd : 1 ≤ d) : Go d 113 0 (lv_args 0 [.ref 15]) [] (hh X g I) (f_sta_day113 15 I) (pR X g I) := by
  obtain ⟨d, rfl⟩ : ∃ k, d = k + 1 := ⟨d - 1, by omega⟩
  unfold f_sta_day113
  refine Go_blk 3 (pc' := 5) (L' := [(0, .ref 15)]) (S' := [.int (0 : Int32), .ref 16]) (h' := (hh X g I)) rfl ?_
  refine Go_cR (y' := 16) (As := [.ref 16, .int (0 : Int32)]) (r := []) rfl (g_x_at16 16 (0 : Int32) (by omega)) fun v1 => ?_
  exact Go_ret (fun _ h => h) rfl
set_option maxRecDepth 1000000 in
set_option maxHeartbeats 4000000 in
theorem g_sta_suitAt114_17 (p1 : Int32) {X : XX} {g : GG} {I : MJ} {d : Nat} (hd : 0 ≤ d) : Go d 114 0 (lv_args 0 [.ref 17, .int p1]) [] (hh X g I) (f_sta_suitAt114 17 p1 I) (pR X g I) := by
  unfold f_sta_suitAt114
  refine Go_blk 5 (pc' := 7) (L' := [(0, .ref 17), (1, .int p1)]) (S' := [.int ((19 : Int32) + ((12 : Int32) * p1))]) (h' := (hh X g I)) rfl ?_
  exact Go_ret (fun _ h => h) rfl
set_option maxRecDepth 1000000 in
set_option maxHeartbeats 4000000 in
theorem g_sta_suitAt114_15 (p1 : Int32) {X : XX} {g : GG} {I : MJ} {d : Nat} (hd : 0 ≤ d) : Go d 114 0 (lv_args 0 [.ref 15, .int p1]) [] (hh X g I) (f_sta_suitAt114 15 p1 I) (pR X g I) := by
  unfold f_sta_suitAt114
  refine Go_blk 5 (pc' := 7) (L' := [(0, .ref 15), (1, .int p1)]) (S' := [.int ((19 : Int32) + ((12 : Int32) * p1))]) (h' := (hh X g I)) rfl ?_
  exact Go_ret (fun _ h => h) rfl
set_option maxRecDepth 1000000 in
set_option maxHeartbeats 4000000 in
theorem g_sta_dress112 (p1 : Int32) (p2 : Nat) (p3 : Int32) {X : XX} {g : GG} {I : MJ} {d : Nat} (hd : 2 ≤ d) : Go d 112 0 (lv_args 0 [.ref 17, .int p1, .ref p2, .int p3]) [] (hh X g I) (f_sta_dress112 p1 p2 p3 I) (pV X g) := by
  obtain ⟨d, rfl⟩ : ∃ k, d = k + 1 := ⟨d - 1, by omega⟩
  unfold f_sta_dress112
  refine Go_blk 6 (pc' := 8) (L' := [(0, .ref 17), (1, .int p1), (2, .ref p2), (3, .int p3)]) (S' := [.ref 17, .int ((3 : Int32) + p1), .ref 18]) (h' := (hh X g I)) rfl ?_
  refine Go_cR (y' := 113) (As := [.ref 17]) (r := [.int ((3 : Int32) + p1), .ref 18]) rfl (g_sta_day113_17  (by omega)) fun v1 => ?_
  refine Go_cV (y' := 15) (As := [.ref 18, .int ((3 : Int32) + p1), .int v1]) (r := []) rfl (g_x_put15 18 ((3 : Int32) + p1) v1 (by omega)) fun I2 => ?_
  refine Go_blk 6 (pc' := 22) (L' := [(0, .ref 17), (1, .int p1), (2, .ref p2), (3, .int p3)]) (S' := [.int p1, .ref 17, .ref 18, .int p3, .ref p2]) (h' := (hh X g I2)) rfl ?_
  refine Go_cR (y' := 114) (As := [.ref 17, .int p1]) (r := [.ref 18, .int p3, .ref p2]) rfl (g_sta_suitAt114_17 p1 (by omega)) fun v3 => ?_
  refine Go_blk 1 (pc' := 27) (L' := [(0, .ref 17), (1, .int p1), (2, .ref p2), (3, .int p3)]) (S' := [.int (12 : Int32), .int v3, .ref 18, .int p3, .ref p2]) (h' := (hh X g I2)) rfl ?_
  refine Go_cV (y' := 22) (As := [.ref p2, .int p3, .ref 18, .int v3, .int (12 : Int32)]) (r := []) rfl (g_x_copy22 p2 p3 18 v3 (12 : Int32) (by omega)) fun I4 => ?_
  exact Go_ret (fun _ h => h) rfl
set_option maxRecDepth 1000000 in
set_option maxHeartbeats 4000000 in
theorem g_tra_cutSuit105 (p1 : Int32) (p2 : Int32) {X : XX} {g : GG} {I : MJ} {d : Nat} (hd : 4 ≤ d) : Go d 105 0 (lv_args 0 [.ref 28, .int p1, .int p2]) [] (hh X g I) (f_tra_cutSuit105 p1 p2 I) (pW X g) := by
  obtain ⟨d, rfl⟩ : ∃ k, d = k + 1 := ⟨d - 1, by omega⟩
  unfold f_tra_cutSuit105
  refine Go_blk 3 (pc' := 3) (L' := [(0, .ref 28), (1, .int p1), (2, .int p2)]) (S' := [.int p2, .int p1, .ref 28]) (h' := (hh X g I)) rfl ?_
  refine Go_cW (y' := 106) (As := [.ref 28, .int p1, .int p2]) (r := []) rfl (g_tra_allowsCut106 p1 p2 (by omega)) fun w1 => ?_
  refine Go_cmzn rfl rfl rfl ?_ ?_
  ·
    refine Go_blk 1 (pc' := 10) (L' := [(0, .ref 28), (1, .int p1), (2, .int p2)]) (S' := [.int (0 : Int32)]) (h' := (hh X g w1.2)) rfl ?_
    exact Go_ret (fun _ h => h) rfl
  ·
    refine Go_blk 9 (pc' := 27) (L' := [(0, .ref 28), (1, .int p1), (2, .int p2)]) (S' := [.int ((12 : Int32) * p2), .ref 20, .int p1, .ref 17]) (h' := (hh X g w1.2)) rfl ?_
    refine Go_cV (y' := 112) (As := [.ref 17, .int p1, .ref 20, .int ((12 : Int32) * p2)]) (r := []) rfl (g_sta_dress112 p1 20 ((12 : Int32) * p2) (by omega)) fun I2 => ?_
    refine Go_blk 4 (pc' := 38) (L' := [(0, .ref 28), (1, .int p1), (2, .int p2)]) (S' := [.ref 17, .ref 15]) (h' := (hh X g I2)) rfl ?_
    refine Go_cV (y' := 107) (As := [.ref 15, .ref 17]) (r := []) rfl (g_sta_copyFrom107_15_17  (by omega)) fun I3 => ?_
    refine Go_blk 1 (pc' := 42) (L' := [(0, .ref 28), (1, .int p1), (2, .int p2)]) (S' := [.int (1 : Int32)]) (h' := (hh X g I3)) rfl ?_
    exact Go_ret (fun _ h => h) rfl
set_option maxRecDepth 1000000 in
set_option maxHeartbeats 4000000 in
theorem g_sta_wornAt116_17 (p1 : Int32) (p2 : Int32) {X : XX} {g : GG} {I : MJ} {d : Nat} (hd : 1 ≤ d) : Go d 116 0 (lv_args 0 [.ref 17, .int p1, .int p2]) [] (hh X g I) (f_sta_wornAt116 17 p1 p2 I) (pR X g I) := by
  obtain ⟨d, rfl⟩ : ∃ k, d = k + 1 := ⟨d - 1, by omega⟩
  unfold f_sta_wornAt116
  refine Go_blk 4 (pc' := 6) (L' := [(0, .ref 17), (1, .int p1), (2, .int p2)]) (S' := [.int p1, .ref 17, .ref 18]) (h' := (hh X g I)) rfl ?_
  refine Go_cR (y' := 114) (As := [.ref 17, .int p1]) (r := [.ref 18]) rfl (g_sta_suitAt114_17 p1 (by omega)) fun v1 => ?_
  refine Go_blk 2 (pc' := 11) (L' := [(0, .ref 17), (1, .int p1), (2, .int p2)]) (S' := [.int (v1 + p2), .ref 18]) (h' := (hh X g I)) rfl ?_
  refine Go_cR (y' := 16) (As := [.ref 18, .int (v1 + p2)]) (r := []) rfl (g_x_at16 18 (v1 + p2) (by omega)) fun v2 => ?_
  exact Go_ret (fun _ h => h) rfl
set_option maxRecDepth 1000000 in
set_option maxHeartbeats 4000000 in
theorem g_sta_wornAt116_15 (p1 : Int32) (p2 : Int32) {X : XX} {g : GG} {I : MJ} {d : Nat} (hd : 1 ≤ d) : Go d 116 0 (lv_args 0 [.ref 15, .int p1, .int p2]) [] (hh X g I) (f_sta_wornAt116 15 p1 p2 I) (pR X g I) := by
  obtain ⟨d, rfl⟩ : ∃ k, d = k + 1 := ⟨d - 1, by omega⟩
  unfold f_sta_wornAt116
  refine Go_blk 4 (pc' := 6) (L' := [(0, .ref 15), (1, .int p1), (2, .int p2)]) (S' := [.int p1, .ref 15, .ref 16]) (h' := (hh X g I)) rfl ?_
  refine Go_cR (y' := 114) (As := [.ref 15, .int p1]) (r := [.ref 16]) rfl (g_sta_suitAt114_15 p1 (by omega)) fun v1 => ?_
  refine Go_blk 2 (pc' := 11) (L' := [(0, .ref 15), (1, .int p1), (2, .int p2)]) (S' := [.int (v1 + p2), .ref 16]) (h' := (hh X g I)) rfl ?_
  refine Go_cR (y' := 16) (As := [.ref 16, .int (v1 + p2)]) (r := []) rfl (g_x_at16 16 (v1 + p2) (by omega)) fun v2 => ?_
  exact Go_ret (fun _ h => h) rfl
set_option maxRecDepth 1000000 in
set_option maxHeartbeats 4000000 in
theorem g_sta_alter117_17 (p1 : Int32) (p2 : Int32) (p3 : Int32) {X : XX} {g : GG} {I : MJ} {d : Nat} (hd : 1 ≤ d) : Go d 117 0 (lv_args 0 [.ref 17, .int p1, .int p2, .int p3]) [] (hh X g I) (f_sta_alter117 17 p1 p2 p3 I) (pV X g) := by
  obtain ⟨d, rfl⟩ : ∃ k, d = k + 1 := ⟨d - 1, by omega⟩
  unfold f_sta_alter117
  refine Go_blk 4 (pc' := 6) (L' := [(0, .ref 17), (1, .int p1), (2, .int p2), (3, .int p3)]) (S' := [.int p1, .ref 17, .ref 18]) (h' := (hh X g I)) rfl ?_
  refine Go_cR (y' := 114) (As := [.ref 17, .int p1]) (r := [.ref 18]) rfl (g_sta_suitAt114_17 p1 (by omega)) fun v1 => ?_
  refine Go_blk 3 (pc' := 12) (L' := [(0, .ref 17), (1, .int p1), (2, .int p2), (3, .int p3)]) (S' := [.int p3, .int (v1 + p2), .ref 18]) (h' := (hh X g I)) rfl ?_
  refine Go_cV (y' := 15) (As := [.ref 18, .int (v1 + p2), .int p3]) (r := []) rfl (g_x_put15 18 (v1 + p2) p3 (by omega)) fun I2 => ?_
  exact Go_ret (fun _ h => h) rfl
set_option maxRecDepth 1000000 in
set_option maxHeartbeats 4000000 in
theorem g_sta_alter117_15 (p1 : Int32) (p2 : Int32) (p3 : Int32) {X : XX} {g : GG} {I : MJ} {d : Nat} (hd : 1 ≤ d) : Go d 117 0 (lv_args 0 [.ref 15, .int p1, .int p2, .int p3]) [] (hh X g I) (f_sta_alter117 15 p1 p2 p3 I) (pV X g) := by
  obtain ⟨d, rfl⟩ : ∃ k, d = k + 1 := ⟨d - 1, by omega⟩
  unfold f_sta_alter117
  refine Go_blk 4 (pc' := 6) (L' := [(0, .ref 15), (1, .int p1), (2, .int p2), (3, .int p3)]) (S' := [.int p1, .ref 15, .ref 16]) (h' := (hh X g I)) rfl ?_
  refine Go_cR (y' := 114) (As := [.ref 15, .int p1]) (r := [.ref 16]) rfl (g_sta_suitAt114_15 p1 (by omega)) fun v1 => ?_
  refine Go_blk 3 (pc' := 12) (L' := [(0, .ref 15), (1, .int p1), (2, .int p2), (3, .int p3)]) (S' := [.int p3, .int (v1 + p2), .ref 16]) (h' := (hh X g I)) rfl ?_
  refine Go_cV (y' := 15) (As := [.ref 16, .int (v1 + p2), .int p3]) (r := []) rfl (g_x_put15 16 (v1 + p2) p3 (by omega)) fun I2 => ?_
  exact Go_ret (fun _ h => h) rfl
set_option maxRecDepth 1000000 in
set_option maxHeartbeats 4000000 in
theorem g_tra_alterHour115 (p1 : Int32) (p2 : Int32) (p3 : Int32) {X : XX} {g : GG} {I : MJ} {d : Nat} (hd : 2 ≤ d) : Go d 115 0 (lv_args 0 [.ref 28, .int p1, .int p2, .int p3]) [] (hh X g I) (f_tra_alterHour115 p1 p2 p3 I) (pW X g) := by
  obtain ⟨d, rfl⟩ : ∃ k, d = k + 1 := ⟨d - 1, by omega⟩
  unfold f_tra_alterHour115
  refine Go_blk 3 (pc' := 5) (L' := [(0, .ref 28), (1, .int p1), (2, .int p2), (3, .int p3)]) (S' := [.int p1, .ref 15]) (h' := (hh X g I)) rfl ?_
  refine Go_cR (y' := 108) (As := [.ref 15, .int p1]) (r := []) rfl (g_sta_hasSuit108_15 p1 (by omega)) fun v1 => ?_
  refine Go_cmz rfl rfl rfl ?_ ?_
  ·
    refine Go_blk 1 (pc' := 41) (L' := [(0, .ref 28), (1, .int p1), (2, .int p2), (3, .int p3)]) (S' := [.int (0 : Int32)]) (h' := (hh X g I)) rfl ?_
    exact Go_ret (fun _ h => h) rfl
  ·
    refine Go_blk 4 (pc' := 17) (L' := [(0, .ref 28), (1, .int p1), (2, .int p2), (3, .int p3)]) (S' := [.int p2, .int p1, .ref 15]) (h' := (hh X g I)) rfl ?_
    refine Go_cR (y' := 116) (As := [.ref 15, .int p1, .int p2]) (r := []) rfl (g_sta_wornAt116_15 p1 p2 (by omega)) fun v2 => ?_
    refine Go_blk 1 (pc' := 21) (L' := [(0, .ref 28), (1, .int p1), (2, .int p2), (3, .int p3)]) (S' := [.int p3, .int v2]) (h' := (hh X g I)) rfl ?_
    refine Go_cmp rfl rfl rfl ?_ ?_
    ·
      refine Go_blk 1 (pc' := 41) (L' := [(0, .ref 28), (1, .int p1), (2, .int p2), (3, .int p3)]) (S' := [.int (0 : Int32)]) (h' := (hh X g I)) rfl ?_
      exact Go_ret (fun _ h => h) rfl
    ·
      refine Go_blk 6 (pc' := 34) (L' := [(0, .ref 28), (1, .int p1), (2, .int p2), (3, .int p3)]) (S' := [.int (1 : Int32), .int p3, .ref 3, .ref 15]) (h' := (hh X g I)) rfl ?_
      refine Go_cW (y' := 111) (As := [.ref 15, .ref 3, .int p3, .int (1 : Int32)]) (r := []) rfl (g_sta_take111_15 p3 (1 : Int32) (by omega)) fun w3 => ?_
      refine Go_cmzn rfl rfl rfl ?_ ?_
      ·
        refine Go_blk 1 (pc' := 41) (L' := [(0, .ref 28), (1, .int p1), (2, .int p2), (3, .int p3)]) (S' := [.int (0 : Int32)]) (h' := (hh X g w3.2)) rfl ?_
        exact Go_ret (fun _ h => h) rfl
      ·
        refine Go_blk 5 (pc' := 49) (L' := [(0, .ref 28), (1, .int p1), (2, .int p2), (3, .int p3)]) (S' := [.int p3, .int p2, .int p1, .ref 15]) (h' := (hh X g w3.2)) rfl ?_
        refine Go_cV (y' := 117) (As := [.ref 15, .int p1, .int p2, .int p3]) (r := []) rfl (g_sta_alter117_15 p1 p2 p3 (by omega)) fun I4 => ?_
        refine Go_blk 1 (pc' := 53) (L' := [(0, .ref 28), (1, .int p1), (2, .int p2), (3, .int p3)]) (S' := [.int (1 : Int32)]) (h' := (hh X g I4)) rfl ?_
        exact Go_ret (fun _ h => h) rfl
set_option maxRecDepth 1000000 in
set_option maxHeartbeats 4000000 in
theorem g_sta_turn119 (p1 : Int32) {X : XX} {g : GG} {I : MJ} {d : Nat} (hd : 2 ≤ d) : Go d 119 0 (lv_args 0 [.ref 15, .int p1]) [] (hh X g I) (f_sta_turn119 p1 I) (pV X g) := by
  obtain ⟨d, rfl⟩ : ∃ k, d = k + 1 := ⟨d - 1, by omega⟩
  unfold f_sta_turn119
  refine Go_blk 2 (pc' := 2) (L' := [(2, .int (0 : Int32)), (0, .ref 15), (1, .int p1)]) (S' := []) (h' := (hh X g I)) rfl ?_
  refine Go_lcs [(0, .ref 15), (1, .int p1), (2, .int (0 : Int32))] rfl ⟨rfl, rfl, rfl, trivial⟩ ?_
  refine Go_seq (pcj := 46) (fun (b2 : MJ) => []) (fun (b2 : MJ) => []) (fun (b2 : MJ) => (hh X g b2)) (fun b2 => ?_) ?_
  ·
    exact Go_ret (fun _ h => h) rfl
  ·
    refine Go_wh (fun (s1 : Int32 × MJ) => [(0, .ref 15), (1, .int p1), (2, .int s1.1)]) (fun _ => []) (fun (s1 : Int32 × MJ) => (hh X g s1.2)) (fun s1 => ?_) ((0 : Int32), I)
    refine Go_blk 2 (pc' := 5) (L' := [(0, .ref 15), (1, .int p1), (2, .int s1.1)]) (S' := [.int (6 : Int32), .int s1.1]) (h' := (hh X g s1.2)) rfl ?_
    refine Go_cmpn rfl rfl (ab_cge _ _) ?_ ?_
    ·
      refine Go_blk 3 (pc' := 11) (L' := [(0, .ref 15), (1, .int p1), (2, .int s1.1)]) (S' := [.int s1.1, .int p1, .ref 15]) (h' := (hh X g s1.2)) rfl ?_
      refine Go_cR (y' := 116) (As := [.ref 15, .int p1, .int s1.1]) (r := []) rfl (g_sta_wornAt116_15 p1 s1.1 (by omega)) fun v3 => ?_
      refine Go_blk 9 (pc' := 24) (L' := [(3, .int v3), (0, .ref 15), (1, .int p1), (2, .int s1.1)]) (S' := [.int ((11 : Int32) - s1.1), .int p1, .ref 15, .int s1.1, .int p1, .ref 15]) (h' := (hh X g s1.2)) rfl ?_
      refine Go_cR (y' := 116) (As := [.ref 15, .int p1, .int ((11 : Int32) - s1.1)]) (r := [.int s1.1, .int p1, .ref 15]) rfl (g_sta_wornAt116_15 p1 ((11 : Int32) - s1.1) (by omega)) fun v4 => ?_
      refine Go_cV (y' := 117) (As := [.ref 15, .int p1, .int s1.1, .int v4]) (r := []) rfl (g_sta_alter117_15 p1 s1.1 v4 (by omega)) fun I5 => ?_
      refine Go_blk 6 (pc' := 37) (L' := [(3, .int v3), (0, .ref 15), (1, .int p1), (2, .int s1.1)]) (S' := [.int v3, .int ((11 : Int32) - s1.1), .int p1, .ref 15]) (h' := (hh X g I5)) rfl ?_
      refine Go_cV (y' := 117) (As := [.ref 15, .int p1, .int ((11 : Int32) - s1.1), .int v3]) (r := []) rfl (g_sta_alter117_15 p1 ((11 : Int32) - s1.1) v3 (by omega)) fun I6 => ?_
      refine Go_blk 2 (pc' := 2) (L' := [(2, .int (s1.1 + (1 : Int32))), (3, .int v3), (0, .ref 15), (1, .int p1)]) (S' := []) (h' := (hh X g I6)) rfl ?_
      exact Go_jmp [(0, .ref 15), (1, .int p1), (2, .int (s1.1 + (1 : Int32)))] rfl ⟨rfl, rfl, rfl, trivial⟩ (fun _ h => h)
    ·
      exact Go_jmp [] rfl trivial (fun _ h => h)
set_option maxRecDepth 1000000 in
set_option maxHeartbeats 4000000 in
theorem g_tra_turnSuit118 (p1 : Int32) {X : XX} {g : GG} {I : MJ} {d : Nat} (hd : 3 ≤ d) : Go d 118 0 (lv_args 0 [.ref 28, .int p1]) [] (hh X g I) (f_tra_turnSuit118 p1 I) (pW X g) := by
  obtain ⟨d, rfl⟩ : ∃ k, d = k + 1 := ⟨d - 1, by omega⟩
  unfold f_tra_turnSuit118
  refine Go_blk 3 (pc' := 5) (L' := [(0, .ref 28), (1, .int p1)]) (S' := [.int p1, .ref 15]) (h' := (hh X g I)) rfl ?_
  refine Go_cR (y' := 108) (As := [.ref 15, .int p1]) (r := []) rfl (g_sta_hasSuit108_15 p1 (by omega)) fun v1 => ?_
  refine Go_cmzn rfl rfl rfl ?_ ?_
  ·
    refine Go_blk 1 (pc' := 12) (L' := [(0, .ref 28), (1, .int p1)]) (S' := [.int (0 : Int32)]) (h' := (hh X g I)) rfl ?_
    exact Go_ret (fun _ h => h) rfl
  ·
    refine Go_blk 3 (pc' := 18) (L' := [(0, .ref 28), (1, .int p1)]) (S' := [.int p1, .ref 15]) (h' := (hh X g I)) rfl ?_
    refine Go_cV (y' := 119) (As := [.ref 15, .int p1]) (r := []) rfl (g_sta_turn119 p1 (by omega)) fun I2 => ?_
    refine Go_blk 1 (pc' := 22) (L' := [(0, .ref 28), (1, .int p1)]) (S' := [.int (1 : Int32)]) (h' := (hh X g I2)) rfl ?_
    exact Go_ret (fun _ h => h) rfl
set_option maxRecDepth 1000000 in
set_option maxHeartbeats 4000000 in
theorem g_tra_stripSuit120 (p1 : Int32) {X : XX} {g : GG} {I : MJ} {d : Nat} (hd : 2 ≤ d) : Go d 120 0 (lv_args 0 [.ref 28, .int p1]) [] (hh X g I) (f_tra_stripSuit120 p1 I) (pW X g) := by
  obtain ⟨d, rfl⟩ : ∃ k, d = k + 1 := ⟨d - 1, by omega⟩
  unfold f_tra_stripSuit120
  refine Go_blk 3 (pc' := 5) (L' := [(0, .ref 28), (1, .int p1)]) (S' := [.int p1, .ref 15]) (h' := (hh X g I)) rfl ?_
  refine Go_cR (y' := 108) (As := [.ref 15, .int p1]) (r := []) rfl (g_sta_hasSuit108_15 p1 (by omega)) fun v1 => ?_
  refine Go_cmzn rfl rfl rfl ?_ ?_
  ·
    refine Go_blk 1 (pc' := 12) (L' := [(0, .ref 28), (1, .int p1)]) (S' := [.int (0 : Int32)]) (h' := (hh X g I)) rfl ?_
    exact Go_ret (fun _ h => h) rfl
  ·
    refine Go_blk 3 (pc' := 18) (L' := [(0, .ref 28), (1, .int p1)]) (S' := [.int p1, .ref 15]) (h' := (hh X g I)) rfl ?_
    refine Go_cV (y' := 14) (As := [.ref 15, .int p1]) (r := []) rfl (g_sta_strip14 p1 (by omega)) fun I2 => ?_
    refine Go_blk 1 (pc' := 22) (L' := [(0, .ref 28), (1, .int p1)]) (S' := [.int (1 : Int32)]) (h' := (hh X g I2)) rfl ?_
    exact Go_ret (fun _ h => h) rfl
set_option maxRecDepth 1000000 in
set_option maxHeartbeats 4000000 in
theorem g_sho_orderPart123 (p1 : Int32) (p2 : Int32) {X : XX} {g : GG} {I : MJ} {d : Nat} (hd : 1 ≤ d) : Go d 123 0 (lv_args 0 [.ref 3, .int p1, .int p2]) [] (hh X g I) (f_sho_orderPart123 p1 p2 I) (pR X g I) := by
  obtain ⟨d, rfl⟩ : ∃ k, d = k + 1 := ⟨d - 1, by omega⟩
  unfold f_sho_orderPart123
  refine Go_blk 7 (pc' := 9) (L' := [(0, .ref 3), (1, .int p1), (2, .int p2)]) (S' := [.int (((5 : Int32) * p1) + p2), .ref 8]) (h' := (hh X g I)) rfl ?_
  refine Go_cR (y' := 16) (As := [.ref 8, .int (((5 : Int32) * p1) + p2)]) (r := []) rfl (g_x_at16 8 (((5 : Int32) * p1) + p2) (by omega)) fun v1 => ?_
  exact Go_ret (fun _ h => h) rfl
set_option maxRecDepth 1000000 in
set_option maxHeartbeats 4000000 in
theorem g_sta_isSold125 (p1 : Int32) {X : XX} {g : GG} {I : MJ} {d : Nat} (hd : 1 ≤ d) : Go d 125 0 (lv_args 0 [.ref 15, .int p1]) [] (hh X g I) (f_sta_isSold125 p1 I) (pR X g I) := by
  obtain ⟨d, rfl⟩ : ∃ k, d = k + 1 := ⟨d - 1, by omega⟩
  unfold f_sta_isSold125
  refine Go_blk 3 (pc' := 5) (L' := [(0, .ref 15), (1, .int p1)]) (S' := [.int (2 : Int32), .ref 16]) (h' := (hh X g I)) rfl ?_
  refine Go_cR (y' := 16) (As := [.ref 16, .int (2 : Int32)]) (r := []) rfl (g_x_at16 16 (2 : Int32) (by omega)) fun v1 => ?_
  refine Go_blk 1 (pc' := 9) (L' := [(0, .ref 15), (1, .int p1)]) (S' := [.int p1, .int v1]) (h' := (hh X g I)) rfl ?_
  refine Go_cR (y' := 26) (As := [.int v1, .int p1]) (r := []) rfl (g_x_holds26 v1 p1 (by omega)) fun v2 => ?_
  exact Go_ret (fun _ h => h) rfl
set_option maxRecDepth 1000000 in
set_option maxHeartbeats 4000000 in
theorem g_tra_stateOf124 (p1 : Int32) {X : XX} {g : GG} {I : MJ} {d : Nat} (hd : 2 ≤ d) : Go d 124 0 (lv_args 0 [.ref 28, .int p1]) [] (hh X g I) (f_tra_stateOf124 p1 I) (pR X g I) := by
  obtain ⟨d, rfl⟩ : ∃ k, d = k + 1 := ⟨d - 1, by omega⟩
  unfold f_tra_stateOf124
  refine Go_blk 3 (pc' := 5) (L' := [(0, .ref 28), (1, .int p1)]) (S' := [.int p1, .ref 15]) (h' := (hh X g I)) rfl ?_
  refine Go_cR (y' := 125) (As := [.ref 15, .int p1]) (r := []) rfl (g_sta_isSold125 p1 (by omega)) fun v1 => ?_
  refine Go_cmz rfl rfl rfl ?_ ?_
  ·
    refine Go_blk 2 (pc' := 17) (L' := [(0, .ref 28), (1, .int p1)]) (S' := [.ref 15]) (h' := (hh X g I)) rfl ?_
    refine Go_cR (y' := 113) (As := [.ref 15]) (r := []) rfl (g_sta_day113_15  (by omega)) fun v2 => ?_
    refine Go_blk 4 (pc' := 26) (L' := [(0, .ref 28), (1, .int p1)]) (S' := [.int (2 : Int32), .int p1, .ref 3, .int v2]) (h' := (hh X g I)) rfl ?_
    refine Go_cR (y' := 123) (As := [.ref 3, .int p1, .int (2 : Int32)]) (r := [.int v2]) rfl (g_sho_orderPart123 p1 (2 : Int32) (by omega)) fun v3 => ?_
    refine Go_seq (pcj := 37) (fun (b4 : Int32) => []) (fun (b4 : Int32) => [.int b4]) (fun (b4 : Int32) => (hh X g I)) (fun b4 => ?_) ?_
    ·
      exact Go_ret (fun _ h => h) rfl
    ·
      refine Go_cmpn rfl rfl (ab_cle _ _) ?_ ?_
      ·
        refine Go_blk 2 (pc' := 37) (L' := [(0, .ref 28), (1, .int p1)]) (S' := [.int (2 : Int32)]) (h' := (hh X g I)) rfl ?_
        exact Go_jmp [] rfl trivial (fun _ h => h)
      ·
        refine Go_blk 1 (pc' := 37) (L' := [(0, .ref 28), (1, .int p1)]) (S' := [.int (0 : Int32)]) (h' := (hh X g I)) rfl ?_
        exact Go_jmp [] rfl trivial (fun _ h => h)
  ·
    refine Go_blk 1 (pc' := 12) (L' := [(0, .ref 28), (1, .int p1)]) (S' := [.int (1 : Int32)]) (h' := (hh X g I)) rfl ?_
    exact Go_ret (fun _ h => h) rfl
set_option maxRecDepth 1000000 in
set_option maxHeartbeats 4000000 in
theorem g_x_alike126 (p0 : Nat) (p1 : Int32) (p2 : Nat) (p3 : Int32) {X : XX} {g : GG} {I : MJ} {d : Nat} (hd : 1 ≤ d) : Go d 126 0 (lv_args 0 [.ref p0, .int p1, .ref p2, .int p3]) [] (hh X g I) (f_x_alike126 p0 p1 p2 p3 I) (pR X g I) := by
  obtain ⟨d, rfl⟩ : ∃ k, d = k + 1 := ⟨d - 1, by omega⟩
  unfold f_x_alike126
  refine Go_blk 2 (pc' := 3) (L' := [(4, .int (0 : Int32)), (0, .ref p0), (1, .int p1), (2, .ref p2), (3, .int p3)]) (S' := []) (h' := (hh X g I)) rfl ?_
  refine Go_lcs [(0, .ref p0), (1, .int p1), (2, .ref p2), (3, .int p3), (4, .int (0 : Int32))] rfl ⟨rfl, rfl, rfl, rfl, rfl, trivial⟩ ?_
  refine Go_wh (fun (s1 : Int32) => [(0, .ref p0), (1, .int p1), (2, .ref p2), (3, .int p3), (4, .int s1)]) (fun _ => []) (fun (s1 : Int32) => (hh X g I)) (fun s1 => ?_) (0 : Int32)
  refine Go_blk 2 (pc' := 7) (L' := [(0, .ref p0), (1, .int p1), (2, .ref p2), (3, .int p3), (4, .int s1)]) (S' := [.int (12 : Int32), .int s1]) (h' := (hh X g I)) rfl ?_
  refine Go_cmpn rfl rfl (ab_cge _ _) ?_ ?_
  ·
    refine Go_blk 4 (pc' := 15) (L' := [(0, .ref p0), (1, .int p1), (2, .ref p2), (3, .int p3), (4, .int s1)]) (S' := [.int (p1 + s1), .ref p0]) (h' := (hh X g I)) rfl ?_
    refine Go_cR (y' := 16) (As := [.ref p0, .int (p1 + s1)]) (r := []) rfl (g_x_at16 p0 (p1 + s1) (by omega)) fun v2 => ?_
    refine Go_blk 4 (pc' := 23) (L' := [(0, .ref p0), (1, .int p1), (2, .ref p2), (3, .int p3), (4, .int s1)]) (S' := [.int (p3 + s1), .ref p2, .int v2]) (h' := (hh X g I)) rfl ?_
    refine Go_cR (y' := 16) (As := [.ref p2, .int (p3 + s1)]) (r := [.int v2]) rfl (g_x_at16 p2 (p3 + s1) (by omega)) fun v3 => ?_
    refine Go_cmp rfl rfl rfl ?_ ?_
    ·
      refine Go_blk 2 (pc' := 3) (L' := [(4, .int (s1 + (1 : Int32))), (0, .ref p0), (1, .int p1), (2, .ref p2), (3, .int p3)]) (S' := []) (h' := (hh X g I)) rfl ?_
      exact Go_jmp [(0, .ref p0), (1, .int p1), (2, .ref p2), (3, .int p3), (4, .int (s1 + (1 : Int32)))] rfl ⟨rfl, rfl, rfl, rfl, rfl, trivial⟩ (fun _ h => h)
    ·
      refine Go_inrS ?_
      refine Go_blk 1 (pc' := 30) (L' := [(0, .ref p0), (1, .int p1), (2, .ref p2), (3, .int p3), (4, .int s1)]) (S' := [.int (0 : Int32)]) (h' := (hh X g I)) rfl ?_
      exact Go_ret (fun _ h => h) rfl
  ·
    refine Go_inrS ?_
    refine Go_blk 1 (pc' := 38) (L' := [(0, .ref p0), (1, .int p1), (2, .ref p2), (3, .int p3), (4, .int s1)]) (S' := [.int (1 : Int32)]) (h' := (hh X g I)) rfl ?_
    exact Go_ret (fun _ h => h) rfl
set_option maxRecDepth 1000000 in
set_option maxHeartbeats 4000000 in
theorem g_tra_allowsSale122 (p1 : Int32) {X : XX} {g : GG} {I : MJ} {d : Nat} (hd : 3 ≤ d) : Go d 122 0 (lv_args 0 [.ref 28, .int p1]) [] (hh X g I) (f_tra_allowsSale122 p1 I) (pR X g I) := by
  obtain ⟨d, rfl⟩ : ∃ k, d = k + 1 := ⟨d - 1, by omega⟩
  unfold f_tra_allowsSale122
  refine Go_blk 4 (pc' := 6) (L' := [(0, .ref 28), (1, .int p1)]) (S' := [.int (0 : Int32), .int p1, .ref 3]) (h' := (hh X g I)) rfl ?_
  refine Go_cR (y' := 123) (As := [.ref 3, .int p1, .int (0 : Int32)]) (r := []) rfl (g_sho_orderPart123 p1 (0 : Int32) (by omega)) fun v1 => ?_
  refine Go_blk 5 (pc' := 16) (L' := [(2, .int v1), (0, .ref 28), (1, .int p1)]) (S' := [.int (1 : Int32), .int p1, .ref 3]) (h' := (hh X g I)) rfl ?_
  refine Go_cR (y' := 123) (As := [.ref 3, .int p1, .int (1 : Int32)]) (r := []) rfl (g_sho_orderPart123 p1 (1 : Int32) (by omega)) fun v2 => ?_
  refine Go_blk 3 (pc' := 22) (L' := [(3, .int v2), (2, .int v1), (0, .ref 28), (1, .int p1)]) (S' := [.int p1, .ref 28]) (h' := (hh X g I)) rfl ?_
  refine Go_cR (y' := 124) (As := [.ref 28, .int p1]) (r := []) rfl (g_tra_stateOf124 p1 (by omega)) fun v3 => ?_
  refine Go_seq (pcj := 87) (fun (b4 : Int32) => []) (fun (b4 : Int32) => [.int b4]) (fun (b4 : Int32) => (hh X g I)) (fun b4 => ?_) ?_
  ·
    exact Go_ret (fun _ h => h) rfl
  ·
    refine Go_cmzn rfl rfl rfl ?_ ?_
    ·
      refine Go_blk 3 (pc' := 33) (L' := [(3, .int v2), (2, .int v1), (0, .ref 28), (1, .int p1)]) (S' := [.int v1, .ref 15]) (h' := (hh X g I)) rfl ?_
      refine Go_cR (y' := 108) (As := [.ref 15, .int v1]) (r := []) rfl (g_sta_hasSuit108_15 v1 (by omega)) fun v5 => ?_
      refine Go_cmz rfl rfl rfl ?_ ?_
      ·
        refine Go_blk 1 (pc' := 87) (L' := [(3, .int v2), (2, .int v1), (0, .ref 28), (1, .int p1)]) (S' := [.int (0 : Int32)]) (h' := (hh X g I)) rfl ?_
        exact Go_jmp [] rfl trivial (fun _ h => h)
      ·
        refine Go_blk 3 (pc' := 44) (L' := [(3, .int v2), (2, .int v1), (0, .ref 28), (1, .int p1)]) (S' := [.int v2, .ref 19]) (h' := (hh X g I)) rfl ?_
        refine Go_cR (y' := 25) (As := [.ref 19, .int v2]) (r := []) rfl (g_pat_isTold25 v2 (by omega)) fun v6 => ?_
        refine Go_cmz rfl rfl rfl ?_ ?_
        ·
          refine Go_blk 1 (pc' := 87) (L' := [(3, .int v2), (2, .int v1), (0, .ref 28), (1, .int p1)]) (S' := [.int (0 : Int32)]) (h' := (hh X g I)) rfl ?_
          exact Go_jmp [] rfl trivial (fun _ h => h)
        ·
          refine Go_blk 6 (pc' := 62) (L' := [(3, .int v2), (2, .int v1), (0, .ref 28), (1, .int p1)]) (S' := [.int v1, .ref 15, .ref 16]) (h' := (hh X g I)) rfl ?_
          refine Go_cR (y' := 114) (As := [.ref 15, .int v1]) (r := [.ref 16]) rfl (g_sta_suitAt114_15 v1 (by omega)) fun v7 => ?_
          refine Go_blk 6 (pc' := 76) (L' := [(3, .int v2), (2, .int v1), (0, .ref 28), (1, .int p1)]) (S' := [.int ((12 : Int32) * v2), .ref 20, .int v7, .ref 16]) (h' := (hh X g I)) rfl ?_
          refine Go_cR (y' := 126) (As := [.ref 16, .int v7, .ref 20, .int ((12 : Int32) * v2)]) (r := []) rfl (g_x_alike126 16 v7 20 ((12 : Int32) * v2) (by omega)) fun v8 => ?_
          refine Go_cmz rfl rfl rfl ?_ ?_
          ·
            refine Go_blk 1 (pc' := 87) (L' := [(3, .int v2), (2, .int v1), (0, .ref 28), (1, .int p1)]) (S' := [.int (0 : Int32)]) (h' := (hh X g I)) rfl ?_
            exact Go_jmp [] rfl trivial (fun _ h => h)
          ·
            refine Go_blk 2 (pc' := 87) (L' := [(3, .int v2), (2, .int v1), (0, .ref 28), (1, .int p1)]) (S' := [.int (1 : Int32)]) (h' := (hh X g I)) rfl ?_
            exact Go_jmp [] rfl trivial (fun _ h => h)
    ·
      refine Go_blk 1 (pc' := 87) (L' := [(3, .int v2), (2, .int v1), (0, .ref 28), (1, .int p1)]) (S' := [.int (0 : Int32)]) (h' := (hh X g I)) rfl ?_
      exact Go_jmp [] rfl trivial (fun _ h => h)
set_option maxRecDepth 1000000 in
set_option maxHeartbeats 4000000 in
theorem g_sta_pence128  {X : XX} {g : GG} {I : MJ} {d : Nat} (hd : 1 ≤ d) : Go d 128 0 (lv_args 0 [.ref 15]) [] (hh X g I) (f_sta_pence128  I) (pR X g I) := by
  obtain ⟨d, rfl⟩ : ∃ k, d = k + 1 := ⟨d - 1, by omega⟩
  unfold f_sta_pence128
  refine Go_blk 3 (pc' := 5) (L' := [(0, .ref 15)]) (S' := [.int (1 : Int32), .ref 16]) (h' := (hh X g I)) rfl ?_
  refine Go_cR (y' := 16) (As := [.ref 16, .int (1 : Int32)]) (r := []) rfl (g_x_at16 16 (1 : Int32) (by omega)) fun v1 => ?_
  exact Go_ret (fun _ h => h) rfl
set_option maxRecDepth 1000000 in
set_option maxHeartbeats 4000000 in
theorem g_sta_sell127 (p1 : Int32) (p2 : Int32) {X : XX} {g : GG} {I : MJ} {d : Nat} (hd : 2 ≤ d) : Go d 127 0 (lv_args 0 [.ref 15, .int p1, .int p2]) [] (hh X g I) (f_sta_sell127 p1 p2 I) (pV X g) := by
  obtain ⟨d, rfl⟩ : ∃ k, d = k + 1 := ⟨d - 1, by omega⟩
  unfold f_sta_sell127
  refine Go_blk 6 (pc' := 10) (L' := [(0, .ref 15), (1, .int p1), (2, .int p2)]) (S' := [.int (2 : Int32), .ref 16, .int (2 : Int32), .ref 16]) (h' := (hh X g I)) rfl ?_
  refine Go_cR (y' := 16) (As := [.ref 16, .int (2 : Int32)]) (r := [.int (2 : Int32), .ref 16]) rfl (g_x_at16 16 (2 : Int32) (by omega)) fun v1 => ?_
  refine Go_blk 4 (pc' := 17) (L' := [(0, .ref 15), (1, .int p1), (2, .int p2)]) (S' := [.int (v1 ||| ((1 : Int32) <<< (p1 &&& 31))), .int (2 : Int32), .ref 16]) (h' := (hh X g I)) rfl ?_
  refine Go_cV (y' := 15) (As := [.ref 16, .int (2 : Int32), .int (v1 ||| ((1 : Int32) <<< (p1 &&& 31)))]) (r := []) rfl (g_x_put15 16 (2 : Int32) (v1 ||| ((1 : Int32) <<< (p1 &&& 31))) (by omega)) fun I2 => ?_
  refine Go_blk 4 (pc' := 26) (L' := [(0, .ref 15), (1, .int p1), (2, .int p2)]) (S' := [.ref 15, .int (1 : Int32), .ref 16]) (h' := (hh X g I2)) rfl ?_
  refine Go_cR (y' := 128) (As := [.ref 15]) (r := [.int (1 : Int32), .ref 16]) rfl (g_sta_pence128  (by omega)) fun v3 => ?_
  refine Go_blk 2 (pc' := 31) (L' := [(0, .ref 15), (1, .int p1), (2, .int p2)]) (S' := [.int (v3 + p2), .int (1 : Int32), .ref 16]) (h' := (hh X g I2)) rfl ?_
  refine Go_cV (y' := 15) (As := [.ref 16, .int (1 : Int32), .int (v3 + p2)]) (r := []) rfl (g_x_put15 16 (1 : Int32) (v3 + p2) (by omega)) fun I4 => ?_
  exact Go_ret (fun _ h => h) rfl
set_option maxRecDepth 1000000 in
set_option maxHeartbeats 4000000 in
theorem g_tra_sellOrder121 (p1 : Int32) {X : XX} {g : GG} {I : MJ} {d : Nat} (hd : 4 ≤ d) : Go d 121 0 (lv_args 0 [.ref 28, .int p1]) [] (hh X g I) (f_tra_sellOrder121 p1 I) (pW X g) := by
  obtain ⟨d, rfl⟩ : ∃ k, d = k + 1 := ⟨d - 1, by omega⟩
  unfold f_tra_sellOrder121
  refine Go_blk 2 (pc' := 2) (L' := [(0, .ref 28), (1, .int p1)]) (S' := [.int p1, .ref 28]) (h' := (hh X g I)) rfl ?_
  refine Go_cR (y' := 122) (As := [.ref 28, .int p1]) (r := []) rfl (g_tra_allowsSale122 p1 (by omega)) fun v1 => ?_
  refine Go_cmzn rfl rfl rfl ?_ ?_
  ·
    refine Go_blk 1 (pc' := 9) (L' := [(0, .ref 28), (1, .int p1)]) (S' := [.int (0 : Int32)]) (h' := (hh X g I)) rfl ?_
    exact Go_ret (fun _ h => h) rfl
  ·
    refine Go_blk 7 (pc' := 21) (L' := [(0, .ref 28), (1, .int p1)]) (S' := [.int (3 : Int32), .int p1, .ref 3, .int p1, .ref 15]) (h' := (hh X g I)) rfl ?_
    refine Go_cR (y' := 123) (As := [.ref 3, .int p1, .int (3 : Int32)]) (r := [.int p1, .ref 15]) rfl (g_sho_orderPart123 p1 (3 : Int32) (by omega)) fun v2 => ?_
    refine Go_cV (y' := 127) (As := [.ref 15, .int p1, .int v2]) (r := []) rfl (g_sta_sell127 p1 v2 (by omega)) fun I3 => ?_
    refine Go_blk 6 (pc' := 37) (L' := [(0, .ref 28), (1, .int p1)]) (S' := [.int (0 : Int32), .int p1, .ref 3, .ref 15]) (h' := (hh X g I3)) rfl ?_
    refine Go_cR (y' := 123) (As := [.ref 3, .int p1, .int (0 : Int32)]) (r := [.ref 15]) rfl (g_sho_orderPart123 p1 (0 : Int32) (by omega)) fun v4 => ?_
    refine Go_cV (y' := 14) (As := [.ref 15, .int v4]) (r := []) rfl (g_sta_strip14 v4 (by omega)) fun I5 => ?_
    refine Go_blk 1 (pc' := 44) (L' := [(0, .ref 28), (1, .int p1)]) (S' := [.int (1 : Int32)]) (h' := (hh X g I5)) rfl ?_
    exact Go_ret (fun _ h => h) rfl
set_option maxRecDepth 1000000 in
set_option maxHeartbeats 4000000 in
theorem g_sta_nextDay130_17  {X : XX} {g : GG} {I : MJ} {d : Nat} (hd : 2 ≤ d) : Go d 130 0 (lv_args 0 [.ref 17]) [] (hh X g I) (f_sta_nextDay130 17 I) (pV X g) := by
  obtain ⟨d, rfl⟩ : ∃ k, d = k + 1 := ⟨d - 1, by omega⟩
  unfold f_sta_nextDay130
  refine Go_blk 4 (pc' := 6) (L' := [(0, .ref 17)]) (S' := [.ref 17, .int (0 : Int32), .ref 18]) (h' := (hh X g I)) rfl ?_
  refine Go_cR (y' := 113) (As := [.ref 17]) (r := [.int (0 : Int32), .ref 18]) rfl (g_sta_day113_17  (by omega)) fun v1 => ?_
  refine Go_blk 2 (pc' := 11) (L' := [(0, .ref 17)]) (S' := [.int (v1 + (1 : Int32)), .int (0 : Int32), .ref 18]) (h' := (hh X g I)) rfl ?_
  refine Go_cV (y' := 15) (As := [.ref 18, .int (0 : Int32), .int (v1 + (1 : Int32))]) (r := []) rfl (g_x_put15 18 (0 : Int32) (v1 + (1 : Int32)) (by omega)) fun I2 => ?_
  exact Go_ret (fun _ h => h) rfl
set_option maxRecDepth 1000000 in
set_option maxHeartbeats 4000000 in
theorem g_sta_nextDay130_15  {X : XX} {g : GG} {I : MJ} {d : Nat} (hd : 2 ≤ d) : Go d 130 0 (lv_args 0 [.ref 15]) [] (hh X g I) (f_sta_nextDay130 15 I) (pV X g) := by
  obtain ⟨d, rfl⟩ : ∃ k, d = k + 1 := ⟨d - 1, by omega⟩
  unfold f_sta_nextDay130
  refine Go_blk 4 (pc' := 6) (L' := [(0, .ref 15)]) (S' := [.ref 15, .int (0 : Int32), .ref 16]) (h' := (hh X g I)) rfl ?_
  refine Go_cR (y' := 113) (As := [.ref 15]) (r := [.int (0 : Int32), .ref 16]) rfl (g_sta_day113_15  (by omega)) fun v1 => ?_
  refine Go_blk 2 (pc' := 11) (L' := [(0, .ref 15)]) (S' := [.int (v1 + (1 : Int32)), .int (0 : Int32), .ref 16]) (h' := (hh X g I)) rfl ?_
  refine Go_cV (y' := 15) (As := [.ref 16, .int (0 : Int32), .int (v1 + (1 : Int32))]) (r := []) rfl (g_x_put15 16 (0 : Int32) (v1 + (1 : Int32)) (by omega)) fun I2 => ?_
  exact Go_ret (fun _ h => h) rfl
set_option maxRecDepth 1000000 in
set_option maxHeartbeats 4000000 in
theorem g_sta_ageOf132_17 (p1 : Int32) {X : XX} {g : GG} {I : MJ} {d : Nat} (hd : 2 ≤ d) : Go d 132 0 (lv_args 0 [.ref 17, .int p1]) [] (hh X g I) (f_sta_ageOf132 17 p1 I) (pR X g I) := by
  obtain ⟨d, rfl⟩ : ∃ k, d = k + 1 := ⟨d - 1, by omega⟩
  unfold f_sta_ageOf132
  refine Go_blk 1 (pc' := 1) (L' := [(0, .ref 17), (1, .int p1)]) (S' := [.ref 17]) (h' := (hh X g I)) rfl ?_
  refine Go_cR (y' := 113) (As := [.ref 17]) (r := []) rfl (g_sta_day113_17  (by omega)) fun v1 => ?_
  refine Go_blk 5 (pc' := 11) (L' := [(0, .ref 17), (1, .int p1)]) (S' := [.int ((3 : Int32) + p1), .ref 18, .int v1]) (h' := (hh X g I)) rfl ?_
  refine Go_cR (y' := 16) (As := [.ref 18, .int ((3 : Int32) + p1)]) (r := [.int v1]) rfl (g_x_at16 18 ((3 : Int32) + p1) (by omega)) fun v2 => ?_
  refine Go_blk 1 (pc' := 15) (L' := [(0, .ref 17), (1, .int p1)]) (S' := [.int (v1 - v2)]) (h' := (hh X g I)) rfl ?_
  exact Go_ret (fun _ h => h) rfl
set_option maxRecDepth 1000000 in
set_option maxHeartbeats 4000000 in
theorem g_sta_ageOf132_15 (p1 : Int32) {X : XX} {g : GG} {I : MJ} {d : Nat} (hd : 2 ≤ d) : Go d 132 0 (lv_args 0 [.ref 15, .int p1]) [] (hh X g I) (f_sta_ageOf132 15 p1 I) (pR X g I) := by
  obtain ⟨d, rfl⟩ : ∃ k, d = k + 1 := ⟨d - 1, by omega⟩
  unfold f_sta_ageOf132
  refine Go_blk 1 (pc' := 1) (L' := [(0, .ref 15), (1, .int p1)]) (S' := [.ref 15]) (h' := (hh X g I)) rfl ?_
  refine Go_cR (y' := 113) (As := [.ref 15]) (r := []) rfl (g_sta_day113_15  (by omega)) fun v1 => ?_
  refine Go_blk 5 (pc' := 11) (L' := [(0, .ref 15), (1, .int p1)]) (S' := [.int ((3 : Int32) + p1), .ref 16, .int v1]) (h' := (hh X g I)) rfl ?_
  refine Go_cR (y' := 16) (As := [.ref 16, .int ((3 : Int32) + p1)]) (r := [.int v1]) rfl (g_x_at16 16 ((3 : Int32) + p1) (by omega)) fun v2 => ?_
  refine Go_blk 1 (pc' := 15) (L' := [(0, .ref 15), (1, .int p1)]) (S' := [.int (v1 - v2)]) (h' := (hh X g I)) rfl ?_
  exact Go_ret (fun _ h => h) rfl
set_option maxRecDepth 1000000 in
set_option maxHeartbeats 4000000 in
theorem g_x_seamsOf133 (p0 : Nat) (p1 : Int32) {X : XX} {g : GG} {I : MJ} {d : Nat} (hd : 1 ≤ d) : Go d 133 0 (lv_args 0 [.ref p0, .int p1]) [] (hh X g I) (f_x_seamsOf133 p0 p1 I) (pR X g I) := by
  obtain ⟨d, rfl⟩ : ∃ k, d = k + 1 := ⟨d - 1, by omega⟩
  unfold f_x_seamsOf133
  refine Go_blk 4 (pc' := 4) (L' := [(3, .int (1 : Int32)), (2, .int (0 : Int32)), (0, .ref p0), (1, .int p1)]) (S' := []) (h' := (hh X g I)) rfl ?_
  refine Go_lcs [(0, .ref p0), (1, .int p1), (2, .int (0 : Int32)), (3, .int (1 : Int32))] rfl ⟨rfl, rfl, rfl, rfl, trivial⟩ ?_
  refine Go_seq (pcj := 43) (fun (b2 : Int32) => [(2, .int b2)]) (fun (b2 : Int32) => []) (fun (b2 : Int32) => (hh X g I)) (fun b2 => ?_) ?_
  ·
    refine Go_blk 1 (pc' := 44) (L' := [(2, .int b2)]) (S' := [.int b2]) (h' := (hh X g I)) rfl ?_
    exact Go_ret (fun _ h => h) rfl
  ·
    refine Go_wh (fun (s1 : Int32 × Int32) => [(0, .ref p0), (1, .int p1), (2, .int s1.1), (3, .int s1.2)]) (fun _ => []) (fun (s1 : Int32 × Int32) => (hh X g I)) (fun s1 => ?_) ((0 : Int32), (1 : Int32))
    refine Go_blk 2 (pc' := 7) (L' := [(0, .ref p0), (1, .int p1), (2, .int s1.1), (3, .int s1.2)]) (S' := [.int (12 : Int32), .int s1.2]) (h' := (hh X g I)) rfl ?_
    refine Go_cmpn rfl rfl (ab_cge _ _) ?_ ?_
    ·
      refine Go_blk 5 (pc' := 15) (L' := [(0, .ref p0), (1, .int p1), (2, .int s1.1), (3, .int s1.2)]) (S' := [.int (p1 + s1.2), .ref p0, .int s1.1]) (h' := (hh X g I)) rfl ?_
      refine Go_cR (y' := 16) (As := [.ref p0, .int (p1 + s1.2)]) (r := [.int s1.1]) rfl (g_x_at16 p0 (p1 + s1.2) (by omega)) fun v3 => ?_
      refine Go_blk 6 (pc' := 24) (L' := [(0, .ref p0), (1, .int p1), (2, .int s1.1), (3, .int s1.2)]) (S' := [.int ((p1 + s1.2) - (1 : Int32)), .ref p0, .int v3, .int s1.1]) (h' := (hh X g I)) rfl ?_
      refine Go_cR (y' := 16) (As := [.ref p0, .int ((p1 + s1.2) - (1 : Int32))]) (r := [.int v3, .int s1.1]) rfl (g_x_at16 p0 ((p1 + s1.2) - (1 : Int32)) (by omega)) fun v4 => ?_
      refine Go_seq (pcj := 35) (fun (b5 : Int32) => [(0, .ref p0), (1, .int p1), (3, .int s1.2)]) (fun (b5 : Int32) => [.int b5, .int s1.1]) (fun (b5 : Int32) => (hh X g I)) (fun b5 => ?_) ?_
      ·
        refine Go_blk 4 (pc' := 4) (L' := [(3, .int (s1.2 + (1 : Int32))), (2, .int (s1.1 + b5)), (0, .ref p0), (1, .int p1)]) (S' := []) (h' := (hh X g I)) rfl ?_
        exact Go_jmp [(0, .ref p0), (1, .int p1), (2, .int (s1.1 + b5)), (3, .int (s1.2 + (1 : Int32)))] rfl ⟨rfl, rfl, rfl, rfl, trivial⟩ (fun _ h => h)
      ·
        refine Go_cmp rfl rfl rfl ?_ ?_
        ·
          refine Go_blk 1 (pc' := 35) (L' := [(0, .ref p0), (1, .int p1), (2, .int s1.1), (3, .int s1.2)]) (S' := [.int (0 : Int32), .int s1.1]) (h' := (hh X g I)) rfl ?_
          exact Go_jmp [(0, .ref p0), (1, .int p1), (3, .int s1.2)] rfl ⟨rfl, rfl, rfl, trivial⟩ (fun _ h => h)
        ·
          refine Go_blk 2 (pc' := 35) (L' := [(0, .ref p0), (1, .int p1), (2, .int s1.1), (3, .int s1.2)]) (S' := [.int (1 : Int32), .int s1.1]) (h' := (hh X g I)) rfl ?_
          exact Go_jmp [(0, .ref p0), (1, .int p1), (3, .int s1.2)] rfl ⟨rfl, rfl, rfl, trivial⟩ (fun _ h => h)
    ·
      exact Go_jmp [(2, .int s1.1)] rfl ⟨rfl, trivial⟩ (fun _ h => h)
set_option maxRecDepth 1000000 in
set_option maxHeartbeats 4000000 in
theorem g_mot_reckon135 (p0 : Int32) (p1 : Int32) (p2 : Int32) {X : XX} {g : GG} {I : MJ} {d : Nat} (hd : 0 ≤ d) : Go d 135 0 (lv_args 0 [.int p0, .int p1, .int p2]) [] (hh X g I) (f_mot_reckon135 p0 p1 p2 I) (pR X g I) := by
  unfold f_mot_reckon135
  refine Go_blk 1 (pc' := 1) (L' := [(0, .int p0), (1, .int p1), (2, .int p2)]) (S' := [.int p0]) (h' := (hh X g I)) rfl ?_
  refine Go_sw ?_ fun h0 => ?_
  ·
    refine Go_blk 1 (pc' := 64) (L' := [(0, .int p0), (1, .int p1), (2, .int p2)]) (S' := []) (h' := (hh X g I)) rfl ?_
    refine Go_blk 1 (pc' := 65) (L' := [(0, .int p0), (1, .int p1), (2, .int p2)]) (S' := [.int p2]) (h' := (hh X g I)) rfl ?_
    refine Go_seq (pcj := 75) (fun (b1 : Int32) => []) (fun (b1 : Int32) => [.int b1]) (fun (b1 : Int32) => (hh X g I)) (fun b1 => ?_) ?_
    ·
      exact Go_ret (fun _ h => h) rfl
    ·
      refine Go_cmzn rfl rfl rfl ?_ ?_
      ·
        refine Go_blk 2 (pc' := 75) (L' := [(0, .int p0), (1, .int p1), (2, .int p2)]) (S' := [.int (0 : Int32)]) (h' := (hh X g I)) rfl ?_
        exact Go_jmp [] rfl trivial (fun _ h => h)
      ·
        refine Go_blk 2 (pc' := 74) (L' := [(0, .int p0), (1, .int p1), (2, .int p2)]) (S' := [.int p2, .int p1]) (h' := (hh X g I)) rfl ?_
        refine Go_idiv rfl fun v2 => ?_
        exact Go_jmp [] rfl trivial (fun _ h => h)
  refine Go_sw ?_ fun h1 => ?_
  ·
    refine Go_blk 1 (pc' := 60) (L' := [(0, .int p0), (1, .int p1), (2, .int p2)]) (S' := []) (h' := (hh X g I)) rfl ?_
    refine Go_blk 3 (pc' := 63) (L' := [(0, .int p0), (1, .int p1), (2, .int p2)]) (S' := [.int (p1 * p2)]) (h' := (hh X g I)) rfl ?_
    exact Go_ret (fun _ h => h) rfl
  refine Go_sw ?_ fun h2 => ?_
  ·
    refine Go_blk 1 (pc' := 56) (L' := [(0, .int p0), (1, .int p1), (2, .int p2)]) (S' := []) (h' := (hh X g I)) rfl ?_
    refine Go_blk 3 (pc' := 59) (L' := [(0, .int p0), (1, .int p1), (2, .int p2)]) (S' := [.int (p1 - p2)]) (h' := (hh X g I)) rfl ?_
    exact Go_ret (fun _ h => h) rfl
  refine Go_sw ?_ fun h3 => ?_
  ·
    refine Go_blk 1 (pc' := 52) (L' := [(0, .int p0), (1, .int p1), (2, .int p2)]) (S' := []) (h' := (hh X g I)) rfl ?_
    refine Go_blk 3 (pc' := 55) (L' := [(0, .int p0), (1, .int p1), (2, .int p2)]) (S' := [.int (p1 + p2)]) (h' := (hh X g I)) rfl ?_
    exact Go_ret (fun _ h => h) rfl
  refine Go_sw ?_ fun h4 => ?_
  ·
    refine Go_blk 1 (pc' := 46) (L' := [(0, .int p0), (1, .int p1), (2, .int p2)]) (S' := []) (h' := (hh X g I)) rfl ?_
    refine Go_blk 3 (pc' := 51) (L' := [(0, .int p0), (1, .int p1), (2, .int p2)]) (S' := [.int (if p1 < p2 then p2 else p1)]) (h' := (hh X g I)) rfl ?_
    exact Go_ret (fun _ h => h) rfl
  refine Go_sw ?_ fun h5 => ?_
  ·
    refine Go_blk 1 (pc' := 40) (L' := [(0, .int p0), (1, .int p1), (2, .int p2)]) (S' := []) (h' := (hh X g I)) rfl ?_
    refine Go_blk 3 (pc' := 45) (L' := [(0, .int p0), (1, .int p1), (2, .int p2)]) (S' := [.int (if p2 < p1 then p2 else p1)]) (h' := (hh X g I)) rfl ?_
    exact Go_ret (fun _ h => h) rfl
  refine Go_swd (t := 76) 6 rfl (by decide) (by decide) (by decide) ⟨⟨⟨⟨⟨⟨trivial, h0⟩, h1⟩, h2⟩, h3⟩, h4⟩, h5⟩ rfl ?_
  refine Go_blk 1 (pc' := 77) (L' := [(0, .int p0), (1, .int p1), (2, .int p2)]) (S' := [.int p2]) (h' := (hh X g I)) rfl ?_
  refine Go_seq (pcj := 87) (fun (b3 : Int32) => []) (fun (b3 : Int32) => [.int b3]) (fun (b3 : Int32) => (hh X g I)) (fun b3 => ?_) ?_
  ·
    exact Go_ret (fun _ h => h) rfl
  ·
    refine Go_cmzn rfl rfl rfl ?_ ?_
    ·
      refine Go_blk 2 (pc' := 87) (L' := [(0, .int p0), (1, .int p1), (2, .int p2)]) (S' := [.int (0 : Int32)]) (h' := (hh X g I)) rfl ?_
      exact Go_jmp [] rfl trivial (fun _ h => h)
    ·
      refine Go_blk 2 (pc' := 86) (L' := [(0, .int p0), (1, .int p1), (2, .int p2)]) (S' := [.int p2, .int p1]) (h' := (hh X g I)) rfl ?_
      refine Go_irem rfl fun v4 => ?_
      exact Go_jmp [] rfl trivial (fun _ h => h)
set_option maxRecDepth 1000000 in
set_option maxHeartbeats 4000000 in
theorem g_mot_value134  {X : XX} {g : GG} {I : MJ} {d : Nat} (hd : 1 ≤ d) : Go d 134 0 (lv_args 0 [.ref 23]) [] (hh X g I) (f_mot_value134  I) (pW X g) := by
  obtain ⟨d, rfl⟩ : ∃ k, d = k + 1 := ⟨d - 1, by omega⟩
  unfold f_mot_value134
  refine Go_blk 4 (pc' := 4) (L' := [(2, .int (0 : Int32)), (1, .int (0 : Int32)), (0, .ref 23)]) (S' := []) (h' := (hh X g I)) rfl ?_
  refine Go_lcs [(0, .ref 23), (1, .int (0 : Int32)), (2, .int (0 : Int32))] rfl ⟨rfl, rfl, rfl, trivial⟩ ?_
  refine Go_seq (pcj := 100) (fun (b2 : Int32 × MJ) => [(0, .ref 23), (1, .int b2.1)]) (fun (b2 : Int32 × MJ) => []) (fun (b2 : Int32 × MJ) => (hh X g b2.2)) (fun b2 => ?_) ?_
  ·
    refine Go_blk 1 (pc' := 101) (L' := [(0, .ref 23), (1, .int b2.1)]) (S' := [.int b2.1]) (h' := (hh X g b2.2)) rfl ?_
    refine Go_seq (pcj := 118) (fun (b3 : Int32) => []) (fun (b3 : Int32) => [.int b3]) (fun (b3 : Int32) => (hh X g b2.2)) (fun b3 => ?_) ?_
    ·
      exact Go_ret (fun _ h => h) rfl
    ·
      refine Go_cmzn rfl rfl (ab_cle0 _) ?_ ?_
      ·
        refine Go_blk 5 (pc' := 111) (L' := [(0, .ref 23), (1, .int b2.1)]) (S' := [.int (b2.1 - (1 : Int32)), .ref 26]) (h' := (hh X g b2.2)) rfl ?_
        refine Go_cR (y' := 16) (As := [.ref 26, .int (b2.1 - (1 : Int32))]) (r := []) rfl (g_x_at16 26 (b2.1 - (1 : Int32)) (by omega)) fun v4 => ?_
        refine Go_blk 1 (pc' := 118) (L' := [(0, .ref 23), (1, .int b2.1)]) (S' := [.int v4]) (h' := (hh X g b2.2)) rfl ?_
        exact Go_jmp [] rfl trivial (fun _ h => h)
      ·
        refine Go_blk 1 (pc' := 118) (L' := [(0, .ref 23), (1, .int b2.1)]) (S' := [.int (0 : Int32)]) (h' := (hh X g b2.2)) rfl ?_
        exact Go_jmp [] rfl trivial (fun _ h => h)
  ·
    refine Go_wh (fun (s1 : Int32 × Int32 × MJ) => [(0, .ref 23), (1, .int s1.1), (2, .int s1.2.1)]) (fun _ => []) (fun (s1 : Int32 × Int32 × MJ) => (hh X g s1.2.2)) (fun s1 => ?_) ((0 : Int32), (0 : Int32), I)
    refine Go_blk 3 (pc' := 9) (L' := [(0, .ref 23), (1, .int s1.1), (2, .int s1.2.1)]) (S' := [.int (s1.2.2 23 4), .int s1.2.1]) (h' := (hh X g s1.2.2)) rfl ?_
    refine Go_cmpn rfl rfl (ab_cge _ _) ?_ ?_
    ·
      refine Go_blk 3 (pc' := 17) (L' := [(0, .ref 23), (1, .int s1.1), (2, .int s1.2.1)]) (S' := [.int s1.2.1, .ref 24]) (h' := (hh X g s1.2.2)) rfl ?_
      refine Go_cR (y' := 16) (As := [.ref 24, .int s1.2.1]) (r := []) rfl (g_x_at16 24 s1.2.1 (by omega)) fun v5 => ?_
      refine Go_blk 3 (pc' := 24) (L' := [(3, .int v5), (0, .ref 23), (1, .int s1.1), (2, .int s1.2.1)]) (S' := [.int (-6 : Int32), .int v5]) (h' := (hh X g s1.2.2)) rfl ?_
      refine Go_seq (pcj := 94) (fun (b6 : Int32 × MJ) => [(0, .ref 23), (1, .int b6.1), (2, .int s1.2.1)]) (fun (b6 : Int32 × MJ) => []) (fun (b6 : Int32 × MJ) => (hh X g b6.2)) (fun b6 => ?_) ?_
      ·
        refine Go_blk 2 (pc' := 4) (L' := [(2, .int (s1.2.1 + (1 : Int32))), (0, .ref 23), (1, .int b6.1)]) (S' := []) (h' := (hh X g b6.2)) rfl ?_
        exact Go_jmp [(0, .ref 23), (1, .int b6.1), (2, .int (s1.2.1 + (1 : Int32)))] rfl ⟨rfl, rfl, rfl, trivial⟩ (fun _ h => h)
      ·
        refine Go_cmp rfl rfl rfl ?_ ?_
        ·
          refine Go_blk 12 (pc' := 77) (L' := [(1, .int (s1.1 + (-1 : Int32))), (3, .int v5), (0, .ref 23), (2, .int s1.2.1)]) (S' := [.int ((s1.1 + (-1 : Int32)) - (1 : Int32)), .ref 26, .int v5, .int ((s1.1 + (-1 : Int32)) - (1 : Int32)), .ref 26]) (h' := (hh X g s1.2.2)) rfl ?_
          refine Go_cR (y' := 16) (As := [.ref 26, .int ((s1.1 + (-1 : Int32)) - (1 : Int32))]) (r := [.int v5, .int ((s1.1 + (-1 : Int32)) - (1 : Int32)), .ref 26]) rfl (g_x_at16 26 ((s1.1 + (-1 : Int32)) - (1 : Int32)) (by omega)) fun v7 => ?_
          refine Go_blk 3 (pc' := 85) (L' := [(1, .int (s1.1 + (-1 : Int32))), (3, .int v5), (0, .ref 23), (2, .int s1.2.1)]) (S' := [.int (s1.1 + (-1 : Int32)), .ref 26, .int v7, .int v5, .int ((s1.1 + (-1 : Int32)) - (1 : Int32)), .ref 26]) (h' := (hh X g s1.2.2)) rfl ?_
          refine Go_cR (y' := 16) (As := [.ref 26, .int (s1.1 + (-1 : Int32))]) (r := [.int v7, .int v5, .int ((s1.1 + (-1 : Int32)) - (1 : Int32)), .ref 26]) rfl (g_x_at16 26 (s1.1 + (-1 : Int32)) (by omega)) fun v8 => ?_
          refine Go_cR (y' := 135) (As := [.int v5, .int v7, .int v8]) (r := [.int ((s1.1 + (-1 : Int32)) - (1 : Int32)), .ref 26]) rfl (g_mot_reckon135 v5 v7 v8 (by omega)) fun v9 => ?_
          refine Go_cV (y' := 15) (As := [.ref 26, .int ((s1.1 + (-1 : Int32)) - (1 : Int32)), .int v9]) (r := []) rfl (g_x_put15 26 ((s1.1 + (-1 : Int32)) - (1 : Int32)) v9 (by omega)) fun I10 => ?_
          exact Go_jmp [(0, .ref 23), (1, .int (s1.1 + (-1 : Int32))), (2, .int s1.2.1)] rfl ⟨rfl, rfl, rfl, trivial⟩ (fun _ h => h)
        ·
          refine Go_blk 4 (pc' := 33) (L' := [(3, .int v5), (0, .ref 23), (1, .int s1.1), (2, .int s1.2.1)]) (S' := [.int v5, .int s1.1, .ref 26]) (h' := (hh X g s1.2.2)) rfl ?_
          refine Go_seq (pcj := 50) (fun (b11 : Int32) => [(0, .ref 23), (1, .int s1.1), (2, .int s1.2.1)]) (fun (b11 : Int32) => [.int b11, .int s1.1, .ref 26]) (fun (b11 : Int32) => (hh X g s1.2.2)) (fun b11 => ?_) ?_
          ·
            refine Go_cV (y' := 15) (As := [.ref 26, .int s1.1, .int b11]) (r := []) rfl (g_x_put15 26 s1.1 b11 (by omega)) fun I12 => ?_
            refine Go_blk 2 (pc' := 94) (L' := [(1, .int (s1.1 + (1 : Int32))), (0, .ref 23), (2, .int s1.2.1)]) (S' := []) (h' := (hh X g I12)) rfl ?_
            exact Go_jmp [(0, .ref 23), (1, .int (s1.1 + (1 : Int32))), (2, .int s1.2.1)] rfl ⟨rfl, rfl, rfl, trivial⟩ (fun _ h => h)
          ·
            refine Go_cmz rfl rfl rfl ?_ ?_
            ·
              refine Go_blk 5 (pc' := 47) (L' := [(3, .int v5), (0, .ref 23), (1, .int s1.1), (2, .int s1.2.1)]) (S' := [.int ((-1 : Int32) - v5), .ref 27, .int s1.1, .ref 26]) (h' := (hh X g s1.2.2)) rfl ?_
              refine Go_cR (y' := 16) (As := [.ref 27, .int ((-1 : Int32) - v5)]) (r := [.int s1.1, .ref 26]) rfl (g_x_at16 27 ((-1 : Int32) - v5) (by omega)) fun v13 => ?_
              exact Go_jmp [(0, .ref 23), (1, .int s1.1), (2, .int s1.2.1)] rfl ⟨rfl, rfl, rfl, trivial⟩ (fun _ h => h)
            ·
              refine Go_blk 2 (pc' := 50) (L' := [(3, .int v5), (0, .ref 23), (1, .int s1.1), (2, .int s1.2.1)]) (S' := [.int v5, .int s1.1, .ref 26]) (h' := (hh X g s1.2.2)) rfl ?_
              exact Go_jmp [(0, .ref 23), (1, .int s1.1), (2, .int s1.2.1)] rfl ⟨rfl, rfl, rfl, trivial⟩ (fun _ h => h)
    ·
      exact Go_jmp [(0, .ref 23), (1, .int s1.1)] rfl ⟨rfl, rfl, trivial⟩ (fun _ h => h)
