/-! the machine runs them (written by wip/whole/dec.py) -/
set_option maxRecDepth 1000000 in
set_option maxHeartbeats 4000000 in
theorem g_m_in264 (p0 : Int32) (p1 : Int32) (p2 : Int32) {X : XX} {g : GG} {I : MJ} {d : Nat} (hd : 0 ≤ d) : Go d 264 0 (lv_args 0 [.int p0, .int p1, .int p2]) [] (hh X g I) (f_m_in264 p0 p1 p2 I) (pR X g I) := by
  unfold f_m_in264
  refine Go_blk 2 (pc' := 2) (L' := [(0, .int p0), (1, .int p1), (2, .int p2)]) (S' := [.int p1, .int p0]) (h' := (hh X g I)) rfl ?_
  refine Go_seq (pcj := 15) (fun (b1 : Int32) => []) (fun (b1 : Int32) => [.int b1]) (fun (b1 : Int32) => (hh X g I)) (fun b1 => ?_) ?_
  ·
    exact Go_ret (fun _ h => h) rfl
  ·
    refine Go_cmp rfl rfl rfl ?_ ?_
    ·
      refine Go_blk 1 (pc' := 15) (L' := [(0, .int p0), (1, .int p1), (2, .int p2)]) (S' := [.int (0 : Int32)]) (h' := (hh X g I)) rfl ?_
      exact Go_jmp [] rfl trivial (fun _ h => h)
    ·
      refine Go_blk 2 (pc' := 7) (L' := [(0, .int p0), (1, .int p1), (2, .int p2)]) (S' := [.int p2, .int p0]) (h' := (hh X g I)) rfl ?_
      refine Go_cmp rfl rfl rfl ?_ ?_
      ·
        refine Go_blk 1 (pc' := 15) (L' := [(0, .int p0), (1, .int p1), (2, .int p2)]) (S' := [.int (0 : Int32)]) (h' := (hh X g I)) rfl ?_
        exact Go_jmp [] rfl trivial (fun _ h => h)
      ·
        refine Go_blk 2 (pc' := 15) (L' := [(0, .int p0), (1, .int p1), (2, .int p2)]) (S' := [.int (1 : Int32)]) (h' := (hh X g I)) rfl ?_
        exact Go_jmp [] rfl trivial (fun _ h => h)
set_option maxRecDepth 1000000 in
set_option maxHeartbeats 4000000 in
theorem g_m_bad268 (p1 : Int32) (p2 : Int32) (p3 : Int32) {X : XX} {g : GG} {I : MJ} {d : Nat} (hd : 0 ≤ d) : Go d 268 0 (lv_args 0 [.ref 47, .int p1, .int p2, .int p3]) [] (hh X g I) (f_m_bad268 p1 p2 p3 I) (pW X g) := by
  unfold f_m_bad268
  refine Go_blk 1 (pc' := 1) (L' := [(0, .ref 47), (1, .int p1), (2, .int p2), (3, .int p3)]) (S' := [.int p1]) (h' := (hh X g I)) rfl ?_
  refine Go_seq (pcj := 26) (fun (b1 : MJ) => [(0, .ref 47)]) (fun (b1 : MJ) => []) (fun (b1 : MJ) => (hh X g b1)) (fun b1 => ?_) ?_
  ·
    refine Go_blk 2 (pc' := 30) (L' := [(0, .ref 47)]) (S' := [.int (b1 47 0)]) (h' := (hh X g b1)) rfl ?_
    refine Go_seq (pcj := 38) (fun (b2 : Int32) => []) (fun (b2 : Int32) => [.int b2]) (fun (b2 : Int32) => (hh X g b1)) (fun b2 => ?_) ?_
    ·
      exact Go_ret (fun _ h => h) rfl
    ·
      refine Go_cmz rfl rfl rfl ?_ ?_
      ·
        refine Go_blk 1 (pc' := 38) (L' := [(0, .ref 47)]) (S' := [.int (0 : Int32)]) (h' := (hh X g b1)) rfl ?_
        exact Go_jmp [] rfl trivial (fun _ h => h)
      ·
        refine Go_blk 2 (pc' := 38) (L' := [(0, .ref 47)]) (S' := [.int (1 : Int32)]) (h' := (hh X g b1)) rfl ?_
        exact Go_jmp [] rfl trivial (fun _ h => h)
  ·
    refine Go_cmz rfl rfl rfl ?_ ?_
    ·
      exact Go_jmp [(0, .ref 47)] rfl ⟨rfl, trivial⟩ (fun _ h => h)
    ·
      refine Go_blk 2 (pc' := 8) (L' := [(0, .ref 47), (1, .int p1), (2, .int p2), (3, .int p3)]) (S' := [.int (I 47 0)]) (h' := (hh X g I)) rfl ?_
      refine Go_cmzn rfl rfl rfl ?_ ?_
      ·
        refine Go_blk 7 (pc' := 22) (L' := [(0, .ref 47), (1, .int p1), (2, .int p2), (3, .int p3)]) (S' := [.int p3, .ref 49, .int p3, .ref 49]) (h' := (hh X g (ab_up1 I 47 0 p2))) rfl ?_
        refine Go_iald rfl fun v3 => ?_
        refine Go_blk 2 (pc' := 25) (L' := [(0, .ref 47), (1, .int p1), (2, .int p2), (3, .int p3)]) (S' := [.int (v3 + (1 : Int32)), .int p3, .ref 49]) (h' := (hh X g (ab_up1 I 47 0 p2))) rfl ?_
        refine Go_iast rfl fun I4 => ?_
        exact Go_jmp [(0, .ref 47)] rfl ⟨rfl, trivial⟩ (fun _ h => h)
      ·
        exact Go_jmp [(0, .ref 47)] rfl ⟨rfl, trivial⟩ (fun _ h => h)
set_option maxRecDepth 1000000 in
set_option maxHeartbeats 4000000 in
theorem g_m_byteAt271 (p1 : Int32) {X : XX} {g : GG} {I : MJ} {d : Nat} (hd : 0 ≤ d) : Go d 271 0 (lv_args 0 [.ref 47, .int p1]) [] (hh X g I) (f_m_byteAt271 p1 I) (pR X g I) := by
  unfold f_m_byteAt271
  refine Go_blk 3 (pc' := 5) (L' := [(0, .ref 47), (1, .int p1)]) (S' := [.int (I 47 2), .int p1]) (h' := (hh X g I)) rfl ?_
  refine Go_seq (pcj := 18) (fun (b1 : Int32) => []) (fun (b1 : Int32) => [.int b1]) (fun (b1 : Int32) => (hh X g I)) (fun b1 => ?_) ?_
  ·
    exact Go_ret (fun _ h => h) rfl
  ·
    refine Go_cmp rfl rfl rfl ?_ ?_
    ·
      refine Go_blk 3 (pc' := 17) (L' := [(0, .ref 47), (1, .int p1)]) (S' := [.int p1, .ref 48]) (h' := (hh X g I)) rfl ?_
      refine Go_iald rfl fun v2 => ?_
      exact Go_jmp [] rfl trivial (fun _ h => h)
    ·
      refine Go_blk 2 (pc' := 18) (L' := [(0, .ref 47), (1, .int p1)]) (S' := [.int (-1 : Int32)]) (h' := (hh X g I)) rfl ?_
      exact Go_jmp [] rfl trivial (fun _ h => h)
set_option maxRecDepth 1000000 in
set_option maxHeartbeats 4000000 in
theorem g_m_blanks270  {X : XX} {g : GG} {I : MJ} {d : Nat} (hd : 1 ≤ d) : Go d 270 0 (lv_args 0 [.ref 47]) [] (hh X g I) (f_m_blanks270  I) (pV X g) := by
  obtain ⟨d, rfl⟩ : ∃ k, d = k + 1 := ⟨d - 1, by omega⟩
  unfold f_m_blanks270
  refine Go_lcs [(0, .ref 47)] rfl ⟨rfl, trivial⟩ ?_
  refine Go_seq (pcj := 26) (fun (b2 : MJ) => []) (fun (b2 : MJ) => []) (fun (b2 : MJ) => (hh X g b2)) (fun b2 => ?_) ?_
  ·
    exact Go_ret (fun _ h => h) rfl
  ·
    refine Go_wh (fun (s1 : MJ) => [(0, .ref 47)]) (fun _ => []) (fun (s1 : MJ) => (hh X g s1)) (fun s1 => ?_) I
    refine Go_blk 3 (pc' := 5) (L' := [(0, .ref 47)]) (S' := [.int (s1 47 4), .ref 47]) (h' := (hh X g s1)) rfl ?_
    refine Go_cR (y' := 271) (As := [.ref 47, .int (s1 47 4)]) (r := []) rfl (g_m_byteAt271 (s1 47 4) (by omega)) fun v3 => ?_
    refine Go_blk 1 (pc' := 10) (L' := [(0, .ref 47)]) (S' := [.int (32 : Int32), .int v3]) (h' := (hh X g s1)) rfl ?_
    refine Go_cmpn rfl rfl rfl ?_ ?_
    ·
      refine Go_blk 7 (pc' := 0) (L' := [(0, .ref 47)]) (S' := []) (h' := (hh X g (ab_up1 s1 47 4 ((s1 47 4) + (1 : Int32))))) rfl ?_
      exact Go_jmp [(0, .ref 47)] rfl ⟨rfl, trivial⟩ (fun _ h => h)
    ·
      exact Go_jmp [] rfl trivial (fun _ h => h)
set_option maxRecDepth 1000000 in
set_option maxHeartbeats 4000000 in
theorem g_m_starts269 (p1 : Int32) {X : XX} {g : GG} {I : MJ} {d : Nat} (hd : 2 ≤ d) : Go d 269 0 (lv_args 0 [.ref 47, .int p1]) [] (hh X g I) (f_m_starts269 p1 I) (pV X g) := by
  obtain ⟨d, rfl⟩ : ∃ k, d = k + 1 := ⟨d - 1, by omega⟩
  unfold f_m_starts269
  refine Go_blk 22 (pc' := 36) (L' := [(0, .ref 47), (1, .int p1)]) (S' := [.ref 47]) (h' := (hh X g (ab_up1 (ab_up1 (ab_up1 (ab_up1 (ab_up1 (ab_up1 (ab_up1 I 47 1 (0 : Int32)) 47 2 p1) 47 4 (0 : Int32)) 47 5 (0 : Int32)) 47 6 (-1 : Int32)) 47 7 (0 : Int32)) 47 8 (0 : Int32)))) rfl ?_
  refine Go_cV (y' := 270) (As := [.ref 47]) (r := []) rfl (g_m_blanks270  (by omega)) fun I1 => ?_
  exact Go_ret (fun _ h => h) rfl
set_option maxRecDepth 1000000 in
set_option maxHeartbeats 4000000 in
theorem g_m_tellsNothing261  {X : XX} {g : GG} {I : MJ} {d : Nat} (hd : 0 ≤ d) : Go d 261 0 (lv_args 0 [.ref 47]) [] (hh X g I) (f_m_tellsNothing261  I) (pV X g) := by
  unfold f_m_tellsNothing261
  refine Go_blk 2 (pc' := 2) (L' := [(1, .int (0 : Int32)), (0, .ref 47)]) (S' := []) (h' := (hh X g I)) rfl ?_
  refine Go_lcs [(0, .ref 47), (1, .int (0 : Int32))] rfl ⟨rfl, rfl, trivial⟩ ?_
  refine Go_seq (pcj := 20) (fun (b2 : MJ) => [(0, .ref 47)]) (fun (b2 : MJ) => []) (fun (b2 : MJ) => (hh X g b2)) (fun b2 => ?_) ?_
  ·
    refine Go_blk 10 (pc' := 35) (L' := [(0, .ref 47)]) (S' := []) (h' := (hh X g (ab_up1 (ab_up1 b2 50 4 (1 : Int32)) 50 5 (8 : Int32)))) rfl ?_
    exact Go_ret (fun _ h => h) rfl
  ·
    refine Go_wh (fun (s1 : Int32 × MJ) => [(0, .ref 47), (1, .int s1.1)]) (fun _ => []) (fun (s1 : Int32 × MJ) => (hh X g s1.2)) (fun s1 => ?_) ((0 : Int32), I)
    refine Go_blk 2 (pc' := 4) (L' := [(0, .ref 47), (1, .int s1.1)]) (S' := [.int (4 : Int32), .int s1.1]) (h' := (hh X g s1.2)) rfl ?_
    refine Go_cmpn rfl rfl (ab_cge _ _) ?_ ?_
    ·
      refine Go_blk 4 (pc' := 13) (L' := [(0, .ref 47), (1, .int s1.1)]) (S' := [.int (0 : Int32), .int s1.1, .ref 50]) (h' := (hh X g s1.2)) rfl ?_
      refine Go_iast rfl fun I3 => ?_
      refine Go_blk 2 (pc' := 2) (L' := [(1, .int (s1.1 + (1 : Int32))), (0, .ref 47)]) (S' := []) (h' := (hh X g I3)) rfl ?_
      exact Go_jmp [(0, .ref 47), (1, .int (s1.1 + (1 : Int32)))] rfl ⟨rfl, rfl, trivial⟩ (fun _ h => h)
    ·
      exact Go_jmp [(0, .ref 47)] rfl ⟨rfl, trivial⟩ (fun _ h => h)
set_option maxRecDepth 1000000 in
set_option maxHeartbeats 4000000 in
theorem g_m_isSmall276 (p0 : Int32) {X : XX} {g : GG} {I : MJ} {d : Nat} (hd : 0 ≤ d) : Go d 276 0 (lv_args 0 [.int p0]) [] (hh X g I) (f_m_isSmall276 p0 I) (pR X g I) := by
  unfold f_m_isSmall276
  refine Go_blk 2 (pc' := 3) (L' := [(0, .int p0)]) (S' := [.int (97 : Int32), .int p0]) (h' := (hh X g I)) rfl ?_
  refine Go_seq (pcj := 17) (fun (b1 : Int32) => []) (fun (b1 : Int32) => [.int b1]) (fun (b1 : Int32) => (hh X g I)) (fun b1 => ?_) ?_
  ·
    exact Go_ret (fun _ h => h) rfl
  ·
    refine Go_cmp rfl rfl rfl ?_ ?_
    ·
      refine Go_blk 1 (pc' := 17) (L' := [(0, .int p0)]) (S' := [.int (0 : Int32)]) (h' := (hh X g I)) rfl ?_
      exact Go_jmp [] rfl trivial (fun _ h => h)
    ·
      refine Go_blk 2 (pc' := 9) (L' := [(0, .int p0)]) (S' := [.int (122 : Int32), .int p0]) (h' := (hh X g I)) rfl ?_
      refine Go_cmp rfl rfl rfl ?_ ?_
      ·
        refine Go_blk 1 (pc' := 17) (L' := [(0, .int p0)]) (S' := [.int (0 : Int32)]) (h' := (hh X g I)) rfl ?_
        exact Go_jmp [] rfl trivial (fun _ h => h)
      ·
        refine Go_blk 2 (pc' := 17) (L' := [(0, .int p0)]) (S' := [.int (1 : Int32)]) (h' := (hh X g I)) rfl ?_
        exact Go_jmp [] rfl trivial (fun _ h => h)
set_option maxRecDepth 1000000 in
set_option maxHeartbeats 4000000 in
theorem g_m_wordHere275  {X : XX} {g : GG} {I : MJ} {d : Nat} (hd : 2 ≤ d) : Go d 275 0 (lv_args 0 [.ref 47]) [] (hh X g I) (f_m_wordHere275  I) (pW X g) := by
  obtain ⟨d, rfl⟩ : ∃ k, d = k + 1 := ⟨d - 1, by omega⟩
  unfold f_m_wordHere275
  refine Go_blk 1 (pc' := 1) (L' := [(0, .ref 47)]) (S' := [.ref 47]) (h' := (hh X g I)) rfl ?_
  refine Go_cV (y' := 270) (As := [.ref 47]) (r := []) rfl (g_m_blanks270  (by omega)) fun I1 => ?_
  refine Go_blk 4 (pc' := 8) (L' := [(2, .int (0 : Int32)), (1, .int (0 : Int32)), (0, .ref 47)]) (S' := []) (h' := (hh X g I1)) rfl ?_
  refine Go_lcs [(0, .ref 47), (1, .int (0 : Int32)), (2, .int (0 : Int32))] rfl ⟨rfl, rfl, rfl, trivial⟩ ?_
  refine Go_seq (pcj := 61) (fun (b3 : Int32 × Int32) => [(1, .int b3.1), (2, .int b3.2)]) (fun (b3 : Int32 × Int32) => []) (fun (b3 : Int32 × Int32) => (hh X g I1)) (fun b3 => ?_) ?_
  ·
    refine Go_blk 2 (pc' := 64) (L' := [(1, .int b3.1), (2, .int b3.2)]) (S' := [.int (6 : Int32), .int b3.2]) (h' := (hh X g I1)) rfl ?_
    refine Go_seq (pcj := 72) (fun (b4 : Int32) => []) (fun (b4 : Int32) => [.int b4]) (fun (b4 : Int32) => (hh X g I1)) (fun b4 => ?_) ?_
    ·
      exact Go_ret (fun _ h => h) rfl
    ·
      refine Go_cmpn rfl rfl (ab_cle _ _) ?_ ?_
      ·
        refine Go_blk 2 (pc' := 72) (L' := [(1, .int b3.1), (2, .int b3.2)]) (S' := [.int (-1 : Int32)]) (h' := (hh X g I1)) rfl ?_
        exact Go_jmp [] rfl trivial (fun _ h => h)
      ·
        refine Go_blk 1 (pc' := 72) (L' := [(1, .int b3.1), (2, .int b3.2)]) (S' := [.int b3.1]) (h' := (hh X g I1)) rfl ?_
        exact Go_jmp [] rfl trivial (fun _ h => h)
  ·
    refine Go_wh (fun (s2 : Int32 × Int32) => [(0, .ref 47), (1, .int s2.1), (2, .int s2.2)]) (fun _ => []) (fun (s2 : Int32 × Int32) => (hh X g I1)) (fun s2 => ?_) ((0 : Int32), (0 : Int32))
    refine Go_blk 5 (pc' := 15) (L' := [(0, .ref 47), (1, .int s2.1), (2, .int s2.2)]) (S' := [.int ((I1 47 4) + s2.2), .ref 47]) (h' := (hh X g I1)) rfl ?_
    refine Go_cR (y' := 271) (As := [.ref 47, .int ((I1 47 4) + s2.2)]) (r := []) rfl (g_m_byteAt271 ((I1 47 4) + s2.2) (by omega)) fun v5 => ?_
    refine Go_cR (y' := 276) (As := [.int v5]) (r := []) rfl (g_m_isSmall276 v5 (by omega)) fun v6 => ?_
    refine Go_cmz rfl rfl rfl ?_ ?_
    ·
      exact Go_jmp [(1, .int s2.1), (2, .int s2.2)] rfl ⟨rfl, rfl, trivial⟩ (fun _ h => h)
    ·
      refine Go_blk 2 (pc' := 27) (L' := [(0, .ref 47), (1, .int s2.1), (2, .int s2.2)]) (S' := [.int (6 : Int32), .int s2.2]) (h' := (hh X g I1)) rfl ?_
      refine Go_seq (pcj := 54) (fun (b7 : Int32) => [(0, .ref 47), (2, .int s2.2)]) (fun (b7 : Int32) => [.int b7]) (fun (b7 : Int32) => (hh X g I1)) (fun b7 => ?_) ?_
      ·
        refine Go_blk 3 (pc' := 8) (L' := [(2, .int (s2.2 + (1 : Int32))), (1, .int b7), (0, .ref 47)]) (S' := []) (h' := (hh X g I1)) rfl ?_
        exact Go_jmp [(0, .ref 47), (1, .int b7), (2, .int (s2.2 + (1 : Int32)))] rfl ⟨rfl, rfl, rfl, trivial⟩ (fun _ h => h)
      ·
        refine Go_cmpn rfl rfl (ab_cge _ _) ?_ ?_
        ·
          refine Go_blk 8 (pc' := 41) (L' := [(0, .ref 47), (1, .int s2.1), (2, .int s2.2)]) (S' := [.int ((I1 47 4) + s2.2), .ref 47, .int ((27 : Int32) * s2.1)]) (h' := (hh X g I1)) rfl ?_
          refine Go_cR (y' := 271) (As := [.ref 47, .int ((I1 47 4) + s2.2)]) (r := [.int ((27 : Int32) * s2.1)]) rfl (g_m_byteAt271 ((I1 47 4) + s2.2) (by omega)) fun v8 => ?_
          refine Go_blk 6 (pc' := 54) (L' := [(0, .ref 47), (1, .int s2.1), (2, .int s2.2)]) (S' := [.int (((((27 : Int32) * s2.1) + v8) - (97 : Int32)) + (1 : Int32))]) (h' := (hh X g I1)) rfl ?_
          exact Go_jmp [(0, .ref 47), (2, .int s2.2)] rfl ⟨rfl, rfl, trivial⟩ (fun _ h => h)
        ·
          refine Go_blk 1 (pc' := 54) (L' := [(0, .ref 47), (1, .int s2.1), (2, .int s2.2)]) (S' := [.int s2.1]) (h' := (hh X g I1)) rfl ?_
          exact Go_jmp [(0, .ref 47), (2, .int s2.2)] rfl ⟨rfl, rfl, trivial⟩ (fun _ h => h)
set_option maxRecDepth 1000000 in
set_option maxHeartbeats 4000000 in
theorem g_m_six277 (p0 : Int32) (p1 : Int32) (p2 : Int32) (p3 : Int32) (p4 : Int32) (p5 : Int32) {X : XX} {g : GG} {I : MJ} {d : Nat} (hd : 0 ≤ d) : Go d 277 0 (lv_args 0 [.int p0, .int p1, .int p2, .int p3, .int p4, .int p5]) [] (hh X g I) (f_m_six277 p0 p1 p2 p3 p4 p5 I) (pR X g I) := by
  unfold f_m_six277
  refine Go_blk 11 (pc' := 14) (L' := [(6, .int (((27 : Int32) * (((27 : Int32) * p0) + p1)) + p2)), (0, .int p0), (1, .int p1), (2, .int p2), (3, .int p3), (4, .int p4), (5, .int p5)]) (S' := [.int p3]) (h' := (hh X g I)) rfl ?_
  refine Go_seq (pcj := 29) (fun (b1 : Int32) => [(4, .int p4), (5, .int p5)]) (fun (b1 : Int32) => [.int b1]) (fun (b1 : Int32) => (hh X g I)) (fun b1 => ?_) ?_
  ·
    refine Go_blk 2 (pc' := 33) (L' := [(6, .int b1), (4, .int p4), (5, .int p5)]) (S' := [.int p4]) (h' := (hh X g I)) rfl ?_
    refine Go_seq (pcj := 49) (fun (b2 : Int32) => [(5, .int p5)]) (fun (b2 : Int32) => [.int b2]) (fun (b2 : Int32) => (hh X g I)) (fun b2 => ?_) ?_
    ·
      refine Go_blk 2 (pc' := 53) (L' := [(6, .int b2), (5, .int p5)]) (S' := [.int p5]) (h' := (hh X g I)) rfl ?_
      refine Go_seq (pcj := 69) (fun (b3 : Int32) => []) (fun (b3 : Int32) => [.int b3]) (fun (b3 : Int32) => (hh X g I)) (fun b3 => ?_) ?_
      ·
        exact Go_ret (fun _ h => h) rfl
      ·
        refine Go_cmzn rfl rfl rfl ?_ ?_
        ·
          refine Go_blk 2 (pc' := 69) (L' := [(6, .int b2), (5, .int p5)]) (S' := [.int b2]) (h' := (hh X g I)) rfl ?_
          exact Go_jmp [] rfl trivial (fun _ h => h)
        ·
          refine Go_blk 5 (pc' := 69) (L' := [(6, .int b2), (5, .int p5)]) (S' := [.int (((27 : Int32) * b2) + p5)]) (h' := (hh X g I)) rfl ?_
          exact Go_jmp [] rfl trivial (fun _ h => h)
    ·
      refine Go_cmzn rfl rfl rfl ?_ ?_
      ·
        refine Go_blk 2 (pc' := 49) (L' := [(6, .int b1), (4, .int p4), (5, .int p5)]) (S' := [.int b1]) (h' := (hh X g I)) rfl ?_
        exact Go_jmp [(5, .int p5)] rfl ⟨rfl, trivial⟩ (fun _ h => h)
      ·
        refine Go_blk 5 (pc' := 49) (L' := [(6, .int b1), (4, .int p4), (5, .int p5)]) (S' := [.int (((27 : Int32) * b1) + p4)]) (h' := (hh X g I)) rfl ?_
        exact Go_jmp [(5, .int p5)] rfl ⟨rfl, trivial⟩ (fun _ h => h)
  ·
    refine Go_cmzn rfl rfl rfl ?_ ?_
    ·
      refine Go_blk 2 (pc' := 29) (L' := [(6, .int (((27 : Int32) * (((27 : Int32) * p0) + p1)) + p2)), (0, .int p0), (1, .int p1), (2, .int p2), (3, .int p3), (4, .int p4), (5, .int p5)]) (S' := [.int (((27 : Int32) * (((27 : Int32) * p0) + p1)) + p2)]) (h' := (hh X g I)) rfl ?_
      exact Go_jmp [(4, .int p4), (5, .int p5)] rfl ⟨rfl, rfl, trivial⟩ (fun _ h => h)
    ·
      refine Go_blk 5 (pc' := 29) (L' := [(6, .int (((27 : Int32) * (((27 : Int32) * p0) + p1)) + p2)), (0, .int p0), (1, .int p1), (2, .int p2), (3, .int p3), (4, .int p4), (5, .int p5)]) (S' := [.int (((27 : Int32) * (((27 : Int32) * (((27 : Int32) * p0) + p1)) + p2)) + p3)]) (h' := (hh X g I)) rfl ?_
      exact Go_jmp [(4, .int p4), (5, .int p5)] rfl ⟨rfl, rfl, trivial⟩ (fun _ h => h)
set_option maxRecDepth 1000000 in
set_option maxHeartbeats 4000000 in
theorem g_m_isWord274 (p1 : Int32) (p2 : Int32) (p3 : Int32) (p4 : Int32) (p5 : Int32) (p6 : Int32) {X : XX} {g : GG} {I : MJ} {d : Nat} (hd : 3 ≤ d) : Go d 274 0 (lv_args 0 [.ref 47, .int p1, .int p2, .int p3, .int p4, .int p5, .int p6]) [] (hh X g I) (f_m_isWord274 p1 p2 p3 p4 p5 p6 I) (pW X g) := by
  obtain ⟨d, rfl⟩ : ∃ k, d = k + 1 := ⟨d - 1, by omega⟩
  unfold f_m_isWord274
  refine Go_blk 2 (pc' := 4) (L' := [(0, .ref 47), (1, .int p1), (2, .int p2), (3, .int p3), (4, .int p4), (5, .int p5), (6, .int p6)]) (S' := [.int (I 47 5)]) (h' := (hh X g I)) rfl ?_
  refine Go_seq (pcj := 31) (fun (b1 : Int32 × MJ) => []) (fun (b1 : Int32 × MJ) => [.int b1.1]) (fun (b1 : Int32 × MJ) => (hh X g b1.2)) (fun b1 => ?_) ?_
  ·
    exact Go_ret (fun _ h => h) rfl
  ·
    refine Go_cmzn rfl rfl rfl ?_ ?_
    ·
      refine Go_blk 1 (pc' := 8) (L' := [(0, .ref 47), (1, .int p1), (2, .int p2), (3, .int p3), (4, .int p4), (5, .int p5), (6, .int p6)]) (S' := [.ref 47]) (h' := (hh X g I)) rfl ?_
      refine Go_cW (y' := 275) (As := [.ref 47]) (r := []) rfl (g_m_wordHere275  (by omega)) fun w2 => ?_
      refine Go_blk 6 (pc' := 20) (L' := [(0, .ref 47), (1, .int p1), (2, .int p2), (3, .int p3), (4, .int p4), (5, .int p5), (6, .int p6)]) (S' := [.int p6, .int p5, .int p4, .int p3, .int p2, .int p1, .int w2.1]) (h' := (hh X g w2.2)) rfl ?_
      refine Go_cR (y' := 277) (As := [.int p1, .int p2, .int p3, .int p4, .int p5, .int p6]) (r := [.int w2.1]) rfl (g_m_six277 p1 p2 p3 p4 p5 p6 (by omega)) fun v3 => ?_
      refine Go_cmpn rfl rfl rfl ?_ ?_
      ·
        refine Go_blk 2 (pc' := 31) (L' := [(0, .ref 47), (1, .int p1), (2, .int p2), (3, .int p3), (4, .int p4), (5, .int p5), (6, .int p6)]) (S' := [.int (1 : Int32)]) (h' := (hh X g w2.2)) rfl ?_
        exact Go_jmp [] rfl trivial (fun _ h => h)
      ·
        refine Go_blk 1 (pc' := 31) (L' := [(0, .ref 47), (1, .int p1), (2, .int p2), (3, .int p3), (4, .int p4), (5, .int p5), (6, .int p6)]) (S' := [.int (0 : Int32)]) (h' := (hh X g w2.2)) rfl ?_
        exact Go_jmp [] rfl trivial (fun _ h => h)
    ·
      refine Go_blk 1 (pc' := 31) (L' := [(0, .ref 47), (1, .int p1), (2, .int p2), (3, .int p3), (4, .int p4), (5, .int p5), (6, .int p6)]) (S' := [.int (0 : Int32)]) (h' := (hh X g I)) rfl ?_
      exact Go_jmp [] rfl trivial (fun _ h => h)
set_option maxRecDepth 1000000 in
set_option maxHeartbeats 4000000 in
theorem g_m_kindHere273  {X : XX} {g : GG} {I : MJ} {d : Nat} (hd : 4 ≤ d) : Go d 273 0 (lv_args 0 [.ref 47]) [] (hh X g I) (f_m_kindHere273  I) (pW X g) := by
  obtain ⟨d, rfl⟩ : ∃ k, d = k + 1 := ⟨d - 1, by omega⟩
  unfold f_m_kindHere273
  refine Go_blk 7 (pc' := 10) (L' := [(0, .ref 47)]) (S' := [.int (0 : Int32), .int (0 : Int32), .int (20 : Int32), .int (12 : Int32), .int (15 : Int32), .int (2 : Int32), .ref 47]) (h' := (hh X g I)) rfl ?_
  refine Go_cW (y' := 274) (As := [.ref 47, .int (2 : Int32), .int (15 : Int32), .int (12 : Int32), .int (20 : Int32), .int (0 : Int32), .int (0 : Int32)]) (r := []) rfl (g_m_isWord274 (2 : Int32) (15 : Int32) (12 : Int32) (20 : Int32) (0 : Int32) (0 : Int32) (by omega)) fun w1 => ?_
  refine Go_cmz rfl rfl rfl ?_ ?_
  ·
    refine Go_blk 7 (pc' := 29) (L' := [(0, .ref 47)]) (S' := [.int (20 : Int32), .int (14 : Int32), .int (5 : Int32), .int (9 : Int32), .int (12 : Int32), .int (3 : Int32), .ref 47]) (h' := (hh X g w1.2)) rfl ?_
    refine Go_cW (y' := 274) (As := [.ref 47, .int (3 : Int32), .int (12 : Int32), .int (9 : Int32), .int (5 : Int32), .int (14 : Int32), .int (20 : Int32)]) (r := []) rfl (g_m_isWord274 (3 : Int32) (12 : Int32) (9 : Int32) (5 : Int32) (14 : Int32) (20 : Int32) (by omega)) fun w2 => ?_
    refine Go_cmz rfl rfl rfl ?_ ?_
    ·
      refine Go_blk 7 (pc' := 48) (L' := [(0, .ref 47)]) (S' := [.int (0 : Int32), .int (19 : Int32), .int (20 : Int32), .int (14 : Int32), .int (1 : Int32), .int (23 : Int32), .ref 47]) (h' := (hh X g w2.2)) rfl ?_
      refine Go_cW (y' := 274) (As := [.ref 47, .int (23 : Int32), .int (1 : Int32), .int (14 : Int32), .int (20 : Int32), .int (19 : Int32), .int (0 : Int32)]) (r := []) rfl (g_m_isWord274 (23 : Int32) (1 : Int32) (14 : Int32) (20 : Int32) (19 : Int32) (0 : Int32) (by omega)) fun w3 => ?_
      refine Go_cmz rfl rfl rfl ?_ ?_
      ·
        refine Go_blk 7 (pc' := 66) (L' := [(0, .ref 47)]) (S' := [.int (0 : Int32), .int (18 : Int32), .int (5 : Int32), .int (4 : Int32), .int (18 : Int32), .int (15 : Int32), .ref 47]) (h' := (hh X g w3.2)) rfl ?_
        refine Go_cW (y' := 274) (As := [.ref 47, .int (15 : Int32), .int (18 : Int32), .int (4 : Int32), .int (5 : Int32), .int (18 : Int32), .int (0 : Int32)]) (r := []) rfl (g_m_isWord274 (15 : Int32) (18 : Int32) (4 : Int32) (5 : Int32) (18 : Int32) (0 : Int32) (by omega)) fun w4 => ?_
        refine Go_cmz rfl rfl rfl ?_ ?_
        ·
          refine Go_blk 7 (pc' := 83) (L' := [(0, .ref 47)]) (S' := [.int (0 : Int32), .int (0 : Int32), .int (13 : Int32), .int (1 : Int32), .int (5 : Int32), .int (19 : Int32), .ref 47]) (h' := (hh X g w4.2)) rfl ?_
          refine Go_cW (y' := 274) (As := [.ref 47, .int (19 : Int32), .int (5 : Int32), .int (1 : Int32), .int (13 : Int32), .int (0 : Int32), .int (0 : Int32)]) (r := []) rfl (g_m_isWord274 (19 : Int32) (5 : Int32) (1 : Int32) (13 : Int32) (0 : Int32) (0 : Int32) (by omega)) fun w5 => ?_
          refine Go_cmz rfl rfl rfl ?_ ?_
          ·
            refine Go_blk 7 (pc' := 101) (L' := [(0, .ref 47)]) (S' := [.int (0 : Int32), .int (19 : Int32), .int (4 : Int32), .int (14 : Int32), .int (1 : Int32), .int (8 : Int32), .ref 47]) (h' := (hh X g w5.2)) rfl ?_
            refine Go_cW (y' := 274) (As := [.ref 47, .int (8 : Int32), .int (1 : Int32), .int (14 : Int32), .int (4 : Int32), .int (19 : Int32), .int (0 : Int32)]) (r := []) rfl (g_m_isWord274 (8 : Int32) (1 : Int32) (14 : Int32) (4 : Int32) (19 : Int32) (0 : Int32) (by omega)) fun w6 => ?_
            refine Go_seq (pcj := 112) (fun (b7 : Int32) => []) (fun (b7 : Int32) => [.int b7]) (fun (b7 : Int32) => (hh X g w6.2)) (fun b7 => ?_) ?_
            ·
              exact Go_ret (fun _ h => h) rfl
            ·
              refine Go_cmz rfl rfl rfl ?_ ?_
              ·
                refine Go_blk 1 (pc' := 112) (L' := [(0, .ref 47)]) (S' := [.int (-1 : Int32)]) (h' := (hh X g w6.2)) rfl ?_
                exact Go_jmp [] rfl trivial (fun _ h => h)
              ·
                refine Go_blk 2 (pc' := 112) (L' := [(0, .ref 47)]) (S' := [.int (5 : Int32)]) (h' := (hh X g w6.2)) rfl ?_
                exact Go_jmp [] rfl trivial (fun _ h => h)
          ·
            refine Go_blk 1 (pc' := 90) (L' := [(0, .ref 47)]) (S' := [.int (4 : Int32)]) (h' := (hh X g w5.2)) rfl ?_
            exact Go_ret (fun _ h => h) rfl
        ·
          refine Go_blk 1 (pc' := 73) (L' := [(0, .ref 47)]) (S' := [.int (3 : Int32)]) (h' := (hh X g w4.2)) rfl ?_
          exact Go_ret (fun _ h => h) rfl
      ·
        refine Go_blk 1 (pc' := 55) (L' := [(0, .ref 47)]) (S' := [.int (2 : Int32)]) (h' := (hh X g w3.2)) rfl ?_
        exact Go_ret (fun _ h => h) rfl
    ·
      refine Go_blk 1 (pc' := 36) (L' := [(0, .ref 47)]) (S' := [.int (1 : Int32)]) (h' := (hh X g w2.2)) rfl ?_
      exact Go_ret (fun _ h => h) rfl
  ·
    refine Go_blk 1 (pc' := 17) (L' := [(0, .ref 47)]) (S' := [.int (0 : Int32)]) (h' := (hh X g w1.2)) rfl ?_
    exact Go_ret (fun _ h => h) rfl
set_option maxRecDepth 1000000 in
set_option maxHeartbeats 4000000 in
theorem g_m_wrong278 (p1 : Int32) (p2 : Int32) {X : XX} {g : GG} {I : MJ} {d : Nat} (hd : 0 ≤ d) : Go d 278 0 (lv_args 0 [.ref 47, .int p1, .int p2]) [] (hh X g I) (f_m_wrong278 p1 p2 I) (pV X g) := by
  unfold f_m_wrong278
  refine Go_blk 2 (pc' := 4) (L' := [(0, .ref 47), (1, .int p1), (2, .int p2)]) (S' := [.int (I 47 5)]) (h' := (hh X g I)) rfl ?_
  refine Go_seq (pcj := 17) (fun (b1 : MJ) => []) (fun (b1 : MJ) => []) (fun (b1 : MJ) => (hh X g b1)) (fun b1 => ?_) ?_
  ·
    exact Go_ret (fun _ h => h) rfl
  ·
    refine Go_cmzn rfl rfl rfl ?_ ?_
    ·
      refine Go_blk 6 (pc' := 17) (L' := [(0, .ref 47), (1, .int p1), (2, .int p2)]) (S' := []) (h' := (hh X g (ab_up1 (ab_up1 I 47 5 p1) 47 6 p2))) rfl ?_
      exact Go_jmp [] rfl trivial (fun _ h => h)
    ·
      exact Go_jmp [] rfl trivial (fun _ h => h)
set_option maxRecDepth 1000000 in
set_option maxHeartbeats 4000000 in
theorem g_m_isFull279 (p1 : Int32) {X : XX} {g : GG} {I : MJ} {d : Nat} (hd : 0 ≤ d) : Go d 279 0 (lv_args 0 [.ref 47, .int p1]) [] (hh X g I) (f_m_isFull279 p1 I) (pR X g I) := by
  unfold f_m_isFull279
  refine Go_blk 1 (pc' := 1) (L' := [(0, .ref 47), (1, .int p1)]) (S' := [.int p1]) (h' := (hh X g I)) rfl ?_
  refine Go_seq (pcj := 68) (fun (b1 : Int32) => []) (fun (b1 : Int32) => [.int b1]) (fun (b1 : Int32) => (hh X g I)) (fun b1 => ?_) ?_
  ·
    exact Go_ret (fun _ h => h) rfl
  ·
    refine Go_cmzn rfl rfl rfl ?_ ?_
    ·
      refine Go_blk 5 (pc' := 12) (L' := [(0, .ref 47), (1, .int p1)]) (S' := [.int (10 : Int32), .int (I 50 0)]) (h' := (hh X g I)) rfl ?_
      refine Go_cmp rfl rfl rfl ?_ ?_
      ·
        refine Go_blk 2 (pc' := 68) (L' := [(0, .ref 47), (1, .int p1)]) (S' := [.int (1 : Int32)]) (h' := (hh X g I)) rfl ?_
        exact Go_jmp [] rfl trivial (fun _ h => h)
      ·
        refine Go_blk 2 (pc' := 17) (L' := [(0, .ref 47), (1, .int p1)]) (S' := [.int (1 : Int32), .int p1]) (h' := (hh X g I)) rfl ?_
        refine Go_cmpn rfl rfl rfl ?_ ?_
        ·
          refine Go_blk 5 (pc' := 28) (L' := [(0, .ref 47), (1, .int p1)]) (S' := [.int (6 : Int32), .int (I 50 1)]) (h' := (hh X g I)) rfl ?_
          refine Go_cmp rfl rfl rfl ?_ ?_
          ·
            refine Go_blk 2 (pc' := 68) (L' := [(0, .ref 47), (1, .int p1)]) (S' := [.int (1 : Int32)]) (h' := (hh X g I)) rfl ?_
            exact Go_jmp [] rfl trivial (fun _ h => h)
          ·
            refine Go_blk 2 (pc' := 33) (L' := [(0, .ref 47), (1, .int p1)]) (S' := [.int (2 : Int32), .int p1]) (h' := (hh X g I)) rfl ?_
            refine Go_cmpn rfl rfl rfl ?_ ?_
            ·
              refine Go_blk 5 (pc' := 44) (L' := [(0, .ref 47), (1, .int p1)]) (S' := [.int (16 : Int32), .int (I 50 2)]) (h' := (hh X g I)) rfl ?_
              refine Go_cmp rfl rfl rfl ?_ ?_
              ·
                refine Go_blk 2 (pc' := 68) (L' := [(0, .ref 47), (1, .int p1)]) (S' := [.int (1 : Int32)]) (h' := (hh X g I)) rfl ?_
                exact Go_jmp [] rfl trivial (fun _ h => h)
              ·
                refine Go_blk 2 (pc' := 49) (L' := [(0, .ref 47), (1, .int p1)]) (S' := [.int (3 : Int32), .int p1]) (h' := (hh X g I)) rfl ?_
                refine Go_cmpn rfl rfl rfl ?_ ?_
                ·
                  refine Go_blk 5 (pc' := 60) (L' := [(0, .ref 47), (1, .int p1)]) (S' := [.int (8 : Int32), .int (I 50 3)]) (h' := (hh X g I)) rfl ?_
                  refine Go_cmpn rfl rfl rfl ?_ ?_
                  ·
                    refine Go_blk 2 (pc' := 68) (L' := [(0, .ref 47), (1, .int p1)]) (S' := [.int (1 : Int32)]) (h' := (hh X g I)) rfl ?_
                    exact Go_jmp [] rfl trivial (fun _ h => h)
                  ·
                    refine Go_blk 1 (pc' := 68) (L' := [(0, .ref 47), (1, .int p1)]) (S' := [.int (0 : Int32)]) (h' := (hh X g I)) rfl ?_
                    exact Go_jmp [] rfl trivial (fun _ h => h)
                ·
                  refine Go_blk 1 (pc' := 68) (L' := [(0, .ref 47), (1, .int p1)]) (S' := [.int (0 : Int32)]) (h' := (hh X g I)) rfl ?_
                  exact Go_jmp [] rfl trivial (fun _ h => h)
            ·
              refine Go_blk 2 (pc' := 49) (L' := [(0, .ref 47), (1, .int p1)]) (S' := [.int (3 : Int32), .int p1]) (h' := (hh X g I)) rfl ?_
              refine Go_cmpn rfl rfl rfl ?_ ?_
              ·
                refine Go_blk 5 (pc' := 60) (L' := [(0, .ref 47), (1, .int p1)]) (S' := [.int (8 : Int32), .int (I 50 3)]) (h' := (hh X g I)) rfl ?_
                refine Go_cmpn rfl rfl rfl ?_ ?_
                ·
                  refine Go_blk 2 (pc' := 68) (L' := [(0, .ref 47), (1, .int p1)]) (S' := [.int (1 : Int32)]) (h' := (hh X g I)) rfl ?_
                  exact Go_jmp [] rfl trivial (fun _ h => h)
                ·
                  refine Go_blk 1 (pc' := 68) (L' := [(0, .ref 47), (1, .int p1)]) (S' := [.int (0 : Int32)]) (h' := (hh X g I)) rfl ?_
                  exact Go_jmp [] rfl trivial (fun _ h => h)
              ·
                refine Go_blk 1 (pc' := 68) (L' := [(0, .ref 47), (1, .int p1)]) (S' := [.int (0 : Int32)]) (h' := (hh X g I)) rfl ?_
                exact Go_jmp [] rfl trivial (fun _ h => h)
        ·
          refine Go_blk 2 (pc' := 33) (L' := [(0, .ref 47), (1, .int p1)]) (S' := [.int (2 : Int32), .int p1]) (h' := (hh X g I)) rfl ?_
          refine Go_cmpn rfl rfl rfl ?_ ?_
          ·
            refine Go_blk 5 (pc' := 44) (L' := [(0, .ref 47), (1, .int p1)]) (S' := [.int (16 : Int32), .int (I 50 2)]) (h' := (hh X g I)) rfl ?_
            refine Go_cmp rfl rfl rfl ?_ ?_
            ·
              refine Go_blk 2 (pc' := 68) (L' := [(0, .ref 47), (1, .int p1)]) (S' := [.int (1 : Int32)]) (h' := (hh X g I)) rfl ?_
              exact Go_jmp [] rfl trivial (fun _ h => h)
            ·
              refine Go_blk 2 (pc' := 49) (L' := [(0, .ref 47), (1, .int p1)]) (S' := [.int (3 : Int32), .int p1]) (h' := (hh X g I)) rfl ?_
              refine Go_cmpn rfl rfl rfl ?_ ?_
              ·
                refine Go_blk 5 (pc' := 60) (L' := [(0, .ref 47), (1, .int p1)]) (S' := [.int (8 : Int32), .int (I 50 3)]) (h' := (hh X g I)) rfl ?_
                refine Go_cmpn rfl rfl rfl ?_ ?_
                ·
                  refine Go_blk 2 (pc' := 68) (L' := [(0, .ref 47), (1, .int p1)]) (S' := [.int (1 : Int32)]) (h' := (hh X g I)) rfl ?_
                  exact Go_jmp [] rfl trivial (fun _ h => h)
                ·
                  refine Go_blk 1 (pc' := 68) (L' := [(0, .ref 47), (1, .int p1)]) (S' := [.int (0 : Int32)]) (h' := (hh X g I)) rfl ?_
                  exact Go_jmp [] rfl trivial (fun _ h => h)
              ·
                refine Go_blk 1 (pc' := 68) (L' := [(0, .ref 47), (1, .int p1)]) (S' := [.int (0 : Int32)]) (h' := (hh X g I)) rfl ?_
                exact Go_jmp [] rfl trivial (fun _ h => h)
          ·
            refine Go_blk 2 (pc' := 49) (L' := [(0, .ref 47), (1, .int p1)]) (S' := [.int (3 : Int32), .int p1]) (h' := (hh X g I)) rfl ?_
            refine Go_cmpn rfl rfl rfl ?_ ?_
            ·
              refine Go_blk 5 (pc' := 60) (L' := [(0, .ref 47), (1, .int p1)]) (S' := [.int (8 : Int32), .int (I 50 3)]) (h' := (hh X g I)) rfl ?_
              refine Go_cmpn rfl rfl rfl ?_ ?_
              ·
                refine Go_blk 2 (pc' := 68) (L' := [(0, .ref 47), (1, .int p1)]) (S' := [.int (1 : Int32)]) (h' := (hh X g I)) rfl ?_
                exact Go_jmp [] rfl trivial (fun _ h => h)
              ·
                refine Go_blk 1 (pc' := 68) (L' := [(0, .ref 47), (1, .int p1)]) (S' := [.int (0 : Int32)]) (h' := (hh X g I)) rfl ?_
                exact Go_jmp [] rfl trivial (fun _ h => h)
            ·
              refine Go_blk 1 (pc' := 68) (L' := [(0, .ref 47), (1, .int p1)]) (S' := [.int (0 : Int32)]) (h' := (hh X g I)) rfl ?_
              exact Go_jmp [] rfl trivial (fun _ h => h)
    ·
      refine Go_blk 2 (pc' := 17) (L' := [(0, .ref 47), (1, .int p1)]) (S' := [.int (1 : Int32), .int p1]) (h' := (hh X g I)) rfl ?_
      refine Go_cmpn rfl rfl rfl ?_ ?_
      ·
        refine Go_blk 5 (pc' := 28) (L' := [(0, .ref 47), (1, .int p1)]) (S' := [.int (6 : Int32), .int (I 50 1)]) (h' := (hh X g I)) rfl ?_
        refine Go_cmp rfl rfl rfl ?_ ?_
        ·
          refine Go_blk 2 (pc' := 68) (L' := [(0, .ref 47), (1, .int p1)]) (S' := [.int (1 : Int32)]) (h' := (hh X g I)) rfl ?_
          exact Go_jmp [] rfl trivial (fun _ h => h)
        ·
          refine Go_blk 2 (pc' := 33) (L' := [(0, .ref 47), (1, .int p1)]) (S' := [.int (2 : Int32), .int p1]) (h' := (hh X g I)) rfl ?_
          refine Go_cmpn rfl rfl rfl ?_ ?_
          ·
            refine Go_blk 5 (pc' := 44) (L' := [(0, .ref 47), (1, .int p1)]) (S' := [.int (16 : Int32), .int (I 50 2)]) (h' := (hh X g I)) rfl ?_
            refine Go_cmp rfl rfl rfl ?_ ?_
            ·
              refine Go_blk 2 (pc' := 68) (L' := [(0, .ref 47), (1, .int p1)]) (S' := [.int (1 : Int32)]) (h' := (hh X g I)) rfl ?_
              exact Go_jmp [] rfl trivial (fun _ h => h)
            ·
              refine Go_blk 2 (pc' := 49) (L' := [(0, .ref 47), (1, .int p1)]) (S' := [.int (3 : Int32), .int p1]) (h' := (hh X g I)) rfl ?_
              refine Go_cmpn rfl rfl rfl ?_ ?_
              ·
                refine Go_blk 5 (pc' := 60) (L' := [(0, .ref 47), (1, .int p1)]) (S' := [.int (8 : Int32), .int (I 50 3)]) (h' := (hh X g I)) rfl ?_
                refine Go_cmpn rfl rfl rfl ?_ ?_
                ·
                  refine Go_blk 2 (pc' := 68) (L' := [(0, .ref 47), (1, .int p1)]) (S' := [.int (1 : Int32)]) (h' := (hh X g I)) rfl ?_
                  exact Go_jmp [] rfl trivial (fun _ h => h)
                ·
                  refine Go_blk 1 (pc' := 68) (L' := [(0, .ref 47), (1, .int p1)]) (S' := [.int (0 : Int32)]) (h' := (hh X g I)) rfl ?_
                  exact Go_jmp [] rfl trivial (fun _ h => h)
              ·
                refine Go_blk 1 (pc' := 68) (L' := [(0, .ref 47), (1, .int p1)]) (S' := [.int (0 : Int32)]) (h' := (hh X g I)) rfl ?_
                exact Go_jmp [] rfl trivial (fun _ h => h)
          ·
            refine Go_blk 2 (pc' := 49) (L' := [(0, .ref 47), (1, .int p1)]) (S' := [.int (3 : Int32), .int p1]) (h' := (hh X g I)) rfl ?_
            refine Go_cmpn rfl rfl rfl ?_ ?_
            ·
              refine Go_blk 5 (pc' := 60) (L' := [(0, .ref 47), (1, .int p1)]) (S' := [.int (8 : Int32), .int (I 50 3)]) (h' := (hh X g I)) rfl ?_
              refine Go_cmpn rfl rfl rfl ?_ ?_
              ·
                refine Go_blk 2 (pc' := 68) (L' := [(0, .ref 47), (1, .int p1)]) (S' := [.int (1 : Int32)]) (h' := (hh X g I)) rfl ?_
                exact Go_jmp [] rfl trivial (fun _ h => h)
              ·
                refine Go_blk 1 (pc' := 68) (L' := [(0, .ref 47), (1, .int p1)]) (S' := [.int (0 : Int32)]) (h' := (hh X g I)) rfl ?_
                exact Go_jmp [] rfl trivial (fun _ h => h)
            ·
              refine Go_blk 1 (pc' := 68) (L' := [(0, .ref 47), (1, .int p1)]) (S' := [.int (0 : Int32)]) (h' := (hh X g I)) rfl ?_
              exact Go_jmp [] rfl trivial (fun _ h => h)
      ·
        refine Go_blk 2 (pc' := 33) (L' := [(0, .ref 47), (1, .int p1)]) (S' := [.int (2 : Int32), .int p1]) (h' := (hh X g I)) rfl ?_
        refine Go_cmpn rfl rfl rfl ?_ ?_
        ·
          refine Go_blk 5 (pc' := 44) (L' := [(0, .ref 47), (1, .int p1)]) (S' := [.int (16 : Int32), .int (I 50 2)]) (h' := (hh X g I)) rfl ?_
          refine Go_cmp rfl rfl rfl ?_ ?_
          ·
            refine Go_blk 2 (pc' := 68) (L' := [(0, .ref 47), (1, .int p1)]) (S' := [.int (1 : Int32)]) (h' := (hh X g I)) rfl ?_
            exact Go_jmp [] rfl trivial (fun _ h => h)
          ·
            refine Go_blk 2 (pc' := 49) (L' := [(0, .ref 47), (1, .int p1)]) (S' := [.int (3 : Int32), .int p1]) (h' := (hh X g I)) rfl ?_
            refine Go_cmpn rfl rfl rfl ?_ ?_
            ·
              refine Go_blk 5 (pc' := 60) (L' := [(0, .ref 47), (1, .int p1)]) (S' := [.int (8 : Int32), .int (I 50 3)]) (h' := (hh X g I)) rfl ?_
              refine Go_cmpn rfl rfl rfl ?_ ?_
              ·
                refine Go_blk 2 (pc' := 68) (L' := [(0, .ref 47), (1, .int p1)]) (S' := [.int (1 : Int32)]) (h' := (hh X g I)) rfl ?_
                exact Go_jmp [] rfl trivial (fun _ h => h)
              ·
                refine Go_blk 1 (pc' := 68) (L' := [(0, .ref 47), (1, .int p1)]) (S' := [.int (0 : Int32)]) (h' := (hh X g I)) rfl ?_
                exact Go_jmp [] rfl trivial (fun _ h => h)
            ·
              refine Go_blk 1 (pc' := 68) (L' := [(0, .ref 47), (1, .int p1)]) (S' := [.int (0 : Int32)]) (h' := (hh X g I)) rfl ?_
              exact Go_jmp [] rfl trivial (fun _ h => h)
        ·
          refine Go_blk 2 (pc' := 49) (L' := [(0, .ref 47), (1, .int p1)]) (S' := [.int (3 : Int32), .int p1]) (h' := (hh X g I)) rfl ?_
          refine Go_cmpn rfl rfl rfl ?_ ?_
          ·
            refine Go_blk 5 (pc' := 60) (L' := [(0, .ref 47), (1, .int p1)]) (S' := [.int (8 : Int32), .int (I 50 3)]) (h' := (hh X g I)) rfl ?_
            refine Go_cmpn rfl rfl rfl ?_ ?_
            ·
              refine Go_blk 2 (pc' := 68) (L' := [(0, .ref 47), (1, .int p1)]) (S' := [.int (1 : Int32)]) (h' := (hh X g I)) rfl ?_
              exact Go_jmp [] rfl trivial (fun _ h => h)
            ·
              refine Go_blk 1 (pc' := 68) (L' := [(0, .ref 47), (1, .int p1)]) (S' := [.int (0 : Int32)]) (h' := (hh X g I)) rfl ?_
              exact Go_jmp [] rfl trivial (fun _ h => h)
          ·
            refine Go_blk 1 (pc' := 68) (L' := [(0, .ref 47), (1, .int p1)]) (S' := [.int (0 : Int32)]) (h' := (hh X g I)) rfl ?_
            exact Go_jmp [] rfl trivial (fun _ h => h)
set_option maxRecDepth 1000000 in
set_option maxHeartbeats 4000000 in
theorem g_m_skipWord280  {X : XX} {g : GG} {I : MJ} {d : Nat} (hd : 1 ≤ d) : Go d 280 0 (lv_args 0 [.ref 47]) [] (hh X g I) (f_m_skipWord280  I) (pV X g) := by
  obtain ⟨d, rfl⟩ : ∃ k, d = k + 1 := ⟨d - 1, by omega⟩
  unfold f_m_skipWord280
  refine Go_lcs [(0, .ref 47)] rfl ⟨rfl, trivial⟩ ?_
  refine Go_seq (pcj := 27) (fun (b2 : MJ) => []) (fun (b2 : MJ) => []) (fun (b2 : MJ) => (hh X g b2)) (fun b2 => ?_) ?_
  ·
    exact Go_ret (fun _ h => h) rfl
  ·
    refine Go_wh (fun (s1 : MJ) => [(0, .ref 47)]) (fun _ => []) (fun (s1 : MJ) => (hh X g s1)) (fun s1 => ?_) I
    refine Go_blk 3 (pc' := 5) (L' := [(0, .ref 47)]) (S' := [.int (s1 47 4), .ref 47]) (h' := (hh X g s1)) rfl ?_
    refine Go_cR (y' := 271) (As := [.ref 47, .int (s1 47 4)]) (r := []) rfl (g_m_byteAt271 (s1 47 4) (by omega)) fun v3 => ?_
    refine Go_cR (y' := 276) (As := [.int v3]) (r := []) rfl (g_m_isSmall276 v3 (by omega)) fun v4 => ?_
    refine Go_cmz rfl rfl rfl ?_ ?_
    ·
      exact Go_jmp [] rfl trivial (fun _ h => h)
    ·
      refine Go_blk 7 (pc' := 0) (L' := [(0, .ref 47)]) (S' := []) (h' := (hh X g (ab_up1 s1 47 4 ((s1 47 4) + (1 : Int32))))) rfl ?_
      exact Go_jmp [(0, .ref 47)] rfl ⟨rfl, trivial⟩ (fun _ h => h)
set_option maxRecDepth 1000000 in
set_option maxHeartbeats 4000000 in
theorem g_m_takes282 (p1 : Int32) (p2 : Int32) (p3 : Int32) (p4 : Int32) (p5 : Int32) (p6 : Int32) {X : XX} {g : GG} {I : MJ} {d : Nat} (hd : 4 ≤ d) : Go d 282 0 (lv_args 0 [.ref 47, .int p1, .int p2, .int p3, .int p4, .int p5, .int p6]) [] (hh X g I) (f_m_takes282 p1 p2 p3 p4 p5 p6 I) (pW X g) := by
  obtain ⟨d, rfl⟩ : ∃ k, d = k + 1 := ⟨d - 1, by omega⟩
  unfold f_m_takes282
  refine Go_blk 7 (pc' := 10) (L' := [(0, .ref 47), (1, .int p1), (2, .int p2), (3, .int p3), (4, .int p4), (5, .int p5), (6, .int p6)]) (S' := [.int p6, .int p5, .int p4, .int p3, .int p2, .int p1, .ref 47]) (h' := (hh X g I)) rfl ?_
  refine Go_cW (y' := 274) (As := [.ref 47, .int p1, .int p2, .int p3, .int p4, .int p5, .int p6]) (r := []) rfl (g_m_isWord274 p1 p2 p3 p4 p5 p6 (by omega)) fun w1 => ?_
  refine Go_blk 2 (pc' := 17) (L' := [(7, .int w1.1), (0, .ref 47), (1, .int p1), (2, .int p2), (3, .int p3), (4, .int p4), (5, .int p5), (6, .int p6)]) (S' := [.int w1.1]) (h' := (hh X g w1.2)) rfl ?_
  refine Go_seq (pcj := 24) (fun (b2 : MJ) => [(7, .int w1.1)]) (fun (b2 : MJ) => []) (fun (b2 : MJ) => (hh X g b2)) (fun b2 => ?_) ?_
  ·
    refine Go_blk 1 (pc' := 26) (L' := [(7, .int w1.1)]) (S' := [.int w1.1]) (h' := (hh X g b2)) rfl ?_
    exact Go_ret (fun _ h => h) rfl
  ·
    refine Go_cmz rfl rfl rfl ?_ ?_
    ·
      exact Go_jmp [(7, .int w1.1)] rfl ⟨rfl, trivial⟩ (fun _ h => h)
    ·
      refine Go_blk 1 (pc' := 21) (L' := [(7, .int w1.1), (0, .ref 47), (1, .int p1), (2, .int p2), (3, .int p3), (4, .int p4), (5, .int p5), (6, .int p6)]) (S' := [.ref 47]) (h' := (hh X g w1.2)) rfl ?_
      refine Go_cV (y' := 280) (As := [.ref 47]) (r := []) rfl (g_m_skipWord280  (by omega)) fun I3 => ?_
      exact Go_jmp [(7, .int w1.1)] rfl ⟨rfl, trivial⟩ (fun _ h => h)
set_option maxRecDepth 1000000 in
set_option maxHeartbeats 4000000 in
theorem g_m_skyHere281  {X : XX} {g : GG} {I : MJ} {d : Nat} (hd : 5 ≤ d) : Go d 281 0 (lv_args 0 [.ref 47]) [] (hh X g I) (f_m_skyHere281  I) (pW X g) := by
  obtain ⟨d, rfl⟩ : ∃ k, d = k + 1 := ⟨d - 1, by omega⟩
  unfold f_m_skyHere281
  refine Go_blk 7 (pc' := 10) (L' := [(0, .ref 47)]) (S' := [.int (0 : Int32), .int (0 : Int32), .int (0 : Int32), .int (14 : Int32), .int (21 : Int32), .int (19 : Int32), .ref 47]) (h' := (hh X g I)) rfl ?_
  refine Go_cW (y' := 282) (As := [.ref 47, .int (19 : Int32), .int (21 : Int32), .int (14 : Int32), .int (0 : Int32), .int (0 : Int32), .int (0 : Int32)]) (r := []) rfl (g_m_takes282 (19 : Int32) (21 : Int32) (14 : Int32) (0 : Int32) (0 : Int32) (0 : Int32) (by omega)) fun w1 => ?_
  refine Go_cmz rfl rfl rfl ?_ ?_
  ·
    refine Go_blk 7 (pc' := 28) (L' := [(0, .ref 47)]) (S' := [.int (0 : Int32), .int (0 : Int32), .int (14 : Int32), .int (9 : Int32), .int (1 : Int32), .int (18 : Int32), .ref 47]) (h' := (hh X g w1.2)) rfl ?_
    refine Go_cW (y' := 282) (As := [.ref 47, .int (18 : Int32), .int (1 : Int32), .int (9 : Int32), .int (14 : Int32), .int (0 : Int32), .int (0 : Int32)]) (r := []) rfl (g_m_takes282 (18 : Int32) (1 : Int32) (9 : Int32) (14 : Int32) (0 : Int32) (0 : Int32) (by omega)) fun w2 => ?_
    refine Go_cmz rfl rfl rfl ?_ ?_
    ·
      refine Go_blk 7 (pc' := 46) (L' := [(0, .ref 47)]) (S' := [.int (0 : Int32), .int (0 : Int32), .int (25 : Int32), .int (5 : Int32), .int (18 : Int32), .int (7 : Int32), .ref 47]) (h' := (hh X g w2.2)) rfl ?_
      refine Go_cW (y' := 282) (As := [.ref 47, .int (7 : Int32), .int (18 : Int32), .int (5 : Int32), .int (25 : Int32), .int (0 : Int32), .int (0 : Int32)]) (r := []) rfl (g_m_takes282 (7 : Int32) (18 : Int32) (5 : Int32) (25 : Int32) (0 : Int32) (0 : Int32) (by omega)) fun w3 => ?_
      refine Go_cmz rfl rfl rfl ?_ ?_
      ·
        refine Go_blk 7 (pc' := 64) (L' := [(0, .ref 47)]) (S' := [.int (0 : Int32), .int (0 : Int32), .int (4 : Int32), .int (14 : Int32), .int (9 : Int32), .int (23 : Int32), .ref 47]) (h' := (hh X g w3.2)) rfl ?_
        refine Go_cW (y' := 282) (As := [.ref 47, .int (23 : Int32), .int (9 : Int32), .int (14 : Int32), .int (4 : Int32), .int (0 : Int32), .int (0 : Int32)]) (r := []) rfl (g_m_takes282 (23 : Int32) (9 : Int32) (14 : Int32) (4 : Int32) (0 : Int32) (0 : Int32) (by omega)) fun w4 => ?_
        refine Go_cmz rfl rfl rfl ?_ ?_
        ·
          refine Go_blk 7 (pc' := 84) (L' := [(0, .ref 47)]) (S' := [.int (0 : Int32), .int (20 : Int32), .int (19 : Int32), .int (15 : Int32), .int (18 : Int32), .int (6 : Int32), .ref 47]) (h' := (hh X g w4.2)) rfl ?_
          refine Go_cW (y' := 282) (As := [.ref 47, .int (6 : Int32), .int (18 : Int32), .int (15 : Int32), .int (19 : Int32), .int (20 : Int32), .int (0 : Int32)]) (r := []) rfl (g_m_takes282 (6 : Int32) (18 : Int32) (15 : Int32) (19 : Int32) (20 : Int32) (0 : Int32) (by omega)) fun w5 => ?_
          refine Go_cmz rfl rfl rfl ?_ ?_
          ·
            refine Go_blk 7 (pc' := 102) (L' := [(0, .ref 47)]) (S' := [.int (0 : Int32), .int (0 : Int32), .int (0 : Int32), .int (7 : Int32), .int (15 : Int32), .int (6 : Int32), .ref 47]) (h' := (hh X g w5.2)) rfl ?_
            refine Go_cW (y' := 282) (As := [.ref 47, .int (6 : Int32), .int (15 : Int32), .int (7 : Int32), .int (0 : Int32), .int (0 : Int32), .int (0 : Int32)]) (r := []) rfl (g_m_takes282 (6 : Int32) (15 : Int32) (7 : Int32) (0 : Int32) (0 : Int32) (0 : Int32) (by omega)) fun w6 => ?_
            refine Go_cmz rfl rfl rfl ?_ ?_
            ·
              refine Go_blk 1 (pc' := 111) (L' := [(0, .ref 47)]) (S' := [.ref 47]) (h' := (hh X g w6.2)) rfl ?_
              refine Go_cV (y' := 270) (As := [.ref 47]) (r := []) rfl (g_m_blanks270  (by omega)) fun I7 => ?_
              refine Go_blk 4 (pc' := 120) (L' := [(0, .ref 47)]) (S' := [.int (I7 47 4), .int (1 : Int32), .ref 47]) (h' := (hh X g I7)) rfl ?_
              refine Go_cV (y' := 278) (As := [.ref 47, .int (1 : Int32), .int (I7 47 4)]) (r := []) rfl (g_m_wrong278 (1 : Int32) (I7 47 4) (by omega)) fun I8 => ?_
              refine Go_blk 1 (pc' := 124) (L' := [(0, .ref 47)]) (S' := [.int (0 : Int32)]) (h' := (hh X g I8)) rfl ?_
              exact Go_ret (fun _ h => h) rfl
            ·
              refine Go_blk 1 (pc' := 109) (L' := [(0, .ref 47)]) (S' := [.int (5 : Int32)]) (h' := (hh X g w6.2)) rfl ?_
              exact Go_ret (fun _ h => h) rfl
          ·
            refine Go_blk 1 (pc' := 91) (L' := [(0, .ref 47)]) (S' := [.int (4 : Int32)]) (h' := (hh X g w5.2)) rfl ?_
            exact Go_ret (fun _ h => h) rfl
        ·
          refine Go_blk 1 (pc' := 71) (L' := [(0, .ref 47)]) (S' := [.int (3 : Int32)]) (h' := (hh X g w4.2)) rfl ?_
          exact Go_ret (fun _ h => h) rfl
      ·
        refine Go_blk 1 (pc' := 53) (L' := [(0, .ref 47)]) (S' := [.int (2 : Int32)]) (h' := (hh X g w3.2)) rfl ?_
        exact Go_ret (fun _ h => h) rfl
    ·
      refine Go_blk 1 (pc' := 35) (L' := [(0, .ref 47)]) (S' := [.int (1 : Int32)]) (h' := (hh X g w2.2)) rfl ?_
      exact Go_ret (fun _ h => h) rfl
  ·
    refine Go_blk 1 (pc' := 17) (L' := [(0, .ref 47)]) (S' := [.int (0 : Int32)]) (h' := (hh X g w1.2)) rfl ?_
    exact Go_ret (fun _ h => h) rfl
set_option maxRecDepth 1000000 in
set_option maxHeartbeats 4000000 in
theorem g_m_isDigit284 (p0 : Int32) {X : XX} {g : GG} {I : MJ} {d : Nat} (hd : 0 ≤ d) : Go d 284 0 (lv_args 0 [.int p0]) [] (hh X g I) (f_m_isDigit284 p0 I) (pR X g I) := by
  unfold f_m_isDigit284
  refine Go_blk 2 (pc' := 3) (L' := [(0, .int p0)]) (S' := [.int (48 : Int32), .int p0]) (h' := (hh X g I)) rfl ?_
  refine Go_seq (pcj := 17) (fun (b1 : Int32) => []) (fun (b1 : Int32) => [.int b1]) (fun (b1 : Int32) => (hh X g I)) (fun b1 => ?_) ?_
  ·
    exact Go_ret (fun _ h => h) rfl
  ·
    refine Go_cmp rfl rfl rfl ?_ ?_
    ·
      refine Go_blk 1 (pc' := 17) (L' := [(0, .int p0)]) (S' := [.int (0 : Int32)]) (h' := (hh X g I)) rfl ?_
      exact Go_jmp [] rfl trivial (fun _ h => h)
    ·
      refine Go_blk 2 (pc' := 9) (L' := [(0, .int p0)]) (S' := [.int (57 : Int32), .int p0]) (h' := (hh X g I)) rfl ?_
      refine Go_cmp rfl rfl rfl ?_ ?_
      ·
        refine Go_blk 1 (pc' := 17) (L' := [(0, .int p0)]) (S' := [.int (0 : Int32)]) (h' := (hh X g I)) rfl ?_
        exact Go_jmp [] rfl trivial (fun _ h => h)
      ·
        refine Go_blk 2 (pc' := 17) (L' := [(0, .int p0)]) (S' := [.int (1 : Int32)]) (h' := (hh X g I)) rfl ?_
        exact Go_jmp [] rfl trivial (fun _ h => h)
set_option maxRecDepth 1000000 in
set_option maxHeartbeats 4000000 in
theorem g_m_number283 (p1 : Int32) (p2 : Int32) {X : XX} {g : GG} {I : MJ} {d : Nat} (hd : 2 ≤ d) : Go d 283 0 (lv_args 0 [.ref 47, .int p1, .int p2]) [] (hh X g I) (f_m_number283 p1 p2 I) (pW X g) := by
  obtain ⟨d, rfl⟩ : ∃ k, d = k + 1 := ⟨d - 1, by omega⟩
  unfold f_m_number283
  refine Go_blk 2 (pc' := 4) (L' := [(0, .ref 47), (1, .int p1), (2, .int p2)]) (S' := [.int (I 47 5)]) (h' := (hh X g I)) rfl ?_
  refine Go_cmz rfl rfl rfl ?_ ?_
  ·
    refine Go_blk 1 (pc' := 10) (L' := [(0, .ref 47), (1, .int p1), (2, .int p2)]) (S' := [.ref 47]) (h' := (hh X g I)) rfl ?_
    refine Go_cV (y' := 270) (As := [.ref 47]) (r := []) rfl (g_m_blanks270  (by omega)) fun I1 => ?_
    refine Go_blk 8 (pc' := 26) (L' := [(4, .int (0 : Int32)), (3, .int (I1 47 4)), (0, .ref 47), (1, .int p1), (2, .int p2)]) (S' := [.int (I1 47 4), .ref 47]) (h' := (hh X g I1)) rfl ?_
    refine Go_cR (y' := 271) (As := [.ref 47, .int (I1 47 4)]) (r := []) rfl (g_m_byteAt271 (I1 47 4) (by omega)) fun v2 => ?_
    refine Go_cR (y' := 284) (As := [.int v2]) (r := []) rfl (g_m_isDigit284 v2 (by omega)) fun v3 => ?_
    refine Go_seq (pcj := 44) (fun (b4 : MJ) => [(0, .ref 47), (1, .int p1), (2, .int p2), (3, .int (I1 47 4)), (4, .int (0 : Int32))]) (fun (b4 : MJ) => []) (fun (b4 : MJ) => (hh X g b4)) (fun b4 => ?_) ?_
    ·
      refine Go_lcs [(0, .ref 47), (1, .int p1), (2, .int p2), (3, .int (I1 47 4)), (4, .int (0 : Int32))] rfl ⟨rfl, rfl, rfl, rfl, rfl, trivial⟩ ?_
      refine Go_seq (pcj := 106) (fun (b6 : Int32 × MJ) => [(0, .ref 47), (1, .int p1), (2, .int p2), (3, .int (I1 47 4)), (4, .int b6.1)]) (fun (b6 : Int32 × MJ) => []) (fun (b6 : Int32 × MJ) => (hh X g b6.2)) (fun b6 => ?_) ?_
      ·
        refine Go_blk 3 (pc' := 110) (L' := [(0, .ref 47), (1, .int p1), (2, .int p2), (3, .int (I1 47 4)), (4, .int b6.1)]) (S' := [.int p2, .int p1, .int b6.1]) (h' := (hh X g b6.2)) rfl ?_
        refine Go_cR (y' := 264) (As := [.int b6.1, .int p1, .int p2]) (r := []) rfl (g_m_in264 b6.1 p1 p2 (by omega)) fun v7 => ?_
        refine Go_seq (pcj := 122) (fun (b8 : MJ) => [(0, .ref 47), (4, .int b6.1)]) (fun (b8 : MJ) => []) (fun (b8 : MJ) => (hh X g b8)) (fun b8 => ?_) ?_
        ·
          refine Go_blk 2 (pc' := 126) (L' := [(0, .ref 47), (4, .int b6.1)]) (S' := [.int (b8 47 5)]) (h' := (hh X g b8)) rfl ?_
          refine Go_seq (pcj := 135) (fun (b9 : Int32) => []) (fun (b9 : Int32) => [.int b9]) (fun (b9 : Int32) => (hh X g b8)) (fun b9 => ?_) ?_
          ·
            exact Go_ret (fun _ h => h) rfl
          ·
            refine Go_cmzn rfl rfl rfl ?_ ?_
            ·
              refine Go_blk 2 (pc' := 135) (L' := [(0, .ref 47), (4, .int b6.1)]) (S' := [.int b6.1]) (h' := (hh X g b8)) rfl ?_
              exact Go_jmp [] rfl trivial (fun _ h => h)
            ·
              refine Go_blk 1 (pc' := 135) (L' := [(0, .ref 47), (4, .int b6.1)]) (S' := [.int (0 : Int32)]) (h' := (hh X g b8)) rfl ?_
              exact Go_jmp [] rfl trivial (fun _ h => h)
        ·
          refine Go_cmzn rfl rfl rfl ?_ ?_
          ·
            refine Go_blk 3 (pc' := 119) (L' := [(0, .ref 47), (1, .int p1), (2, .int p2), (3, .int (I1 47 4)), (4, .int b6.1)]) (S' := [.int (I1 47 4), .int (2 : Int32), .ref 47]) (h' := (hh X g b6.2)) rfl ?_
            refine Go_cV (y' := 278) (As := [.ref 47, .int (2 : Int32), .int (I1 47 4)]) (r := []) rfl (g_m_wrong278 (2 : Int32) (I1 47 4) (by omega)) fun I10 => ?_
            exact Go_jmp [(0, .ref 47), (4, .int b6.1)] rfl ⟨rfl, rfl, trivial⟩ (fun _ h => h)
          ·
            exact Go_jmp [(0, .ref 47), (4, .int b6.1)] rfl ⟨rfl, rfl, trivial⟩ (fun _ h => h)
      ·
        refine Go_wh (fun (s5 : Int32 × MJ) => [(0, .ref 47), (1, .int p1), (2, .int p2), (3, .int (I1 47 4)), (4, .int s5.1)]) (fun _ => []) (fun (s5 : Int32 × MJ) => (hh X g s5.2)) (fun s5 => ?_) ((0 : Int32), b4)
        refine Go_blk 3 (pc' := 49) (L' := [(0, .ref 47), (1, .int p1), (2, .int p2), (3, .int (I1 47 4)), (4, .int s5.1)]) (S' := [.int (s5.2 47 4), .ref 47]) (h' := (hh X g s5.2)) rfl ?_
        refine Go_cR (y' := 271) (As := [.ref 47, .int (s5.2 47 4)]) (r := []) rfl (g_m_byteAt271 (s5.2 47 4) (by omega)) fun v11 => ?_
        refine Go_cR (y' := 284) (As := [.int v11]) (r := []) rfl (g_m_isDigit284 v11 (by omega)) fun v12 => ?_
        refine Go_cmz rfl rfl rfl ?_ ?_
        ·
          exact Go_jmp [(0, .ref 47), (1, .int p1), (2, .int p2), (3, .int (I1 47 4)), (4, .int s5.1)] rfl ⟨rfl, rfl, rfl, rfl, rfl, trivial⟩ (fun _ h => h)
        ·
          refine Go_blk 6 (pc' := 68) (L' := [(0, .ref 47), (1, .int p1), (2, .int p2), (3, .int (I1 47 4)), (4, .int s5.1)]) (S' := [.int (s5.2 47 4), .ref 47, .int ((10 : Int32) * s5.1)]) (h' := (hh X g s5.2)) rfl ?_
          refine Go_cR (y' := 271) (As := [.ref 47, .int (s5.2 47 4)]) (r := [.int ((10 : Int32) * s5.1)]) rfl (g_m_byteAt271 (s5.2 47 4) (by omega)) fun v13 => ?_
          refine Go_blk 6 (pc' := 81) (L' := [(4, .int ((((10 : Int32) * s5.1) + v13) - (48 : Int32))), (0, .ref 47), (1, .int p1), (2, .int p2), (3, .int (I1 47 4))]) (S' := [.int (100000 : Int32), .int ((((10 : Int32) * s5.1) + v13) - (48 : Int32))]) (h' := (hh X g s5.2)) rfl ?_
          refine Go_seq (pcj := 91) (fun (b14 : Int32) => [(0, .ref 47), (1, .int p1), (2, .int p2), (3, .int (I1 47 4))]) (fun (b14 : Int32) => [.int b14]) (fun (b14 : Int32) => (hh X g s5.2)) (fun b14 => ?_) ?_
          ·
            refine Go_blk 8 (pc' := 44) (L' := [(4, .int b14), (0, .ref 47), (1, .int p1), (2, .int p2), (3, .int (I1 47 4))]) (S' := []) (h' := (hh X g (ab_up1 s5.2 47 4 ((s5.2 47 4) + (1 : Int32))))) rfl ?_
            exact Go_jmp [(0, .ref 47), (1, .int p1), (2, .int p2), (3, .int (I1 47 4)), (4, .int b14)] rfl ⟨rfl, rfl, rfl, rfl, rfl, trivial⟩ (fun _ h => h)
          ·
            refine Go_cmpn rfl rfl (ab_cle _ _) ?_ ?_
            ·
              refine Go_blk 2 (pc' := 91) (L' := [(4, .int ((((10 : Int32) * s5.1) + v13) - (48 : Int32))), (0, .ref 47), (1, .int p1), (2, .int p2), (3, .int (I1 47 4))]) (S' := [.int (100000 : Int32)]) (h' := (hh X g s5.2)) rfl ?_
              exact Go_jmp [(0, .ref 47), (1, .int p1), (2, .int p2), (3, .int (I1 47 4))] rfl ⟨rfl, rfl, rfl, rfl, trivial⟩ (fun _ h => h)
            ·
              refine Go_blk 1 (pc' := 91) (L' := [(4, .int ((((10 : Int32) * s5.1) + v13) - (48 : Int32))), (0, .ref 47), (1, .int p1), (2, .int p2), (3, .int (I1 47 4))]) (S' := [.int ((((10 : Int32) * s5.1) + v13) - (48 : Int32))]) (h' := (hh X g s5.2)) rfl ?_
              exact Go_jmp [(0, .ref 47), (1, .int p1), (2, .int p2), (3, .int (I1 47 4))] rfl ⟨rfl, rfl, rfl, rfl, trivial⟩ (fun _ h => h)
    ·
      refine Go_cmzn rfl rfl rfl ?_ ?_
      ·
        refine Go_blk 4 (pc' := 41) (L' := [(4, .int (0 : Int32)), (3, .int (I1 47 4)), (0, .ref 47), (1, .int p1), (2, .int p2)]) (S' := [.int (I1 47 4), .int (1 : Int32), .ref 47]) (h' := (hh X g I1)) rfl ?_
        refine Go_cV (y' := 278) (As := [.ref 47, .int (1 : Int32), .int (I1 47 4)]) (r := []) rfl (g_m_wrong278 (1 : Int32) (I1 47 4) (by omega)) fun I15 => ?_
        exact Go_jmp [(0, .ref 47), (1, .int p1), (2, .int p2), (3, .int (I1 47 4)), (4, .int (0 : Int32))] rfl ⟨rfl, rfl, rfl, rfl, rfl, trivial⟩ (fun _ h => h)
      ·
        exact Go_jmp [(0, .ref 47), (1, .int p1), (2, .int p2), (3, .int (I1 47 4)), (4, .int (0 : Int32))] rfl ⟨rfl, rfl, rfl, rfl, rfl, trivial⟩ (fun _ h => h)
  ·
    refine Go_blk 1 (pc' := 8) (L' := [(0, .ref 47), (1, .int p1), (2, .int p2)]) (S' := [.int (0 : Int32)]) (h' := (hh X g I)) rfl ?_
    exact Go_ret (fun _ h => h) rfl
set_option maxRecDepth 1000000 in
set_option maxHeartbeats 4000000 in
theorem g_m_sign285 (p1 : Int32) {X : XX} {g : GG} {I : MJ} {d : Nat} (hd : 2 ≤ d) : Go d 285 0 (lv_args 0 [.ref 47, .int p1]) [] (hh X g I) (f_m_sign285 p1 I) (pV X g) := by
  obtain ⟨d, rfl⟩ : ∃ k, d = k + 1 := ⟨d - 1, by omega⟩
  unfold f_m_sign285
  refine Go_blk 2 (pc' := 4) (L' := [(0, .ref 47), (1, .int p1)]) (S' := [.int (I 47 5)]) (h' := (hh X g I)) rfl ?_
  refine Go_cmz rfl rfl rfl ?_ ?_
  ·
    refine Go_blk 1 (pc' := 9) (L' := [(0, .ref 47), (1, .int p1)]) (S' := [.ref 47]) (h' := (hh X g I)) rfl ?_
    refine Go_cV (y' := 270) (As := [.ref 47]) (r := []) rfl (g_m_blanks270  (by omega)) fun I1 => ?_
    refine Go_blk 3 (pc' := 17) (L' := [(0, .ref 47), (1, .int p1)]) (S' := [.int (I1 47 4), .ref 47]) (h' := (hh X g I1)) rfl ?_
    refine Go_cR (y' := 271) (As := [.ref 47, .int (I1 47 4)]) (r := []) rfl (g_m_byteAt271 (I1 47 4) (by omega)) fun v2 => ?_
    refine Go_blk 1 (pc' := 21) (L' := [(0, .ref 47), (1, .int p1)]) (S' := [.int p1, .int v2]) (h' := (hh X g I1)) rfl ?_
    refine Go_seq (pcj := 46) (fun (b3 : MJ) => []) (fun (b3 : MJ) => []) (fun (b3 : MJ) => (hh X g b3)) (fun b3 => ?_) ?_
    ·
      exact Go_ret (fun _ h => h) rfl
    ·
      refine Go_cmpn rfl rfl rfl ?_ ?_
      ·
        refine Go_blk 7 (pc' := 46) (L' := [(0, .ref 47), (1, .int p1)]) (S' := []) (h' := (hh X g (ab_up1 I1 47 4 ((I1 47 4) + (1 : Int32))))) rfl ?_
        exact Go_jmp [] rfl trivial (fun _ h => h)
      ·
        refine Go_blk 4 (pc' := 43) (L' := [(0, .ref 47), (1, .int p1)]) (S' := [.int (I1 47 4), .int (1 : Int32), .ref 47]) (h' := (hh X g I1)) rfl ?_
        refine Go_cV (y' := 278) (As := [.ref 47, .int (1 : Int32), .int (I1 47 4)]) (r := []) rfl (g_m_wrong278 (1 : Int32) (I1 47 4) (by omega)) fun I4 => ?_
        exact Go_jmp [] rfl trivial (fun _ h => h)
  ·
    exact Go_ret (fun _ h => h) rfl
set_option maxRecDepth 1000000 in
set_option maxHeartbeats 4000000 in
theorem g_m_clause272  {X : XX} {g : GG} {I : MJ} {d : Nat} (hd : 6 ≤ d) : Go d 272 0 (lv_args 0 [.ref 47]) [] (hh X g I) (f_m_clause272  I) (pV X g) := by
  obtain ⟨d, rfl⟩ : ∃ k, d = k + 1 := ⟨d - 1, by omega⟩
  unfold f_m_clause272
  refine Go_blk 1 (pc' := 1) (L' := [(0, .ref 47)]) (S' := [.ref 47]) (h' := (hh X g I)) rfl ?_
  refine Go_cW (y' := 273) (As := [.ref 47]) (r := []) rfl (g_m_kindHere273  (by omega)) fun w1 => ?_
  refine Go_blk 3 (pc' := 7) (L' := [(1, .int w1.1), (0, .ref 47)]) (S' := [.int (-1 : Int32), .int w1.1]) (h' := (hh X g w1.2)) rfl ?_
  refine Go_seq (pcj := 48) (fun (b2 : MJ) => [(0, .ref 47), (1, .int w1.1)]) (fun (b2 : MJ) => []) (fun (b2 : MJ) => (hh X g b2)) (fun b2 => ?_) ?_
  ·
    refine Go_blk 2 (pc' := 52) (L' := [(0, .ref 47), (1, .int w1.1)]) (S' := [.int (b2 47 5)]) (h' := (hh X g b2)) rfl ?_
    refine Go_cmz rfl rfl rfl ?_ ?_
    ·
      refine Go_blk 1 (pc' := 57) (L' := [(0, .ref 47), (1, .int w1.1)]) (S' := [.ref 47]) (h' := (hh X g b2)) rfl ?_
      refine Go_cV (y' := 280) (As := [.ref 47]) (r := []) rfl (g_m_skipWord280  (by omega)) fun I3 => ?_
      refine Go_blk 7 (pc' := 71) (L' := [(0, .ref 47), (1, .int w1.1)]) (S' := [.int w1.1]) (h' := (hh X g (ab_up1 I3 47 7 ((I3 47 7) + (1 : Int32))))) rfl ?_
      refine Go_seq (pcj := 356) (fun (b4 : MJ) => [(0, .ref 47), (1, .int w1.1)]) (fun (b4 : MJ) => []) (fun (b4 : MJ) => (hh X g b4)) (fun b4 => ?_) ?_
      ·
        refine Go_blk 2 (pc' := 358) (L' := [(0, .ref 47), (1, .int w1.1)]) (S' := [.int (4 : Int32), .int w1.1]) (h' := (hh X g b4)) rfl ?_
        refine Go_seq (pcj := 382) (fun (b5 : MJ) => [(0, .ref 47)]) (fun (b5 : MJ) => []) (fun (b5 : MJ) => (hh X g b5)) (fun b5 => ?_) ?_
        ·
          refine Go_blk 2 (pc' := 385) (L' := [(0, .ref 47)]) (S' := [.int (59 : Int32), .ref 47]) (h' := (hh X g b5)) rfl ?_
          refine Go_cV (y' := 285) (As := [.ref 47, .int (59 : Int32)]) (r := []) rfl (g_m_sign285 (59 : Int32) (by omega)) fun I6 => ?_
          exact Go_ret (fun _ h => h) rfl
        ·
          refine Go_cmpn rfl rfl (ab_cge _ _) ?_ ?_
          ·
            refine Go_blk 4 (pc' := 367) (L' := [(0, .ref 47), (1, .int w1.1)]) (S' := [.int w1.1, .ref 50, .int w1.1, .ref 50]) (h' := (hh X g b4)) rfl ?_
            refine Go_iald rfl fun v7 => ?_
            refine Go_blk 2 (pc' := 372) (L' := [(0, .ref 47), (1, .int w1.1)]) (S' := [.int (b4 47 5), .int v7, .int w1.1, .ref 50]) (h' := (hh X g b4)) rfl ?_
            refine Go_seq (pcj := 380) (fun (b8 : Int32) => [(0, .ref 47)]) (fun (b8 : Int32) => [.int b8, .int v7, .int w1.1, .ref 50]) (fun (b8 : Int32) => (hh X g b4)) (fun b8 => ?_) ?_
            ·
              refine Go_blk 1 (pc' := 381) (L' := [(0, .ref 47)]) (S' := [.int (v7 + b8), .int w1.1, .ref 50]) (h' := (hh X g b4)) rfl ?_
              refine Go_iast rfl fun I9 => ?_
              exact Go_jmp [(0, .ref 47)] rfl ⟨rfl, trivial⟩ (fun _ h => h)
            ·
              refine Go_cmzn rfl rfl rfl ?_ ?_
              ·
                refine Go_blk 2 (pc' := 380) (L' := [(0, .ref 47), (1, .int w1.1)]) (S' := [.int (1 : Int32), .int v7, .int w1.1, .ref 50]) (h' := (hh X g b4)) rfl ?_
                exact Go_jmp [(0, .ref 47)] rfl ⟨rfl, trivial⟩ (fun _ h => h)
              ·
                refine Go_blk 1 (pc' := 380) (L' := [(0, .ref 47), (1, .int w1.1)]) (S' := [.int (0 : Int32), .int v7, .int w1.1, .ref 50]) (h' := (hh X g b4)) rfl ?_
                exact Go_jmp [(0, .ref 47)] rfl ⟨rfl, trivial⟩ (fun _ h => h)
          ·
            exact Go_jmp [(0, .ref 47)] rfl ⟨rfl, trivial⟩ (fun _ h => h)
      ·
        refine Go_sw ?_ fun h0 => ?_
        ·
          refine Go_blk 1 (pc' := 104) (L' := [(0, .ref 47), (1, .int w1.1)]) (S' := []) (h' := (hh X g (ab_up1 I3 47 7 ((I3 47 7) + (1 : Int32))))) rfl ?_
          refine Go_blk 6 (pc' := 114) (L' := [(0, .ref 47), (1, .int w1.1)]) (S' := [.int (I3 50 0), .ref 54]) (h' := (hh X g (ab_up1 I3 47 7 ((I3 47 7) + (1 : Int32))))) rfl ?_
          refine Go_aald rfl fun r10 => ?_
          refine Go_blk 2 (pc' := 117) (L' := [(0, .ref 47), (1, .int w1.1)]) (S' := [.ref 47, .int (0 : Int32), .ref r10]) (h' := (hh X g (ab_up1 I3 47 7 ((I3 47 7) + (1 : Int32))))) rfl ?_
          refine Go_cW (y' := 281) (As := [.ref 47]) (r := [.int (0 : Int32), .ref r10]) rfl (g_m_skyHere281  (by omega)) fun w11 => ?_
          refine Go_iast rfl fun I12 => ?_
          refine Go_blk 6 (pc' := 131) (L' := [(0, .ref 47), (1, .int w1.1)]) (S' := [.int (I12 50 0), .ref 54]) (h' := (hh X g I12)) rfl ?_
          refine Go_aald rfl fun r13 => ?_
          refine Go_blk 4 (pc' := 137) (L' := [(0, .ref 47), (1, .int w1.1)]) (S' := [.int (60 : Int32), .int (1 : Int32), .ref 47, .int (1 : Int32), .ref r13]) (h' := (hh X g I12)) rfl ?_
          refine Go_cW (y' := 283) (As := [.ref 47, .int (1 : Int32), .int (60 : Int32)]) (r := [.int (1 : Int32), .ref r13]) rfl (g_m_number283 (1 : Int32) (60 : Int32) (by omega)) fun w14 => ?_
          refine Go_iast rfl fun I15 => ?_
          refine Go_blk 1 (pc' := 356) (L' := [(0, .ref 47), (1, .int w1.1)]) (S' := []) (h' := (hh X g I15)) rfl ?_
          exact Go_jmp [(0, .ref 47), (1, .int w1.1)] rfl ⟨rfl, rfl, trivial⟩ (fun _ h => h)
        refine Go_sw ?_ fun h1 => ?_
        ·
          refine Go_blk 1 (pc' := 144) (L' := [(0, .ref 47), (1, .int w1.1)]) (S' := []) (h' := (hh X g (ab_up1 I3 47 7 ((I3 47 7) + (1 : Int32))))) rfl ?_
          refine Go_blk 9 (pc' := 158) (L' := [(0, .ref 47), (1, .int w1.1)]) (S' := [.int (9 : Int32), .int (0 : Int32), .ref 47, .int (I3 50 1), .ref 52]) (h' := (hh X g (ab_up1 I3 47 7 ((I3 47 7) + (1 : Int32))))) rfl ?_
          refine Go_cW (y' := 283) (As := [.ref 47, .int (0 : Int32), .int (9 : Int32)]) (r := [.int (I3 50 1), .ref 52]) rfl (g_m_number283 (0 : Int32) (9 : Int32) (by omega)) fun w16 => ?_
          refine Go_iast rfl fun I17 => ?_
          refine Go_blk 1 (pc' := 356) (L' := [(0, .ref 47), (1, .int w1.1)]) (S' := []) (h' := (hh X g I17)) rfl ?_
          exact Go_jmp [(0, .ref 47), (1, .int w1.1)] rfl ⟨rfl, rfl, trivial⟩ (fun _ h => h)
        refine Go_sw ?_ fun h2 => ?_
        ·
          refine Go_blk 1 (pc' := 165) (L' := [(0, .ref 47), (1, .int w1.1)]) (S' := []) (h' := (hh X g (ab_up1 I3 47 7 ((I3 47 7) + (1 : Int32))))) rfl ?_
          refine Go_blk 6 (pc' := 175) (L' := [(0, .ref 47), (1, .int w1.1)]) (S' := [.int (I3 50 2), .ref 76]) (h' := (hh X g (ab_up1 I3 47 7 ((I3 47 7) + (1 : Int32))))) rfl ?_
          refine Go_aald rfl fun r18 => ?_
          refine Go_blk 11 (pc' := 189) (L' := [(2, .ref r18), (0, .ref 47), (1, .int w1.1)]) (S' := [.int ((I3 50 1) - (1 : Int32)), .int (0 : Int32), .ref 47, .int (0 : Int32), .ref r18]) (h' := (hh X g (ab_up1 I3 47 7 ((I3 47 7) + (1 : Int32))))) rfl ?_
          refine Go_cW (y' := 283) (As := [.ref 47, .int (0 : Int32), .int ((I3 50 1) - (1 : Int32))]) (r := [.int (0 : Int32), .ref r18]) rfl (g_m_number283 (0 : Int32) ((I3 50 1) - (1 : Int32)) (by omega)) fun w19 => ?_
          refine Go_iast rfl fun I20 => ?_
          refine Go_blk 5 (pc' := 199) (L' := [(2, .ref r18), (0, .ref 47), (1, .int w1.1)]) (S' := [.int (11 : Int32), .int (0 : Int32), .ref 47, .int (1 : Int32), .ref r18]) (h' := (hh X g I20)) rfl ?_
          refine Go_cW (y' := 283) (As := [.ref 47, .int (0 : Int32), .int (11 : Int32)]) (r := [.int (1 : Int32), .ref r18]) rfl (g_m_number283 (0 : Int32) (11 : Int32) (by omega)) fun w21 => ?_
          refine Go_iast rfl fun I22 => ?_
          refine Go_blk 5 (pc' := 208) (L' := [(2, .ref r18), (0, .ref 47), (1, .int w1.1)]) (S' := [.int (1 : Int32), .ref r18, .ref 47, .int (2 : Int32), .ref r18]) (h' := (hh X g I22)) rfl ?_
          refine Go_iald rfl fun v23 => ?_
          refine Go_blk 1 (pc' := 211) (L' := [(2, .ref r18), (0, .ref 47), (1, .int w1.1)]) (S' := [.int (11 : Int32), .int v23, .ref 47, .int (2 : Int32), .ref r18]) (h' := (hh X g I22)) rfl ?_
          refine Go_cW (y' := 283) (As := [.ref 47, .int v23, .int (11 : Int32)]) (r := [.int (2 : Int32), .ref r18]) rfl (g_m_number283 v23 (11 : Int32) (by omega)) fun w24 => ?_
          refine Go_iast rfl fun I25 => ?_
          refine Go_blk 3 (pc' := 218) (L' := [(2, .ref r18), (0, .ref 47), (1, .int w1.1)]) (S' := [.ref 47, .int (3 : Int32), .ref r18]) (h' := (hh X g I25)) rfl ?_
          refine Go_cW (y' := 281) (As := [.ref 47]) (r := [.int (3 : Int32), .ref r18]) rfl (g_m_skyHere281  (by omega)) fun w26 => ?_
          refine Go_iast rfl fun I27 => ?_
          refine Go_blk 5 (pc' := 228) (L' := [(2, .ref r18), (0, .ref 47), (1, .int w1.1)]) (S' := [.int (9 : Int32), .int (1 : Int32), .ref 47, .int (4 : Int32), .ref r18]) (h' := (hh X g I27)) rfl ?_
          refine Go_cW (y' := 283) (As := [.ref 47, .int (1 : Int32), .int (9 : Int32)]) (r := [.int (4 : Int32), .ref r18]) rfl (g_m_number283 (1 : Int32) (9 : Int32) (by omega)) fun w28 => ?_
          refine Go_iast rfl fun I29 => ?_
          refine Go_blk 1 (pc' := 356) (L' := [(2, .ref r18), (0, .ref 47), (1, .int w1.1)]) (S' := []) (h' := (hh X g I29)) rfl ?_
          exact Go_jmp [(0, .ref 47), (1, .int w1.1)] rfl ⟨rfl, rfl, trivial⟩ (fun _ h => h)
        refine Go_sw ?_ fun h3 => ?_
        ·
          refine Go_blk 1 (pc' := 235) (L' := [(0, .ref 47), (1, .int w1.1)]) (S' := []) (h' := (hh X g (ab_up1 I3 47 7 ((I3 47 7) + (1 : Int32))))) rfl ?_
          refine Go_blk 6 (pc' := 245) (L' := [(0, .ref 47), (1, .int w1.1)]) (S' := [.int (I3 50 3), .ref 110]) (h' := (hh X g (ab_up1 I3 47 7 ((I3 47 7) + (1 : Int32))))) rfl ?_
          refine Go_aald rfl fun r30 => ?_
          refine Go_blk 11 (pc' := 259) (L' := [(2, .ref r30), (0, .ref 47), (1, .int w1.1)]) (S' := [.int ((I3 50 1) - (1 : Int32)), .int (0 : Int32), .ref 47, .int (0 : Int32), .ref r30]) (h' := (hh X g (ab_up1 I3 47 7 ((I3 47 7) + (1 : Int32))))) rfl ?_
          refine Go_cW (y' := 283) (As := [.ref 47, .int (0 : Int32), .int ((I3 50 1) - (1 : Int32))]) (r := [.int (0 : Int32), .ref r30]) rfl (g_m_number283 (0 : Int32) ((I3 50 1) - (1 : Int32)) (by omega)) fun w31 => ?_
          refine Go_iast rfl fun I32 => ?_
          refine Go_blk 5 (pc' := 268) (L' := [(2, .ref r30), (0, .ref 47), (1, .int w1.1)]) (S' := [.int (5 : Int32), .int (0 : Int32), .ref 47, .int (1 : Int32), .ref r30]) (h' := (hh X g I32)) rfl ?_
          refine Go_cW (y' := 283) (As := [.ref 47, .int (0 : Int32), .int (5 : Int32)]) (r := [.int (1 : Int32), .ref r30]) rfl (g_m_number283 (0 : Int32) (5 : Int32) (by omega)) fun w33 => ?_
          refine Go_iast rfl fun I34 => ?_
          refine Go_blk 5 (pc' := 278) (L' := [(2, .ref r30), (0, .ref 47), (1, .int w1.1)]) (S' := [.int (60 : Int32), .int (1 : Int32), .ref 47, .int (2 : Int32), .ref r30]) (h' := (hh X g I34)) rfl ?_
          refine Go_cW (y' := 283) (As := [.ref 47, .int (1 : Int32), .int (60 : Int32)]) (r := [.int (2 : Int32), .ref r30]) rfl (g_m_number283 (1 : Int32) (60 : Int32) (by omega)) fun w35 => ?_
          refine Go_iast rfl fun I36 => ?_
          refine Go_blk 5 (pc' := 289) (L' := [(2, .ref r30), (0, .ref 47), (1, .int w1.1)]) (S' := [.int (999 : Int32), .int (0 : Int32), .ref 47, .int (3 : Int32), .ref r30]) (h' := (hh X g I36)) rfl ?_
          refine Go_cW (y' := 283) (As := [.ref 47, .int (0 : Int32), .int (999 : Int32)]) (r := [.int (3 : Int32), .ref r30]) rfl (g_m_number283 (0 : Int32) (999 : Int32) (by omega)) fun w37 => ?_
          refine Go_iast rfl fun I38 => ?_
          refine Go_blk 5 (pc' := 299) (L' := [(2, .ref r30), (0, .ref 47), (1, .int w1.1)]) (S' := [.int (24 : Int32), .int (1 : Int32), .ref 47, .int (4 : Int32), .ref r30]) (h' := (hh X g I38)) rfl ?_
          refine Go_cW (y' := 283) (As := [.ref 47, .int (1 : Int32), .int (24 : Int32)]) (r := [.int (4 : Int32), .ref r30]) rfl (g_m_number283 (1 : Int32) (24 : Int32) (by omega)) fun w39 => ?_
          refine Go_iast rfl fun I40 => ?_
          refine Go_blk 1 (pc' := 356) (L' := [(2, .ref r30), (0, .ref 47), (1, .int w1.1)]) (S' := []) (h' := (hh X g I40)) rfl ?_
          exact Go_jmp [(0, .ref 47), (1, .int w1.1)] rfl ⟨rfl, rfl, trivial⟩ (fun _ h => h)
        refine Go_sw ?_ fun h4 => ?_
        ·
          refine Go_blk 1 (pc' := 306) (L' := [(0, .ref 47), (1, .int w1.1)]) (S' := []) (h' := (hh X g (ab_up1 I3 47 7 ((I3 47 7) + (1 : Int32))))) rfl ?_
          refine Go_blk 3 (pc' := 310) (L' := [(0, .ref 47), (1, .int w1.1)]) (S' := [.int (9 : Int32), .int (0 : Int32), .ref 47]) (h' := (hh X g (ab_up1 I3 47 7 ((I3 47 7) + (1 : Int32))))) rfl ?_
          refine Go_cW (y' := 283) (As := [.ref 47, .int (0 : Int32), .int (9 : Int32)]) (r := []) rfl (g_m_number283 (0 : Int32) (9 : Int32) (by omega)) fun w41 => ?_
          refine Go_blk 3 (pc' := 318) (L' := [(2, .int w41.1), (0, .ref 47), (1, .int w1.1)]) (S' := [.int (w41.2 47 5)]) (h' := (hh X g w41.2)) rfl ?_
          refine Go_cmzn rfl rfl rfl ?_ ?_
          ·
            refine Go_blk 6 (pc' := 356) (L' := [(2, .int w41.1), (0, .ref 47), (1, .int w1.1)]) (S' := []) (h' := (hh X g (ab_up1 w41.2 50 4 w41.1))) rfl ?_
            exact Go_jmp [(0, .ref 47), (1, .int w1.1)] rfl ⟨rfl, rfl, trivial⟩ (fun _ h => h)
          ·
            exact Go_jmp [(0, .ref 47), (1, .int w1.1)] rfl ⟨rfl, rfl, trivial⟩ (fun _ h => h)
        refine Go_swd (t := 331) 5 rfl (by decide) (by decide) (by decide) ⟨⟨⟨⟨⟨trivial, h0⟩, h1⟩, h2⟩, h3⟩, h4⟩ rfl ?_
        refine Go_blk 3 (pc' := 335) (L' := [(0, .ref 47), (1, .int w1.1)]) (S' := [.int (24 : Int32), .int (1 : Int32), .ref 47]) (h' := (hh X g (ab_up1 I3 47 7 ((I3 47 7) + (1 : Int32))))) rfl ?_
        refine Go_cW (y' := 283) (As := [.ref 47, .int (1 : Int32), .int (24 : Int32)]) (r := []) rfl (g_m_number283 (1 : Int32) (24 : Int32) (by omega)) fun w42 => ?_
        refine Go_blk 3 (pc' := 343) (L' := [(2, .int w42.1), (0, .ref 47), (1, .int w1.1)]) (S' := [.int (w42.2 47 5)]) (h' := (hh X g w42.2)) rfl ?_
        refine Go_cmzn rfl rfl rfl ?_ ?_
        ·
          refine Go_blk 6 (pc' := 356) (L' := [(2, .int w42.1), (0, .ref 47), (1, .int w1.1)]) (S' := []) (h' := (hh X g (ab_up1 w42.2 50 5 w42.1))) rfl ?_
          exact Go_jmp [(0, .ref 47), (1, .int w1.1)] rfl ⟨rfl, rfl, trivial⟩ (fun _ h => h)
        ·
          exact Go_jmp [(0, .ref 47), (1, .int w1.1)] rfl ⟨rfl, rfl, trivial⟩ (fun _ h => h)
    ·
      exact Go_ret (fun _ h => h) rfl
  ·
    refine Go_cmpn rfl rfl rfl ?_ ?_
    ·
      refine Go_blk 4 (pc' := 16) (L' := [(1, .int w1.1), (0, .ref 47)]) (S' := [.int (w1.2 47 4), .int (1 : Int32), .ref 47]) (h' := (hh X g w1.2)) rfl ?_
      refine Go_cV (y' := 278) (As := [.ref 47, .int (1 : Int32), .int (w1.2 47 4)]) (r := []) rfl (g_m_wrong278 (1 : Int32) (w1.2 47 4) (by omega)) fun I43 => ?_
      refine Go_blk 1 (pc' := 48) (L' := [(1, .int w1.1), (0, .ref 47)]) (S' := []) (h' := (hh X g I43)) rfl ?_
      exact Go_jmp [(0, .ref 47), (1, .int w1.1)] rfl ⟨rfl, rfl, trivial⟩ (fun _ h => h)
    ·
      refine Go_blk 3 (pc' := 28) (L' := [(1, .int w1.1), (0, .ref 47)]) (S' := [.int (60 : Int32), .int (w1.2 47 7)]) (h' := (hh X g w1.2)) rfl ?_
      refine Go_cmp rfl rfl rfl ?_ ?_
      ·
        refine Go_blk 4 (pc' := 45) (L' := [(1, .int w1.1), (0, .ref 47)]) (S' := [.int (w1.2 47 4), .int (3 : Int32), .ref 47]) (h' := (hh X g w1.2)) rfl ?_
        refine Go_cV (y' := 278) (As := [.ref 47, .int (3 : Int32), .int (w1.2 47 4)]) (r := []) rfl (g_m_wrong278 (3 : Int32) (w1.2 47 4) (by omega)) fun I44 => ?_
        exact Go_jmp [(0, .ref 47), (1, .int w1.1)] rfl ⟨rfl, rfl, trivial⟩ (fun _ h => h)
      ·
        refine Go_blk 2 (pc' := 33) (L' := [(1, .int w1.1), (0, .ref 47)]) (S' := [.int w1.1, .ref 47]) (h' := (hh X g w1.2)) rfl ?_
        refine Go_cR (y' := 279) (As := [.ref 47, .int w1.1]) (r := []) rfl (g_m_isFull279 w1.1 (by omega)) fun v45 => ?_
        refine Go_cmz rfl rfl rfl ?_ ?_
        ·
          exact Go_jmp [(0, .ref 47), (1, .int w1.1)] rfl ⟨rfl, rfl, trivial⟩ (fun _ h => h)
        ·
          refine Go_blk 4 (pc' := 45) (L' := [(1, .int w1.1), (0, .ref 47)]) (S' := [.int (w1.2 47 4), .int (3 : Int32), .ref 47]) (h' := (hh X g w1.2)) rfl ?_
          refine Go_cV (y' := 278) (As := [.ref 47, .int (3 : Int32), .int (w1.2 47 4)]) (r := []) rfl (g_m_wrong278 (3 : Int32) (w1.2 47 4) (by omega)) fun I46 => ?_
          exact Go_jmp [(0, .ref 47), (1, .int w1.1)] rfl ⟨rfl, rfl, trivial⟩ (fun _ h => h)
set_option maxRecDepth 1000000 in
set_option maxHeartbeats 4000000 in
theorem g_m_ends286  {X : XX} {g : GG} {I : MJ} {d : Nat} (hd : 0 ≤ d) : Go d 286 0 (lv_args 0 [.ref 47]) [] (hh X g I) (f_m_ends286  I) (pW X g) := by
  unfold f_m_ends286
  refine Go_blk 8 (pc' := 15) (L' := [(0, .ref 47)]) (S' := [.int ((I 47 5) - (10 : Int32))]) (h' := (hh X g (ab_up1 I 47 3 (I 47 6)))) rfl ?_
  exact Go_ret (fun _ h => h) rfl
set_option maxRecDepth 1000000 in
set_option maxHeartbeats 4000000 in
theorem g_m_lays263 (p0 : Nat) (p1 : Nat) (p2 : Int32) {X : XX} {g : GG} {I : MJ} {d : Nat} (hd : 0 ≤ d) : Go d 263 0 (lv_args 0 [.ref p0, .ref p1, .int p2]) [] (hh X g I) (f_m_lays263 p0 p1 p2 I) (pV X g) := by
  unfold f_m_lays263
  refine Go_blk 2 (pc' := 2) (L' := [(3, .int (0 : Int32)), (0, .ref p0), (1, .ref p1), (2, .int p2)]) (S' := []) (h' := (hh X g I)) rfl ?_
  refine Go_lcs [(0, .ref p0), (1, .ref p1), (2, .int p2), (3, .int (0 : Int32))] rfl ⟨rfl, rfl, rfl, rfl, trivial⟩ ?_
  refine Go_seq (pcj := 43) (fun (b2 : MJ) => []) (fun (b2 : MJ) => []) (fun (b2 : MJ) => (hh X g b2)) (fun b2 => ?_) ?_
  ·
    exact Go_ret (fun _ h => h) rfl
  ·
    refine Go_wh (fun (s1 : Int32 × MJ) => [(0, .ref p0), (1, .ref p1), (2, .int p2), (3, .int s1.1)]) (fun _ => []) (fun (s1 : Int32 × MJ) => (hh X g s1.2)) (fun s1 => ?_) ((0 : Int32), I)
    refine Go_blk 2 (pc' := 4) (L' := [(0, .ref p0), (1, .ref p1), (2, .int p2), (3, .int s1.1)]) (S' := [.int p2, .int s1.1]) (h' := (hh X g s1.2)) rfl ?_
    refine Go_cmpn rfl rfl (ab_cge _ _) ?_ ?_
    ·
      refine Go_blk 2 (pc' := 10) (L' := [(4, .int (0 : Int32)), (0, .ref p0), (1, .ref p1), (2, .int p2), (3, .int s1.1)]) (S' := []) (h' := (hh X g s1.2)) rfl ?_
      refine Go_lcs [(0, .ref p0), (1, .ref p1), (2, .int p2), (3, .int s1.1), (4, .int (0 : Int32))] rfl ⟨rfl, rfl, rfl, rfl, rfl, trivial⟩ ?_
      refine Go_seq (pcj := 37) (fun (b4 : MJ) => [(0, .ref p0), (1, .ref p1), (2, .int p2), (3, .int s1.1)]) (fun (b4 : MJ) => []) (fun (b4 : MJ) => (hh X g b4)) (fun b4 => ?_) ?_
      ·
        refine Go_blk 2 (pc' := 2) (L' := [(3, .int (s1.1 + (1 : Int32))), (0, .ref p0), (1, .ref p1), (2, .int p2)]) (S' := []) (h' := (hh X g b4)) rfl ?_
        exact Go_jmp [(0, .ref p0), (1, .ref p1), (2, .int p2), (3, .int (s1.1 + (1 : Int32)))] rfl ⟨rfl, rfl, rfl, rfl, trivial⟩ (fun _ h => h)
      ·
        refine Go_wh (fun (s3 : Int32 × MJ) => [(0, .ref p0), (1, .ref p1), (2, .int p2), (3, .int s1.1), (4, .int s3.1)]) (fun _ => []) (fun (s3 : Int32 × MJ) => (hh X g s3.2)) (fun s3 => ?_) ((0 : Int32), s1.2)
        refine Go_blk 3 (pc' := 14) (L' := [(0, .ref p0), (1, .ref p1), (2, .int p2), (3, .int s1.1), (4, .int s3.1)]) (S' := [.int s1.1, .ref p1, .int s3.1]) (h' := (hh X g s3.2)) rfl ?_
        refine Go_aald rfl fun r5 => ?_
        refine Go_alen rfl fun v6 => ?_
        refine Go_cmpn rfl rfl (ab_cge _ _) ?_ ?_
        ·
          refine Go_blk 2 (pc' := 21) (L' := [(0, .ref p0), (1, .ref p1), (2, .int p2), (3, .int s1.1), (4, .int s3.1)]) (S' := [.int s1.1, .ref p1]) (h' := (hh X g s3.2)) rfl ?_
          refine Go_aald rfl fun r7 => ?_
          refine Go_blk 3 (pc' := 26) (L' := [(0, .ref p0), (1, .ref p1), (2, .int p2), (3, .int s1.1), (4, .int s3.1)]) (S' := [.int s1.1, .ref p0, .int s3.1, .ref r7]) (h' := (hh X g s3.2)) rfl ?_
          refine Go_aald rfl fun r8 => ?_
          refine Go_blk 1 (pc' := 29) (L' := [(0, .ref p0), (1, .ref p1), (2, .int p2), (3, .int s1.1), (4, .int s3.1)]) (S' := [.int s3.1, .ref r8, .int s3.1, .ref r7]) (h' := (hh X g s3.2)) rfl ?_
          refine Go_iald rfl fun v9 => ?_
          refine Go_iast rfl fun I10 => ?_
          refine Go_blk 2 (pc' := 10) (L' := [(4, .int (s3.1 + (1 : Int32))), (0, .ref p0), (1, .ref p1), (2, .int p2), (3, .int s1.1)]) (S' := []) (h' := (hh X g I10)) rfl ?_
          exact Go_jmp [(0, .ref p0), (1, .ref p1), (2, .int p2), (3, .int s1.1), (4, .int (s3.1 + (1 : Int32)))] rfl ⟨rfl, rfl, rfl, rfl, rfl, trivial⟩ (fun _ h => h)
        ·
          exact Go_jmp [(0, .ref p0), (1, .ref p1), (2, .int p2), (3, .int s1.1)] rfl ⟨rfl, rfl, rfl, rfl, trivial⟩ (fun _ h => h)
    ·
      exact Go_jmp [] rfl trivial (fun _ h => h)
set_option maxRecDepth 1000000 in
set_option maxHeartbeats 4000000 in
theorem g_m_stands262  {X : XX} {g : GG} {I : MJ} {d : Nat} (hd : 1 ≤ d) : Go d 262 0 (lv_args 0 [.ref 47]) [] (hh X g I) (f_m_stands262  I) (pV X g) := by
  obtain ⟨d, rfl⟩ : ∃ k, d = k + 1 := ⟨d - 1, by omega⟩
  unfold f_m_stands262
  refine Go_blk 2 (pc' := 2) (L' := [(1, .int (0 : Int32)), (0, .ref 47)]) (S' := []) (h' := (hh X g I)) rfl ?_
  refine Go_lcs [(0, .ref 47), (1, .int (0 : Int32))] rfl ⟨rfl, rfl, trivial⟩ ?_
  refine Go_seq (pcj := 26) (fun (b2 : MJ) => [(0, .ref 47)]) (fun (b2 : MJ) => []) (fun (b2 : MJ) => (hh X g b2)) (fun b2 => ?_) ?_
  ·
    refine Go_blk 2 (pc' := 28) (L' := [(1, .int (0 : Int32)), (0, .ref 47)]) (S' := []) (h' := (hh X g b2)) rfl ?_
    refine Go_lcs [(0, .ref 47), (1, .int (0 : Int32))] rfl ⟨rfl, rfl, trivial⟩ ?_
    refine Go_seq (pcj := 56) (fun (b4 : MJ) => [(0, .ref 47)]) (fun (b4 : MJ) => []) (fun (b4 : MJ) => (hh X g b4)) (fun b4 => ?_) ?_
    ·
      refine Go_blk 8 (pc' := 70) (L' := [(0, .ref 47)]) (S' := [.int (b4 51 0), .ref 65, .ref 54]) (h' := (hh X g b4)) rfl ?_
      refine Go_cV (y' := 263) (As := [.ref 54, .ref 65, .int (b4 51 0)]) (r := []) rfl (g_m_lays263 54 65 (b4 51 0) (by omega)) fun I5 => ?_
      refine Go_blk 8 (pc' := 87) (L' := [(0, .ref 47)]) (S' := [.int (I5 51 2), .ref 93, .ref 76]) (h' := (hh X g I5)) rfl ?_
      refine Go_cV (y' := 263) (As := [.ref 76, .ref 93, .int (I5 51 2)]) (r := []) rfl (g_m_lays263 76 93 (I5 51 2) (by omega)) fun I6 => ?_
      refine Go_blk 8 (pc' := 104) (L' := [(0, .ref 47)]) (S' := [.int (I6 51 3), .ref 119, .ref 110]) (h' := (hh X g I6)) rfl ?_
      refine Go_cV (y' := 263) (As := [.ref 110, .ref 119, .int (I6 51 3)]) (r := []) rfl (g_m_lays263 110 119 (I6 51 3) (by omega)) fun I7 => ?_
      refine Go_blk 2 (pc' := 109) (L' := [(1, .int (0 : Int32)), (0, .ref 47)]) (S' := []) (h' := (hh X g I7)) rfl ?_
      refine Go_lcs [(0, .ref 47), (1, .int (0 : Int32))] rfl ⟨rfl, rfl, trivial⟩ ?_
      refine Go_seq (pcj := 143) (fun (b9 : MJ) => [(0, .ref 47)]) (fun (b9 : MJ) => []) (fun (b9 : MJ) => (hh X g b9)) (fun b9 => ?_) ?_
      ·
        refine Go_blk 2 (pc' := 145) (L' := [(1, .int (0 : Int32)), (0, .ref 47)]) (S' := []) (h' := (hh X g b9)) rfl ?_
        refine Go_lcs [(0, .ref 47), (1, .int (0 : Int32))] rfl ⟨rfl, rfl, trivial⟩ ?_
        refine Go_seq (pcj := 177) (fun (b11 : MJ) => [(0, .ref 47)]) (fun (b11 : MJ) => []) (fun (b11 : MJ) => (hh X g b11)) (fun b11 => ?_) ?_
        ·
          refine Go_blk 2 (pc' := 179) (L' := [(1, .int (0 : Int32)), (0, .ref 47)]) (S' := []) (h' := (hh X g b11)) rfl ?_
          refine Go_lcs [(0, .ref 47), (1, .int (0 : Int32))] rfl ⟨rfl, rfl, trivial⟩ ?_
          refine Go_seq (pcj := 198) (fun (b13 : MJ) => [(0, .ref 47)]) (fun (b13 : MJ) => []) (fun (b13 : MJ) => (hh X g b13)) (fun b13 => ?_) ?_
          ·
            refine Go_blk 15 (pc' := 223) (L' := [(0, .ref 47)]) (S' := []) (h' := (hh X g (ab_up1 (ab_up1 (ab_up1 (ab_up1 (ab_up1 b13 47 25 (0 : Int32)) 47 39 (0 : Int32)) 47 40 (0 : Int32)) 47 41 (0 : Int32)) 47 42 (0 : Int32)))) rfl ?_
            exact Go_ret (fun _ h => h) rfl
          ·
            refine Go_wh (fun (s12 : Int32 × MJ) => [(0, .ref 47), (1, .int s12.1)]) (fun _ => []) (fun (s12 : Int32 × MJ) => (hh X g s12.2)) (fun s12 => ?_) ((0 : Int32), b11)
            refine Go_blk 2 (pc' := 182) (L' := [(0, .ref 47), (1, .int s12.1)]) (S' := [.int (6 : Int32), .int s12.1]) (h' := (hh X g s12.2)) rfl ?_
            refine Go_cmpn rfl rfl (ab_cge _ _) ?_ ?_
            ·
              refine Go_blk 4 (pc' := 191) (L' := [(0, .ref 47), (1, .int s12.1)]) (S' := [.int (0 : Int32), .int s12.1, .ref 135]) (h' := (hh X g s12.2)) rfl ?_
              refine Go_bast rfl fun I14 => ?_
              refine Go_blk 2 (pc' := 179) (L' := [(1, .int (s12.1 + (1 : Int32))), (0, .ref 47)]) (S' := []) (h' := (hh X g I14)) rfl ?_
              exact Go_jmp [(0, .ref 47), (1, .int (s12.1 + (1 : Int32)))] rfl ⟨rfl, rfl, trivial⟩ (fun _ h => h)
            ·
              exact Go_jmp [(0, .ref 47)] rfl ⟨rfl, trivial⟩ (fun _ h => h)
        ·
          refine Go_wh (fun (s10 : Int32 × MJ) => [(0, .ref 47), (1, .int s10.1)]) (fun _ => []) (fun (s10 : Int32 × MJ) => (hh X g s10.2)) (fun s10 => ?_) ((0 : Int32), b9)
          refine Go_blk 5 (pc' := 152) (L' := [(0, .ref 47), (1, .int s10.1)]) (S' := [.int (s10.2 51 0), .int s10.1]) (h' := (hh X g s10.2)) rfl ?_
          refine Go_cmpn rfl rfl (ab_cge _ _) ?_ ?_
          ·
            refine Go_blk 8 (pc' := 167) (L' := [(0, .ref 47), (1, .int s10.1)]) (S' := [.int s10.1, .ref 65, .int ((0 : Int32) + s10.1), .ref 576]) (h' := (hh X g s10.2)) rfl ?_
            refine Go_aald rfl fun r15 => ?_
            refine Go_blk 1 (pc' := 169) (L' := [(0, .ref 47), (1, .int s10.1)]) (S' := [.int (1 : Int32), .ref r15, .int ((0 : Int32) + s10.1), .ref 576]) (h' := (hh X g s10.2)) rfl ?_
            refine Go_iald rfl fun v16 => ?_
            refine Go_iast rfl fun I17 => ?_
            refine Go_blk 2 (pc' := 145) (L' := [(1, .int (s10.1 + (1 : Int32))), (0, .ref 47)]) (S' := []) (h' := (hh X g I17)) rfl ?_
            exact Go_jmp [(0, .ref 47), (1, .int (s10.1 + (1 : Int32)))] rfl ⟨rfl, rfl, trivial⟩ (fun _ h => h)
          ·
            exact Go_jmp [(0, .ref 47)] rfl ⟨rfl, trivial⟩ (fun _ h => h)
      ·
        refine Go_wh (fun (s8 : Int32 × MJ) => [(0, .ref 47), (1, .int s8.1)]) (fun _ => []) (fun (s8 : Int32 × MJ) => (hh X g s8.2)) (fun s8 => ?_) ((0 : Int32), I7)
        refine Go_blk 2 (pc' := 112) (L' := [(0, .ref 47), (1, .int s8.1)]) (S' := [.int (91 : Int32), .int s8.1]) (h' := (hh X g s8.2)) rfl ?_
        refine Go_cmpn rfl rfl (ab_cge _ _) ?_ ?_
        ·
          refine Go_blk 6 (pc' := 125) (L' := [(0, .ref 47), (1, .int s8.1)]) (S' := [.int (87 : Int32), .int (82 : Int32), .int s8.1, .int s8.1, .ref 576]) (h' := (hh X g s8.2)) rfl ?_
          refine Go_cR (y' := 264) (As := [.int s8.1, .int (82 : Int32), .int (87 : Int32)]) (r := [.int s8.1, .ref 576]) rfl (g_m_in264 s8.1 (82 : Int32) (87 : Int32) (by omega)) fun v18 => ?_
          refine Go_seq (pcj := 136) (fun (b19 : Int32) => [(0, .ref 47), (1, .int s8.1)]) (fun (b19 : Int32) => [.int b19, .int s8.1, .ref 576]) (fun (b19 : Int32) => (hh X g s8.2)) (fun b19 => ?_) ?_
          ·
            refine Go_iast rfl fun I20 => ?_
            refine Go_blk 2 (pc' := 109) (L' := [(1, .int (s8.1 + (1 : Int32))), (0, .ref 47)]) (S' := []) (h' := (hh X g I20)) rfl ?_
            exact Go_jmp [(0, .ref 47), (1, .int (s8.1 + (1 : Int32)))] rfl ⟨rfl, rfl, trivial⟩ (fun _ h => h)
          ·
            refine Go_cmz rfl rfl rfl ?_ ?_
            ·
              refine Go_blk 1 (pc' := 136) (L' := [(0, .ref 47), (1, .int s8.1)]) (S' := [.int (0 : Int32), .int s8.1, .ref 576]) (h' := (hh X g s8.2)) rfl ?_
              exact Go_jmp [(0, .ref 47), (1, .int s8.1)] rfl ⟨rfl, rfl, trivial⟩ (fun _ h => h)
            ·
              refine Go_blk 2 (pc' := 136) (L' := [(0, .ref 47), (1, .int s8.1)]) (S' := [.int (-1 : Int32), .int s8.1, .ref 576]) (h' := (hh X g s8.2)) rfl ?_
              exact Go_jmp [(0, .ref 47), (1, .int s8.1)] rfl ⟨rfl, rfl, trivial⟩ (fun _ h => h)
        ·
          exact Go_jmp [(0, .ref 47)] rfl ⟨rfl, trivial⟩ (fun _ h => h)
    ·
      refine Go_wh (fun (s3 : Int32 × MJ) => [(0, .ref 47), (1, .int s3.1)]) (fun _ => []) (fun (s3 : Int32 × MJ) => (hh X g s3.2)) (fun s3 => ?_) ((0 : Int32), b2)
      refine Go_blk 5 (pc' := 35) (L' := [(0, .ref 47), (1, .int s3.1)]) (S' := [.int (s3.2 51 1), .int s3.1]) (h' := (hh X g s3.2)) rfl ?_
      refine Go_cmpn rfl rfl (ab_cge _ _) ?_ ?_
      ·
        refine Go_blk 6 (pc' := 48) (L' := [(0, .ref 47), (1, .int s3.1)]) (S' := [.int s3.1, .ref 52, .int s3.1, .ref 53]) (h' := (hh X g s3.2)) rfl ?_
        refine Go_iald rfl fun v21 => ?_
        refine Go_iast rfl fun I22 => ?_
        refine Go_blk 2 (pc' := 28) (L' := [(1, .int (s3.1 + (1 : Int32))), (0, .ref 47)]) (S' := []) (h' := (hh X g I22)) rfl ?_
        exact Go_jmp [(0, .ref 47), (1, .int (s3.1 + (1 : Int32)))] rfl ⟨rfl, rfl, trivial⟩ (fun _ h => h)
      ·
        exact Go_jmp [(0, .ref 47)] rfl ⟨rfl, trivial⟩ (fun _ h => h)
  ·
    refine Go_wh (fun (s1 : Int32 × MJ) => [(0, .ref 47), (1, .int s1.1)]) (fun _ => []) (fun (s1 : Int32 × MJ) => (hh X g s1.2)) (fun s1 => ?_) ((0 : Int32), I)
    refine Go_blk 2 (pc' := 5) (L' := [(0, .ref 47), (1, .int s1.1)]) (S' := [.int (6 : Int32), .int s1.1]) (h' := (hh X g s1.2)) rfl ?_
    refine Go_cmpn rfl rfl (ab_cge _ _) ?_ ?_
    ·
      refine Go_blk 6 (pc' := 18) (L' := [(0, .ref 47), (1, .int s1.1)]) (S' := [.int s1.1, .ref 50, .int s1.1, .ref 51]) (h' := (hh X g s1.2)) rfl ?_
      refine Go_iald rfl fun v23 => ?_
      refine Go_iast rfl fun I24 => ?_
      refine Go_blk 2 (pc' := 2) (L' := [(1, .int (s1.1 + (1 : Int32))), (0, .ref 47)]) (S' := []) (h' := (hh X g I24)) rfl ?_
      exact Go_jmp [(0, .ref 47), (1, .int (s1.1 + (1 : Int32)))] rfl ⟨rfl, rfl, trivial⟩ (fun _ h => h)
    ·
      exact Go_jmp [(0, .ref 47)] rfl ⟨rfl, trivial⟩ (fun _ h => h)
