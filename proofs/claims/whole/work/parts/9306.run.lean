/-! the machine runs them (written by wip/whole/dec.py) -/
set_option maxRecDepth 1000000 in
set_option maxHeartbeats 4000000 in
theorem g_m_isReady311 (p1 : Nat) (p2 : Int32) {X : XX} {g : GG} {I : MJ} {d : Nat} (hd : 2 ≤ d) : Go d 311 0 (lv_args 0 [.ref 47, .ref p1, .int p2]) [] (hh X g I) (f_m_isReady311 p1 p2 I) (pR X g I) := by
  obtain ⟨d, rfl⟩ : ∃ k, d = k + 1 := ⟨d - 1, by omega⟩
  unfold f_m_isReady311
  refine Go_blk 3 (pc' := 5) (L' := [(0, .ref 47), (1, .ref p1), (2, .int p2)]) (S' := [.int p2, .ref 119]) (h' := (hh X g I)) rfl ?_
  refine Go_aald rfl fun r1 => ?_
  refine Go_blk 1 (pc' := 7) (L' := [(0, .ref 47), (1, .ref p1), (2, .int p2)]) (S' := [.int (0 : Int32), .ref r1]) (h' := (hh X g I)) rfl ?_
  refine Go_iald rfl fun v2 => ?_
  refine Go_blk 4 (pc' := 14) (L' := [(3, .int v2), (0, .ref 47), (1, .ref p1), (2, .int p2)]) (S' := [.int p2, .ref 119]) (h' := (hh X g I)) rfl ?_
  refine Go_aald rfl fun r3 => ?_
  refine Go_blk 1 (pc' := 16) (L' := [(3, .int v2), (0, .ref 47), (1, .ref p1), (2, .int p2)]) (S' := [.int (1 : Int32), .ref r3]) (h' := (hh X g I)) rfl ?_
  refine Go_iald rfl fun v4 => ?_
  refine Go_blk 4 (pc' := 22) (L' := [(4, .int v4), (3, .int v2), (0, .ref 47), (1, .ref p1), (2, .int p2)]) (S' := [.int p2, .ref p1, .ref 47]) (h' := (hh X g I)) rfl ?_
  refine Go_cR (y' := 312) (As := [.ref 47, .ref p1, .int p2]) (r := []) rfl (g_m_stateOf312 p1 p2 (by omega)) fun v5 => ?_
  refine Go_cmzn rfl rfl rfl ?_ ?_
  ·
    refine Go_blk 2 (pc' := 30) (L' := [(4, .int v4), (3, .int v2), (0, .ref 47), (1, .ref p1), (2, .int p2)]) (S' := [.int v2, .ref p1]) (h' := (hh X g I)) rfl ?_
    refine Go_cR (y' := 305) (As := [.ref p1, .int v2]) (r := []) rfl (g_m_hasSuit305 p1 v2 (by omega)) fun v6 => ?_
    refine Go_cmz rfl rfl rfl ?_ ?_
    ·
      refine Go_blk 1 (pc' := 47) (L' := [(4, .int v4), (3, .int v2), (0, .ref 47), (1, .ref p1), (2, .int p2)]) (S' := [.int (0 : Int32)]) (h' := (hh X g I)) rfl ?_
      exact Go_ret (fun _ h => h) rfl
    ·
      refine Go_blk 3 (pc' := 42) (L' := [(4, .int v4), (3, .int v2), (0, .ref 47), (1, .ref p1), (2, .int p2)]) (S' := [.int v4, .ref 135]) (h' := (hh X g I)) rfl ?_
      refine Go_bald rfl fun v7 => ?_
      refine Go_cmzn rfl rfl rfl ?_ ?_
      ·
        refine Go_blk 1 (pc' := 47) (L' := [(4, .int v4), (3, .int v2), (0, .ref 47), (1, .ref p1), (2, .int p2)]) (S' := [.int (0 : Int32)]) (h' := (hh X g I)) rfl ?_
        exact Go_ret (fun _ h => h) rfl
      ·
        refine Go_blk 2 (pc' := 51) (L' := [(5, .int (0 : Int32)), (4, .int v4), (3, .int v2), (0, .ref 47), (1, .ref p1), (2, .int p2)]) (S' := []) (h' := (hh X g I)) rfl ?_
        refine Go_lcs [(0, .ref 47), (1, .ref p1), (3, .int v2), (4, .int v4), (5, .int (0 : Int32))] rfl ⟨rfl, rfl, rfl, rfl, rfl, trivial⟩ ?_
        refine Go_wh (fun (s8 : Int32) => [(0, .ref 47), (1, .ref p1), (3, .int v2), (4, .int v4), (5, .int s8)]) (fun _ => []) (fun (s8 : Int32) => (hh X g I)) (fun s8 => ?_) (0 : Int32)
        refine Go_blk 2 (pc' := 55) (L' := [(0, .ref 47), (1, .ref p1), (3, .int v2), (4, .int v4), (5, .int s8)]) (S' := [.int (12 : Int32), .int s8]) (h' := (hh X g I)) rfl ?_
        refine Go_cmpn rfl rfl (ab_cge _ _) ?_ ?_
        ·
          refine Go_blk 2 (pc' := 60) (L' := [(0, .ref 47), (1, .ref p1), (3, .int v2), (4, .int v4), (5, .int s8)]) (S' := [.int v2, .ref p1]) (h' := (hh X g I)) rfl ?_
          refine Go_cR (y' := 310) (As := [.int v2]) (r := [.ref p1]) rfl (g_m_suitOf310 v2 (by omega)) fun v9 => ?_
          refine Go_blk 2 (pc' := 66) (L' := [(0, .ref 47), (1, .ref p1), (3, .int v2), (4, .int v4), (5, .int s8)]) (S' := [.int (v9 + s8), .ref p1]) (h' := (hh X g I)) rfl ?_
          refine Go_iald rfl fun v10 => ?_
          refine Go_blk 3 (pc' := 73) (L' := [(0, .ref 47), (1, .ref p1), (3, .int v2), (4, .int v4), (5, .int s8)]) (S' := [.int v4, .ref 128, .int v10]) (h' := (hh X g I)) rfl ?_
          refine Go_aald rfl fun r11 => ?_
          refine Go_blk 1 (pc' := 76) (L' := [(0, .ref 47), (1, .ref p1), (3, .int v2), (4, .int v4), (5, .int s8)]) (S' := [.int s8, .ref r11, .int v10]) (h' := (hh X g I)) rfl ?_
          refine Go_iald rfl fun v12 => ?_
          refine Go_cmp rfl rfl rfl ?_ ?_
          ·
            refine Go_blk 2 (pc' := 51) (L' := [(5, .int (s8 + (1 : Int32))), (0, .ref 47), (1, .ref p1), (3, .int v2), (4, .int v4)]) (S' := []) (h' := (hh X g I)) rfl ?_
            exact Go_jmp [(0, .ref 47), (1, .ref p1), (3, .int v2), (4, .int v4), (5, .int (s8 + (1 : Int32)))] rfl ⟨rfl, rfl, rfl, rfl, rfl, trivial⟩ (fun _ h => h)
          ·
            refine Go_inrS ?_
            refine Go_blk 1 (pc' := 81) (L' := [(0, .ref 47), (1, .ref p1), (3, .int v2), (4, .int v4), (5, .int s8)]) (S' := [.int (0 : Int32)]) (h' := (hh X g I)) rfl ?_
            exact Go_ret (fun _ h => h) rfl
        ·
          refine Go_inrS ?_
          refine Go_blk 1 (pc' := 89) (L' := [(0, .ref 47), (1, .ref p1), (3, .int v2), (4, .int v4), (5, .int s8)]) (S' := [.int (1 : Int32)]) (h' := (hh X g I)) rfl ?_
          exact Go_ret (fun _ h => h) rfl
  ·
    refine Go_blk 1 (pc' := 47) (L' := [(4, .int v4), (3, .int v2), (0, .ref 47), (1, .ref p1), (2, .int p2)]) (S' := [.int (0 : Int32)]) (h' := (hh X g I)) rfl ?_
    exact Go_ret (fun _ h => h) rfl
set_option maxRecDepth 1000000 in
set_option maxHeartbeats 4000000 in
theorem g_m_seamsOf316 (p0 : Nat) (p1 : Int32) {X : XX} {g : GG} {I : MJ} {d : Nat} (hd : 0 ≤ d) : Go d 316 0 (lv_args 0 [.ref p0, .int p1]) [] (hh X g I) (f_m_seamsOf316 p0 p1 I) (pR X g I) := by
  unfold f_m_seamsOf316
  refine Go_blk 4 (pc' := 4) (L' := [(3, .int (1 : Int32)), (2, .int (0 : Int32)), (0, .ref p0), (1, .int p1)]) (S' := []) (h' := (hh X g I)) rfl ?_
  refine Go_lcs [(0, .ref p0), (1, .int p1), (2, .int (0 : Int32)), (3, .int (1 : Int32))] rfl ⟨rfl, rfl, rfl, rfl, trivial⟩ ?_
  refine Go_seq (pcj := 39) (fun (b2 : Int32) => [(2, .int b2)]) (fun (b2 : Int32) => []) (fun (b2 : Int32) => (hh X g I)) (fun b2 => ?_) ?_
  ·
    refine Go_blk 1 (pc' := 40) (L' := [(2, .int b2)]) (S' := [.int b2]) (h' := (hh X g I)) rfl ?_
    exact Go_ret (fun _ h => h) rfl
  ·
    refine Go_wh (fun (s1 : Int32 × Int32) => [(0, .ref p0), (1, .int p1), (2, .int s1.1), (3, .int s1.2)]) (fun _ => []) (fun (s1 : Int32 × Int32) => (hh X g I)) (fun s1 => ?_) ((0 : Int32), (1 : Int32))
    refine Go_blk 2 (pc' := 7) (L' := [(0, .ref p0), (1, .int p1), (2, .int s1.1), (3, .int s1.2)]) (S' := [.int (12 : Int32), .int s1.2]) (h' := (hh X g I)) rfl ?_
    refine Go_cmpn rfl rfl (ab_cge _ _) ?_ ?_
    ·
      refine Go_blk 5 (pc' := 15) (L' := [(0, .ref p0), (1, .int p1), (2, .int s1.1), (3, .int s1.2)]) (S' := [.int (p1 + s1.2), .ref p0, .int s1.1]) (h' := (hh X g I)) rfl ?_
      refine Go_iald rfl fun v3 => ?_
      refine Go_blk 6 (pc' := 22) (L' := [(0, .ref p0), (1, .int p1), (2, .int s1.1), (3, .int s1.2)]) (S' := [.int ((p1 + s1.2) - (1 : Int32)), .ref p0, .int v3, .int s1.1]) (h' := (hh X g I)) rfl ?_
      refine Go_iald rfl fun v4 => ?_
      refine Go_seq (pcj := 31) (fun (b5 : Int32) => [(0, .ref p0), (1, .int p1), (3, .int s1.2)]) (fun (b5 : Int32) => [.int b5, .int s1.1]) (fun (b5 : Int32) => (hh X g I)) (fun b5 => ?_) ?_
      ·
        refine Go_blk 4 (pc' := 4) (L' := [(3, .int (s1.2 + (1 : Int32))), (2, .int (s1.1 + b5)), (0, .ref p0), (1, .int p1)]) (S' := []) (h' := (hh X g I)) rfl ?_
        exact Go_jmp [(0, .ref p0), (1, .int p1), (2, .int (s1.1 + b5)), (3, .int (s1.2 + (1 : Int32)))] rfl ⟨rfl, rfl, rfl, rfl, trivial⟩ (fun _ h => h)
      ·
        refine Go_cmp rfl rfl rfl ?_ ?_
        ·
          refine Go_blk 1 (pc' := 31) (L' := [(0, .ref p0), (1, .int p1), (2, .int s1.1), (3, .int s1.2)]) (S' := [.int (0 : Int32), .int s1.1]) (h' := (hh X g I)) rfl ?_
          exact Go_jmp [(0, .ref p0), (1, .int p1), (3, .int s1.2)] rfl ⟨rfl, rfl, rfl, trivial⟩ (fun _ h => h)
        ·
          refine Go_blk 2 (pc' := 31) (L' := [(0, .ref p0), (1, .int p1), (2, .int s1.1), (3, .int s1.2)]) (S' := [.int (1 : Int32), .int s1.1]) (h' := (hh X g I)) rfl ?_
          exact Go_jmp [(0, .ref p0), (1, .int p1), (3, .int s1.2)] rfl ⟨rfl, rfl, rfl, trivial⟩ (fun _ h => h)
    ·
      exact Go_jmp [(2, .int s1.1)] rfl ⟨rfl, trivial⟩ (fun _ h => h)
set_option maxRecDepth 1000000 in
set_option maxHeartbeats 4000000 in
theorem g_m_less319 (p0 : Int32) (p1 : Int32) {X : XX} {g : GG} {I : MJ} {d : Nat} (hd : 0 ≤ d) : Go d 319 0 (lv_args 0 [.int p0, .int p1]) [] (hh X g I) (f_m_less319 p0 p1 I) (pR X g I) := by
  unfold f_m_less319
  refine Go_blk 2 (pc' := 2) (L' := [(0, .int p0), (1, .int p1)]) (S' := [.int p1, .int p0]) (h' := (hh X g I)) rfl ?_
  refine Go_seq (pcj := 10) (fun (b1 : Int32) => []) (fun (b1 : Int32) => [.int b1]) (fun (b1 : Int32) => (hh X g I)) (fun b1 => ?_) ?_
  ·
    exact Go_ret (fun _ h => h) rfl
  ·
    refine Go_cmpn rfl rfl (ab_cge _ _) ?_ ?_
    ·
      refine Go_blk 2 (pc' := 10) (L' := [(0, .int p0), (1, .int p1)]) (S' := [.int p0]) (h' := (hh X g I)) rfl ?_
      exact Go_jmp [] rfl trivial (fun _ h => h)
    ·
      refine Go_blk 1 (pc' := 10) (L' := [(0, .int p0), (1, .int p1)]) (S' := [.int p1]) (h' := (hh X g I)) rfl ?_
      exact Go_jmp [] rfl trivial (fun _ h => h)
set_option maxRecDepth 1000000 in
set_option maxHeartbeats 4000000 in
theorem g_m_more320 (p0 : Int32) (p1 : Int32) {X : XX} {g : GG} {I : MJ} {d : Nat} (hd : 0 ≤ d) : Go d 320 0 (lv_args 0 [.int p0, .int p1]) [] (hh X g I) (f_m_more320 p0 p1 I) (pR X g I) := by
  unfold f_m_more320
  refine Go_blk 2 (pc' := 2) (L' := [(0, .int p0), (1, .int p1)]) (S' := [.int p1, .int p0]) (h' := (hh X g I)) rfl ?_
  refine Go_seq (pcj := 10) (fun (b1 : Int32) => []) (fun (b1 : Int32) => [.int b1]) (fun (b1 : Int32) => (hh X g I)) (fun b1 => ?_) ?_
  ·
    exact Go_ret (fun _ h => h) rfl
  ·
    refine Go_cmpn rfl rfl (ab_cle _ _) ?_ ?_
    ·
      refine Go_blk 2 (pc' := 10) (L' := [(0, .int p0), (1, .int p1)]) (S' := [.int p0]) (h' := (hh X g I)) rfl ?_
      exact Go_jmp [] rfl trivial (fun _ h => h)
    ·
      refine Go_blk 1 (pc' := 10) (L' := [(0, .int p0), (1, .int p1)]) (S' := [.int p1]) (h' := (hh X g I)) rfl ?_
      exact Go_jmp [] rfl trivial (fun _ h => h)
set_option maxRecDepth 1000000 in
set_option maxHeartbeats 4000000 in
theorem g_m_by318 (p0 : Int32) (p1 : Int32) (p2 : Int32) {X : XX} {g : GG} {I : MJ} {d : Nat} (hd : 1 ≤ d) : Go d 318 0 (lv_args 0 [.int p0, .int p1, .int p2]) [] (hh X g I) (f_m_by318 p0 p1 p2 I) (pR X g I) := by
  obtain ⟨d, rfl⟩ : ∃ k, d = k + 1 := ⟨d - 1, by omega⟩
  unfold f_m_by318
  refine Go_blk 1 (pc' := 1) (L' := [(0, .int p0), (1, .int p1), (2, .int p2)]) (S' := [.int p0]) (h' := (hh X g I)) rfl ?_
  refine Go_sw ?_ fun h0 => ?_
  ·
    refine Go_blk 1 (pc' := 40) (L' := [(0, .int p0), (1, .int p1), (2, .int p2)]) (S' := []) (h' := (hh X g I)) rfl ?_
    refine Go_blk 3 (pc' := 43) (L' := [(0, .int p0), (1, .int p1), (2, .int p2)]) (S' := [.int (p1 + p2)]) (h' := (hh X g I)) rfl ?_
    exact Go_ret (fun _ h => h) rfl
  refine Go_sw ?_ fun h1 => ?_
  ·
    refine Go_blk 1 (pc' := 44) (L' := [(0, .int p0), (1, .int p1), (2, .int p2)]) (S' := []) (h' := (hh X g I)) rfl ?_
    refine Go_blk 3 (pc' := 47) (L' := [(0, .int p0), (1, .int p1), (2, .int p2)]) (S' := [.int (p1 - p2)]) (h' := (hh X g I)) rfl ?_
    exact Go_ret (fun _ h => h) rfl
  refine Go_sw ?_ fun h2 => ?_
  ·
    refine Go_blk 1 (pc' := 48) (L' := [(0, .int p0), (1, .int p1), (2, .int p2)]) (S' := []) (h' := (hh X g I)) rfl ?_
    refine Go_blk 3 (pc' := 51) (L' := [(0, .int p0), (1, .int p1), (2, .int p2)]) (S' := [.int (p1 * p2)]) (h' := (hh X g I)) rfl ?_
    exact Go_ret (fun _ h => h) rfl
  refine Go_sw ?_ fun h3 => ?_
  ·
    refine Go_blk 1 (pc' := 52) (L' := [(0, .int p0), (1, .int p1), (2, .int p2)]) (S' := []) (h' := (hh X g I)) rfl ?_
    refine Go_blk 1 (pc' := 53) (L' := [(0, .int p0), (1, .int p1), (2, .int p2)]) (S' := [.int p2]) (h' := (hh X g I)) rfl ?_
    refine Go_seq (pcj := 73) (fun (b1 : Int32) => []) (fun (b1 : Int32) => [.int b1]) (fun (b1 : Int32) => (hh X g I)) (fun b1 => ?_) ?_
    ·
      exact Go_ret (fun _ h => h) rfl
    ·
      refine Go_cmzn rfl rfl rfl ?_ ?_
      ·
        refine Go_blk 2 (pc' := 73) (L' := [(0, .int p0), (1, .int p1), (2, .int p2)]) (S' := [.int (0 : Int32)]) (h' := (hh X g I)) rfl ?_
        exact Go_jmp [] rfl trivial (fun _ h => h)
      ·
        refine Go_blk 2 (pc' := 62) (L' := [(0, .int p0), (1, .int p1), (2, .int p2)]) (S' := [.int (-1 : Int32), .int p2]) (h' := (hh X g I)) rfl ?_
        refine Go_cmpn rfl rfl rfl ?_ ?_
        ·
          refine Go_blk 3 (pc' := 73) (L' := [(0, .int p0), (1, .int p1), (2, .int p2)]) (S' := [.int (-p1)]) (h' := (hh X g I)) rfl ?_
          exact Go_jmp [] rfl trivial (fun _ h => h)
        ·
          refine Go_blk 2 (pc' := 72) (L' := [(0, .int p0), (1, .int p1), (2, .int p2)]) (S' := [.int p2, .int p1]) (h' := (hh X g I)) rfl ?_
          refine Go_idiv rfl fun v2 => ?_
          exact Go_jmp [] rfl trivial (fun _ h => h)
  refine Go_sw ?_ fun h4 => ?_
  ·
    refine Go_blk 1 (pc' := 74) (L' := [(0, .int p0), (1, .int p1), (2, .int p2)]) (S' := []) (h' := (hh X g I)) rfl ?_
    refine Go_blk 1 (pc' := 75) (L' := [(0, .int p0), (1, .int p1), (2, .int p2)]) (S' := [.int p2]) (h' := (hh X g I)) rfl ?_
    refine Go_seq (pcj := 90) (fun (b3 : Int32) => []) (fun (b3 : Int32) => [.int b3]) (fun (b3 : Int32) => (hh X g I)) (fun b3 => ?_) ?_
    ·
      exact Go_ret (fun _ h => h) rfl
    ·
      refine Go_cmz rfl rfl rfl ?_ ?_
      ·
        refine Go_blk 2 (pc' := 90) (L' := [(0, .int p0), (1, .int p1), (2, .int p2)]) (S' := [.int (0 : Int32)]) (h' := (hh X g I)) rfl ?_
        exact Go_jmp [] rfl trivial (fun _ h => h)
      ·
        refine Go_blk 2 (pc' := 80) (L' := [(0, .int p0), (1, .int p1), (2, .int p2)]) (S' := [.int (-1 : Int32), .int p2]) (h' := (hh X g I)) rfl ?_
        refine Go_cmpn rfl rfl rfl ?_ ?_
        ·
          refine Go_blk 2 (pc' := 90) (L' := [(0, .int p0), (1, .int p1), (2, .int p2)]) (S' := [.int (0 : Int32)]) (h' := (hh X g I)) rfl ?_
          exact Go_jmp [] rfl trivial (fun _ h => h)
        ·
          refine Go_blk 2 (pc' := 89) (L' := [(0, .int p0), (1, .int p1), (2, .int p2)]) (S' := [.int p2, .int p1]) (h' := (hh X g I)) rfl ?_
          refine Go_irem rfl fun v4 => ?_
          exact Go_jmp [] rfl trivial (fun _ h => h)
  refine Go_sw ?_ fun h5 => ?_
  ·
    refine Go_blk 1 (pc' := 91) (L' := [(0, .int p0), (1, .int p1), (2, .int p2)]) (S' := []) (h' := (hh X g I)) rfl ?_
    refine Go_blk 2 (pc' := 93) (L' := [(0, .int p0), (1, .int p1), (2, .int p2)]) (S' := [.int p2, .int p1]) (h' := (hh X g I)) rfl ?_
    refine Go_cR (y' := 319) (As := [.int p1, .int p2]) (r := []) rfl (g_m_less319 p1 p2 (by omega)) fun v5 => ?_
    exact Go_ret (fun _ h => h) rfl
  refine Go_swd (t := 97) 6 rfl (by decide) (by decide) (by decide) ⟨⟨⟨⟨⟨⟨trivial, h0⟩, h1⟩, h2⟩, h3⟩, h4⟩, h5⟩ rfl ?_
  refine Go_blk 2 (pc' := 99) (L' := [(0, .int p0), (1, .int p1), (2, .int p2)]) (S' := [.int p2, .int p1]) (h' := (hh X g I)) rfl ?_
  refine Go_cR (y' := 320) (As := [.int p1, .int p2]) (r := []) rfl (g_m_more320 p1 p2 (by omega)) fun v6 => ?_
  exact Go_ret (fun _ h => h) rfl
set_option maxRecDepth 1000000 in
set_option maxHeartbeats 4000000 in
theorem g_m_byLaw317  {X : XX} {g : GG} {I : MJ} {d : Nat} (hd : 2 ≤ d) : Go d 317 0 (lv_args 0 [.ref 47]) [] (hh X g I) (f_m_byLaw317  I) (pW X g) := by
  obtain ⟨d, rfl⟩ : ∃ k, d = k + 1 := ⟨d - 1, by omega⟩
  unfold f_m_byLaw317
  refine Go_blk 2 (pc' := 4) (L' := [(0, .ref 47)]) (S' := [.int (I 47 25)]) (h' := (hh X g I)) rfl ?_
  refine Go_cmzn rfl rfl rfl ?_ ?_
  ·
    refine Go_blk 1 (pc' := 8) (L' := [(0, .ref 47)]) (S' := [.int (0 : Int32)]) (h' := (hh X g I)) rfl ?_
    exact Go_ret (fun _ h => h) rfl
  ·
    refine Go_blk 4 (pc' := 13) (L' := [(2, .int (0 : Int32)), (1, .int (0 : Int32)), (0, .ref 47)]) (S' := []) (h' := (hh X g I)) rfl ?_
    refine Go_lcs [(0, .ref 47), (1, .int (0 : Int32)), (2, .int (0 : Int32))] rfl ⟨rfl, rfl, rfl, trivial⟩ ?_
    refine Go_seq (pcj := 122) (fun (b2 : MJ) => [(0, .ref 47)]) (fun (b2 : MJ) => []) (fun (b2 : MJ) => (hh X g b2)) (fun b2 => ?_) ?_
    ·
      refine Go_blk 4 (pc' := 128) (L' := [(0, .ref 47)]) (S' := [.int (b2 493 0)]) (h' := (hh X g b2)) rfl ?_
      exact Go_ret (fun _ h => h) rfl
    ·
      refine Go_wh (fun (s1 : Int32 × Int32 × MJ) => [(0, .ref 47), (1, .int s1.1), (2, .int s1.2.1)]) (fun _ => []) (fun (s1 : Int32 × Int32 × MJ) => (hh X g s1.2.2)) (fun s1 => ?_) ((0 : Int32), (0 : Int32), I)
      refine Go_blk 3 (pc' := 18) (L' := [(0, .ref 47), (1, .int s1.1), (2, .int s1.2.1)]) (S' := [.int (s1.2.2 47 25), .int s1.2.1]) (h' := (hh X g s1.2.2)) rfl ?_
      refine Go_cmpn rfl rfl (ab_cge _ _) ?_ ?_
      ·
        refine Go_blk 3 (pc' := 26) (L' := [(0, .ref 47), (1, .int s1.1), (2, .int s1.2.1)]) (S' := [.int s1.2.1, .ref 145]) (h' := (hh X g s1.2.2)) rfl ?_
        refine Go_aald rfl fun r3 => ?_
        refine Go_blk 1 (pc' := 28) (L' := [(0, .ref 47), (1, .int s1.1), (2, .int s1.2.1)]) (S' := [.int (0 : Int32), .ref r3]) (h' := (hh X g s1.2.2)) rfl ?_
        refine Go_iald rfl fun v4 => ?_
        refine Go_blk 1 (pc' := 30) (L' := [(0, .ref 47), (1, .int s1.1), (2, .int s1.2.1)]) (S' := [.int (2 : Int32), .int v4]) (h' := (hh X g s1.2.2)) rfl ?_
        refine Go_seq (pcj := 116) (fun (b5 : Int32 × MJ) => [(0, .ref 47), (1, .int b5.1), (2, .int s1.2.1)]) (fun (b5 : Int32 × MJ) => []) (fun (b5 : Int32 × MJ) => (hh X g b5.2)) (fun b5 => ?_) ?_
        ·
          refine Go_blk 2 (pc' := 13) (L' := [(2, .int (s1.2.1 + (1 : Int32))), (0, .ref 47), (1, .int b5.1)]) (S' := []) (h' := (hh X g b5.2)) rfl ?_
          exact Go_jmp [(0, .ref 47), (1, .int b5.1), (2, .int (s1.2.1 + (1 : Int32)))] rfl ⟨rfl, rfl, rfl, trivial⟩ (fun _ h => h)
        ·
          refine Go_cmpn rfl rfl (ab_cge _ _) ?_ ?_
          ·
            refine Go_blk 6 (pc' := 43) (L' := [(0, .ref 47), (1, .int s1.1), (2, .int s1.2.1)]) (S' := [.int s1.2.1, .ref 145, .int s1.1, .ref 493]) (h' := (hh X g s1.2.2)) rfl ?_
            refine Go_aald rfl fun r6 => ?_
            refine Go_blk 1 (pc' := 45) (L' := [(0, .ref 47), (1, .int s1.1), (2, .int s1.2.1)]) (S' := [.int (0 : Int32), .ref r6, .int s1.1, .ref 493]) (h' := (hh X g s1.2.2)) rfl ?_
            refine Go_iald rfl fun v7 => ?_
            refine Go_seq (pcj := 73) (fun (b8 : Int32) => [(0, .ref 47), (1, .int s1.1), (2, .int s1.2.1)]) (fun (b8 : Int32) => [.int b8, .int s1.1, .ref 493]) (fun (b8 : Int32) => (hh X g s1.2.2)) (fun b8 => ?_) ?_
            ·
              refine Go_iast rfl fun I9 => ?_
              refine Go_blk 2 (pc' := 116) (L' := [(1, .int (s1.1 + (1 : Int32))), (0, .ref 47), (2, .int s1.2.1)]) (S' := []) (h' := (hh X g I9)) rfl ?_
              exact Go_jmp [(0, .ref 47), (1, .int (s1.1 + (1 : Int32))), (2, .int s1.2.1)] rfl ⟨rfl, rfl, rfl, trivial⟩ (fun _ h => h)
            ·
              refine Go_cmzn rfl rfl rfl ?_ ?_
              ·
                refine Go_blk 3 (pc' := 54) (L' := [(0, .ref 47), (1, .int s1.1), (2, .int s1.2.1)]) (S' := [.int s1.2.1, .ref 145, .int s1.1, .ref 493]) (h' := (hh X g s1.2.2)) rfl ?_
                refine Go_aald rfl fun r10 => ?_
                refine Go_blk 1 (pc' := 56) (L' := [(0, .ref 47), (1, .int s1.1), (2, .int s1.2.1)]) (S' := [.int (1 : Int32), .ref r10, .int s1.1, .ref 493]) (h' := (hh X g s1.2.2)) rfl ?_
                refine Go_iald rfl fun v11 => ?_
                refine Go_blk 1 (pc' := 73) (L' := [(0, .ref 47), (1, .int s1.1), (2, .int s1.2.1)]) (S' := [.int v11, .int s1.1, .ref 493]) (h' := (hh X g s1.2.2)) rfl ?_
                exact Go_jmp [(0, .ref 47), (1, .int s1.1), (2, .int s1.2.1)] rfl ⟨rfl, rfl, rfl, trivial⟩ (fun _ h => h)
              ·
                refine Go_blk 5 (pc' := 69) (L' := [(0, .ref 47), (1, .int s1.1), (2, .int s1.2.1)]) (S' := [.int s1.2.1, .ref 145, .ref 494, .int s1.1, .ref 493]) (h' := (hh X g s1.2.2)) rfl ?_
                refine Go_aald rfl fun r12 => ?_
                refine Go_blk 1 (pc' := 71) (L' := [(0, .ref 47), (1, .int s1.1), (2, .int s1.2.1)]) (S' := [.int (1 : Int32), .ref r12, .ref 494, .int s1.1, .ref 493]) (h' := (hh X g s1.2.2)) rfl ?_
                refine Go_iald rfl fun v13 => ?_
                refine Go_iald rfl fun v14 => ?_
                exact Go_jmp [(0, .ref 47), (1, .int s1.1), (2, .int s1.2.1)] rfl ⟨rfl, rfl, rfl, trivial⟩ (fun _ h => h)
          ·
            refine Go_blk 9 (pc' := 95) (L' := [(1, .int (s1.1 + (-1 : Int32))), (0, .ref 47), (2, .int s1.2.1)]) (S' := [.int s1.2.1, .ref 145, .int ((s1.1 + (-1 : Int32)) - (1 : Int32)), .ref 493]) (h' := (hh X g s1.2.2)) rfl ?_
            refine Go_aald rfl fun r15 => ?_
            refine Go_blk 1 (pc' := 97) (L' := [(1, .int (s1.1 + (-1 : Int32))), (0, .ref 47), (2, .int s1.2.1)]) (S' := [.int (0 : Int32), .ref r15, .int ((s1.1 + (-1 : Int32)) - (1 : Int32)), .ref 493]) (h' := (hh X g s1.2.2)) rfl ?_
            refine Go_iald rfl fun v16 => ?_
            refine Go_blk 5 (pc' := 105) (L' := [(1, .int (s1.1 + (-1 : Int32))), (0, .ref 47), (2, .int s1.2.1)]) (S' := [.int ((s1.1 + (-1 : Int32)) - (1 : Int32)), .ref 493, .int v16, .int ((s1.1 + (-1 : Int32)) - (1 : Int32)), .ref 493]) (h' := (hh X g s1.2.2)) rfl ?_
            refine Go_iald rfl fun v17 => ?_
            refine Go_blk 3 (pc' := 111) (L' := [(1, .int (s1.1 + (-1 : Int32))), (0, .ref 47), (2, .int s1.2.1)]) (S' := [.int (s1.1 + (-1 : Int32)), .ref 493, .int v17, .int v16, .int ((s1.1 + (-1 : Int32)) - (1 : Int32)), .ref 493]) (h' := (hh X g s1.2.2)) rfl ?_
            refine Go_iald rfl fun v18 => ?_
            refine Go_cR (y' := 318) (As := [.int v16, .int v17, .int v18]) (r := [.int ((s1.1 + (-1 : Int32)) - (1 : Int32)), .ref 493]) rfl (g_m_by318 v16 v17 v18 (by omega)) fun v19 => ?_
            refine Go_iast rfl fun I20 => ?_
            exact Go_jmp [(0, .ref 47), (1, .int (s1.1 + (-1 : Int32))), (2, .int s1.2.1)] rfl ⟨rfl, rfl, rfl, trivial⟩ (fun _ h => h)
      ·
        exact Go_jmp [(0, .ref 47)] rfl ⟨rfl, trivial⟩ (fun _ h => h)
set_option maxRecDepth 1000000 in
set_option maxHeartbeats 4000000 in
theorem g_m_eats315 (p1 : Nat) (p2 : Int32) {X : XX} {g : GG} {I : MJ} {d : Nat} (hd : 3 ≤ d) : Go d 315 0 (lv_args 0 [.ref 47, .ref p1, .int p2]) [] (hh X g I) (f_m_eats315 p1 p2 I) (pV X g) := by
  obtain ⟨d, rfl⟩ : ∃ k, d = k + 1 := ⟨d - 1, by omega⟩
  unfold f_m_eats315
  refine Go_blk 2 (pc' := 2) (L' := [(0, .ref 47), (1, .ref p1), (2, .int p2)]) (S' := [.int p2, .ref p1]) (h' := (hh X g I)) rfl ?_
  refine Go_cR (y' := 310) (As := [.int p2]) (r := [.ref p1]) rfl (g_m_suitOf310 p2 (by omega)) fun v1 => ?_
  refine Go_cR (y' := 316) (As := [.ref p1, .int v1]) (r := []) rfl (g_m_seamsOf316 p1 v1 (by omega)) fun v2 => ?_
  refine Go_blk 3 (pc' := 12) (L' := [(4, .int (0 : Int32)), (3, .int v2), (0, .ref 47), (1, .ref p1), (2, .int p2)]) (S' := []) (h' := (hh X g I)) rfl ?_
  refine Go_lcs [(0, .ref 47), (1, .ref p1), (2, .int p2), (3, .int v2), (4, .int (0 : Int32))] rfl ⟨rfl, rfl, rfl, rfl, rfl, trivial⟩ ?_
  refine Go_seq (pcj := 108) (fun (b4 : MJ) => [(0, .ref 47), (1, .ref p1), (2, .int p2)]) (fun (b4 : MJ) => []) (fun (b4 : MJ) => (hh X g b4)) (fun b4 => ?_) ?_
  ·
    refine Go_blk 2 (pc' := 111) (L' := [(4, .int (0 : Int32)), (0, .ref 47), (1, .ref p1), (2, .int p2)]) (S' := []) (h' := (hh X g b4)) rfl ?_
    refine Go_lcs [(0, .ref 47), (1, .ref p1), (2, .int p2), (4, .int (0 : Int32))] rfl ⟨rfl, rfl, rfl, rfl, trivial⟩ ?_
    refine Go_seq (pcj := 157) (fun (b6 : MJ) => []) (fun (b6 : MJ) => []) (fun (b6 : MJ) => (hh X g b6)) (fun b6 => ?_) ?_
    ·
      exact Go_ret (fun _ h => h) rfl
    ·
      refine Go_wh (fun (s5 : Int32 × MJ) => [(0, .ref 47), (1, .ref p1), (2, .int p2), (4, .int s5.1)]) (fun _ => []) (fun (s5 : Int32 × MJ) => (hh X g s5.2)) (fun s5 => ?_) ((0 : Int32), b4)
      refine Go_blk 2 (pc' := 115) (L' := [(0, .ref 47), (1, .ref p1), (2, .int p2), (4, .int s5.1)]) (S' := [.int (12 : Int32), .int s5.1]) (h' := (hh X g s5.2)) rfl ?_
      refine Go_cmpn rfl rfl (ab_cge _ _) ?_ ?_
      ·
        refine Go_blk 2 (pc' := 120) (L' := [(0, .ref 47), (1, .ref p1), (2, .int p2), (4, .int s5.1)]) (S' := [.int p2, .ref p1]) (h' := (hh X g s5.2)) rfl ?_
        refine Go_cR (y' := 310) (As := [.int p2]) (r := [.ref p1]) rfl (g_m_suitOf310 p2 (by omega)) fun v7 => ?_
        refine Go_blk 5 (pc' := 132) (L' := [(0, .ref 47), (1, .ref p1), (2, .int p2), (4, .int s5.1)]) (S' := [.int s5.1, .ref 600, .int (v7 + s5.1), .ref p1]) (h' := (hh X g s5.2)) rfl ?_
        refine Go_bald rfl fun v8 => ?_
        refine Go_seq (pcj := 150) (fun (b9 : Int32) => [(0, .ref 47), (1, .ref p1), (2, .int p2), (4, .int s5.1)]) (fun (b9 : Int32) => [.int b9, .int (v7 + s5.1), .ref p1]) (fun (b9 : Int32) => (hh X g s5.2)) (fun b9 => ?_) ?_
        ·
          refine Go_iast rfl fun I10 => ?_
          refine Go_blk 2 (pc' := 111) (L' := [(4, .int (s5.1 + (1 : Int32))), (0, .ref 47), (1, .ref p1), (2, .int p2)]) (S' := []) (h' := (hh X g I10)) rfl ?_
          exact Go_jmp [(0, .ref 47), (1, .ref p1), (2, .int p2), (4, .int (s5.1 + (1 : Int32)))] rfl ⟨rfl, rfl, rfl, rfl, trivial⟩ (fun _ h => h)
        ·
          refine Go_cmz rfl rfl rfl ?_ ?_
          ·
            refine Go_blk 2 (pc' := 143) (L' := [(0, .ref 47), (1, .ref p1), (2, .int p2), (4, .int s5.1)]) (S' := [.int p2, .ref p1, .int (v7 + s5.1), .ref p1]) (h' := (hh X g s5.2)) rfl ?_
            refine Go_cR (y' := 310) (As := [.int p2]) (r := [.ref p1, .int (v7 + s5.1), .ref p1]) rfl (g_m_suitOf310 p2 (by omega)) fun v11 => ?_
            refine Go_blk 2 (pc' := 149) (L' := [(0, .ref 47), (1, .ref p1), (2, .int p2), (4, .int s5.1)]) (S' := [.int (v11 + s5.1), .ref p1, .int (v7 + s5.1), .ref p1]) (h' := (hh X g s5.2)) rfl ?_
            refine Go_iald rfl fun v12 => ?_
            exact Go_jmp [(0, .ref 47), (1, .ref p1), (2, .int p2), (4, .int s5.1)] rfl ⟨rfl, rfl, rfl, rfl, trivial⟩ (fun _ h => h)
          ·
            refine Go_blk 2 (pc' := 150) (L' := [(0, .ref 47), (1, .ref p1), (2, .int p2), (4, .int s5.1)]) (S' := [.int (6 : Int32), .int (v7 + s5.1), .ref p1]) (h' := (hh X g s5.2)) rfl ?_
            exact Go_jmp [(0, .ref 47), (1, .ref p1), (2, .int p2), (4, .int s5.1)] rfl ⟨rfl, rfl, rfl, rfl, trivial⟩ (fun _ h => h)
      ·
        exact Go_jmp [] rfl trivial (fun _ h => h)
  ·
    refine Go_wh (fun (s3 : Int32 × MJ) => [(0, .ref 47), (1, .ref p1), (2, .int p2), (3, .int v2), (4, .int s3.1)]) (fun _ => []) (fun (s3 : Int32 × MJ) => (hh X g s3.2)) (fun s3 => ?_) ((0 : Int32), I)
    refine Go_blk 2 (pc' := 16) (L' := [(0, .ref 47), (1, .ref p1), (2, .int p2), (3, .int v2), (4, .int s3.1)]) (S' := [.int (12 : Int32), .int s3.1]) (h' := (hh X g s3.2)) rfl ?_
    refine Go_cmpn rfl rfl (ab_cge _ _) ?_ ?_
    ·
      refine Go_blk 10 (pc' := 34) (L' := [(0, .ref 47), (1, .ref p1), (2, .int p2), (3, .int v2), (4, .int s3.1)]) (S' := [.int p2, .ref p1, .int (1 : Int32), .ref 494]) (h' := (hh X g (ab_up1 s3.2 494 0 s3.1))) rfl ?_
      refine Go_cR (y' := 310) (As := [.int p2]) (r := [.ref p1, .int (1 : Int32), .ref 494]) rfl (g_m_suitOf310 p2 (by omega)) fun v13 => ?_
      refine Go_blk 2 (pc' := 40) (L' := [(0, .ref 47), (1, .ref p1), (2, .int p2), (3, .int v2), (4, .int s3.1)]) (S' := [.int (v13 + s3.1), .ref p1, .int (1 : Int32), .ref 494]) (h' := (hh X g (ab_up1 s3.2 494 0 s3.1))) rfl ?_
      refine Go_iald rfl fun v14 => ?_
      refine Go_blk 6 (pc' := 50) (L' := [(0, .ref 47), (1, .ref p1), (2, .int p2), (3, .int v2), (4, .int s3.1)]) (S' := [.int (89 : Int32), .ref p1, .int (2 : Int32), .ref 494]) (h' := (hh X g (ab_up1 (ab_up1 s3.2 494 0 s3.1) 494 1 v14))) rfl ?_
      refine Go_iald rfl fun v15 => ?_
      refine Go_blk 4 (pc' := 56) (L' := [(0, .ref 47), (1, .ref p1), (2, .int p2), (3, .int v2), (4, .int s3.1)]) (S' := [.int ((82 : Int32) + p2), .ref p1, .int v15, .int (2 : Int32), .ref 494]) (h' := (hh X g (ab_up1 (ab_up1 s3.2 494 0 s3.1) 494 1 v14))) rfl ?_
      refine Go_iald rfl fun v16 => ?_
      refine Go_blk 7 (pc' := 67) (L' := [(0, .ref 47), (1, .ref p1), (2, .int p2), (3, .int v2), (4, .int s3.1)]) (S' := [.int (89 : Int32), .ref p1, .int (3 : Int32), .ref 494]) (h' := (hh X g (ab_up1 (ab_up1 (ab_up1 s3.2 494 0 s3.1) 494 1 v14) 494 2 (v15 - v16)))) rfl ?_
      refine Go_iald rfl fun v17 => ?_
      refine Go_blk 15 (pc' := 90) (L' := [(0, .ref 47), (1, .ref p1), (2, .int p2), (3, .int v2), (4, .int s3.1)]) (S' := [.ref 47, .int s3.1, .ref 600]) (h' := (hh X g (ab_up1 (ab_up1 (ab_up1 (ab_up1 (ab_up1 (ab_up1 s3.2 494 0 s3.1) 494 1 v14) 494 2 (v15 - v16)) 494 3 v17) 494 4 p2) 494 5 v2))) rfl ?_
      refine Go_cW (y' := 317) (As := [.ref 47]) (r := [.int s3.1, .ref 600]) rfl (g_m_byLaw317  (by omega)) fun w18 => ?_
      refine Go_seq (pcj := 101) (fun (b19 : Int32) => [(0, .ref 47), (1, .ref p1), (2, .int p2), (3, .int v2), (4, .int s3.1)]) (fun (b19 : Int32) => [.int b19, .int s3.1, .ref 600]) (fun (b19 : Int32) => (hh X g w18.2)) (fun b19 => ?_) ?_
      ·
        refine Go_bast rfl fun I20 => ?_
        refine Go_blk 2 (pc' := 12) (L' := [(4, .int (s3.1 + (1 : Int32))), (0, .ref 47), (1, .ref p1), (2, .int p2), (3, .int v2)]) (S' := []) (h' := (hh X g I20)) rfl ?_
        exact Go_jmp [(0, .ref 47), (1, .ref p1), (2, .int p2), (3, .int v2), (4, .int (s3.1 + (1 : Int32)))] rfl ⟨rfl, rfl, rfl, rfl, rfl, trivial⟩ (fun _ h => h)
      ·
        refine Go_cmzn rfl rfl (ab_cle0 _) ?_ ?_
        ·
          refine Go_blk 2 (pc' := 101) (L' := [(0, .ref 47), (1, .ref p1), (2, .int p2), (3, .int v2), (4, .int s3.1)]) (S' := [.int (1 : Int32), .int s3.1, .ref 600]) (h' := (hh X g w18.2)) rfl ?_
          exact Go_jmp [(0, .ref 47), (1, .ref p1), (2, .int p2), (3, .int v2), (4, .int s3.1)] rfl ⟨rfl, rfl, rfl, rfl, rfl, trivial⟩ (fun _ h => h)
        ·
          refine Go_blk 1 (pc' := 101) (L' := [(0, .ref 47), (1, .ref p1), (2, .int p2), (3, .int v2), (4, .int s3.1)]) (S' := [.int (0 : Int32), .int s3.1, .ref 600]) (h' := (hh X g w18.2)) rfl ?_
          exact Go_jmp [(0, .ref 47), (1, .ref p1), (2, .int p2), (3, .int v2), (4, .int s3.1)] rfl ⟨rfl, rfl, rfl, rfl, rfl, trivial⟩ (fun _ h => h)
    ·
      exact Go_jmp [(0, .ref 47), (1, .ref p1), (2, .int p2)] rfl ⟨rfl, rfl, rfl, trivial⟩ (fun _ h => h)
set_option maxRecDepth 1000000 in
set_option maxHeartbeats 4000000 in
theorem g_m_dayEnds314 (p1 : Nat) {X : XX} {g : GG} {I : MJ} {d : Nat} (hd : 4 ≤ d) : Go d 314 0 (lv_args 0 [.ref 47, .ref p1]) [] (hh X g I) (f_m_dayEnds314 p1 I) (pW X g) := by
  obtain ⟨d, rfl⟩ : ∃ k, d = k + 1 := ⟨d - 1, by omega⟩
  unfold f_m_dayEnds314
  refine Go_blk 2 (pc' := 3) (L' := [(0, .ref 47), (1, .ref p1)]) (S' := [.int (89 : Int32), .ref p1]) (h' := (hh X g I)) rfl ?_
  refine Go_iald rfl fun v1 => ?_
  refine Go_blk 1 (pc' := 6) (L' := [(0, .ref 47), (1, .ref p1)]) (S' := [.int (60 : Int32), .int v1]) (h' := (hh X g I)) rfl ?_
  refine Go_cmpn rfl rfl rfl ?_ ?_
  ·
    refine Go_blk 1 (pc' := 10) (L' := [(0, .ref 47), (1, .ref p1)]) (S' := [.int (0 : Int32)]) (h' := (hh X g I)) rfl ?_
    exact Go_ret (fun _ h => h) rfl
  ·
    refine Go_blk 3 (pc' := 15) (L' := [(0, .ref 47), (1, .ref p1)]) (S' := [.int (89 : Int32), .ref p1, .int (89 : Int32), .ref p1]) (h' := (hh X g I)) rfl ?_
    refine Go_iald rfl fun v2 => ?_
    refine Go_blk 2 (pc' := 18) (L' := [(0, .ref 47), (1, .ref p1)]) (S' := [.int (v2 + (1 : Int32)), .int (89 : Int32), .ref p1]) (h' := (hh X g I)) rfl ?_
    refine Go_iast rfl fun I3 => ?_
    refine Go_blk 2 (pc' := 21) (L' := [(2, .int (0 : Int32)), (0, .ref 47), (1, .ref p1)]) (S' := []) (h' := (hh X g I3)) rfl ?_
    refine Go_lcs [(0, .ref 47), (1, .ref p1), (2, .int (0 : Int32))] rfl ⟨rfl, rfl, rfl, trivial⟩ ?_
    refine Go_seq (pcj := 51) (fun (b5 : MJ) => []) (fun (b5 : MJ) => []) (fun (b5 : MJ) => (hh X g b5)) (fun b5 => ?_) ?_
    ·
      refine Go_blk 1 (pc' := 52) (L' := []) (S' := [.int (1 : Int32)]) (h' := (hh X g b5)) rfl ?_
      exact Go_ret (fun _ h => h) rfl
    ·
      refine Go_wh (fun (s4 : Int32 × MJ) => [(0, .ref 47), (1, .ref p1), (2, .int s4.1)]) (fun _ => []) (fun (s4 : Int32 × MJ) => (hh X g s4.2)) (fun s4 => ?_) ((0 : Int32), I3)
      refine Go_blk 5 (pc' := 28) (L' := [(0, .ref 47), (1, .ref p1), (2, .int s4.1)]) (S' := [.int (s4.2 51 1), .int s4.1]) (h' := (hh X g s4.2)) rfl ?_
      refine Go_cmpn rfl rfl (ab_cge _ _) ?_ ?_
      ·
        refine Go_blk 2 (pc' := 33) (L' := [(0, .ref 47), (1, .ref p1), (2, .int s4.1)]) (S' := [.int s4.1, .ref p1]) (h' := (hh X g s4.2)) rfl ?_
        refine Go_cR (y' := 305) (As := [.ref p1, .int s4.1]) (r := []) rfl (g_m_hasSuit305 p1 s4.1 (by omega)) fun v6 => ?_
        refine Go_seq (pcj := 45) (fun (b7 : MJ) => [(0, .ref 47), (1, .ref p1), (2, .int s4.1)]) (fun (b7 : MJ) => []) (fun (b7 : MJ) => (hh X g b7)) (fun b7 => ?_) ?_
        ·
          refine Go_blk 2 (pc' := 21) (L' := [(2, .int (s4.1 + (1 : Int32))), (0, .ref 47), (1, .ref p1)]) (S' := []) (h' := (hh X g b7)) rfl ?_
          exact Go_jmp [(0, .ref 47), (1, .ref p1), (2, .int (s4.1 + (1 : Int32)))] rfl ⟨rfl, rfl, rfl, trivial⟩ (fun _ h => h)
        ·
          refine Go_cmz rfl rfl rfl ?_ ?_
          ·
            exact Go_jmp [(0, .ref 47), (1, .ref p1), (2, .int s4.1)] rfl ⟨rfl, rfl, rfl, trivial⟩ (fun _ h => h)
          ·
            refine Go_blk 3 (pc' := 42) (L' := [(0, .ref 47), (1, .ref p1), (2, .int s4.1)]) (S' := [.int s4.1, .ref p1, .ref 47]) (h' := (hh X g s4.2)) rfl ?_
            refine Go_cV (y' := 315) (As := [.ref 47, .ref p1, .int s4.1]) (r := []) rfl (g_m_eats315 p1 s4.1 (by omega)) fun I8 => ?_
            exact Go_jmp [(0, .ref 47), (1, .ref p1), (2, .int s4.1)] rfl ⟨rfl, rfl, rfl, trivial⟩ (fun _ h => h)
      ·
        exact Go_jmp [] rfl trivial (fun _ h => h)
set_option maxRecDepth 1000000 in
set_option maxHeartbeats 4000000 in
theorem g_m_does304 (p1 : Nat) (p2 : Nat) {X : XX} {g : GG} {I : MJ} {d : Nat} (hd : 5 ≤ d) : Go d 304 0 (lv_args 0 [.ref 47, .ref p1, .ref p2]) [] (hh X g I) (f_m_does304 p1 p2 I) (pW X g) := by
  obtain ⟨d, rfl⟩ : ∃ k, d = k + 1 := ⟨d - 1, by omega⟩
  unfold f_m_does304
  refine Go_blk 2 (pc' := 2) (L' := [(0, .ref 47), (1, .ref p1), (2, .ref p2)]) (S' := [.int (1 : Int32), .ref p2]) (h' := (hh X g I)) rfl ?_
  refine Go_iald rfl fun v1 => ?_
  refine Go_blk 3 (pc' := 6) (L' := [(3, .int v1), (0, .ref 47), (1, .ref p1), (2, .ref p2)]) (S' := [.int (0 : Int32), .ref p2]) (h' := (hh X g I)) rfl ?_
  refine Go_iald rfl fun v2 => ?_
  refine Go_cmzn rfl rfl (ab_cle0 _) ?_ ?_
  ·
    refine Go_blk 2 (pc' := 12) (L' := [(3, .int v1), (0, .ref 47), (1, .ref p1), (2, .ref p2)]) (S' := [.int (0 : Int32), .ref p2]) (h' := (hh X g I)) rfl ?_
    refine Go_iald rfl fun v3 => ?_
    refine Go_blk 1 (pc' := 14) (L' := [(3, .int v1), (0, .ref 47), (1, .ref p1), (2, .ref p2)]) (S' := [.int (4 : Int32), .int v3]) (h' := (hh X g I)) rfl ?_
    refine Go_cmpn rfl rfl (ab_cge _ _) ?_ ?_
    ·
      refine Go_blk 2 (pc' := 19) (L' := [(3, .int v1), (0, .ref 47), (1, .ref p1), (2, .ref p2)]) (S' := [.int v1, .ref p1]) (h' := (hh X g I)) rfl ?_
      refine Go_cR (y' := 305) (As := [.ref p1, .int v1]) (r := []) rfl (g_m_hasSuit305 p1 v1 (by omega)) fun v4 => ?_
      refine Go_cmzn rfl rfl rfl ?_ ?_
      ·
        refine Go_blk 1 (pc' := 26) (L' := [(3, .int v1), (0, .ref 47), (1, .ref p1), (2, .ref p2)]) (S' := [.int (0 : Int32)]) (h' := (hh X g I)) rfl ?_
        exact Go_ret (fun _ h => h) rfl
      ·
        refine Go_blk 2 (pc' := 29) (L' := [(3, .int v1), (0, .ref 47), (1, .ref p1), (2, .ref p2)]) (S' := [.int (0 : Int32), .ref p2]) (h' := (hh X g I)) rfl ?_
        refine Go_iald rfl fun v5 => ?_
        refine Go_sw ?_ fun h0 => ?_
        ·
          refine Go_blk 1 (pc' := 64) (L' := [(3, .int v1), (0, .ref 47), (1, .ref p1), (2, .ref p2)]) (S' := []) (h' := (hh X g I)) rfl ?_
          refine Go_blk 5 (pc' := 69) (L' := [(3, .int v1), (0, .ref 47), (1, .ref p1), (2, .ref p2)]) (S' := [.int (2 : Int32), .ref p2, .int v1, .ref p1, .ref 47]) (h' := (hh X g I)) rfl ?_
          refine Go_iald rfl fun v6 => ?_
          refine Go_cW (y' := 306) (As := [.ref 47, .ref p1, .int v1, .int v6]) (r := []) rfl (g_m_canCut306 p1 v1 v6 (by omega)) fun w7 => ?_
          refine Go_cmzn rfl rfl rfl ?_ ?_
          ·
            refine Go_blk 1 (pc' := 77) (L' := [(3, .int v1), (0, .ref 47), (1, .ref p1), (2, .ref p2)]) (S' := [.int (0 : Int32)]) (h' := (hh X g w7.2)) rfl ?_
            exact Go_ret (fun _ h => h) rfl
          ·
            refine Go_blk 2 (pc' := 81) (L' := [(4, .int (0 : Int32)), (3, .int v1), (0, .ref 47), (1, .ref p1), (2, .ref p2)]) (S' := []) (h' := (hh X g w7.2)) rfl ?_
            refine Go_lcs [(0, .ref 47), (1, .ref p1), (2, .ref p2), (3, .int v1), (4, .int (0 : Int32))] rfl ⟨rfl, rfl, rfl, rfl, rfl, trivial⟩ ?_
            refine Go_seq (pcj := 109) (fun (b9 : MJ) => [(0, .ref 47), (1, .ref p1), (2, .ref p2), (3, .int v1)]) (fun (b9 : MJ) => []) (fun (b9 : MJ) => (hh X g b9)) (fun b9 => ?_) ?_
            ·
              refine Go_blk 2 (pc' := 112) (L' := [(4, .int (0 : Int32)), (0, .ref 47), (1, .ref p1), (2, .ref p2), (3, .int v1)]) (S' := []) (h' := (hh X g b9)) rfl ?_
              refine Go_lcs [(0, .ref 47), (1, .ref p1), (2, .ref p2), (3, .int v1), (4, .int (0 : Int32))] rfl ⟨rfl, rfl, rfl, rfl, rfl, trivial⟩ ?_
              refine Go_seq (pcj := 145) (fun (b11 : MJ) => [(1, .ref p1), (3, .int v1)]) (fun (b11 : MJ) => []) (fun (b11 : MJ) => (hh X g b11)) (fun b11 => ?_) ?_
              ·
                refine Go_blk 6 (pc' := 153) (L' := [(1, .ref p1), (3, .int v1)]) (S' := [.int (89 : Int32), .ref p1, .int ((82 : Int32) + v1), .ref p1]) (h' := (hh X g b11)) rfl ?_
                refine Go_iald rfl fun v12 => ?_
                refine Go_iast rfl fun I13 => ?_
                refine Go_blk 1 (pc' := 156) (L' := [(1, .ref p1), (3, .int v1)]) (S' := [.int (1 : Int32)]) (h' := (hh X g I13)) rfl ?_
                exact Go_ret (fun _ h => h) rfl
              ·
                refine Go_wh (fun (s10 : Int32 × MJ) => [(0, .ref 47), (1, .ref p1), (2, .ref p2), (3, .int v1), (4, .int s10.1)]) (fun _ => []) (fun (s10 : Int32 × MJ) => (hh X g s10.2)) (fun s10 => ?_) ((0 : Int32), b9)
                refine Go_blk 2 (pc' := 116) (L' := [(0, .ref 47), (1, .ref p1), (2, .ref p2), (3, .int v1), (4, .int s10.1)]) (S' := [.int (12 : Int32), .int s10.1]) (h' := (hh X g s10.2)) rfl ?_
                refine Go_cmpn rfl rfl (ab_cge _ _) ?_ ?_
                ·
                  refine Go_blk 2 (pc' := 121) (L' := [(0, .ref 47), (1, .ref p1), (2, .ref p2), (3, .int v1), (4, .int s10.1)]) (S' := [.int v1, .ref p1]) (h' := (hh X g s10.2)) rfl ?_
                  refine Go_cR (y' := 310) (As := [.int v1]) (r := [.ref p1]) rfl (g_m_suitOf310 v1 (by omega)) fun v14 => ?_
                  refine Go_blk 6 (pc' := 133) (L' := [(0, .ref 47), (1, .ref p1), (2, .ref p2), (3, .int v1), (4, .int s10.1)]) (S' := [.int (2 : Int32), .ref p2, .ref 128, .int (v14 + s10.1), .ref p1]) (h' := (hh X g s10.2)) rfl ?_
                  refine Go_iald rfl fun v15 => ?_
                  refine Go_aald rfl fun r16 => ?_
                  refine Go_blk 1 (pc' := 137) (L' := [(0, .ref 47), (1, .ref p1), (2, .ref p2), (3, .int v1), (4, .int s10.1)]) (S' := [.int s10.1, .ref r16, .int (v14 + s10.1), .ref p1]) (h' := (hh X g s10.2)) rfl ?_
                  refine Go_iald rfl fun v17 => ?_
                  refine Go_iast rfl fun I18 => ?_
                  refine Go_blk 2 (pc' := 112) (L' := [(4, .int (s10.1 + (1 : Int32))), (0, .ref 47), (1, .ref p1), (2, .ref p2), (3, .int v1)]) (S' := []) (h' := (hh X g I18)) rfl ?_
                  exact Go_jmp [(0, .ref 47), (1, .ref p1), (2, .ref p2), (3, .int v1), (4, .int (s10.1 + (1 : Int32)))] rfl ⟨rfl, rfl, rfl, rfl, rfl, trivial⟩ (fun _ h => h)
                ·
                  exact Go_jmp [(1, .ref p1), (3, .int v1)] rfl ⟨rfl, rfl, trivial⟩ (fun _ h => h)
            ·
              refine Go_wh (fun (s8 : Int32 × MJ) => [(0, .ref 47), (1, .ref p1), (2, .ref p2), (3, .int v1), (4, .int s8.1)]) (fun _ => []) (fun (s8 : Int32 × MJ) => (hh X g s8.2)) (fun s8 => ?_) ((0 : Int32), w7.2)
              refine Go_blk 2 (pc' := 85) (L' := [(0, .ref 47), (1, .ref p1), (2, .ref p2), (3, .int v1), (4, .int s8.1)]) (S' := [.int (10 : Int32), .int s8.1]) (h' := (hh X g s8.2)) rfl ?_
              refine Go_cmpn rfl rfl (ab_cge _ _) ?_ ?_
              ·
                refine Go_blk 9 (pc' := 101) (L' := [(0, .ref 47), (1, .ref p1), (2, .ref p2), (3, .int v1), (4, .int s8.1)]) (S' := [.int ((0 : Int32) + s8.1), .ref 599, .int ((0 : Int32) + s8.1), .ref p1]) (h' := (hh X g s8.2)) rfl ?_
                refine Go_iald rfl fun v19 => ?_
                refine Go_iast rfl fun I20 => ?_
                refine Go_blk 2 (pc' := 81) (L' := [(4, .int (s8.1 + (1 : Int32))), (0, .ref 47), (1, .ref p1), (2, .ref p2), (3, .int v1)]) (S' := []) (h' := (hh X g I20)) rfl ?_
                exact Go_jmp [(0, .ref 47), (1, .ref p1), (2, .ref p2), (3, .int v1), (4, .int (s8.1 + (1 : Int32)))] rfl ⟨rfl, rfl, rfl, rfl, rfl, trivial⟩ (fun _ h => h)
              ·
                exact Go_jmp [(0, .ref 47), (1, .ref p1), (2, .ref p2), (3, .int v1)] rfl ⟨rfl, rfl, rfl, rfl, trivial⟩ (fun _ h => h)
        refine Go_sw ?_ fun h1 => ?_
        ·
          refine Go_blk 1 (pc' := 157) (L' := [(3, .int v1), (0, .ref 47), (1, .ref p1), (2, .ref p2)]) (S' := []) (h' := (hh X g I)) rfl ?_
          refine Go_blk 4 (pc' := 161) (L' := [(3, .int v1), (0, .ref 47), (1, .ref p1), (2, .ref p2)]) (S' := [.int (3 : Int32), .ref p2, .ref p1, .ref 47]) (h' := (hh X g I)) rfl ?_
          refine Go_iald rfl fun v21 => ?_
          refine Go_blk 1 (pc' := 163) (L' := [(3, .int v1), (0, .ref 47), (1, .ref p1), (2, .ref p2)]) (S' := [.int (1 : Int32), .int v21, .ref p1, .ref 47]) (h' := (hh X g I)) rfl ?_
          refine Go_cR (y' := 309) (As := [.ref 47, .ref p1, .int v21, .int (1 : Int32)]) (r := []) rfl (g_m_boltFor309 p1 v21 (1 : Int32) (by omega)) fun v22 => ?_
          refine Go_blk 3 (pc' := 170) (L' := [(4, .int v22), (3, .int v1), (0, .ref 47), (1, .ref p1), (2, .ref p2)]) (S' := [.int v1, .ref p1]) (h' := (hh X g I)) rfl ?_
          refine Go_cR (y' := 310) (As := [.int v1]) (r := [.ref p1]) rfl (g_m_suitOf310 v1 (by omega)) fun v23 => ?_
          refine Go_blk 2 (pc' := 175) (L' := [(4, .int v22), (3, .int v1), (0, .ref 47), (1, .ref p1), (2, .ref p2)]) (S' := [.int (2 : Int32), .ref p2, .int v23, .ref p1]) (h' := (hh X g I)) rfl ?_
          refine Go_iald rfl fun v24 => ?_
          refine Go_blk 1 (pc' := 177) (L' := [(4, .int v22), (3, .int v1), (0, .ref 47), (1, .ref p1), (2, .ref p2)]) (S' := [.int (v23 + v24), .ref p1]) (h' := (hh X g I)) rfl ?_
          refine Go_iald rfl fun v25 => ?_
          refine Go_blk 2 (pc' := 180) (L' := [(4, .int v22), (3, .int v1), (0, .ref 47), (1, .ref p1), (2, .ref p2)]) (S' := [.int (3 : Int32), .ref p2, .int v25]) (h' := (hh X g I)) rfl ?_
          refine Go_iald rfl fun v26 => ?_
          refine Go_cmp rfl rfl rfl ?_ ?_
          ·
            refine Go_blk 1 (pc' := 191) (L' := [(4, .int v22), (3, .int v1), (0, .ref 47), (1, .ref p1), (2, .ref p2)]) (S' := [.int (0 : Int32)]) (h' := (hh X g I)) rfl ?_
            exact Go_ret (fun _ h => h) rfl
          ·
            refine Go_blk 2 (pc' := 187) (L' := [(4, .int v22), (3, .int v1), (0, .ref 47), (1, .ref p1), (2, .ref p2)]) (S' := [.int (-1 : Int32), .int v22]) (h' := (hh X g I)) rfl ?_
            refine Go_cmpn rfl rfl rfl ?_ ?_
            ·
              refine Go_blk 1 (pc' := 191) (L' := [(4, .int v22), (3, .int v1), (0, .ref 47), (1, .ref p1), (2, .ref p2)]) (S' := [.int (0 : Int32)]) (h' := (hh X g I)) rfl ?_
              exact Go_ret (fun _ h => h) rfl
            ·
              refine Go_blk 5 (pc' := 198) (L' := [(4, .int v22), (3, .int v1), (0, .ref 47), (1, .ref p1), (2, .ref p2)]) (S' := [.int ((0 : Int32) + v22), .ref p1, .int ((0 : Int32) + v22), .ref p1]) (h' := (hh X g I)) rfl ?_
              refine Go_iald rfl fun v27 => ?_
              refine Go_blk 2 (pc' := 201) (L' := [(4, .int v22), (3, .int v1), (0, .ref 47), (1, .ref p1), (2, .ref p2)]) (S' := [.int (v27 - (1 : Int32)), .int ((0 : Int32) + v22), .ref p1]) (h' := (hh X g I)) rfl ?_
              refine Go_iast rfl fun I28 => ?_
              refine Go_blk 2 (pc' := 204) (L' := [(4, .int v22), (3, .int v1), (0, .ref 47), (1, .ref p1), (2, .ref p2)]) (S' := [.int v1, .ref p1]) (h' := (hh X g I28)) rfl ?_
              refine Go_cR (y' := 310) (As := [.int v1]) (r := [.ref p1]) rfl (g_m_suitOf310 v1 (by omega)) fun v29 => ?_
              refine Go_blk 2 (pc' := 209) (L' := [(4, .int v22), (3, .int v1), (0, .ref 47), (1, .ref p1), (2, .ref p2)]) (S' := [.int (2 : Int32), .ref p2, .int v29, .ref p1]) (h' := (hh X g I28)) rfl ?_
              refine Go_iald rfl fun v30 => ?_
              refine Go_blk 3 (pc' := 213) (L' := [(4, .int v22), (3, .int v1), (0, .ref 47), (1, .ref p1), (2, .ref p2)]) (S' := [.int (3 : Int32), .ref p2, .int (v29 + v30), .ref p1]) (h' := (hh X g I28)) rfl ?_
              refine Go_iald rfl fun v31 => ?_
              refine Go_iast rfl fun I32 => ?_
              refine Go_blk 1 (pc' := 216) (L' := [(4, .int v22), (3, .int v1), (0, .ref 47), (1, .ref p1), (2, .ref p2)]) (S' := [.int (1 : Int32)]) (h' := (hh X g I32)) rfl ?_
              exact Go_ret (fun _ h => h) rfl
        refine Go_sw ?_ fun h2 => ?_
        ·
          refine Go_blk 1 (pc' := 217) (L' := [(3, .int v1), (0, .ref 47), (1, .ref p1), (2, .ref p2)]) (S' := []) (h' := (hh X g I)) rfl ?_
          refine Go_blk 2 (pc' := 220) (L' := [(4, .int (0 : Int32)), (3, .int v1), (0, .ref 47), (1, .ref p1), (2, .ref p2)]) (S' := []) (h' := (hh X g I)) rfl ?_
          refine Go_lcs [(1, .ref p1), (3, .int v1), (4, .int (0 : Int32))] rfl ⟨rfl, rfl, rfl, trivial⟩ ?_
          refine Go_seq (pcj := 283) (fun (b34 : MJ) => []) (fun (b34 : MJ) => []) (fun (b34 : MJ) => (hh X g b34)) (fun b34 => ?_) ?_
          ·
            refine Go_blk 1 (pc' := 284) (L' := []) (S' := [.int (1 : Int32)]) (h' := (hh X g b34)) rfl ?_
            exact Go_ret (fun _ h => h) rfl
          ·
            refine Go_wh (fun (s33 : Int32 × MJ) => [(1, .ref p1), (3, .int v1), (4, .int s33.1)]) (fun _ => []) (fun (s33 : Int32 × MJ) => (hh X g s33.2)) (fun s33 => ?_) ((0 : Int32), I)
            refine Go_blk 2 (pc' := 224) (L' := [(1, .ref p1), (3, .int v1), (4, .int s33.1)]) (S' := [.int (6 : Int32), .int s33.1]) (h' := (hh X g s33.2)) rfl ?_
            refine Go_cmpn rfl rfl (ab_cge _ _) ?_ ?_
            ·
              refine Go_blk 2 (pc' := 229) (L' := [(1, .ref p1), (3, .int v1), (4, .int s33.1)]) (S' := [.int v1, .ref p1]) (h' := (hh X g s33.2)) rfl ?_
              refine Go_cR (y' := 310) (As := [.int v1]) (r := [.ref p1]) rfl (g_m_suitOf310 v1 (by omega)) fun v35 => ?_
              refine Go_blk 2 (pc' := 235) (L' := [(1, .ref p1), (3, .int v1), (4, .int s33.1)]) (S' := [.int (v35 + s33.1), .ref p1]) (h' := (hh X g s33.2)) rfl ?_
              refine Go_iald rfl fun v36 => ?_
              refine Go_blk 3 (pc' := 240) (L' := [(5, .int v36), (1, .ref p1), (3, .int v1), (4, .int s33.1)]) (S' := [.int v1, .ref p1]) (h' := (hh X g s33.2)) rfl ?_
              refine Go_cR (y' := 310) (As := [.int v1]) (r := [.ref p1]) rfl (g_m_suitOf310 v1 (by omega)) fun v37 => ?_
              refine Go_blk 4 (pc' := 248) (L' := [(5, .int v36), (1, .ref p1), (3, .int v1), (4, .int s33.1)]) (S' := [.int v1, .ref p1, .int (v37 + s33.1), .ref p1]) (h' := (hh X g s33.2)) rfl ?_
              refine Go_cR (y' := 310) (As := [.int v1]) (r := [.ref p1, .int (v37 + s33.1), .ref p1]) rfl (g_m_suitOf310 v1 (by omega)) fun v38 => ?_
              refine Go_blk 6 (pc' := 259) (L' := [(5, .int v36), (1, .ref p1), (3, .int v1), (4, .int s33.1)]) (S' := [.int (((v38 + (12 : Int32)) - (1 : Int32)) - s33.1), .ref p1, .int (v37 + s33.1), .ref p1]) (h' := (hh X g s33.2)) rfl ?_
              refine Go_iald rfl fun v39 => ?_
              refine Go_iast rfl fun I40 => ?_
              refine Go_blk 2 (pc' := 263) (L' := [(5, .int v36), (1, .ref p1), (3, .int v1), (4, .int s33.1)]) (S' := [.int v1, .ref p1]) (h' := (hh X g I40)) rfl ?_
              refine Go_cR (y' := 310) (As := [.int v1]) (r := [.ref p1]) rfl (g_m_suitOf310 v1 (by omega)) fun v41 => ?_
              refine Go_blk 7 (pc' := 276) (L' := [(5, .int v36), (1, .ref p1), (3, .int v1), (4, .int s33.1)]) (S' := [.int v36, .int (((v41 + (12 : Int32)) - (1 : Int32)) - s33.1), .ref p1]) (h' := (hh X g I40)) rfl ?_
              refine Go_iast rfl fun I42 => ?_
              refine Go_blk 2 (pc' := 220) (L' := [(4, .int (s33.1 + (1 : Int32))), (5, .int v36), (1, .ref p1), (3, .int v1)]) (S' := []) (h' := (hh X g I42)) rfl ?_
              exact Go_jmp [(1, .ref p1), (3, .int v1), (4, .int (s33.1 + (1 : Int32)))] rfl ⟨rfl, rfl, rfl, trivial⟩ (fun _ h => h)
            ·
              exact Go_jmp [] rfl trivial (fun _ h => h)
        refine Go_sw ?_ fun h3 => ?_
        ·
          refine Go_blk 1 (pc' := 285) (L' := [(3, .int v1), (0, .ref 47), (1, .ref p1), (2, .ref p2)]) (S' := []) (h' := (hh X g I)) rfl ?_
          refine Go_blk 5 (pc' := 291) (L' := [(3, .int v1), (0, .ref 47), (1, .ref p1), (2, .ref p2)]) (S' := [.int (-1 : Int32), .int ((82 : Int32) + v1), .ref p1]) (h' := (hh X g I)) rfl ?_
          refine Go_iast rfl fun I43 => ?_
          refine Go_blk 1 (pc' := 293) (L' := [(3, .int v1), (0, .ref 47), (1, .ref p1), (2, .ref p2)]) (S' := [.int (1 : Int32)]) (h' := (hh X g I43)) rfl ?_
          exact Go_ret (fun _ h => h) rfl
        refine Go_sw ?_ fun h4 => ?_
        ·
          refine Go_blk 1 (pc' := 294) (L' := [(3, .int v1), (0, .ref 47), (1, .ref p1), (2, .ref p2)]) (S' := []) (h' := (hh X g I)) rfl ?_
          refine Go_blk 4 (pc' := 298) (L' := [(3, .int v1), (0, .ref 47), (1, .ref p1), (2, .ref p2)]) (S' := [.int (1 : Int32), .ref p2, .ref p1, .ref 47]) (h' := (hh X g I)) rfl ?_
          refine Go_iald rfl fun v44 => ?_
          refine Go_cR (y' := 311) (As := [.ref 47, .ref p1, .int v44]) (r := []) rfl (g_m_isReady311 p1 v44 (by omega)) fun v45 => ?_
          refine Go_cmzn rfl rfl rfl ?_ ?_
          ·
            refine Go_blk 1 (pc' := 306) (L' := [(3, .int v1), (0, .ref 47), (1, .ref p1), (2, .ref p2)]) (S' := [.int (0 : Int32)]) (h' := (hh X g I)) rfl ?_
            exact Go_ret (fun _ h => h) rfl
          ·
            refine Go_blk 3 (pc' := 311) (L' := [(3, .int v1), (0, .ref 47), (1, .ref p1), (2, .ref p2)]) (S' := [.int (88 : Int32), .ref p1, .int (88 : Int32), .ref p1]) (h' := (hh X g I)) rfl ?_
            refine Go_iald rfl fun v46 => ?_
            refine Go_blk 3 (pc' := 315) (L' := [(3, .int v1), (0, .ref 47), (1, .ref p1), (2, .ref p2)]) (S' := [.int (1 : Int32), .ref p2, .int (1 : Int32), .int v46, .int (88 : Int32), .ref p1]) (h' := (hh X g I)) rfl ?_
            refine Go_iald rfl fun v47 => ?_
            refine Go_blk 2 (pc' := 318) (L' := [(3, .int v1), (0, .ref 47), (1, .ref p1), (2, .ref p2)]) (S' := [.int (v46 ||| ((1 : Int32) <<< (v47 &&& 31))), .int (88 : Int32), .ref p1]) (h' := (hh X g I)) rfl ?_
            refine Go_iast rfl fun I48 => ?_
            refine Go_blk 3 (pc' := 323) (L' := [(3, .int v1), (0, .ref 47), (1, .ref p1), (2, .ref p2)]) (S' := [.int (90 : Int32), .ref p1, .int (90 : Int32), .ref p1]) (h' := (hh X g I48)) rfl ?_
            refine Go_iald rfl fun v49 => ?_
            refine Go_blk 4 (pc' := 330) (L' := [(3, .int v1), (0, .ref 47), (1, .ref p1), (2, .ref p2)]) (S' := [.int (1 : Int32), .ref p2, .ref 119, .int v49, .int (90 : Int32), .ref p1]) (h' := (hh X g I48)) rfl ?_
            refine Go_iald rfl fun v50 => ?_
            refine Go_aald rfl fun r51 => ?_
            refine Go_blk 1 (pc' := 333) (L' := [(3, .int v1), (0, .ref 47), (1, .ref p1), (2, .ref p2)]) (S' := [.int (3 : Int32), .ref r51, .int v49, .int (90 : Int32), .ref p1]) (h' := (hh X g I48)) rfl ?_
            refine Go_iald rfl fun v52 => ?_
            refine Go_blk 1 (pc' := 335) (L' := [(3, .int v1), (0, .ref 47), (1, .ref p1), (2, .ref p2)]) (S' := [.int (v49 + v52), .int (90 : Int32), .ref p1]) (h' := (hh X g I48)) rfl ?_
            refine Go_iast rfl fun I53 => ?_
            refine Go_blk 6 (pc' := 345) (L' := [(3, .int v1), (0, .ref 47), (1, .ref p1), (2, .ref p2)]) (S' := [.int (1 : Int32), .ref p2, .ref 119, .int (82 : Int32), .ref p1]) (h' := (hh X g I53)) rfl ?_
            refine Go_iald rfl fun v54 => ?_
            refine Go_aald rfl fun r55 => ?_
            refine Go_blk 1 (pc' := 348) (L' := [(3, .int v1), (0, .ref 47), (1, .ref p1), (2, .ref p2)]) (S' := [.int (0 : Int32), .ref r55, .int (82 : Int32), .ref p1]) (h' := (hh X g I53)) rfl ?_
            refine Go_iald rfl fun v56 => ?_
            refine Go_blk 2 (pc' := 351) (L' := [(3, .int v1), (0, .ref 47), (1, .ref p1), (2, .ref p2)]) (S' := [.int (-1 : Int32), .int ((82 : Int32) + v56), .ref p1]) (h' := (hh X g I53)) rfl ?_
            refine Go_iast rfl fun I57 => ?_
            refine Go_blk 1 (pc' := 353) (L' := [(3, .int v1), (0, .ref 47), (1, .ref p1), (2, .ref p2)]) (S' := [.int (1 : Int32)]) (h' := (hh X g I57)) rfl ?_
            exact Go_ret (fun _ h => h) rfl
        refine Go_swd (t := 354) 5 rfl (by decide) (by decide) (by decide) ⟨⟨⟨⟨⟨trivial, h0⟩, h1⟩, h2⟩, h3⟩, h4⟩ rfl ?_
        refine Go_blk 2 (pc' := 356) (L' := [(3, .int v1), (0, .ref 47), (1, .ref p1), (2, .ref p2)]) (S' := [.ref p1, .ref 47]) (h' := (hh X g I)) rfl ?_
        refine Go_cW (y' := 314) (As := [.ref 47, .ref p1]) (r := []) rfl (g_m_dayEnds314 p1 (by omega)) fun w58 => ?_
        exact Go_ret (fun _ h => h) rfl
    ·
      refine Go_blk 2 (pc' := 29) (L' := [(3, .int v1), (0, .ref 47), (1, .ref p1), (2, .ref p2)]) (S' := [.int (0 : Int32), .ref p2]) (h' := (hh X g I)) rfl ?_
      refine Go_iald rfl fun v59 => ?_
      refine Go_sw ?_ fun h0 => ?_
      ·
        refine Go_blk 1 (pc' := 64) (L' := [(3, .int v1), (0, .ref 47), (1, .ref p1), (2, .ref p2)]) (S' := []) (h' := (hh X g I)) rfl ?_
        refine Go_blk 5 (pc' := 69) (L' := [(3, .int v1), (0, .ref 47), (1, .ref p1), (2, .ref p2)]) (S' := [.int (2 : Int32), .ref p2, .int v1, .ref p1, .ref 47]) (h' := (hh X g I)) rfl ?_
        refine Go_iald rfl fun v60 => ?_
        refine Go_cW (y' := 306) (As := [.ref 47, .ref p1, .int v1, .int v60]) (r := []) rfl (g_m_canCut306 p1 v1 v60 (by omega)) fun w61 => ?_
        refine Go_cmzn rfl rfl rfl ?_ ?_
        ·
          refine Go_blk 1 (pc' := 77) (L' := [(3, .int v1), (0, .ref 47), (1, .ref p1), (2, .ref p2)]) (S' := [.int (0 : Int32)]) (h' := (hh X g w61.2)) rfl ?_
          exact Go_ret (fun _ h => h) rfl
        ·
          refine Go_blk 2 (pc' := 81) (L' := [(4, .int (0 : Int32)), (3, .int v1), (0, .ref 47), (1, .ref p1), (2, .ref p2)]) (S' := []) (h' := (hh X g w61.2)) rfl ?_
          refine Go_lcs [(0, .ref 47), (1, .ref p1), (2, .ref p2), (3, .int v1), (4, .int (0 : Int32))] rfl ⟨rfl, rfl, rfl, rfl, rfl, trivial⟩ ?_
          refine Go_seq (pcj := 109) (fun (b63 : MJ) => [(0, .ref 47), (1, .ref p1), (2, .ref p2), (3, .int v1)]) (fun (b63 : MJ) => []) (fun (b63 : MJ) => (hh X g b63)) (fun b63 => ?_) ?_
          ·
            refine Go_blk 2 (pc' := 112) (L' := [(4, .int (0 : Int32)), (0, .ref 47), (1, .ref p1), (2, .ref p2), (3, .int v1)]) (S' := []) (h' := (hh X g b63)) rfl ?_
            refine Go_lcs [(0, .ref 47), (1, .ref p1), (2, .ref p2), (3, .int v1), (4, .int (0 : Int32))] rfl ⟨rfl, rfl, rfl, rfl, rfl, trivial⟩ ?_
            refine Go_seq (pcj := 145) (fun (b65 : MJ) => [(1, .ref p1), (3, .int v1)]) (fun (b65 : MJ) => []) (fun (b65 : MJ) => (hh X g b65)) (fun b65 => ?_) ?_
            ·
              refine Go_blk 6 (pc' := 153) (L' := [(1, .ref p1), (3, .int v1)]) (S' := [.int (89 : Int32), .ref p1, .int ((82 : Int32) + v1), .ref p1]) (h' := (hh X g b65)) rfl ?_
              refine Go_iald rfl fun v66 => ?_
              refine Go_iast rfl fun I67 => ?_
              refine Go_blk 1 (pc' := 156) (L' := [(1, .ref p1), (3, .int v1)]) (S' := [.int (1 : Int32)]) (h' := (hh X g I67)) rfl ?_
              exact Go_ret (fun _ h => h) rfl
            ·
              refine Go_wh (fun (s64 : Int32 × MJ) => [(0, .ref 47), (1, .ref p1), (2, .ref p2), (3, .int v1), (4, .int s64.1)]) (fun _ => []) (fun (s64 : Int32 × MJ) => (hh X g s64.2)) (fun s64 => ?_) ((0 : Int32), b63)
              refine Go_blk 2 (pc' := 116) (L' := [(0, .ref 47), (1, .ref p1), (2, .ref p2), (3, .int v1), (4, .int s64.1)]) (S' := [.int (12 : Int32), .int s64.1]) (h' := (hh X g s64.2)) rfl ?_
              refine Go_cmpn rfl rfl (ab_cge _ _) ?_ ?_
              ·
                refine Go_blk 2 (pc' := 121) (L' := [(0, .ref 47), (1, .ref p1), (2, .ref p2), (3, .int v1), (4, .int s64.1)]) (S' := [.int v1, .ref p1]) (h' := (hh X g s64.2)) rfl ?_
                refine Go_cR (y' := 310) (As := [.int v1]) (r := [.ref p1]) rfl (g_m_suitOf310 v1 (by omega)) fun v68 => ?_
                refine Go_blk 6 (pc' := 133) (L' := [(0, .ref 47), (1, .ref p1), (2, .ref p2), (3, .int v1), (4, .int s64.1)]) (S' := [.int (2 : Int32), .ref p2, .ref 128, .int (v68 + s64.1), .ref p1]) (h' := (hh X g s64.2)) rfl ?_
                refine Go_iald rfl fun v69 => ?_
                refine Go_aald rfl fun r70 => ?_
                refine Go_blk 1 (pc' := 137) (L' := [(0, .ref 47), (1, .ref p1), (2, .ref p2), (3, .int v1), (4, .int s64.1)]) (S' := [.int s64.1, .ref r70, .int (v68 + s64.1), .ref p1]) (h' := (hh X g s64.2)) rfl ?_
                refine Go_iald rfl fun v71 => ?_
                refine Go_iast rfl fun I72 => ?_
                refine Go_blk 2 (pc' := 112) (L' := [(4, .int (s64.1 + (1 : Int32))), (0, .ref 47), (1, .ref p1), (2, .ref p2), (3, .int v1)]) (S' := []) (h' := (hh X g I72)) rfl ?_
                exact Go_jmp [(0, .ref 47), (1, .ref p1), (2, .ref p2), (3, .int v1), (4, .int (s64.1 + (1 : Int32)))] rfl ⟨rfl, rfl, rfl, rfl, rfl, trivial⟩ (fun _ h => h)
              ·
                exact Go_jmp [(1, .ref p1), (3, .int v1)] rfl ⟨rfl, rfl, trivial⟩ (fun _ h => h)
          ·
            refine Go_wh (fun (s62 : Int32 × MJ) => [(0, .ref 47), (1, .ref p1), (2, .ref p2), (3, .int v1), (4, .int s62.1)]) (fun _ => []) (fun (s62 : Int32 × MJ) => (hh X g s62.2)) (fun s62 => ?_) ((0 : Int32), w61.2)
            refine Go_blk 2 (pc' := 85) (L' := [(0, .ref 47), (1, .ref p1), (2, .ref p2), (3, .int v1), (4, .int s62.1)]) (S' := [.int (10 : Int32), .int s62.1]) (h' := (hh X g s62.2)) rfl ?_
            refine Go_cmpn rfl rfl (ab_cge _ _) ?_ ?_
            ·
              refine Go_blk 9 (pc' := 101) (L' := [(0, .ref 47), (1, .ref p1), (2, .ref p2), (3, .int v1), (4, .int s62.1)]) (S' := [.int ((0 : Int32) + s62.1), .ref 599, .int ((0 : Int32) + s62.1), .ref p1]) (h' := (hh X g s62.2)) rfl ?_
              refine Go_iald rfl fun v73 => ?_
              refine Go_iast rfl fun I74 => ?_
              refine Go_blk 2 (pc' := 81) (L' := [(4, .int (s62.1 + (1 : Int32))), (0, .ref 47), (1, .ref p1), (2, .ref p2), (3, .int v1)]) (S' := []) (h' := (hh X g I74)) rfl ?_
              exact Go_jmp [(0, .ref 47), (1, .ref p1), (2, .ref p2), (3, .int v1), (4, .int (s62.1 + (1 : Int32)))] rfl ⟨rfl, rfl, rfl, rfl, rfl, trivial⟩ (fun _ h => h)
            ·
              exact Go_jmp [(0, .ref 47), (1, .ref p1), (2, .ref p2), (3, .int v1)] rfl ⟨rfl, rfl, rfl, rfl, trivial⟩ (fun _ h => h)
      refine Go_sw ?_ fun h1 => ?_
      ·
        refine Go_blk 1 (pc' := 157) (L' := [(3, .int v1), (0, .ref 47), (1, .ref p1), (2, .ref p2)]) (S' := []) (h' := (hh X g I)) rfl ?_
        refine Go_blk 4 (pc' := 161) (L' := [(3, .int v1), (0, .ref 47), (1, .ref p1), (2, .ref p2)]) (S' := [.int (3 : Int32), .ref p2, .ref p1, .ref 47]) (h' := (hh X g I)) rfl ?_
        refine Go_iald rfl fun v75 => ?_
        refine Go_blk 1 (pc' := 163) (L' := [(3, .int v1), (0, .ref 47), (1, .ref p1), (2, .ref p2)]) (S' := [.int (1 : Int32), .int v75, .ref p1, .ref 47]) (h' := (hh X g I)) rfl ?_
        refine Go_cR (y' := 309) (As := [.ref 47, .ref p1, .int v75, .int (1 : Int32)]) (r := []) rfl (g_m_boltFor309 p1 v75 (1 : Int32) (by omega)) fun v76 => ?_
        refine Go_blk 3 (pc' := 170) (L' := [(4, .int v76), (3, .int v1), (0, .ref 47), (1, .ref p1), (2, .ref p2)]) (S' := [.int v1, .ref p1]) (h' := (hh X g I)) rfl ?_
        refine Go_cR (y' := 310) (As := [.int v1]) (r := [.ref p1]) rfl (g_m_suitOf310 v1 (by omega)) fun v77 => ?_
        refine Go_blk 2 (pc' := 175) (L' := [(4, .int v76), (3, .int v1), (0, .ref 47), (1, .ref p1), (2, .ref p2)]) (S' := [.int (2 : Int32), .ref p2, .int v77, .ref p1]) (h' := (hh X g I)) rfl ?_
        refine Go_iald rfl fun v78 => ?_
        refine Go_blk 1 (pc' := 177) (L' := [(4, .int v76), (3, .int v1), (0, .ref 47), (1, .ref p1), (2, .ref p2)]) (S' := [.int (v77 + v78), .ref p1]) (h' := (hh X g I)) rfl ?_
        refine Go_iald rfl fun v79 => ?_
        refine Go_blk 2 (pc' := 180) (L' := [(4, .int v76), (3, .int v1), (0, .ref 47), (1, .ref p1), (2, .ref p2)]) (S' := [.int (3 : Int32), .ref p2, .int v79]) (h' := (hh X g I)) rfl ?_
        refine Go_iald rfl fun v80 => ?_
        refine Go_cmp rfl rfl rfl ?_ ?_
        ·
          refine Go_blk 1 (pc' := 191) (L' := [(4, .int v76), (3, .int v1), (0, .ref 47), (1, .ref p1), (2, .ref p2)]) (S' := [.int (0 : Int32)]) (h' := (hh X g I)) rfl ?_
          exact Go_ret (fun _ h => h) rfl
        ·
          refine Go_blk 2 (pc' := 187) (L' := [(4, .int v76), (3, .int v1), (0, .ref 47), (1, .ref p1), (2, .ref p2)]) (S' := [.int (-1 : Int32), .int v76]) (h' := (hh X g I)) rfl ?_
          refine Go_cmpn rfl rfl rfl ?_ ?_
          ·
            refine Go_blk 1 (pc' := 191) (L' := [(4, .int v76), (3, .int v1), (0, .ref 47), (1, .ref p1), (2, .ref p2)]) (S' := [.int (0 : Int32)]) (h' := (hh X g I)) rfl ?_
            exact Go_ret (fun _ h => h) rfl
          ·
            refine Go_blk 5 (pc' := 198) (L' := [(4, .int v76), (3, .int v1), (0, .ref 47), (1, .ref p1), (2, .ref p2)]) (S' := [.int ((0 : Int32) + v76), .ref p1, .int ((0 : Int32) + v76), .ref p1]) (h' := (hh X g I)) rfl ?_
            refine Go_iald rfl fun v81 => ?_
            refine Go_blk 2 (pc' := 201) (L' := [(4, .int v76), (3, .int v1), (0, .ref 47), (1, .ref p1), (2, .ref p2)]) (S' := [.int (v81 - (1 : Int32)), .int ((0 : Int32) + v76), .ref p1]) (h' := (hh X g I)) rfl ?_
            refine Go_iast rfl fun I82 => ?_
            refine Go_blk 2 (pc' := 204) (L' := [(4, .int v76), (3, .int v1), (0, .ref 47), (1, .ref p1), (2, .ref p2)]) (S' := [.int v1, .ref p1]) (h' := (hh X g I82)) rfl ?_
            refine Go_cR (y' := 310) (As := [.int v1]) (r := [.ref p1]) rfl (g_m_suitOf310 v1 (by omega)) fun v83 => ?_
            refine Go_blk 2 (pc' := 209) (L' := [(4, .int v76), (3, .int v1), (0, .ref 47), (1, .ref p1), (2, .ref p2)]) (S' := [.int (2 : Int32), .ref p2, .int v83, .ref p1]) (h' := (hh X g I82)) rfl ?_
            refine Go_iald rfl fun v84 => ?_
            refine Go_blk 3 (pc' := 213) (L' := [(4, .int v76), (3, .int v1), (0, .ref 47), (1, .ref p1), (2, .ref p2)]) (S' := [.int (3 : Int32), .ref p2, .int (v83 + v84), .ref p1]) (h' := (hh X g I82)) rfl ?_
            refine Go_iald rfl fun v85 => ?_
            refine Go_iast rfl fun I86 => ?_
            refine Go_blk 1 (pc' := 216) (L' := [(4, .int v76), (3, .int v1), (0, .ref 47), (1, .ref p1), (2, .ref p2)]) (S' := [.int (1 : Int32)]) (h' := (hh X g I86)) rfl ?_
            exact Go_ret (fun _ h => h) rfl
      refine Go_sw ?_ fun h2 => ?_
      ·
        refine Go_blk 1 (pc' := 217) (L' := [(3, .int v1), (0, .ref 47), (1, .ref p1), (2, .ref p2)]) (S' := []) (h' := (hh X g I)) rfl ?_
        refine Go_blk 2 (pc' := 220) (L' := [(4, .int (0 : Int32)), (3, .int v1), (0, .ref 47), (1, .ref p1), (2, .ref p2)]) (S' := []) (h' := (hh X g I)) rfl ?_
        refine Go_lcs [(1, .ref p1), (3, .int v1), (4, .int (0 : Int32))] rfl ⟨rfl, rfl, rfl, trivial⟩ ?_
        refine Go_seq (pcj := 283) (fun (b88 : MJ) => []) (fun (b88 : MJ) => []) (fun (b88 : MJ) => (hh X g b88)) (fun b88 => ?_) ?_
        ·
          refine Go_blk 1 (pc' := 284) (L' := []) (S' := [.int (1 : Int32)]) (h' := (hh X g b88)) rfl ?_
          exact Go_ret (fun _ h => h) rfl
        ·
          refine Go_wh (fun (s87 : Int32 × MJ) => [(1, .ref p1), (3, .int v1), (4, .int s87.1)]) (fun _ => []) (fun (s87 : Int32 × MJ) => (hh X g s87.2)) (fun s87 => ?_) ((0 : Int32), I)
          refine Go_blk 2 (pc' := 224) (L' := [(1, .ref p1), (3, .int v1), (4, .int s87.1)]) (S' := [.int (6 : Int32), .int s87.1]) (h' := (hh X g s87.2)) rfl ?_
          refine Go_cmpn rfl rfl (ab_cge _ _) ?_ ?_
          ·
            refine Go_blk 2 (pc' := 229) (L' := [(1, .ref p1), (3, .int v1), (4, .int s87.1)]) (S' := [.int v1, .ref p1]) (h' := (hh X g s87.2)) rfl ?_
            refine Go_cR (y' := 310) (As := [.int v1]) (r := [.ref p1]) rfl (g_m_suitOf310 v1 (by omega)) fun v89 => ?_
            refine Go_blk 2 (pc' := 235) (L' := [(1, .ref p1), (3, .int v1), (4, .int s87.1)]) (S' := [.int (v89 + s87.1), .ref p1]) (h' := (hh X g s87.2)) rfl ?_
            refine Go_iald rfl fun v90 => ?_
            refine Go_blk 3 (pc' := 240) (L' := [(5, .int v90), (1, .ref p1), (3, .int v1), (4, .int s87.1)]) (S' := [.int v1, .ref p1]) (h' := (hh X g s87.2)) rfl ?_
            refine Go_cR (y' := 310) (As := [.int v1]) (r := [.ref p1]) rfl (g_m_suitOf310 v1 (by omega)) fun v91 => ?_
            refine Go_blk 4 (pc' := 248) (L' := [(5, .int v90), (1, .ref p1), (3, .int v1), (4, .int s87.1)]) (S' := [.int v1, .ref p1, .int (v91 + s87.1), .ref p1]) (h' := (hh X g s87.2)) rfl ?_
            refine Go_cR (y' := 310) (As := [.int v1]) (r := [.ref p1, .int (v91 + s87.1), .ref p1]) rfl (g_m_suitOf310 v1 (by omega)) fun v92 => ?_
            refine Go_blk 6 (pc' := 259) (L' := [(5, .int v90), (1, .ref p1), (3, .int v1), (4, .int s87.1)]) (S' := [.int (((v92 + (12 : Int32)) - (1 : Int32)) - s87.1), .ref p1, .int (v91 + s87.1), .ref p1]) (h' := (hh X g s87.2)) rfl ?_
            refine Go_iald rfl fun v93 => ?_
            refine Go_iast rfl fun I94 => ?_
            refine Go_blk 2 (pc' := 263) (L' := [(5, .int v90), (1, .ref p1), (3, .int v1), (4, .int s87.1)]) (S' := [.int v1, .ref p1]) (h' := (hh X g I94)) rfl ?_
            refine Go_cR (y' := 310) (As := [.int v1]) (r := [.ref p1]) rfl (g_m_suitOf310 v1 (by omega)) fun v95 => ?_
            refine Go_blk 7 (pc' := 276) (L' := [(5, .int v90), (1, .ref p1), (3, .int v1), (4, .int s87.1)]) (S' := [.int v90, .int (((v95 + (12 : Int32)) - (1 : Int32)) - s87.1), .ref p1]) (h' := (hh X g I94)) rfl ?_
            refine Go_iast rfl fun I96 => ?_
            refine Go_blk 2 (pc' := 220) (L' := [(4, .int (s87.1 + (1 : Int32))), (5, .int v90), (1, .ref p1), (3, .int v1)]) (S' := []) (h' := (hh X g I96)) rfl ?_
            exact Go_jmp [(1, .ref p1), (3, .int v1), (4, .int (s87.1 + (1 : Int32)))] rfl ⟨rfl, rfl, rfl, trivial⟩ (fun _ h => h)
          ·
            exact Go_jmp [] rfl trivial (fun _ h => h)
      refine Go_sw ?_ fun h3 => ?_
      ·
        refine Go_blk 1 (pc' := 285) (L' := [(3, .int v1), (0, .ref 47), (1, .ref p1), (2, .ref p2)]) (S' := []) (h' := (hh X g I)) rfl ?_
        refine Go_blk 5 (pc' := 291) (L' := [(3, .int v1), (0, .ref 47), (1, .ref p1), (2, .ref p2)]) (S' := [.int (-1 : Int32), .int ((82 : Int32) + v1), .ref p1]) (h' := (hh X g I)) rfl ?_
        refine Go_iast rfl fun I97 => ?_
        refine Go_blk 1 (pc' := 293) (L' := [(3, .int v1), (0, .ref 47), (1, .ref p1), (2, .ref p2)]) (S' := [.int (1 : Int32)]) (h' := (hh X g I97)) rfl ?_
        exact Go_ret (fun _ h => h) rfl
      refine Go_sw ?_ fun h4 => ?_
      ·
        refine Go_blk 1 (pc' := 294) (L' := [(3, .int v1), (0, .ref 47), (1, .ref p1), (2, .ref p2)]) (S' := []) (h' := (hh X g I)) rfl ?_
        refine Go_blk 4 (pc' := 298) (L' := [(3, .int v1), (0, .ref 47), (1, .ref p1), (2, .ref p2)]) (S' := [.int (1 : Int32), .ref p2, .ref p1, .ref 47]) (h' := (hh X g I)) rfl ?_
        refine Go_iald rfl fun v98 => ?_
        refine Go_cR (y' := 311) (As := [.ref 47, .ref p1, .int v98]) (r := []) rfl (g_m_isReady311 p1 v98 (by omega)) fun v99 => ?_
        refine Go_cmzn rfl rfl rfl ?_ ?_
        ·
          refine Go_blk 1 (pc' := 306) (L' := [(3, .int v1), (0, .ref 47), (1, .ref p1), (2, .ref p2)]) (S' := [.int (0 : Int32)]) (h' := (hh X g I)) rfl ?_
          exact Go_ret (fun _ h => h) rfl
        ·
          refine Go_blk 3 (pc' := 311) (L' := [(3, .int v1), (0, .ref 47), (1, .ref p1), (2, .ref p2)]) (S' := [.int (88 : Int32), .ref p1, .int (88 : Int32), .ref p1]) (h' := (hh X g I)) rfl ?_
          refine Go_iald rfl fun v100 => ?_
          refine Go_blk 3 (pc' := 315) (L' := [(3, .int v1), (0, .ref 47), (1, .ref p1), (2, .ref p2)]) (S' := [.int (1 : Int32), .ref p2, .int (1 : Int32), .int v100, .int (88 : Int32), .ref p1]) (h' := (hh X g I)) rfl ?_
          refine Go_iald rfl fun v101 => ?_
          refine Go_blk 2 (pc' := 318) (L' := [(3, .int v1), (0, .ref 47), (1, .ref p1), (2, .ref p2)]) (S' := [.int (v100 ||| ((1 : Int32) <<< (v101 &&& 31))), .int (88 : Int32), .ref p1]) (h' := (hh X g I)) rfl ?_
          refine Go_iast rfl fun I102 => ?_
          refine Go_blk 3 (pc' := 323) (L' := [(3, .int v1), (0, .ref 47), (1, .ref p1), (2, .ref p2)]) (S' := [.int (90 : Int32), .ref p1, .int (90 : Int32), .ref p1]) (h' := (hh X g I102)) rfl ?_
          refine Go_iald rfl fun v103 => ?_
          refine Go_blk 4 (pc' := 330) (L' := [(3, .int v1), (0, .ref 47), (1, .ref p1), (2, .ref p2)]) (S' := [.int (1 : Int32), .ref p2, .ref 119, .int v103, .int (90 : Int32), .ref p1]) (h' := (hh X g I102)) rfl ?_
          refine Go_iald rfl fun v104 => ?_
          refine Go_aald rfl fun r105 => ?_
          refine Go_blk 1 (pc' := 333) (L' := [(3, .int v1), (0, .ref 47), (1, .ref p1), (2, .ref p2)]) (S' := [.int (3 : Int32), .ref r105, .int v103, .int (90 : Int32), .ref p1]) (h' := (hh X g I102)) rfl ?_
          refine Go_iald rfl fun v106 => ?_
          refine Go_blk 1 (pc' := 335) (L' := [(3, .int v1), (0, .ref 47), (1, .ref p1), (2, .ref p2)]) (S' := [.int (v103 + v106), .int (90 : Int32), .ref p1]) (h' := (hh X g I102)) rfl ?_
          refine Go_iast rfl fun I107 => ?_
          refine Go_blk 6 (pc' := 345) (L' := [(3, .int v1), (0, .ref 47), (1, .ref p1), (2, .ref p2)]) (S' := [.int (1 : Int32), .ref p2, .ref 119, .int (82 : Int32), .ref p1]) (h' := (hh X g I107)) rfl ?_
          refine Go_iald rfl fun v108 => ?_
          refine Go_aald rfl fun r109 => ?_
          refine Go_blk 1 (pc' := 348) (L' := [(3, .int v1), (0, .ref 47), (1, .ref p1), (2, .ref p2)]) (S' := [.int (0 : Int32), .ref r109, .int (82 : Int32), .ref p1]) (h' := (hh X g I107)) rfl ?_
          refine Go_iald rfl fun v110 => ?_
          refine Go_blk 2 (pc' := 351) (L' := [(3, .int v1), (0, .ref 47), (1, .ref p1), (2, .ref p2)]) (S' := [.int (-1 : Int32), .int ((82 : Int32) + v110), .ref p1]) (h' := (hh X g I107)) rfl ?_
          refine Go_iast rfl fun I111 => ?_
          refine Go_blk 1 (pc' := 353) (L' := [(3, .int v1), (0, .ref 47), (1, .ref p1), (2, .ref p2)]) (S' := [.int (1 : Int32)]) (h' := (hh X g I111)) rfl ?_
          exact Go_ret (fun _ h => h) rfl
      refine Go_swd (t := 354) 5 rfl (by decide) (by decide) (by decide) ⟨⟨⟨⟨⟨trivial, h0⟩, h1⟩, h2⟩, h3⟩, h4⟩ rfl ?_
      refine Go_blk 2 (pc' := 356) (L' := [(3, .int v1), (0, .ref 47), (1, .ref p1), (2, .ref p2)]) (S' := [.ref p1, .ref 47]) (h' := (hh X g I)) rfl ?_
      refine Go_cW (y' := 314) (As := [.ref 47, .ref p1]) (r := []) rfl (g_m_dayEnds314 p1 (by omega)) fun w112 => ?_
      exact Go_ret (fun _ h => h) rfl
  ·
    refine Go_blk 2 (pc' := 29) (L' := [(3, .int v1), (0, .ref 47), (1, .ref p1), (2, .ref p2)]) (S' := [.int (0 : Int32), .ref p2]) (h' := (hh X g I)) rfl ?_
    refine Go_iald rfl fun v113 => ?_
    refine Go_sw ?_ fun h0 => ?_
    ·
      refine Go_blk 1 (pc' := 64) (L' := [(3, .int v1), (0, .ref 47), (1, .ref p1), (2, .ref p2)]) (S' := []) (h' := (hh X g I)) rfl ?_
      refine Go_blk 5 (pc' := 69) (L' := [(3, .int v1), (0, .ref 47), (1, .ref p1), (2, .ref p2)]) (S' := [.int (2 : Int32), .ref p2, .int v1, .ref p1, .ref 47]) (h' := (hh X g I)) rfl ?_
      refine Go_iald rfl fun v114 => ?_
      refine Go_cW (y' := 306) (As := [.ref 47, .ref p1, .int v1, .int v114]) (r := []) rfl (g_m_canCut306 p1 v1 v114 (by omega)) fun w115 => ?_
      refine Go_cmzn rfl rfl rfl ?_ ?_
      ·
        refine Go_blk 1 (pc' := 77) (L' := [(3, .int v1), (0, .ref 47), (1, .ref p1), (2, .ref p2)]) (S' := [.int (0 : Int32)]) (h' := (hh X g w115.2)) rfl ?_
        exact Go_ret (fun _ h => h) rfl
      ·
        refine Go_blk 2 (pc' := 81) (L' := [(4, .int (0 : Int32)), (3, .int v1), (0, .ref 47), (1, .ref p1), (2, .ref p2)]) (S' := []) (h' := (hh X g w115.2)) rfl ?_
        refine Go_lcs [(0, .ref 47), (1, .ref p1), (2, .ref p2), (3, .int v1), (4, .int (0 : Int32))] rfl ⟨rfl, rfl, rfl, rfl, rfl, trivial⟩ ?_
        refine Go_seq (pcj := 109) (fun (b117 : MJ) => [(0, .ref 47), (1, .ref p1), (2, .ref p2), (3, .int v1)]) (fun (b117 : MJ) => []) (fun (b117 : MJ) => (hh X g b117)) (fun b117 => ?_) ?_
        ·
          refine Go_blk 2 (pc' := 112) (L' := [(4, .int (0 : Int32)), (0, .ref 47), (1, .ref p1), (2, .ref p2), (3, .int v1)]) (S' := []) (h' := (hh X g b117)) rfl ?_
          refine Go_lcs [(0, .ref 47), (1, .ref p1), (2, .ref p2), (3, .int v1), (4, .int (0 : Int32))] rfl ⟨rfl, rfl, rfl, rfl, rfl, trivial⟩ ?_
          refine Go_seq (pcj := 145) (fun (b119 : MJ) => [(1, .ref p1), (3, .int v1)]) (fun (b119 : MJ) => []) (fun (b119 : MJ) => (hh X g b119)) (fun b119 => ?_) ?_
          ·
            refine Go_blk 6 (pc' := 153) (L' := [(1, .ref p1), (3, .int v1)]) (S' := [.int (89 : Int32), .ref p1, .int ((82 : Int32) + v1), .ref p1]) (h' := (hh X g b119)) rfl ?_
            refine Go_iald rfl fun v120 => ?_
            refine Go_iast rfl fun I121 => ?_
            refine Go_blk 1 (pc' := 156) (L' := [(1, .ref p1), (3, .int v1)]) (S' := [.int (1 : Int32)]) (h' := (hh X g I121)) rfl ?_
            exact Go_ret (fun _ h => h) rfl
          ·
            refine Go_wh (fun (s118 : Int32 × MJ) => [(0, .ref 47), (1, .ref p1), (2, .ref p2), (3, .int v1), (4, .int s118.1)]) (fun _ => []) (fun (s118 : Int32 × MJ) => (hh X g s118.2)) (fun s118 => ?_) ((0 : Int32), b117)
            refine Go_blk 2 (pc' := 116) (L' := [(0, .ref 47), (1, .ref p1), (2, .ref p2), (3, .int v1), (4, .int s118.1)]) (S' := [.int (12 : Int32), .int s118.1]) (h' := (hh X g s118.2)) rfl ?_
            refine Go_cmpn rfl rfl (ab_cge _ _) ?_ ?_
            ·
              refine Go_blk 2 (pc' := 121) (L' := [(0, .ref 47), (1, .ref p1), (2, .ref p2), (3, .int v1), (4, .int s118.1)]) (S' := [.int v1, .ref p1]) (h' := (hh X g s118.2)) rfl ?_
              refine Go_cR (y' := 310) (As := [.int v1]) (r := [.ref p1]) rfl (g_m_suitOf310 v1 (by omega)) fun v122 => ?_
              refine Go_blk 6 (pc' := 133) (L' := [(0, .ref 47), (1, .ref p1), (2, .ref p2), (3, .int v1), (4, .int s118.1)]) (S' := [.int (2 : Int32), .ref p2, .ref 128, .int (v122 + s118.1), .ref p1]) (h' := (hh X g s118.2)) rfl ?_
              refine Go_iald rfl fun v123 => ?_
              refine Go_aald rfl fun r124 => ?_
              refine Go_blk 1 (pc' := 137) (L' := [(0, .ref 47), (1, .ref p1), (2, .ref p2), (3, .int v1), (4, .int s118.1)]) (S' := [.int s118.1, .ref r124, .int (v122 + s118.1), .ref p1]) (h' := (hh X g s118.2)) rfl ?_
              refine Go_iald rfl fun v125 => ?_
              refine Go_iast rfl fun I126 => ?_
              refine Go_blk 2 (pc' := 112) (L' := [(4, .int (s118.1 + (1 : Int32))), (0, .ref 47), (1, .ref p1), (2, .ref p2), (3, .int v1)]) (S' := []) (h' := (hh X g I126)) rfl ?_
              exact Go_jmp [(0, .ref 47), (1, .ref p1), (2, .ref p2), (3, .int v1), (4, .int (s118.1 + (1 : Int32)))] rfl ⟨rfl, rfl, rfl, rfl, rfl, trivial⟩ (fun _ h => h)
            ·
              exact Go_jmp [(1, .ref p1), (3, .int v1)] rfl ⟨rfl, rfl, trivial⟩ (fun _ h => h)
        ·
          refine Go_wh (fun (s116 : Int32 × MJ) => [(0, .ref 47), (1, .ref p1), (2, .ref p2), (3, .int v1), (4, .int s116.1)]) (fun _ => []) (fun (s116 : Int32 × MJ) => (hh X g s116.2)) (fun s116 => ?_) ((0 : Int32), w115.2)
          refine Go_blk 2 (pc' := 85) (L' := [(0, .ref 47), (1, .ref p1), (2, .ref p2), (3, .int v1), (4, .int s116.1)]) (S' := [.int (10 : Int32), .int s116.1]) (h' := (hh X g s116.2)) rfl ?_
          refine Go_cmpn rfl rfl (ab_cge _ _) ?_ ?_
          ·
            refine Go_blk 9 (pc' := 101) (L' := [(0, .ref 47), (1, .ref p1), (2, .ref p2), (3, .int v1), (4, .int s116.1)]) (S' := [.int ((0 : Int32) + s116.1), .ref 599, .int ((0 : Int32) + s116.1), .ref p1]) (h' := (hh X g s116.2)) rfl ?_
            refine Go_iald rfl fun v127 => ?_
            refine Go_iast rfl fun I128 => ?_
            refine Go_blk 2 (pc' := 81) (L' := [(4, .int (s116.1 + (1 : Int32))), (0, .ref 47), (1, .ref p1), (2, .ref p2), (3, .int v1)]) (S' := []) (h' := (hh X g I128)) rfl ?_
            exact Go_jmp [(0, .ref 47), (1, .ref p1), (2, .ref p2), (3, .int v1), (4, .int (s116.1 + (1 : Int32)))] rfl ⟨rfl, rfl, rfl, rfl, rfl, trivial⟩ (fun _ h => h)
          ·
            exact Go_jmp [(0, .ref 47), (1, .ref p1), (2, .ref p2), (3, .int v1)] rfl ⟨rfl, rfl, rfl, rfl, trivial⟩ (fun _ h => h)
    refine Go_sw ?_ fun h1 => ?_
    ·
      refine Go_blk 1 (pc' := 157) (L' := [(3, .int v1), (0, .ref 47), (1, .ref p1), (2, .ref p2)]) (S' := []) (h' := (hh X g I)) rfl ?_
      refine Go_blk 4 (pc' := 161) (L' := [(3, .int v1), (0, .ref 47), (1, .ref p1), (2, .ref p2)]) (S' := [.int (3 : Int32), .ref p2, .ref p1, .ref 47]) (h' := (hh X g I)) rfl ?_
      refine Go_iald rfl fun v129 => ?_
      refine Go_blk 1 (pc' := 163) (L' := [(3, .int v1), (0, .ref 47), (1, .ref p1), (2, .ref p2)]) (S' := [.int (1 : Int32), .int v129, .ref p1, .ref 47]) (h' := (hh X g I)) rfl ?_
      refine Go_cR (y' := 309) (As := [.ref 47, .ref p1, .int v129, .int (1 : Int32)]) (r := []) rfl (g_m_boltFor309 p1 v129 (1 : Int32) (by omega)) fun v130 => ?_
      refine Go_blk 3 (pc' := 170) (L' := [(4, .int v130), (3, .int v1), (0, .ref 47), (1, .ref p1), (2, .ref p2)]) (S' := [.int v1, .ref p1]) (h' := (hh X g I)) rfl ?_
      refine Go_cR (y' := 310) (As := [.int v1]) (r := [.ref p1]) rfl (g_m_suitOf310 v1 (by omega)) fun v131 => ?_
      refine Go_blk 2 (pc' := 175) (L' := [(4, .int v130), (3, .int v1), (0, .ref 47), (1, .ref p1), (2, .ref p2)]) (S' := [.int (2 : Int32), .ref p2, .int v131, .ref p1]) (h' := (hh X g I)) rfl ?_
      refine Go_iald rfl fun v132 => ?_
      refine Go_blk 1 (pc' := 177) (L' := [(4, .int v130), (3, .int v1), (0, .ref 47), (1, .ref p1), (2, .ref p2)]) (S' := [.int (v131 + v132), .ref p1]) (h' := (hh X g I)) rfl ?_
      refine Go_iald rfl fun v133 => ?_
      refine Go_blk 2 (pc' := 180) (L' := [(4, .int v130), (3, .int v1), (0, .ref 47), (1, .ref p1), (2, .ref p2)]) (S' := [.int (3 : Int32), .ref p2, .int v133]) (h' := (hh X g I)) rfl ?_
      refine Go_iald rfl fun v134 => ?_
      refine Go_cmp rfl rfl rfl ?_ ?_
      ·
        refine Go_blk 1 (pc' := 191) (L' := [(4, .int v130), (3, .int v1), (0, .ref 47), (1, .ref p1), (2, .ref p2)]) (S' := [.int (0 : Int32)]) (h' := (hh X g I)) rfl ?_
        exact Go_ret (fun _ h => h) rfl
      ·
        refine Go_blk 2 (pc' := 187) (L' := [(4, .int v130), (3, .int v1), (0, .ref 47), (1, .ref p1), (2, .ref p2)]) (S' := [.int (-1 : Int32), .int v130]) (h' := (hh X g I)) rfl ?_
        refine Go_cmpn rfl rfl rfl ?_ ?_
        ·
          refine Go_blk 1 (pc' := 191) (L' := [(4, .int v130), (3, .int v1), (0, .ref 47), (1, .ref p1), (2, .ref p2)]) (S' := [.int (0 : Int32)]) (h' := (hh X g I)) rfl ?_
          exact Go_ret (fun _ h => h) rfl
        ·
          refine Go_blk 5 (pc' := 198) (L' := [(4, .int v130), (3, .int v1), (0, .ref 47), (1, .ref p1), (2, .ref p2)]) (S' := [.int ((0 : Int32) + v130), .ref p1, .int ((0 : Int32) + v130), .ref p1]) (h' := (hh X g I)) rfl ?_
          refine Go_iald rfl fun v135 => ?_
          refine Go_blk 2 (pc' := 201) (L' := [(4, .int v130), (3, .int v1), (0, .ref 47), (1, .ref p1), (2, .ref p2)]) (S' := [.int (v135 - (1 : Int32)), .int ((0 : Int32) + v130), .ref p1]) (h' := (hh X g I)) rfl ?_
          refine Go_iast rfl fun I136 => ?_
          refine Go_blk 2 (pc' := 204) (L' := [(4, .int v130), (3, .int v1), (0, .ref 47), (1, .ref p1), (2, .ref p2)]) (S' := [.int v1, .ref p1]) (h' := (hh X g I136)) rfl ?_
          refine Go_cR (y' := 310) (As := [.int v1]) (r := [.ref p1]) rfl (g_m_suitOf310 v1 (by omega)) fun v137 => ?_
          refine Go_blk 2 (pc' := 209) (L' := [(4, .int v130), (3, .int v1), (0, .ref 47), (1, .ref p1), (2, .ref p2)]) (S' := [.int (2 : Int32), .ref p2, .int v137, .ref p1]) (h' := (hh X g I136)) rfl ?_
          refine Go_iald rfl fun v138 => ?_
          refine Go_blk 3 (pc' := 213) (L' := [(4, .int v130), (3, .int v1), (0, .ref 47), (1, .ref p1), (2, .ref p2)]) (S' := [.int (3 : Int32), .ref p2, .int (v137 + v138), .ref p1]) (h' := (hh X g I136)) rfl ?_
          refine Go_iald rfl fun v139 => ?_
          refine Go_iast rfl fun I140 => ?_
          refine Go_blk 1 (pc' := 216) (L' := [(4, .int v130), (3, .int v1), (0, .ref 47), (1, .ref p1), (2, .ref p2)]) (S' := [.int (1 : Int32)]) (h' := (hh X g I140)) rfl ?_
          exact Go_ret (fun _ h => h) rfl
    refine Go_sw ?_ fun h2 => ?_
    ·
      refine Go_blk 1 (pc' := 217) (L' := [(3, .int v1), (0, .ref 47), (1, .ref p1), (2, .ref p2)]) (S' := []) (h' := (hh X g I)) rfl ?_
      refine Go_blk 2 (pc' := 220) (L' := [(4, .int (0 : Int32)), (3, .int v1), (0, .ref 47), (1, .ref p1), (2, .ref p2)]) (S' := []) (h' := (hh X g I)) rfl ?_
      refine Go_lcs [(1, .ref p1), (3, .int v1), (4, .int (0 : Int32))] rfl ⟨rfl, rfl, rfl, trivial⟩ ?_
      refine Go_seq (pcj := 283) (fun (b142 : MJ) => []) (fun (b142 : MJ) => []) (fun (b142 : MJ) => (hh X g b142)) (fun b142 => ?_) ?_
      ·
        refine Go_blk 1 (pc' := 284) (L' := []) (S' := [.int (1 : Int32)]) (h' := (hh X g b142)) rfl ?_
        exact Go_ret (fun _ h => h) rfl
      ·
        refine Go_wh (fun (s141 : Int32 × MJ) => [(1, .ref p1), (3, .int v1), (4, .int s141.1)]) (fun _ => []) (fun (s141 : Int32 × MJ) => (hh X g s141.2)) (fun s141 => ?_) ((0 : Int32), I)
        refine Go_blk 2 (pc' := 224) (L' := [(1, .ref p1), (3, .int v1), (4, .int s141.1)]) (S' := [.int (6 : Int32), .int s141.1]) (h' := (hh X g s141.2)) rfl ?_
        refine Go_cmpn rfl rfl (ab_cge _ _) ?_ ?_
        ·
          refine Go_blk 2 (pc' := 229) (L' := [(1, .ref p1), (3, .int v1), (4, .int s141.1)]) (S' := [.int v1, .ref p1]) (h' := (hh X g s141.2)) rfl ?_
          refine Go_cR (y' := 310) (As := [.int v1]) (r := [.ref p1]) rfl (g_m_suitOf310 v1 (by omega)) fun v143 => ?_
          refine Go_blk 2 (pc' := 235) (L' := [(1, .ref p1), (3, .int v1), (4, .int s141.1)]) (S' := [.int (v143 + s141.1), .ref p1]) (h' := (hh X g s141.2)) rfl ?_
          refine Go_iald rfl fun v144 => ?_
          refine Go_blk 3 (pc' := 240) (L' := [(5, .int v144), (1, .ref p1), (3, .int v1), (4, .int s141.1)]) (S' := [.int v1, .ref p1]) (h' := (hh X g s141.2)) rfl ?_
          refine Go_cR (y' := 310) (As := [.int v1]) (r := [.ref p1]) rfl (g_m_suitOf310 v1 (by omega)) fun v145 => ?_
          refine Go_blk 4 (pc' := 248) (L' := [(5, .int v144), (1, .ref p1), (3, .int v1), (4, .int s141.1)]) (S' := [.int v1, .ref p1, .int (v145 + s141.1), .ref p1]) (h' := (hh X g s141.2)) rfl ?_
          refine Go_cR (y' := 310) (As := [.int v1]) (r := [.ref p1, .int (v145 + s141.1), .ref p1]) rfl (g_m_suitOf310 v1 (by omega)) fun v146 => ?_
          refine Go_blk 6 (pc' := 259) (L' := [(5, .int v144), (1, .ref p1), (3, .int v1), (4, .int s141.1)]) (S' := [.int (((v146 + (12 : Int32)) - (1 : Int32)) - s141.1), .ref p1, .int (v145 + s141.1), .ref p1]) (h' := (hh X g s141.2)) rfl ?_
          refine Go_iald rfl fun v147 => ?_
          refine Go_iast rfl fun I148 => ?_
          refine Go_blk 2 (pc' := 263) (L' := [(5, .int v144), (1, .ref p1), (3, .int v1), (4, .int s141.1)]) (S' := [.int v1, .ref p1]) (h' := (hh X g I148)) rfl ?_
          refine Go_cR (y' := 310) (As := [.int v1]) (r := [.ref p1]) rfl (g_m_suitOf310 v1 (by omega)) fun v149 => ?_
          refine Go_blk 7 (pc' := 276) (L' := [(5, .int v144), (1, .ref p1), (3, .int v1), (4, .int s141.1)]) (S' := [.int v144, .int (((v149 + (12 : Int32)) - (1 : Int32)) - s141.1), .ref p1]) (h' := (hh X g I148)) rfl ?_
          refine Go_iast rfl fun I150 => ?_
          refine Go_blk 2 (pc' := 220) (L' := [(4, .int (s141.1 + (1 : Int32))), (5, .int v144), (1, .ref p1), (3, .int v1)]) (S' := []) (h' := (hh X g I150)) rfl ?_
          exact Go_jmp [(1, .ref p1), (3, .int v1), (4, .int (s141.1 + (1 : Int32)))] rfl ⟨rfl, rfl, rfl, trivial⟩ (fun _ h => h)
        ·
          exact Go_jmp [] rfl trivial (fun _ h => h)
    refine Go_sw ?_ fun h3 => ?_
    ·
      refine Go_blk 1 (pc' := 285) (L' := [(3, .int v1), (0, .ref 47), (1, .ref p1), (2, .ref p2)]) (S' := []) (h' := (hh X g I)) rfl ?_
      refine Go_blk 5 (pc' := 291) (L' := [(3, .int v1), (0, .ref 47), (1, .ref p1), (2, .ref p2)]) (S' := [.int (-1 : Int32), .int ((82 : Int32) + v1), .ref p1]) (h' := (hh X g I)) rfl ?_
      refine Go_iast rfl fun I151 => ?_
      refine Go_blk 1 (pc' := 293) (L' := [(3, .int v1), (0, .ref 47), (1, .ref p1), (2, .ref p2)]) (S' := [.int (1 : Int32)]) (h' := (hh X g I151)) rfl ?_
      exact Go_ret (fun _ h => h) rfl
    refine Go_sw ?_ fun h4 => ?_
    ·
      refine Go_blk 1 (pc' := 294) (L' := [(3, .int v1), (0, .ref 47), (1, .ref p1), (2, .ref p2)]) (S' := []) (h' := (hh X g I)) rfl ?_
      refine Go_blk 4 (pc' := 298) (L' := [(3, .int v1), (0, .ref 47), (1, .ref p1), (2, .ref p2)]) (S' := [.int (1 : Int32), .ref p2, .ref p1, .ref 47]) (h' := (hh X g I)) rfl ?_
      refine Go_iald rfl fun v152 => ?_
      refine Go_cR (y' := 311) (As := [.ref 47, .ref p1, .int v152]) (r := []) rfl (g_m_isReady311 p1 v152 (by omega)) fun v153 => ?_
      refine Go_cmzn rfl rfl rfl ?_ ?_
      ·
        refine Go_blk 1 (pc' := 306) (L' := [(3, .int v1), (0, .ref 47), (1, .ref p1), (2, .ref p2)]) (S' := [.int (0 : Int32)]) (h' := (hh X g I)) rfl ?_
        exact Go_ret (fun _ h => h) rfl
      ·
        refine Go_blk 3 (pc' := 311) (L' := [(3, .int v1), (0, .ref 47), (1, .ref p1), (2, .ref p2)]) (S' := [.int (88 : Int32), .ref p1, .int (88 : Int32), .ref p1]) (h' := (hh X g I)) rfl ?_
        refine Go_iald rfl fun v154 => ?_
        refine Go_blk 3 (pc' := 315) (L' := [(3, .int v1), (0, .ref 47), (1, .ref p1), (2, .ref p2)]) (S' := [.int (1 : Int32), .ref p2, .int (1 : Int32), .int v154, .int (88 : Int32), .ref p1]) (h' := (hh X g I)) rfl ?_
        refine Go_iald rfl fun v155 => ?_
        refine Go_blk 2 (pc' := 318) (L' := [(3, .int v1), (0, .ref 47), (1, .ref p1), (2, .ref p2)]) (S' := [.int (v154 ||| ((1 : Int32) <<< (v155 &&& 31))), .int (88 : Int32), .ref p1]) (h' := (hh X g I)) rfl ?_
        refine Go_iast rfl fun I156 => ?_
        refine Go_blk 3 (pc' := 323) (L' := [(3, .int v1), (0, .ref 47), (1, .ref p1), (2, .ref p2)]) (S' := [.int (90 : Int32), .ref p1, .int (90 : Int32), .ref p1]) (h' := (hh X g I156)) rfl ?_
        refine Go_iald rfl fun v157 => ?_
        refine Go_blk 4 (pc' := 330) (L' := [(3, .int v1), (0, .ref 47), (1, .ref p1), (2, .ref p2)]) (S' := [.int (1 : Int32), .ref p2, .ref 119, .int v157, .int (90 : Int32), .ref p1]) (h' := (hh X g I156)) rfl ?_
        refine Go_iald rfl fun v158 => ?_
        refine Go_aald rfl fun r159 => ?_
        refine Go_blk 1 (pc' := 333) (L' := [(3, .int v1), (0, .ref 47), (1, .ref p1), (2, .ref p2)]) (S' := [.int (3 : Int32), .ref r159, .int v157, .int (90 : Int32), .ref p1]) (h' := (hh X g I156)) rfl ?_
        refine Go_iald rfl fun v160 => ?_
        refine Go_blk 1 (pc' := 335) (L' := [(3, .int v1), (0, .ref 47), (1, .ref p1), (2, .ref p2)]) (S' := [.int (v157 + v160), .int (90 : Int32), .ref p1]) (h' := (hh X g I156)) rfl ?_
        refine Go_iast rfl fun I161 => ?_
        refine Go_blk 6 (pc' := 345) (L' := [(3, .int v1), (0, .ref 47), (1, .ref p1), (2, .ref p2)]) (S' := [.int (1 : Int32), .ref p2, .ref 119, .int (82 : Int32), .ref p1]) (h' := (hh X g I161)) rfl ?_
        refine Go_iald rfl fun v162 => ?_
        refine Go_aald rfl fun r163 => ?_
        refine Go_blk 1 (pc' := 348) (L' := [(3, .int v1), (0, .ref 47), (1, .ref p1), (2, .ref p2)]) (S' := [.int (0 : Int32), .ref r163, .int (82 : Int32), .ref p1]) (h' := (hh X g I161)) rfl ?_
        refine Go_iald rfl fun v164 => ?_
        refine Go_blk 2 (pc' := 351) (L' := [(3, .int v1), (0, .ref 47), (1, .ref p1), (2, .ref p2)]) (S' := [.int (-1 : Int32), .int ((82 : Int32) + v164), .ref p1]) (h' := (hh X g I161)) rfl ?_
        refine Go_iast rfl fun I165 => ?_
        refine Go_blk 1 (pc' := 353) (L' := [(3, .int v1), (0, .ref 47), (1, .ref p1), (2, .ref p2)]) (S' := [.int (1 : Int32)]) (h' := (hh X g I165)) rfl ?_
        exact Go_ret (fun _ h => h) rfl
    refine Go_swd (t := 354) 5 rfl (by decide) (by decide) (by decide) ⟨⟨⟨⟨⟨trivial, h0⟩, h1⟩, h2⟩, h3⟩, h4⟩ rfl ?_
    refine Go_blk 2 (pc' := 356) (L' := [(3, .int v1), (0, .ref 47), (1, .ref p1), (2, .ref p2)]) (S' := [.ref p1, .ref 47]) (h' := (hh X g I)) rfl ?_
    refine Go_cW (y' := 314) (As := [.ref 47, .ref p1]) (r := []) rfl (g_m_dayEnds314 p1 (by omega)) fun w166 => ?_
    exact Go_ret (fun _ h => h) rfl
