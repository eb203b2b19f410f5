/-! the machine runs them (written by wip/whole/dec.py) -/
set_option maxRecDepth 1000000 in
set_option maxHeartbeats 4000000 in
theorem G_m_goes303 (r : Int32 → Int32 → MJ → Option (MJ)) (dr : Nat) (hM : 5 ≤ dr) (hr : ∀ (p1 : Int32) (p2 : Int32) (X : XX) (g : GG) (I : MJ), Go dr 303 0 (lv_args 0 [.ref 47, .int p1, .int p2]) [] (hh X g I) (r p1 p2 I) (pV X g)) (p1 : Int32) (p2 : Int32) {X : XX} {g : GG} {I : MJ} {d : Nat} (hd : dr + 1 ≤ d) : Go d 303 0 (lv_args 0 [.ref 47, .int p1, .int p2]) [] (hh X g I) (F_m_goes303 r p1 p2 I) (pV X g) := by
  obtain ⟨d, rfl⟩ : ∃ k, d = k + 1 := ⟨d - 1, by omega⟩
  unfold F_m_goes303
  refine Go_blk 2 (pc' := 2) (L' := [(3, .int p1), (0, .ref 47), (1, .int p1), (2, .int p2)]) (S' := []) (h' := (hh X g I)) rfl ?_
  refine Go_lcs [(0, .ref 47), (2, .int p2), (3, .int p1)] rfl ⟨rfl, rfl, rfl, trivial⟩ ?_
  refine Go_seq (pcj := 156) (fun (b2 : MJ) => []) (fun (b2 : MJ) => []) (fun (b2 : MJ) => (hh X g b2)) (fun b2 => ?_) ?_
  ·
    exact Go_ret (fun _ h => h) rfl
  ·
    refine Go_wh (fun (s1 : Int32 × MJ) => [(0, .ref 47), (2, .int p2), (3, .int s1.1)]) (fun _ => []) (fun (s1 : Int32 × MJ) => (hh X g s1.2)) (fun s1 => ?_) (p1, I)
    refine Go_blk 2 (pc' := 4) (L' := [(0, .ref 47), (2, .int p2), (3, .int s1.1)]) (S' := [.int p2, .int s1.1]) (h' := (hh X g s1.2)) rfl ?_
    refine Go_cmpn rfl rfl (ab_cge _ _) ?_ ?_
    ·
      refine Go_blk 3 (pc' := 14) (L' := [(0, .ref 47), (2, .int p2), (3, .int s1.1)]) (S' := [.int (200 : Int32), .int (s1.2 47 46)]) (h' := (hh X g s1.2)) rfl ?_
      refine Go_cmpn rfl rfl (ab_cge _ _) ?_ ?_
      ·
        refine Go_blk 9 (pc' := 32) (L' := [(0, .ref 47), (2, .int p2), (3, .int s1.1)]) (S' := [.int s1.1, .ref 495]) (h' := (hh X g (ab_up1 s1.2 47 46 ((s1.2 47 46) + (1 : Int32))))) rfl ?_
        refine Go_aald rfl fun r3 => ?_
        refine Go_blk 1 (pc' := 34) (L' := [(0, .ref 47), (2, .int p2), (3, .int s1.1)]) (S' := [.int (0 : Int32), .ref r3]) (h' := (hh X g (ab_up1 s1.2 47 46 ((s1.2 47 46) + (1 : Int32))))) rfl ?_
        refine Go_iald rfl fun v4 => ?_
        refine Go_blk 1 (pc' := 37) (L' := [(0, .ref 47), (2, .int p2), (3, .int s1.1)]) (S' := [.int (6 : Int32), .int v4]) (h' := (hh X g (ab_up1 s1.2 47 46 ((s1.2 47 46) + (1 : Int32))))) rfl ?_
        refine Go_seq (pcj := 144) (fun (b5 : MJ) => [(0, .ref 47), (2, .int p2), (3, .int s1.1)]) (fun (b5 : MJ) => []) (fun (b5 : MJ) => (hh X g b5)) (fun b5 => ?_) ?_
        ·
          refine Go_blk 3 (pc' := 149) (L' := [(0, .ref 47), (2, .int p2), (3, .int s1.1)]) (S' := [.int s1.1, .ref 495]) (h' := (hh X g b5)) rfl ?_
          refine Go_aald rfl fun r6 => ?_
          refine Go_blk 1 (pc' := 151) (L' := [(0, .ref 47), (2, .int p2), (3, .int s1.1)]) (S' := [.int (4 : Int32), .ref r6]) (h' := (hh X g b5)) rfl ?_
          refine Go_iald rfl fun v7 => ?_
          refine Go_blk 2 (pc' := 2) (L' := [(3, .int v7), (0, .ref 47), (2, .int p2)]) (S' := []) (h' := (hh X g b5)) rfl ?_
          exact Go_jmp [(0, .ref 47), (2, .int p2), (3, .int v7)] rfl ⟨rfl, rfl, rfl, trivial⟩ (fun _ h => h)
        ·
          refine Go_cmpn rfl rfl rfl ?_ ?_
          ·
            refine Go_blk 2 (pc' := 43) (L' := [(4, .int (0 : Int32)), (0, .ref 47), (2, .int p2), (3, .int s1.1)]) (S' := []) (h' := (hh X g (ab_up1 s1.2 47 46 ((s1.2 47 46) + (1 : Int32))))) rfl ?_
            refine Go_lcs [(0, .ref 47), (2, .int p2), (3, .int s1.1), (4, .int (0 : Int32))] rfl ⟨rfl, rfl, rfl, rfl, trivial⟩ ?_
            refine Go_seq (pcj := 87) (fun (b9 : MJ) => [(0, .ref 47), (2, .int p2), (3, .int s1.1)]) (fun (b9 : MJ) => []) (fun (b9 : MJ) => (hh X g b9)) (fun b9 => ?_) ?_
            ·
              refine Go_blk 1 (pc' := 144) (L' := [(0, .ref 47), (2, .int p2), (3, .int s1.1)]) (S' := []) (h' := (hh X g b9)) rfl ?_
              exact Go_jmp [(0, .ref 47), (2, .int p2), (3, .int s1.1)] rfl ⟨rfl, rfl, rfl, trivial⟩ (fun _ h => h)
            ·
              refine Go_wh (fun (s8 : Int32 × MJ) => [(0, .ref 47), (2, .int p2), (3, .int s1.1), (4, .int s8.1)]) (fun _ => []) (fun (s8 : Int32 × MJ) => (hh X g s8.2)) (fun s8 => ?_) ((0 : Int32), (ab_up1 s1.2 47 46 ((s1.2 47 46) + (1 : Int32))))
              refine Go_blk 4 (pc' := 50) (L' := [(0, .ref 47), (2, .int p2), (3, .int s1.1), (4, .int s8.1)]) (S' := [.int s1.1, .ref 495, .int s8.1]) (h' := (hh X g s8.2)) rfl ?_
              refine Go_aald rfl fun r10 => ?_
              refine Go_blk 1 (pc' := 52) (L' := [(0, .ref 47), (2, .int p2), (3, .int s1.1), (4, .int s8.1)]) (S' := [.int (1 : Int32), .ref r10, .int s8.1]) (h' := (hh X g s8.2)) rfl ?_
              refine Go_iald rfl fun v11 => ?_
              refine Go_cmpn rfl rfl (ab_cge _ _) ?_ ?_
              ·
                refine Go_blk 3 (pc' := 63) (L' := [(0, .ref 47), (2, .int p2), (3, .int s1.1), (4, .int s8.1)]) (S' := [.int (200 : Int32), .int (s8.2 47 46)]) (h' := (hh X g s8.2)) rfl ?_
                refine Go_cmpn rfl rfl (ab_cge _ _) ?_ ?_
                ·
                  refine Go_blk 7 (pc' := 75) (L' := [(0, .ref 47), (2, .int p2), (3, .int s1.1), (4, .int s8.1)]) (S' := [.int s1.1, .ref 495, .int (s1.1 + (1 : Int32)), .ref 47]) (h' := (hh X g s8.2)) rfl ?_
                  refine Go_aald rfl fun r12 => ?_
                  refine Go_blk 1 (pc' := 77) (L' := [(0, .ref 47), (2, .int p2), (3, .int s1.1), (4, .int s8.1)]) (S' := [.int (4 : Int32), .ref r12, .int (s1.1 + (1 : Int32)), .ref 47]) (h' := (hh X g s8.2)) rfl ?_
                  refine Go_iald rfl fun v13 => ?_
                  refine Go_cV (y' := 303) (As := [.ref 47, .int (s1.1 + (1 : Int32)), .int v13]) (r := []) rfl (Go_dep (by omega) (hr (s1.1 + (1 : Int32)) v13 X g _)) fun I14 => ?_
                  refine Go_blk 2 (pc' := 43) (L' := [(4, .int (s8.1 + (1 : Int32))), (0, .ref 47), (2, .int p2), (3, .int s1.1)]) (S' := []) (h' := (hh X g I14)) rfl ?_
                  exact Go_jmp [(0, .ref 47), (2, .int p2), (3, .int s1.1), (4, .int (s8.1 + (1 : Int32)))] rfl ⟨rfl, rfl, rfl, rfl, trivial⟩ (fun _ h => h)
                ·
                  exact Go_jmp [(0, .ref 47), (2, .int p2), (3, .int s1.1)] rfl ⟨rfl, rfl, rfl, trivial⟩ (fun _ h => h)
              ·
                exact Go_jmp [(0, .ref 47), (2, .int p2), (3, .int s1.1)] rfl ⟨rfl, rfl, rfl, trivial⟩ (fun _ h => h)
          ·
            refine Go_blk 6 (pc' := 100) (L' := [(0, .ref 47), (2, .int p2), (3, .int s1.1)]) (S' := [.int s1.1, .ref 495, .ref 576, .ref 47]) (h' := (hh X g (ab_up1 s1.2 47 46 ((s1.2 47 46) + (1 : Int32))))) rfl ?_
            refine Go_aald rfl fun r15 => ?_
            refine Go_cW (y' := 304) (As := [.ref 47, .ref 576, .ref r15]) (r := []) rfl (g_m_does304 576 r15 (by omega)) fun w16 => ?_
            refine Go_blk 5 (pc' := 113) (L' := [(4, .int w16.1), (0, .ref 47), (2, .int p2), (3, .int s1.1)]) (S' := [.int w16.1, .int (w16.2 47 47), .ref 47]) (h' := (hh X g w16.2)) rfl ?_
            refine Go_seq (pcj := 121) (fun (b17 : Int32) => [(0, .ref 47), (2, .int p2), (3, .int s1.1), (4, .int w16.1)]) (fun (b17 : Int32) => [.int b17, .int (w16.2 47 47), .ref 47]) (fun (b17 : Int32) => (hh X g w16.2)) (fun b17 => ?_) ?_
            ·
              refine Go_blk 6 (pc' := 132) (L' := [(0, .ref 47), (2, .int p2), (3, .int s1.1), (4, .int w16.1)]) (S' := [.int w16.1, .int (w16.2 47 41), .ref 47]) (h' := (hh X g (ab_up1 w16.2 47 47 ((w16.2 47 47) + b17)))) rfl ?_
              refine Go_seq (pcj := 140) (fun (b18 : Int32) => [(0, .ref 47), (2, .int p2), (3, .int s1.1)]) (fun (b18 : Int32) => [.int b18, .int (w16.2 47 41), .ref 47]) (fun (b18 : Int32) => (hh X g (ab_up1 w16.2 47 47 ((w16.2 47 47) + b17)))) (fun b18 => ?_) ?_
              ·
                refine Go_blk 2 (pc' := 144) (L' := [(0, .ref 47), (2, .int p2), (3, .int s1.1)]) (S' := []) (h' := (hh X g (ab_up1 (ab_up1 w16.2 47 47 ((w16.2 47 47) + b17)) 47 41 ((w16.2 47 41) + b18)))) rfl ?_
                exact Go_jmp [(0, .ref 47), (2, .int p2), (3, .int s1.1)] rfl ⟨rfl, rfl, rfl, trivial⟩ (fun _ h => h)
              ·
                refine Go_cmz rfl rfl rfl ?_ ?_
                ·
                  refine Go_blk 1 (pc' := 140) (L' := [(0, .ref 47), (2, .int p2), (3, .int s1.1), (4, .int w16.1)]) (S' := [.int (1 : Int32), .int (w16.2 47 41), .ref 47]) (h' := (hh X g (ab_up1 w16.2 47 47 ((w16.2 47 47) + b17)))) rfl ?_
                  exact Go_jmp [(0, .ref 47), (2, .int p2), (3, .int s1.1)] rfl ⟨rfl, rfl, rfl, trivial⟩ (fun _ h => h)
                ·
                  refine Go_blk 2 (pc' := 140) (L' := [(0, .ref 47), (2, .int p2), (3, .int s1.1), (4, .int w16.1)]) (S' := [.int (0 : Int32), .int (w16.2 47 41), .ref 47]) (h' := (hh X g (ab_up1 w16.2 47 47 ((w16.2 47 47) + b17)))) rfl ?_
                  exact Go_jmp [(0, .ref 47), (2, .int p2), (3, .int s1.1)] rfl ⟨rfl, rfl, rfl, trivial⟩ (fun _ h => h)
            ·
              refine Go_cmz rfl rfl rfl ?_ ?_
              ·
                refine Go_blk 1 (pc' := 121) (L' := [(4, .int w16.1), (0, .ref 47), (2, .int p2), (3, .int s1.1)]) (S' := [.int (0 : Int32), .int (w16.2 47 47), .ref 47]) (h' := (hh X g w16.2)) rfl ?_
                exact Go_jmp [(0, .ref 47), (2, .int p2), (3, .int s1.1), (4, .int w16.1)] rfl ⟨rfl, rfl, rfl, rfl, trivial⟩ (fun _ h => h)
              ·
                refine Go_blk 2 (pc' := 121) (L' := [(4, .int w16.1), (0, .ref 47), (2, .int p2), (3, .int s1.1)]) (S' := [.int (1 : Int32), .int (w16.2 47 47), .ref 47]) (h' := (hh X g w16.2)) rfl ?_
                exact Go_jmp [(0, .ref 47), (2, .int p2), (3, .int s1.1), (4, .int w16.1)] rfl ⟨rfl, rfl, rfl, rfl, trivial⟩ (fun _ h => h)
      ·
        exact Go_jmp [] rfl trivial (fun _ h => h)
    ·
      exact Go_jmp [] rfl trivial (fun _ h => h)
theorem g_m_goes303 (k : Nat) : ∀ (p1 : Int32) (p2 : Int32) {X : XX} {g : GG} {I : MJ} {d : Nat}, 5 + 1 * k ≤ d → Go d 303 0 (lv_args 0 [.ref 47, .int p1, .int p2]) [] (hh X g I) (f_m_goes303 k p1 p2 I) (pV X g) := by
  induction k with
  | zero => intros; exact Go_none
  | succ k ih =>
    intro p1 p2 X g I d hd
    exact G_m_goes303 (f_m_goes303 k) (5 + 1 * k) (by omega) (fun p1 p2 X g I => ih p1 p2 (Nat.le_refl _)) p1 p2 (by omega)
set_option maxRecDepth 1000000 in
set_option maxHeartbeats 4000000 in
theorem g_m_work299 (p1 : Int32) {X : XX} {g : GG} {I : MJ} {d : Nat} (hd : 22 ≤ d) : Go d 299 0 (lv_args 0 [.ref 47, .int p1]) [] (hh X g I) (f_m_work299 p1 I) (pW X g) := by
  obtain ⟨d, rfl⟩ : ∃ k, d = k + 1 := ⟨d - 1, by omega⟩
  unfold f_m_work299
  refine Go_blk 8 (pc' := 12) (L' := [(0, .ref 47), (1, .int p1)]) (S' := [.int (I 47 1), .int (0 : Int32), .int p1, .ref 47]) (h' := (hh X g (ab_up1 I 47 0 (0 : Int32)))) rfl ?_
  refine Go_cR (y' := 264) (As := [.int p1, .int (0 : Int32), .int (I 47 1)]) (r := [.ref 47]) rfl (g_m_in264 p1 (0 : Int32) (I 47 1) (by omega)) fun v1 => ?_
  refine Go_seq (pcj := 30) (fun (b2 : Int32) => [(0, .ref 47), (1, .int p1)]) (fun (b2 : Int32) => [.int b2, .ref 47]) (fun (b2 : Int32) => (hh X g (ab_up1 I 47 0 (0 : Int32)))) (fun b2 => ?_) ?_
  ·
    refine Go_blk 2 (pc' := 32) (L' := [(0, .ref 47), (1, .int p1)]) (S' := [.int (1 : Int32), .int (1 : Int32), .int b2, .ref 47]) (h' := (hh X g (ab_up1 I 47 0 (0 : Int32)))) rfl ?_
    refine Go_cW (y' := 268) (As := [.ref 47, .int b2, .int (1 : Int32), .int (1 : Int32)]) (r := []) rfl (g_m_bad268 b2 (1 : Int32) (1 : Int32) (by omega)) fun w3 => ?_
    refine Go_cmz rfl rfl rfl ?_ ?_
    ·
      refine Go_blk 3 (pc' := 46) (L' := [(0, .ref 47), (1, .int p1)]) (S' := [.int (16 : Int32), .int (w3.2 47 40)]) (h' := (hh X g w3.2)) rfl ?_
      refine Go_cmpn rfl rfl rfl ?_ ?_
      ·
        refine Go_blk 7 (pc' := 61) (L' := [(0, .ref 47), (1, .int p1)]) (S' := [.int (-20 : Int32)]) (h' := (hh X g (ab_up1 (ab_up1 w3.2 47 1 (0 : Int32)) 47 3 (-1 : Int32)))) rfl ?_
        exact Go_ret (fun _ h => h) rfl
      ·
        refine Go_blk 2 (pc' := 64) (L' := [(0, .ref 47), (1, .int p1)]) (S' := [.int p1, .ref 47]) (h' := (hh X g w3.2)) rfl ?_
        refine Go_cV (y' := 269) (As := [.ref 47, .int p1]) (r := []) rfl (g_m_starts269 p1 (by omega)) fun I4 => ?_
        refine Go_blk 3 (pc' := 72) (L' := [(0, .ref 47), (1, .int p1)]) (S' := []) (h' := (hh X g (ab_up1 I4 47 34 (0 : Int32)))) rfl ?_
        refine Go_lcs [(0, .ref 47)] rfl ⟨rfl, trivial⟩ ?_
        refine Go_seq (pcj := 101) (fun (b6 : MJ) => [(0, .ref 47)]) (fun (b6 : MJ) => []) (fun (b6 : MJ) => (hh X g b6)) (fun b6 => ?_) ?_
        ·
          refine Go_blk 2 (pc' := 105) (L' := [(0, .ref 47)]) (S' := [.int (b6 47 5)]) (h' := (hh X g b6)) rfl ?_
          refine Go_cmz rfl rfl rfl ?_ ?_
          ·
            refine Go_blk 9 (pc' := 130) (L' := [(0, .ref 47)]) (S' := [.int (b6 47 40), .ref 578, .ref 576]) (h' := (hh X g (ab_up1 b6 47 3 (-1 : Int32)))) rfl ?_
            refine Go_aald rfl fun r7 => ?_
            refine Go_cV (y' := 302) (As := [.ref 576, .ref r7]) (r := []) rfl (g_m_copies302 576 r7 (by omega)) fun I8 => ?_
            refine Go_blk 19 (pc' := 165) (L' := [(0, .ref 47)]) (S' := [.int (I8 47 34), .int (0 : Int32), .ref 47]) (h' := (hh X g (ab_up1 (ab_up1 (ab_up1 (ab_up1 I8 47 40 ((I8 47 40) + (1 : Int32))) 47 46 (0 : Int32)) 47 47 (0 : Int32)) 47 41 (0 : Int32)))) rfl ?_
            refine Go_cV (y' := 303) (As := [.ref 47, .int (0 : Int32), .int (I8 47 34)]) (r := []) rfl (g_m_goes303 16 (0 : Int32) (I8 47 34) (by omega)) fun I9 => ?_
            refine Go_blk 2 (pc' := 172) (L' := [(0, .ref 47)]) (S' := [.int (I9 47 47)]) (h' := (hh X g I9)) rfl ?_
            exact Go_ret (fun _ h => h) rfl
          ·
            refine Go_blk 1 (pc' := 109) (L' := [(0, .ref 47)]) (S' := [.ref 47]) (h' := (hh X g b6)) rfl ?_
            refine Go_cW (y' := 286) (As := [.ref 47]) (r := []) rfl (g_m_ends286  (by omega)) fun w10 => ?_
            exact Go_ret (fun _ h => h) rfl
        ·
          refine Go_wh (fun (s5 : MJ) => [(0, .ref 47)]) (fun _ => []) (fun (s5 : MJ) => (hh X g s5)) (fun s5 => ?_) (ab_up1 I4 47 34 (0 : Int32))
          refine Go_blk 2 (pc' := 76) (L' := [(0, .ref 47)]) (S' := [.int (s5 47 5)]) (h' := (hh X g s5)) rfl ?_
          refine Go_cmzn rfl rfl rfl ?_ ?_
          ·
            refine Go_blk 4 (pc' := 87) (L' := [(0, .ref 47)]) (S' := [.int (s5 47 2), .int (s5 47 4)]) (h' := (hh X g s5)) rfl ?_
            refine Go_cmpn rfl rfl (ab_cge _ _) ?_ ?_
            ·
              refine Go_blk 1 (pc' := 91) (L' := [(0, .ref 47)]) (S' := [.ref 47]) (h' := (hh X g s5)) rfl ?_
              refine Go_cV (y' := 300) (As := [.ref 47]) (r := []) rfl (g_m_readsStep300 16  (by omega)) fun I11 => ?_
              refine Go_blk 1 (pc' := 95) (L' := [(0, .ref 47)]) (S' := [.ref 47]) (h' := (hh X g I11)) rfl ?_
              refine Go_cV (y' := 270) (As := [.ref 47]) (r := []) rfl (g_m_blanks270  (by omega)) fun I12 => ?_
              refine Go_blk 1 (pc' := 72) (L' := [(0, .ref 47)]) (S' := []) (h' := (hh X g I12)) rfl ?_
              exact Go_jmp [(0, .ref 47)] rfl ⟨rfl, trivial⟩ (fun _ h => h)
            ·
              exact Go_jmp [(0, .ref 47)] rfl ⟨rfl, trivial⟩ (fun _ h => h)
          ·
            exact Go_jmp [(0, .ref 47)] rfl ⟨rfl, trivial⟩ (fun _ h => h)
    ·
      refine Go_blk 1 (pc' := 39) (L' := [(0, .ref 47), (1, .int p1)]) (S' := [.int (0 : Int32)]) (h' := (hh X g w3.2)) rfl ?_
      exact Go_ret (fun _ h => h) rfl
  ·
    refine Go_cmz rfl rfl rfl ?_ ?_
    ·
      refine Go_blk 2 (pc' := 30) (L' := [(0, .ref 47), (1, .int p1)]) (S' := [.int (1 : Int32), .ref 47]) (h' := (hh X g (ab_up1 I 47 0 (0 : Int32)))) rfl ?_
      exact Go_jmp [(0, .ref 47), (1, .int p1)] rfl ⟨rfl, rfl, trivial⟩ (fun _ h => h)
    ·
      refine Go_blk 2 (pc' := 22) (L' := [(0, .ref 47), (1, .int p1)]) (S' := [.int (200 : Int32), .int p1, .ref 47]) (h' := (hh X g (ab_up1 I 47 0 (0 : Int32)))) rfl ?_
      refine Go_cmpn rfl rfl (ab_cle _ _) ?_ ?_
      ·
        refine Go_blk 2 (pc' := 30) (L' := [(0, .ref 47), (1, .int p1)]) (S' := [.int (1 : Int32), .ref 47]) (h' := (hh X g (ab_up1 I 47 0 (0 : Int32)))) rfl ?_
        exact Go_jmp [(0, .ref 47), (1, .int p1)] rfl ⟨rfl, rfl, trivial⟩ (fun _ h => h)
      ·
        refine Go_blk 1 (pc' := 30) (L' := [(0, .ref 47), (1, .int p1)]) (S' := [.int (0 : Int32), .ref 47]) (h' := (hh X g (ab_up1 I 47 0 (0 : Int32)))) rfl ?_
        exact Go_jmp [(0, .ref 47), (1, .int p1)] rfl ⟨rfl, rfl, trivial⟩ (fun _ h => h)
set_option maxRecDepth 1000000 in
set_option maxHeartbeats 4000000 in
theorem g_boo_readFrom138  {X : XX} {g : GG} {I : MJ} {d : Nat} (hd : 3 ≤ d) : Go d 138 0 (lv_args 0 [.ref 35, .ref 1]) [] (hh X g I) (f_boo_readFrom138  I) (pV X g) := by
  obtain ⟨d, rfl⟩ : ∃ k, d = k + 1 := ⟨d - 1, by omega⟩
  unfold f_boo_readFrom138
  refine Go_blk 3 (pc' := 5) (L' := [(0, .ref 35), (1, .ref 1)]) (S' := [.int (-1 : Int32), .ref 37]) (h' := (hh X g I)) rfl ?_
  refine Go_cV (y' := 10) (As := [.ref 37, .int (-1 : Int32)]) (r := []) rfl (g_x_fill10 37 (-1 : Int32) (by omega)) fun I1 => ?_
  refine Go_blk 5 (pc' := 15) (L' := [(2, .int (0 : Int32)), (0, .ref 35), (1, .ref 1)]) (S' := []) (h' := (hh X g (ab_up1 I1 35 4 (0 : Int32)))) rfl ?_
  refine Go_lcs [(0, .ref 35), (1, .ref 1), (2, .int (0 : Int32))] rfl ⟨rfl, rfl, rfl, trivial⟩ ?_
  refine Go_seq (pcj := 93) (fun (b3 : MJ) => []) (fun (b3 : MJ) => []) (fun (b3 : MJ) => (hh X g b3)) (fun b3 => ?_) ?_
  ·
    exact Go_ret (fun _ h => h) rfl
  ·
    refine Go_wh (fun (s2 : Int32 × MJ) => [(0, .ref 35), (1, .ref 1), (2, .int s2.1)]) (fun _ => []) (fun (s2 : Int32 × MJ) => (hh X g s2.2)) (fun s2 => ?_) ((0 : Int32), (ab_up1 I1 35 4 (0 : Int32)))
    refine Go_blk 2 (pc' := 18) (L' := [(0, .ref 35), (1, .ref 1), (2, .int s2.1)]) (S' := [.int (12 : Int32), .int s2.1]) (h' := (hh X g s2.2)) rfl ?_
    refine Go_cmp rfl rfl rfl ?_ ?_
    ·
      exact Go_jmp [] rfl trivial (fun _ h => h)
    ·
      refine Go_blk 1 (pc' := 22) (L' := [(0, .ref 35), (1, .ref 1), (2, .int s2.1)]) (S' := [.ref 1]) (h' := (hh X g s2.2)) rfl ?_
      refine Go_cW (y' := 42) (As := [.ref 1]) (r := []) rfl (g_tap_hasMore42  (by omega)) fun w4 => ?_
      refine Go_cmz rfl rfl rfl ?_ ?_
      ·
        exact Go_jmp [] rfl trivial (fun _ h => h)
      ·
        refine Go_blk 3 (pc' := 32) (L' := [(0, .ref 35), (1, .ref 1), (2, .int s2.1)]) (S' := [.int (11 : Int32), .int (0 : Int32), .ref 1]) (h' := (hh X g w4.2)) rfl ?_
        refine Go_cW (y' := 53) (As := [.ref 1, .int (0 : Int32), .int (11 : Int32)]) (r := []) rfl (g_tap_number53 (0 : Int32) (11 : Int32) (by omega)) fun w5 => ?_
        refine Go_blk 4 (pc' := 41) (L' := [(3, .int w5.1), (0, .ref 35), (1, .ref 1), (2, .int s2.1)]) (S' := [.int w5.1, .ref 37]) (h' := (hh X g w5.2)) rfl ?_
        refine Go_cR (y' := 16) (As := [.ref 37, .int w5.1]) (r := []) rfl (g_x_at16 37 w5.1 (by omega)) fun v6 => ?_
        refine Go_blk 1 (pc' := 45) (L' := [(3, .int w5.1), (0, .ref 35), (1, .ref 1), (2, .int s2.1)]) (S' := [.int (-1 : Int32), .int v6]) (h' := (hh X g w5.2)) rfl ?_
        refine Go_seq (pcj := 57) (fun (b7 : MJ) => [(0, .ref 35), (1, .ref 1), (2, .int s2.1), (3, .int w5.1)]) (fun (b7 : MJ) => []) (fun (b7 : MJ) => (hh X g b7)) (fun b7 => ?_) ?_
        ·
          refine Go_blk 5 (pc' := 65) (L' := [(0, .ref 35), (1, .ref 1), (2, .int s2.1), (3, .int w5.1)]) (S' := [.ref 2000007, .ref 1, .int w5.1, .ref 37]) (h' := (hh X g b7)) rfl ?_
          refine Go_cW (y' := 45) (As := [.ref 1, .ref 2000007]) (r := [.int w5.1, .ref 37]) rfl (g_tap_word45 2000007 (by omega)) fun w8 => ?_
          refine Go_cV (y' := 15) (As := [.ref 37, .int w5.1, .int w8.1]) (r := []) rfl (g_x_put15 37 w5.1 w8.1 (by omega)) fun I9 => ?_
          refine Go_blk 2 (pc' := 74) (L' := [(0, .ref 35), (1, .ref 1), (2, .int s2.1), (3, .int w5.1)]) (S' := [.int (59 : Int32), .ref 1]) (h' := (hh X g I9)) rfl ?_
          refine Go_cV (y' := 58) (As := [.ref 1, .int (59 : Int32)]) (r := []) rfl (g_tap_sign58 (59 : Int32) (by omega)) fun I10 => ?_
          refine Go_blk 8 (pc' := 15) (L' := [(2, .int (s2.1 + (1 : Int32))), (0, .ref 35), (1, .ref 1), (3, .int w5.1)]) (S' := []) (h' := (hh X g (ab_up1 I10 35 4 ((I10 35 4) + (1 : Int32))))) rfl ?_
          exact Go_jmp [(0, .ref 35), (1, .ref 1), (2, .int (s2.1 + (1 : Int32)))] rfl ⟨rfl, rfl, rfl, trivial⟩ (fun _ h => h)
        ·
          refine Go_cmp rfl rfl rfl ?_ ?_
          ·
            exact Go_jmp [(0, .ref 35), (1, .ref 1), (2, .int s2.1), (3, .int w5.1)] rfl ⟨rfl, rfl, rfl, rfl, trivial⟩ (fun _ h => h)
          ·
            refine Go_blk 4 (pc' := 54) (L' := [(3, .int w5.1), (0, .ref 35), (1, .ref 1), (2, .int s2.1)]) (S' := [.int (w5.2 1 4), .int (2 : Int32), .ref 1]) (h' := (hh X g w5.2)) rfl ?_
            refine Go_cV (y' := 50) (As := [.ref 1, .int (2 : Int32), .int (w5.2 1 4)]) (r := []) rfl (g_tap_fail50 (2 : Int32) (w5.2 1 4) (by omega)) fun I11 => ?_
            exact Go_jmp [(0, .ref 35), (1, .ref 1), (2, .int s2.1), (3, .int w5.1)] rfl ⟨rfl, rfl, rfl, rfl, trivial⟩ (fun _ h => h)
set_option maxRecDepth 1000000 in
set_option maxHeartbeats 4000000 in
theorem g_boo_keep139  {X : XX} {g : GG} {I : MJ} {d : Nat} (hd : 1 ≤ d) : Go d 139 0 (lv_args 0 [.ref 35]) [] (hh X g I) (f_boo_keep139  I) (pV X g) := by
  obtain ⟨d, rfl⟩ : ∃ k, d = k + 1 := ⟨d - 1, by omega⟩
  unfold f_boo_keep139
  refine Go_blk 11 (pc' := 20) (L' := [(0, .ref 35)]) (S' := [.int (12 : Int32), .int (0 : Int32), .ref 36, .int (0 : Int32), .ref 37]) (h' := (hh X g (ab_up1 I 35 3 (I 35 4)))) rfl ?_
  refine Go_cV (y' := 22) (As := [.ref 37, .int (0 : Int32), .ref 36, .int (0 : Int32), .int (12 : Int32)]) (r := []) rfl (g_x_copy22 37 (0 : Int32) 36 (0 : Int32) (12 : Int32) (by omega)) fun I1 => ?_
  exact Go_ret (fun _ h => h) rfl
set_option maxRecDepth 1000000 in
set_option maxHeartbeats 4000000 in
theorem g_x_book137 (p1 : Int32) {X : XX} {g : GG} {I : MJ} {d : Nat} (hd : 4 ≤ d) : Go d 137 0 (lv_args 0 [.ref 0, .int p1]) [] (hh X g I) (f_x_book137 p1 I) (pT vI X g) := by
  obtain ⟨d, rfl⟩ : ∃ k, d = k + 1 := ⟨d - 1, by omega⟩
  unfold f_x_book137
  refine Go_blk 3 (pc' := 4) (L' := [(0, .ref 0), (1, .int p1)]) (S' := [.int (100 : Int32), .int p1, .ref 0]) (h' := (hh X g I)) rfl ?_
  refine Go_cT (y' := 37) (As := [.ref 0, .int p1, .int (100 : Int32)]) (r := []) rfl rfl (g_x_needText37 p1 (100 : Int32) (by omega)) fun v1 I2 => ?_
  refine Go_blk 3 (pc' := 12) (L' := [(0, .ref 0), (1, .int p1)]) (S' := [.int p1, .ref 1]) (h' := (hh X g I2)) rfl ?_
  refine Go_cV (y' := 40) (As := [.ref 1, .int p1]) (r := []) rfl (g_tap_open40 p1 (by omega)) fun I3 => ?_
  refine Go_blk 4 (pc' := 23) (L' := [(0, .ref 0), (1, .int p1)]) (S' := [.ref 1, .ref 35]) (h' := (hh X g I3)) rfl ?_
  refine Go_cV (y' := 138) (As := [.ref 35, .ref 1]) (r := []) rfl (g_boo_readFrom138  (by omega)) fun I4 => ?_
  refine Go_blk 2 (pc' := 30) (L' := [(0, .ref 0), (1, .int p1)]) (S' := [.ref 1]) (h' := (hh X g I4)) rfl ?_
  refine Go_cR (y' := 59) (As := [.ref 1]) (r := []) rfl (g_tap_isSound59  (by omega)) fun v5 => ?_
  refine Go_seq (pcj := 43) (fun (b6 : MJ) => [(0, .ref 0)]) (fun (b6 : MJ) => []) (fun (b6 : MJ) => (hh X g b6)) (fun b6 => ?_) ?_
  ·
    refine Go_blk 5 (pc' := 54) (L' := [(0, .ref 0)]) (S' := [.int (b6 35 3), .ref 1]) (h' := (hh X g b6)) rfl ?_
    refine Go_cW (y' := 65) (As := [.ref 1, .int (b6 35 3)]) (r := []) rfl (g_tap_close65 (b6 35 3) (by omega)) fun w7 => ?_
    exact Go_ret (fun _ h => h) rfl
  ·
    refine Go_cmz rfl rfl rfl ?_ ?_
    ·
      exact Go_jmp [(0, .ref 0)] rfl ⟨rfl, trivial⟩ (fun _ h => h)
    ·
      refine Go_blk 2 (pc' := 40) (L' := [(0, .ref 0), (1, .int p1)]) (S' := [.ref 35]) (h' := (hh X g I4)) rfl ?_
      refine Go_cV (y' := 139) (As := [.ref 35]) (r := []) rfl (g_boo_keep139  (by omega)) fun I8 => ?_
      exact Go_jmp [(0, .ref 0)] rfl ⟨rfl, trivial⟩ (fun _ h => h)
set_option maxRecDepth 1000000 in
set_option maxHeartbeats 4000000 in
theorem g_l_book136 (p1 : Int32) {X : XX} {g : GG} {I : MJ} {d : Nat} (hd : 5 ≤ d) : Go d 136 0 (lv_args 0 [.ref 0, .int p1, .ref 698]) [] (hh X g I) (f_l_book136 p1 I g) (pG X) := by
  obtain ⟨d, rfl⟩ : ∃ k, d = k + 1 := ⟨d - 1, by omega⟩
  unfold f_l_book136
  refine Go_blk 4 (pc' := 4) (L' := [(0, .ref 0), (1, .int p1), (2, .ref 698)]) (S' := [.int p1, .ref 0, .int (0 : Int32), .ref 698]) (h' := (hh X g I)) rfl ?_
  refine Go_try (y' := 137) (As := [.ref 0, .int p1]) (r := [.int (0 : Int32), .ref 698]) rfl (g_x_book137 p1 (by omega)) (fun v1 I2 => ?_) (fun E2 I2 => ?_)
  ·
    refine Go_blk 1 (pc' := 8) (L' := [(0, .ref 0), (1, .int p1), (2, .ref 698)]) (S' := [.long (v1.toInt64), .int (0 : Int32), .ref 698]) (h' := (hh X g I2)) rfl ?_
    refine Go_last rfl fun g3 => ?_
    refine Go_blk 2 (pc' := 16) (L' := [(0, .ref 0), (1, .int p1), (2, .ref 698)]) (S' := [.int (0 : Int32)]) (h' := (hh X g3 I2)) rfl ?_
    exact Go_ret (fun _ h => h) rfl
  ·
    refine GX_ite ?_ ?_
    ·
      refine GX_go rfl (t := 13) (k := 3) rfl ?_
      refine Go_blk 1 (pc' := 14) (L' := [(0, .ref 0), (1, .int p1), (2, .ref 698)]) (S' := [.int (1 : Int32)]) (h' := (hh X (thr g) I2)) rfl ?_
      exact Go_ret (fun _ h => h) rfl
    exact GX_none
set_option maxRecDepth 1000000 in
set_option maxHeartbeats 4000000 in
theorem g_m_book322 (p1 : Int32) {X : XX} {g : GG} {I : MJ} {d : Nat} (hd : 6 ≤ d) : Go d 322 0 (lv_args 0 [.ref 47, .int p1]) [] (hh X g I) (f_m_book322 p1 I) (pW X g) := by
  obtain ⟨d, rfl⟩ : ∃ k, d = k + 1 := ⟨d - 1, by omega⟩
  unfold f_m_book322
  refine Go_blk 8 (pc' := 12) (L' := [(0, .ref 47), (1, .int p1)]) (S' := [.int (I 47 1), .int (0 : Int32), .int p1, .ref 47]) (h' := (hh X g (ab_up1 I 47 0 (0 : Int32)))) rfl ?_
  refine Go_cR (y' := 264) (As := [.int p1, .int (0 : Int32), .int (I 47 1)]) (r := [.ref 47]) rfl (g_m_in264 p1 (0 : Int32) (I 47 1) (by omega)) fun v1 => ?_
  refine Go_seq (pcj := 29) (fun (b2 : Int32) => [(0, .ref 47), (1, .int p1)]) (fun (b2 : Int32) => [.int b2, .ref 47]) (fun (b2 : Int32) => (hh X g (ab_up1 I 47 0 (0 : Int32)))) (fun b2 => ?_) ?_
  ·
    refine Go_blk 2 (pc' := 31) (L' := [(0, .ref 47), (1, .int p1)]) (S' := [.int (1 : Int32), .int (1 : Int32), .int b2, .ref 47]) (h' := (hh X g (ab_up1 I 47 0 (0 : Int32)))) rfl ?_
    refine Go_cW (y' := 268) (As := [.ref 47, .int b2, .int (1 : Int32), .int (1 : Int32)]) (r := []) rfl (g_m_bad268 b2 (1 : Int32) (1 : Int32) (by omega)) fun w3 => ?_
    refine Go_cmz rfl rfl rfl ?_ ?_
    ·
      refine Go_blk 2 (pc' := 41) (L' := [(0, .ref 47), (1, .int p1)]) (S' := [.int p1, .ref 47]) (h' := (hh X g w3.2)) rfl ?_
      refine Go_cV (y' := 269) (As := [.ref 47, .int p1]) (r := []) rfl (g_m_starts269 p1 (by omega)) fun I4 => ?_
      refine Go_blk 4 (pc' := 48) (L' := [(3, .int (0 : Int32)), (2, .int (0 : Int32)), (0, .ref 47), (1, .int p1)]) (S' := []) (h' := (hh X g I4)) rfl ?_
      refine Go_lcs [(0, .ref 47), (2, .int (0 : Int32)), (3, .int (0 : Int32))] rfl ⟨rfl, rfl, rfl, trivial⟩ ?_
      refine Go_seq (pcj := 171) (fun (b6 : Int32 × MJ) => [(0, .ref 47), (2, .int b6.1)]) (fun (b6 : Int32 × MJ) => []) (fun (b6 : Int32 × MJ) => (hh X g b6.2)) (fun b6 => ?_) ?_
      ·
        refine Go_blk 2 (pc' := 175) (L' := [(0, .ref 47), (2, .int b6.1)]) (S' := [.int (b6.2 47 5)]) (h' := (hh X g b6.2)) rfl ?_
        refine Go_cmz rfl rfl rfl ?_ ?_
        ·
          refine Go_blk 11 (pc' := 202) (L' := [(0, .ref 47), (2, .int b6.1)]) (S' := [.int b6.1, .ref 467, .ref 480]) (h' := (hh X g (ab_up1 (ab_up1 b6.2 47 3 (-1 : Int32)) 47 39 b6.1))) rfl ?_
          refine Go_cV (y' := 263) (As := [.ref 480, .ref 467, .int b6.1]) (r := []) rfl (g_m_lays263 480 467 b6.1 (by omega)) fun I7 => ?_
          refine Go_blk 1 (pc' := 206) (L' := [(0, .ref 47), (2, .int b6.1)]) (S' := [.int b6.1]) (h' := (hh X g I7)) rfl ?_
          exact Go_ret (fun _ h => h) rfl
        ·
          refine Go_blk 1 (pc' := 179) (L' := [(0, .ref 47), (2, .int b6.1)]) (S' := [.ref 47]) (h' := (hh X g b6.2)) rfl ?_
          refine Go_cW (y' := 286) (As := [.ref 47]) (r := []) rfl (g_m_ends286  (by omega)) fun w8 => ?_
          exact Go_ret (fun _ h => h) rfl
      ·
        refine Go_wh (fun (s5 : Int32 × Int32 × MJ) => [(0, .ref 47), (2, .int s5.1), (3, .int s5.2.1)]) (fun _ => []) (fun (s5 : Int32 × Int32 × MJ) => (hh X g s5.2.2)) (fun s5 => ?_) ((0 : Int32), (0 : Int32), I4)
        refine Go_blk 2 (pc' := 52) (L' := [(0, .ref 47), (2, .int s5.1), (3, .int s5.2.1)]) (S' := [.int (s5.2.2 47 5)]) (h' := (hh X g s5.2.2)) rfl ?_
        refine Go_cmzn rfl rfl rfl ?_ ?_
        ·
          refine Go_blk 4 (pc' := 63) (L' := [(0, .ref 47), (2, .int s5.1), (3, .int s5.2.1)]) (S' := [.int (s5.2.2 47 2), .int (s5.2.2 47 4)]) (h' := (hh X g s5.2.2)) rfl ?_
          refine Go_cmpn rfl rfl (ab_cge _ _) ?_ ?_
          ·
            refine Go_blk 6 (pc' := 76) (L' := [(4, .int (s5.2.2 47 4)), (0, .ref 47), (2, .int s5.1), (3, .int s5.2.1)]) (S' := [.int (11 : Int32), .int (0 : Int32), .ref 47]) (h' := (hh X g s5.2.2)) rfl ?_
            refine Go_cW (y' := 283) (As := [.ref 47, .int (0 : Int32), .int (11 : Int32)]) (r := []) rfl (g_m_number283 (0 : Int32) (11 : Int32) (by omega)) fun w9 => ?_
            refine Go_blk 3 (pc' := 85) (L' := [(5, .int w9.1), (4, .int (s5.2.2 47 4)), (0, .ref 47), (2, .int s5.1), (3, .int s5.2.1)]) (S' := [.int (w9.2 47 5)]) (h' := (hh X g w9.2)) rfl ?_
            refine Go_seq (pcj := 104) (fun (b10 : MJ) => [(0, .ref 47), (2, .int s5.1), (3, .int s5.2.1), (5, .int w9.1)]) (fun (b10 : MJ) => []) (fun (b10 : MJ) => (hh X g b10)) (fun b10 => ?_) ?_
            ·
              refine Go_blk 2 (pc' := 108) (L' := [(0, .ref 47), (2, .int s5.1), (3, .int s5.2.1), (5, .int w9.1)]) (S' := [.int (b10 47 5)]) (h' := (hh X g b10)) rfl ?_
              refine Go_seq (pcj := 119) (fun (b11 : Int32 × MJ) => [(0, .ref 47), (2, .int s5.1), (3, .int s5.2.1), (5, .int w9.1)]) (fun (b11 : Int32 × MJ) => [.int b11.1]) (fun (b11 : Int32 × MJ) => (hh X g b11.2)) (fun b11 => ?_) ?_
              ·
                refine Go_blk 3 (pc' := 124) (L' := [(6, .int b11.1), (0, .ref 47), (2, .int s5.1), (3, .int s5.2.1), (5, .int w9.1)]) (S' := [.int (59 : Int32), .ref 47]) (h' := (hh X g b11.2)) rfl ?_
                refine Go_cV (y' := 285) (As := [.ref 47, .int (59 : Int32)]) (r := []) rfl (g_m_sign285 (59 : Int32) (by omega)) fun I12 => ?_
                refine Go_blk 2 (pc' := 131) (L' := [(6, .int b11.1), (0, .ref 47), (2, .int s5.1), (3, .int s5.2.1), (5, .int w9.1)]) (S' := [.int (I12 47 5)]) (h' := (hh X g I12)) rfl ?_
                refine Go_seq (pcj := 164) (fun (b13 : Int32 × Int32 × MJ) => [(0, .ref 47), (2, .int b13.1), (3, .int b13.2.1)]) (fun (b13 : Int32 × Int32 × MJ) => []) (fun (b13 : Int32 × Int32 × MJ) => (hh X g b13.2.2)) (fun b13 => ?_) ?_
                ·
                  refine Go_blk 1 (pc' := 165) (L' := [(0, .ref 47), (2, .int b13.1), (3, .int b13.2.1)]) (S' := [.ref 47]) (h' := (hh X g b13.2.2)) rfl ?_
                  refine Go_cV (y' := 270) (As := [.ref 47]) (r := []) rfl (g_m_blanks270  (by omega)) fun I14 => ?_
                  refine Go_blk 1 (pc' := 48) (L' := [(0, .ref 47), (2, .int b13.1), (3, .int b13.2.1)]) (S' := []) (h' := (hh X g I14)) rfl ?_
                  exact Go_jmp [(0, .ref 47), (2, .int b13.1), (3, .int b13.2.1)] rfl ⟨rfl, rfl, rfl, trivial⟩ (fun _ h => h)
                ·
                  refine Go_cmzn rfl rfl rfl ?_ ?_
                  ·
                    refine Go_blk 9 (pc' := 146) (L' := [(3, .int (s5.2.1 ||| ((1 : Int32) <<< (w9.1 &&& 31)))), (6, .int b11.1), (0, .ref 47), (2, .int s5.1), (5, .int w9.1)]) (S' := [.int s5.1, .ref 480]) (h' := (hh X g I12)) rfl ?_
                    refine Go_aald rfl fun r15 => ?_
                    refine Go_blk 2 (pc' := 150) (L' := [(3, .int (s5.2.1 ||| ((1 : Int32) <<< (w9.1 &&& 31)))), (6, .int b11.1), (0, .ref 47), (2, .int s5.1), (5, .int w9.1)]) (S' := [.int w9.1, .int (0 : Int32), .ref r15]) (h' := (hh X g I12)) rfl ?_
                    refine Go_iast rfl fun I16 => ?_
                    refine Go_blk 3 (pc' := 156) (L' := [(3, .int (s5.2.1 ||| ((1 : Int32) <<< (w9.1 &&& 31)))), (6, .int b11.1), (0, .ref 47), (2, .int s5.1), (5, .int w9.1)]) (S' := [.int s5.1, .ref 480]) (h' := (hh X g I16)) rfl ?_
                    refine Go_aald rfl fun r17 => ?_
                    refine Go_blk 2 (pc' := 160) (L' := [(3, .int (s5.2.1 ||| ((1 : Int32) <<< (w9.1 &&& 31)))), (6, .int b11.1), (0, .ref 47), (2, .int s5.1), (5, .int w9.1)]) (S' := [.int b11.1, .int (1 : Int32), .ref r17]) (h' := (hh X g I16)) rfl ?_
                    refine Go_iast rfl fun I18 => ?_
                    refine Go_blk 1 (pc' := 164) (L' := [(2, .int (s5.1 + (1 : Int32))), (3, .int (s5.2.1 ||| ((1 : Int32) <<< (w9.1 &&& 31)))), (6, .int b11.1), (0, .ref 47), (5, .int w9.1)]) (S' := []) (h' := (hh X g I18)) rfl ?_
                    exact Go_jmp [(0, .ref 47), (2, .int (s5.1 + (1 : Int32))), (3, .int (s5.2.1 ||| ((1 : Int32) <<< (w9.1 &&& 31))))] rfl ⟨rfl, rfl, rfl, trivial⟩ (fun _ h => h)
                  ·
                    exact Go_jmp [(0, .ref 47), (2, .int s5.1), (3, .int s5.2.1)] rfl ⟨rfl, rfl, rfl, trivial⟩ (fun _ h => h)
              ·
                refine Go_cmzn rfl rfl rfl ?_ ?_
                ·
                  refine Go_blk 1 (pc' := 112) (L' := [(0, .ref 47), (2, .int s5.1), (3, .int s5.2.1), (5, .int w9.1)]) (S' := [.ref 47]) (h' := (hh X g b10)) rfl ?_
                  refine Go_cW (y' := 281) (As := [.ref 47]) (r := []) rfl (g_m_skyHere281  (by omega)) fun w19 => ?_
                  refine Go_blk 1 (pc' := 119) (L' := [(0, .ref 47), (2, .int s5.1), (3, .int s5.2.1), (5, .int w9.1)]) (S' := [.int w19.1]) (h' := (hh X g w19.2)) rfl ?_
                  exact Go_jmp [(0, .ref 47), (2, .int s5.1), (3, .int s5.2.1), (5, .int w9.1)] rfl ⟨rfl, rfl, rfl, rfl, trivial⟩ (fun _ h => h)
                ·
                  refine Go_blk 1 (pc' := 119) (L' := [(0, .ref 47), (2, .int s5.1), (3, .int s5.2.1), (5, .int w9.1)]) (S' := [.int (0 : Int32)]) (h' := (hh X g b10)) rfl ?_
                  exact Go_jmp [(0, .ref 47), (2, .int s5.1), (3, .int s5.2.1), (5, .int w9.1)] rfl ⟨rfl, rfl, rfl, rfl, trivial⟩ (fun _ h => h)
            ·
              refine Go_cmzn rfl rfl rfl ?_ ?_
              ·
                refine Go_blk 2 (pc' := 91) (L' := [(5, .int w9.1), (4, .int (s5.2.2 47 4)), (0, .ref 47), (2, .int s5.1), (3, .int s5.2.1)]) (S' := [.int w9.1, .int s5.2.1]) (h' := (hh X g w9.2)) rfl ?_
                refine Go_cR (y' := 313) (As := [.int s5.2.1, .int w9.1]) (r := []) rfl (g_m_has313 s5.2.1 w9.1 (by omega)) fun v20 => ?_
                refine Go_cmz rfl rfl rfl ?_ ?_
                ·
                  exact Go_jmp [(0, .ref 47), (2, .int s5.1), (3, .int s5.2.1), (5, .int w9.1)] rfl ⟨rfl, rfl, rfl, rfl, trivial⟩ (fun _ h => h)
                ·
                  refine Go_blk 3 (pc' := 101) (L' := [(5, .int w9.1), (4, .int (s5.2.2 47 4)), (0, .ref 47), (2, .int s5.1), (3, .int s5.2.1)]) (S' := [.int (s5.2.2 47 4), .int (2 : Int32), .ref 47]) (h' := (hh X g w9.2)) rfl ?_
                  refine Go_cV (y' := 278) (As := [.ref 47, .int (2 : Int32), .int (s5.2.2 47 4)]) (r := []) rfl (g_m_wrong278 (2 : Int32) (s5.2.2 47 4) (by omega)) fun I21 => ?_
                  exact Go_jmp [(0, .ref 47), (2, .int s5.1), (3, .int s5.2.1), (5, .int w9.1)] rfl ⟨rfl, rfl, rfl, rfl, trivial⟩ (fun _ h => h)
              ·
                exact Go_jmp [(0, .ref 47), (2, .int s5.1), (3, .int s5.2.1), (5, .int w9.1)] rfl ⟨rfl, rfl, rfl, rfl, trivial⟩ (fun _ h => h)
          ·
            exact Go_jmp [(0, .ref 47), (2, .int s5.1)] rfl ⟨rfl, rfl, trivial⟩ (fun _ h => h)
        ·
          exact Go_jmp [(0, .ref 47), (2, .int s5.1)] rfl ⟨rfl, rfl, trivial⟩ (fun _ h => h)
    ·
      refine Go_blk 1 (pc' := 38) (L' := [(0, .ref 47), (1, .int p1)]) (S' := [.int (0 : Int32)]) (h' := (hh X g w3.2)) rfl ?_
      exact Go_ret (fun _ h => h) rfl
  ·
    refine Go_cmz rfl rfl rfl ?_ ?_
    ·
      refine Go_blk 2 (pc' := 29) (L' := [(0, .ref 47), (1, .int p1)]) (S' := [.int (1 : Int32), .ref 47]) (h' := (hh X g (ab_up1 I 47 0 (0 : Int32)))) rfl ?_
      exact Go_jmp [(0, .ref 47), (1, .int p1)] rfl ⟨rfl, rfl, trivial⟩ (fun _ h => h)
    ·
      refine Go_blk 2 (pc' := 21) (L' := [(0, .ref 47), (1, .int p1)]) (S' := [.int (100 : Int32), .int p1, .ref 47]) (h' := (hh X g (ab_up1 I 47 0 (0 : Int32)))) rfl ?_
      refine Go_cmpn rfl rfl (ab_cle _ _) ?_ ?_
      ·
        refine Go_blk 2 (pc' := 29) (L' := [(0, .ref 47), (1, .int p1)]) (S' := [.int (1 : Int32), .ref 47]) (h' := (hh X g (ab_up1 I 47 0 (0 : Int32)))) rfl ?_
        exact Go_jmp [(0, .ref 47), (1, .int p1)] rfl ⟨rfl, rfl, trivial⟩ (fun _ h => h)
      ·
        refine Go_blk 1 (pc' := 29) (L' := [(0, .ref 47), (1, .int p1)]) (S' := [.int (0 : Int32), .ref 47]) (h' := (hh X g (ab_up1 I 47 0 (0 : Int32)))) rfl ?_
        exact Go_jmp [(0, .ref 47), (1, .int p1)] rfl ⟨rfl, rfl, trivial⟩ (fun _ h => h)
set_option maxRecDepth 1000000 in
set_option maxHeartbeats 4000000 in
theorem g_x_fault19  {X : XX} {g : GG} {I : MJ} {d : Nat} (hd : 0 ≤ d) : Go d 19 0 (lv_args 0 [.ref 0]) [] (hh X g I) (f_x_fault19  I) (pR X g I) := by
  unfold f_x_fault19
  refine Go_blk 3 (pc' := 7) (L' := [(0, .ref 0)]) (S' := [.int (I 1 6)]) (h' := (hh X g I)) rfl ?_
  exact Go_ret (fun _ h => h) rfl
set_option maxRecDepth 1000000 in
set_option maxHeartbeats 4000000 in
theorem g_m_fault323  {X : XX} {g : GG} {I : MJ} {d : Nat} (hd : 0 ≤ d) : Go d 323 0 (lv_args 0 [.ref 47]) [] (hh X g I) (f_m_fault323  I) (pW X g) := by
  unfold f_m_fault323
  refine Go_blk 5 (pc' := 9) (L' := [(0, .ref 47)]) (S' := [.int (I 47 3)]) (h' := (hh X g (ab_up1 I 47 0 (0 : Int32)))) rfl ?_
  exact Go_ret (fun _ h => h) rfl
set_option maxRecDepth 1000000 in
set_option maxHeartbeats 4000000 in
theorem g_pas_takeWork21  {X : XX} {g : GG} {I : MJ} {d : Nat} (hd : 1 ≤ d) : Go d 21 0 (lv_args 0 [.ref 31, .ref 15]) [] (hh X g I) (f_pas_takeWork21  I) (pV X g) := by
  obtain ⟨d, rfl⟩ : ∃ k, d = k + 1 := ⟨d - 1, by omega⟩
  unfold f_pas_takeWork21
  refine Go_blk 16 (pc' := 28) (L' := [(0, .ref 31), (1, .ref 15)]) (S' := [.int (91 : Int32), .int (0 : Int32), .ref 16, .int (((I 31 3) - (1 : Int32)) * (91 : Int32)), .ref 32]) (h' := (hh X g (ab_up1 I 31 3 ((I 31 3) - (1 : Int32))))) rfl ?_
  refine Go_cV (y' := 22) (As := [.ref 32, .int (((I 31 3) - (1 : Int32)) * (91 : Int32)), .ref 16, .int (0 : Int32), .int (91 : Int32)]) (r := []) rfl (g_x_copy22 32 (((I 31 3) - (1 : Int32)) * (91 : Int32)) 16 (0 : Int32) (91 : Int32) (by omega)) fun I1 => ?_
  exact Go_ret (fun _ h => h) rfl
set_option maxRecDepth 1000000 in
set_option maxHeartbeats 4000000 in
theorem g_x_undo20  {X : XX} {g : GG} {I : MJ} {d : Nat} (hd : 2 ≤ d) : Go d 20 0 (lv_args 0 [.ref 0]) [] (hh X g I) (f_x_undo20  I) (pW X g) := by
  obtain ⟨d, rfl⟩ : ∃ k, d = k + 1 := ⟨d - 1, by omega⟩
  unfold f_x_undo20
  refine Go_blk 3 (pc' := 7) (L' := [(0, .ref 0)]) (S' := [.int (I 31 3)]) (h' := (hh X g I)) rfl ?_
  refine Go_cmzn rfl rfl rfl ?_ ?_
  ·
    refine Go_blk 1 (pc' := 11) (L' := [(0, .ref 0)]) (S' := [.int (-1 : Int32)]) (h' := (hh X g I)) rfl ?_
    exact Go_ret (fun _ h => h) rfl
  ·
    refine Go_blk 4 (pc' := 20) (L' := [(0, .ref 0)]) (S' := [.ref 15, .ref 31]) (h' := (hh X g I)) rfl ?_
    refine Go_cV (y' := 21) (As := [.ref 31, .ref 15]) (r := []) rfl (g_pas_takeWork21  (by omega)) fun I1 => ?_
    refine Go_blk 6 (pc' := 35) (L' := [(0, .ref 0)]) (S' := [.int (I1 31 3)]) (h' := (hh X g (ab_up1 I1 0 13 (0 : Int32)))) rfl ?_
    exact Go_ret (fun _ h => h) rfl
set_option maxRecDepth 1000000 in
set_option maxHeartbeats 4000000 in
theorem g_m_undo321  {X : XX} {g : GG} {I : MJ} {d : Nat} (hd : 1 ≤ d) : Go d 321 0 (lv_args 0 [.ref 47]) [] (hh X g I) (f_m_undo321  I) (pW X g) := by
  obtain ⟨d, rfl⟩ : ∃ k, d = k + 1 := ⟨d - 1, by omega⟩
  unfold f_m_undo321
  refine Go_blk 5 (pc' := 9) (L' := [(0, .ref 47)]) (S' := [.int (I 47 40)]) (h' := (hh X g (ab_up1 I 47 0 (0 : Int32)))) rfl ?_
  refine Go_cmzn rfl rfl rfl ?_ ?_
  ·
    refine Go_blk 1 (pc' := 13) (L' := [(0, .ref 47)]) (S' := [.int (-1 : Int32)]) (h' := (hh X g (ab_up1 I 47 0 (0 : Int32)))) rfl ?_
    exact Go_ret (fun _ h => h) rfl
  ·
    refine Go_blk 10 (pc' := 32) (L' := [(0, .ref 47)]) (S' := [.int ((I 47 40) - (1 : Int32)), .ref 578]) (h' := (hh X g (ab_up1 (ab_up1 I 47 0 (0 : Int32)) 47 40 ((I 47 40) - (1 : Int32))))) rfl ?_
    refine Go_aald rfl fun r1 => ?_
    refine Go_blk 2 (pc' := 37) (L' := [(0, .ref 47)]) (S' := [.ref 576, .ref r1]) (h' := (hh X g (ab_up1 (ab_up1 I 47 0 (0 : Int32)) 47 40 ((I 47 40) - (1 : Int32))))) rfl ?_
    refine Go_cV (y' := 302) (As := [.ref r1, .ref 576]) (r := []) rfl (g_m_copies302 r1 576 (by omega)) fun I2 => ?_
    refine Go_blk 5 (pc' := 49) (L' := [(0, .ref 47)]) (S' := [.int (I2 47 40)]) (h' := (hh X g (ab_up1 I2 47 41 (0 : Int32)))) rfl ?_
    exact Go_ret (fun _ h => h) rfl
set_option maxRecDepth 1000000 in
set_option maxHeartbeats 4000000 in
theorem g_sta_leftOn143_17 (p1 : Int32) {X : XX} {g : GG} {I : MJ} {d : Nat} (hd : 1 ≤ d) : Go d 143 0 (lv_args 0 [.ref 17, .int p1]) [] (hh X g I) (f_sta_leftOn143 17 p1 I) (pR X g I) := by
  obtain ⟨d, rfl⟩ : ∃ k, d = k + 1 := ⟨d - 1, by omega⟩
  unfold f_sta_leftOn143
  refine Go_blk 5 (pc' := 8) (L' := [(0, .ref 17), (1, .int p1)]) (S' := [.int ((9 : Int32) + p1), .ref 18]) (h' := (hh X g I)) rfl ?_
  refine Go_cR (y' := 16) (As := [.ref 18, .int ((9 : Int32) + p1)]) (r := []) rfl (g_x_at16 18 ((9 : Int32) + p1) (by omega)) fun v1 => ?_
  exact Go_ret (fun _ h => h) rfl
set_option maxRecDepth 1000000 in
set_option maxHeartbeats 4000000 in
theorem g_sta_leftOn143_15 (p1 : Int32) {X : XX} {g : GG} {I : MJ} {d : Nat} (hd : 1 ≤ d) : Go d 143 0 (lv_args 0 [.ref 15, .int p1]) [] (hh X g I) (f_sta_leftOn143 15 p1 I) (pR X g I) := by
  obtain ⟨d, rfl⟩ : ∃ k, d = k + 1 := ⟨d - 1, by omega⟩
  unfold f_sta_leftOn143
  refine Go_blk 5 (pc' := 8) (L' := [(0, .ref 15), (1, .int p1)]) (S' := [.int ((9 : Int32) + p1), .ref 16]) (h' := (hh X g I)) rfl ?_
  refine Go_cR (y' := 16) (As := [.ref 16, .int ((9 : Int32) + p1)]) (r := []) rfl (g_x_at16 16 ((9 : Int32) + p1) (by omega)) fun v1 => ?_
  exact Go_ret (fun _ h => h) rfl
set_option maxRecDepth 1000000 in
set_option maxHeartbeats 4000000 in
theorem g_sta_hoursLeft142_17  {X : XX} {g : GG} {I : MJ} {d : Nat} (hd : 2 ≤ d) : Go d 142 0 (lv_args 0 [.ref 17]) [] (hh X g I) (f_sta_hoursLeft142 17 I) (pR X g I) := by
  obtain ⟨d, rfl⟩ : ∃ k, d = k + 1 := ⟨d - 1, by omega⟩
  unfold f_sta_hoursLeft142
  refine Go_blk 4 (pc' := 4) (L' := [(2, .int (0 : Int32)), (1, .int (0 : Int32)), (0, .ref 17)]) (S' := []) (h' := (hh X g I)) rfl ?_
  refine Go_lcs [(0, .ref 17), (1, .int (0 : Int32)), (2, .int (0 : Int32))] rfl ⟨rfl, rfl, rfl, trivial⟩ ?_
  refine Go_seq (pcj := 24) (fun (b2 : Int32) => [(1, .int b2)]) (fun (b2 : Int32) => []) (fun (b2 : Int32) => (hh X g I)) (fun b2 => ?_) ?_
  ·
    refine Go_blk 1 (pc' := 25) (L' := [(1, .int b2)]) (S' := [.int b2]) (h' := (hh X g I)) rfl ?_
    exact Go_ret (fun _ h => h) rfl
  ·
    refine Go_wh (fun (s1 : Int32 × Int32) => [(0, .ref 17), (1, .int s1.1), (2, .int s1.2)]) (fun _ => []) (fun (s1 : Int32 × Int32) => (hh X g I)) (fun s1 => ?_) ((0 : Int32), (0 : Int32))
    refine Go_blk 2 (pc' := 7) (L' := [(0, .ref 17), (1, .int s1.1), (2, .int s1.2)]) (S' := [.int (10 : Int32), .int s1.2]) (h' := (hh X g I)) rfl ?_
    refine Go_cmpn rfl rfl (ab_cge _ _) ?_ ?_
    ·
      refine Go_blk 3 (pc' := 13) (L' := [(0, .ref 17), (1, .int s1.1), (2, .int s1.2)]) (S' := [.int s1.2, .ref 17, .int s1.1]) (h' := (hh X g I)) rfl ?_
      refine Go_cR (y' := 143) (As := [.ref 17, .int s1.2]) (r := [.int s1.1]) rfl (g_sta_leftOn143_17 s1.2 (by omega)) fun v3 => ?_
      refine Go_blk 4 (pc' := 4) (L' := [(2, .int (s1.2 + (1 : Int32))), (1, .int (s1.1 + v3)), (0, .ref 17)]) (S' := []) (h' := (hh X g I)) rfl ?_
      exact Go_jmp [(0, .ref 17), (1, .int (s1.1 + v3)), (2, .int (s1.2 + (1 : Int32)))] rfl ⟨rfl, rfl, rfl, trivial⟩ (fun _ h => h)
    ·
      exact Go_jmp [(1, .int s1.1)] rfl ⟨rfl, trivial⟩ (fun _ h => h)
set_option maxRecDepth 1000000 in
set_option maxHeartbeats 4000000 in
theorem g_sta_hoursLeft142_15  {X : XX} {g : GG} {I : MJ} {d : Nat} (hd : 2 ≤ d) : Go d 142 0 (lv_args 0 [.ref 15]) [] (hh X g I) (f_sta_hoursLeft142 15 I) (pR X g I) := by
  obtain ⟨d, rfl⟩ : ∃ k, d = k + 1 := ⟨d - 1, by omega⟩
  unfold f_sta_hoursLeft142
  refine Go_blk 4 (pc' := 4) (L' := [(2, .int (0 : Int32)), (1, .int (0 : Int32)), (0, .ref 15)]) (S' := []) (h' := (hh X g I)) rfl ?_
  refine Go_lcs [(0, .ref 15), (1, .int (0 : Int32)), (2, .int (0 : Int32))] rfl ⟨rfl, rfl, rfl, trivial⟩ ?_
  refine Go_seq (pcj := 24) (fun (b2 : Int32) => [(1, .int b2)]) (fun (b2 : Int32) => []) (fun (b2 : Int32) => (hh X g I)) (fun b2 => ?_) ?_
  ·
    refine Go_blk 1 (pc' := 25) (L' := [(1, .int b2)]) (S' := [.int b2]) (h' := (hh X g I)) rfl ?_
    exact Go_ret (fun _ h => h) rfl
  ·
    refine Go_wh (fun (s1 : Int32 × Int32) => [(0, .ref 15), (1, .int s1.1), (2, .int s1.2)]) (fun _ => []) (fun (s1 : Int32 × Int32) => (hh X g I)) (fun s1 => ?_) ((0 : Int32), (0 : Int32))
    refine Go_blk 2 (pc' := 7) (L' := [(0, .ref 15), (1, .int s1.1), (2, .int s1.2)]) (S' := [.int (10 : Int32), .int s1.2]) (h' := (hh X g I)) rfl ?_
    refine Go_cmpn rfl rfl (ab_cge _ _) ?_ ?_
    ·
      refine Go_blk 3 (pc' := 13) (L' := [(0, .ref 15), (1, .int s1.1), (2, .int s1.2)]) (S' := [.int s1.2, .ref 15, .int s1.1]) (h' := (hh X g I)) rfl ?_
      refine Go_cR (y' := 143) (As := [.ref 15, .int s1.2]) (r := [.int s1.1]) rfl (g_sta_leftOn143_15 s1.2 (by omega)) fun v3 => ?_
      refine Go_blk 4 (pc' := 4) (L' := [(2, .int (s1.2 + (1 : Int32))), (1, .int (s1.1 + v3)), (0, .ref 15)]) (S' := []) (h' := (hh X g I)) rfl ?_
      exact Go_jmp [(0, .ref 15), (1, .int (s1.1 + v3)), (2, .int (s1.2 + (1 : Int32)))] rfl ⟨rfl, rfl, rfl, trivial⟩ (fun _ h => h)
    ·
      exact Go_jmp [(1, .int s1.1)] rfl ⟨rfl, trivial⟩ (fun _ h => h)
set_option maxRecDepth 1000000 in
set_option maxHeartbeats 4000000 in
theorem g_sta_suits144  {X : XX} {g : GG} {I : MJ} {d : Nat} (hd : 2 ≤ d) : Go d 144 0 (lv_args 0 [.ref 15]) [] (hh X g I) (f_sta_suits144  I) (pR X g I) := by
  obtain ⟨d, rfl⟩ : ∃ k, d = k + 1 := ⟨d - 1, by omega⟩
  unfold f_sta_suits144
  refine Go_blk 4 (pc' := 4) (L' := [(2, .int (0 : Int32)), (1, .int (0 : Int32)), (0, .ref 15)]) (S' := []) (h' := (hh X g I)) rfl ?_
  refine Go_lcs [(0, .ref 15), (1, .int (0 : Int32)), (2, .int (0 : Int32))] rfl ⟨rfl, rfl, rfl, trivial⟩ ?_
  refine Go_seq (pcj := 32) (fun (b2 : Int32) => [(1, .int b2)]) (fun (b2 : Int32) => []) (fun (b2 : Int32) => (hh X g I)) (fun b2 => ?_) ?_
  ·
    refine Go_blk 1 (pc' := 33) (L' := [(1, .int b2)]) (S' := [.int b2]) (h' := (hh X g I)) rfl ?_
    exact Go_ret (fun _ h => h) rfl
  ·
    refine Go_wh (fun (s1 : Int32 × Int32) => [(0, .ref 15), (1, .int s1.1), (2, .int s1.2)]) (fun _ => []) (fun (s1 : Int32 × Int32) => (hh X g I)) (fun s1 => ?_) ((0 : Int32), (0 : Int32))
    refine Go_blk 2 (pc' := 7) (L' := [(0, .ref 15), (1, .int s1.1), (2, .int s1.2)]) (S' := [.int (6 : Int32), .int s1.2]) (h' := (hh X g I)) rfl ?_
    refine Go_cmpn rfl rfl (ab_cge _ _) ?_ ?_
    ·
      refine Go_blk 3 (pc' := 13) (L' := [(0, .ref 15), (1, .int s1.1), (2, .int s1.2)]) (S' := [.int s1.2, .ref 15, .int s1.1]) (h' := (hh X g I)) rfl ?_
      refine Go_cR (y' := 108) (As := [.ref 15, .int s1.2]) (r := [.int s1.1]) rfl (g_sta_hasSuit108_15 s1.2 (by omega)) fun v3 => ?_
      refine Go_seq (pcj := 24) (fun (b4 : Int32) => [(0, .ref 15), (2, .int s1.2)]) (fun (b4 : Int32) => [.int b4, .int s1.1]) (fun (b4 : Int32) => (hh X g I)) (fun b4 => ?_) ?_
      ·
        refine Go_blk 4 (pc' := 4) (L' := [(2, .int (s1.2 + (1 : Int32))), (1, .int (s1.1 + b4)), (0, .ref 15)]) (S' := []) (h' := (hh X g I)) rfl ?_
        exact Go_jmp [(0, .ref 15), (1, .int (s1.1 + b4)), (2, .int (s1.2 + (1 : Int32)))] rfl ⟨rfl, rfl, rfl, trivial⟩ (fun _ h => h)
      ·
        refine Go_cmz rfl rfl rfl ?_ ?_
        ·
          refine Go_blk 1 (pc' := 24) (L' := [(0, .ref 15), (1, .int s1.1), (2, .int s1.2)]) (S' := [.int (0 : Int32), .int s1.1]) (h' := (hh X g I)) rfl ?_
          exact Go_jmp [(0, .ref 15), (2, .int s1.2)] rfl ⟨rfl, rfl, trivial⟩ (fun _ h => h)
        ·
          refine Go_blk 2 (pc' := 24) (L' := [(0, .ref 15), (1, .int s1.1), (2, .int s1.2)]) (S' := [.int (1 : Int32), .int s1.1]) (h' := (hh X g I)) rfl ?_
          exact Go_jmp [(0, .ref 15), (2, .int s1.2)] rfl ⟨rfl, rfl, trivial⟩ (fun _ h => h)
    ·
      exact Go_jmp [(1, .int s1.1)] rfl ⟨rfl, trivial⟩ (fun _ h => h)
set_option maxRecDepth 1000000 in
set_option maxHeartbeats 4000000 in
theorem g_x_told141 (p1 : Int32) {X : XX} {g : GG} {I : MJ} {d : Nat} (hd : 3 ≤ d) : Go d 141 0 (lv_args 0 [.ref 0, .int p1]) [] (hh X g I) (f_x_told141 p1 I) (pT vI X g) := by
  obtain ⟨d, rfl⟩ : ∃ k, d = k + 1 := ⟨d - 1, by omega⟩
  unfold f_x_told141
  refine Go_blk 4 (pc' := 5) (L' := [(0, .ref 0), (1, .int p1)]) (S' := [.int (9 : Int32), .int (0 : Int32), .int p1, .ref 0]) (h' := (hh X g I)) rfl ?_
  refine Go_cT (y' := 38) (As := [.ref 0, .int p1, .int (0 : Int32), .int (9 : Int32)]) (r := []) rfl rfl (g_x_needWithin38 p1 (0 : Int32) (9 : Int32) (by omega)) fun v1 I2 => ?_
  refine Go_blk 1 (pc' := 9) (L' := [(0, .ref 0), (1, .int p1)]) (S' := [.int p1]) (h' := (hh X g I2)) rfl ?_
  refine Go_sw ?_ fun h0 => ?_
  ·
    refine Go_blk 1 (pc' := 60) (L' := [(0, .ref 0), (1, .int p1)]) (S' := []) (h' := (hh X g I2)) rfl ?_
    refine Go_blk 3 (pc' := 67) (L' := [(0, .ref 0), (1, .int p1)]) (S' := [.int (I2 3 5)]) (h' := (hh X g I2)) rfl ?_
    exact Go_ret (fun _ h => h) rfl
  refine Go_sw ?_ fun h1 => ?_
  ·
    refine Go_blk 1 (pc' := 68) (L' := [(0, .ref 0), (1, .int p1)]) (S' := []) (h' := (hh X g I2)) rfl ?_
    refine Go_blk 3 (pc' := 75) (L' := [(0, .ref 0), (1, .int p1)]) (S' := [.int (I2 3 6)]) (h' := (hh X g I2)) rfl ?_
    exact Go_ret (fun _ h => h) rfl
  refine Go_sw ?_ fun h2 => ?_
  ·
    refine Go_blk 1 (pc' := 76) (L' := [(0, .ref 0), (1, .int p1)]) (S' := []) (h' := (hh X g I2)) rfl ?_
    refine Go_blk 3 (pc' := 83) (L' := [(0, .ref 0), (1, .int p1)]) (S' := [.int (I2 3 7)]) (h' := (hh X g I2)) rfl ?_
    exact Go_ret (fun _ h => h) rfl
  refine Go_sw ?_ fun h3 => ?_
  ·
    refine Go_blk 1 (pc' := 84) (L' := [(0, .ref 0), (1, .int p1)]) (S' := []) (h' := (hh X g I2)) rfl ?_
    refine Go_blk 3 (pc' := 91) (L' := [(0, .ref 0), (1, .int p1)]) (S' := [.int (I2 3 8)]) (h' := (hh X g I2)) rfl ?_
    exact Go_ret (fun _ h => h) rfl
  refine Go_sw ?_ fun h4 => ?_
  ·
    refine Go_blk 1 (pc' := 92) (L' := [(0, .ref 0), (1, .int p1)]) (S' := []) (h' := (hh X g I2)) rfl ?_
    refine Go_blk 2 (pc' := 96) (L' := [(0, .ref 0), (1, .int p1)]) (S' := [.ref 15]) (h' := (hh X g I2)) rfl ?_
    refine Go_cR (y' := 113) (As := [.ref 15]) (r := []) rfl (g_sta_day113_15  (by omega)) fun v3 => ?_
    exact Go_ret (fun _ h => h) rfl
  refine Go_sw ?_ fun h5 => ?_
  ·
    refine Go_blk 1 (pc' := 100) (L' := [(0, .ref 0), (1, .int p1)]) (S' := []) (h' := (hh X g I2)) rfl ?_
    refine Go_blk 2 (pc' := 104) (L' := [(0, .ref 0), (1, .int p1)]) (S' := [.ref 15]) (h' := (hh X g I2)) rfl ?_
    refine Go_cR (y' := 128) (As := [.ref 15]) (r := []) rfl (g_sta_pence128  (by omega)) fun v4 => ?_
    exact Go_ret (fun _ h => h) rfl
  refine Go_sw ?_ fun h6 => ?_
  ·
    refine Go_blk 1 (pc' := 108) (L' := [(0, .ref 0), (1, .int p1)]) (S' := []) (h' := (hh X g I2)) rfl ?_
    refine Go_blk 2 (pc' := 112) (L' := [(0, .ref 0), (1, .int p1)]) (S' := [.ref 15]) (h' := (hh X g I2)) rfl ?_
    refine Go_cR (y' := 142) (As := [.ref 15]) (r := []) rfl (g_sta_hoursLeft142_15  (by omega)) fun v5 => ?_
    exact Go_ret (fun _ h => h) rfl
  refine Go_sw ?_ fun h7 => ?_
  ·
    refine Go_blk 1 (pc' := 116) (L' := [(0, .ref 0), (1, .int p1)]) (S' := []) (h' := (hh X g I2)) rfl ?_
    refine Go_blk 3 (pc' := 123) (L' := [(0, .ref 0), (1, .int p1)]) (S' := [.int (I2 35 3)]) (h' := (hh X g I2)) rfl ?_
    exact Go_ret (fun _ h => h) rfl
  refine Go_sw ?_ fun h8 => ?_
  ·
    refine Go_blk 1 (pc' := 124) (L' := [(0, .ref 0), (1, .int p1)]) (S' := []) (h' := (hh X g I2)) rfl ?_
    refine Go_blk 2 (pc' := 128) (L' := [(0, .ref 0), (1, .int p1)]) (S' := [.int (I2 0 13)]) (h' := (hh X g I2)) rfl ?_
    exact Go_ret (fun _ h => h) rfl
  refine Go_swd (t := 129) 9 rfl (by decide) (by decide) (by decide) ⟨⟨⟨⟨⟨⟨⟨⟨⟨trivial, h0⟩, h1⟩, h2⟩, h3⟩, h4⟩, h5⟩, h6⟩, h7⟩, h8⟩ rfl ?_
  refine Go_blk 2 (pc' := 133) (L' := [(0, .ref 0), (1, .int p1)]) (S' := [.ref 15]) (h' := (hh X g I2)) rfl ?_
  refine Go_cR (y' := 144) (As := [.ref 15]) (r := []) rfl (g_sta_suits144  (by omega)) fun v6 => ?_
  exact Go_ret (fun _ h => h) rfl
set_option maxRecDepth 1000000 in
set_option maxHeartbeats 4000000 in
theorem g_l_told140 (p1 : Int32) {X : XX} {g : GG} {I : MJ} {d : Nat} (hd : 4 ≤ d) : Go d 140 0 (lv_args 0 [.ref 0, .int p1, .ref 698]) [] (hh X g I) (f_l_told140 p1 I g) (pG X) := by
  obtain ⟨d, rfl⟩ : ∃ k, d = k + 1 := ⟨d - 1, by omega⟩
  unfold f_l_told140
  refine Go_blk 4 (pc' := 4) (L' := [(0, .ref 0), (1, .int p1), (2, .ref 698)]) (S' := [.int p1, .ref 0, .int (0 : Int32), .ref 698]) (h' := (hh X g I)) rfl ?_
  refine Go_try (y' := 141) (As := [.ref 0, .int p1]) (r := [.int (0 : Int32), .ref 698]) rfl (g_x_told141 p1 (by omega)) (fun v1 I2 => ?_) (fun E2 I2 => ?_)
  ·
    refine Go_blk 1 (pc' := 8) (L' := [(0, .ref 0), (1, .int p1), (2, .ref 698)]) (S' := [.long (v1.toInt64), .int (0 : Int32), .ref 698]) (h' := (hh X g I2)) rfl ?_
    refine Go_last rfl fun g3 => ?_
    refine Go_blk 2 (pc' := 16) (L' := [(0, .ref 0), (1, .int p1), (2, .ref 698)]) (S' := [.int (0 : Int32)]) (h' := (hh X g3 I2)) rfl ?_
    exact Go_ret (fun _ h => h) rfl
  ·
    refine GX_ite ?_ ?_
    ·
      refine GX_go rfl (t := 13) (k := 3) rfl ?_
      refine Go_blk 1 (pc' := 14) (L' := [(0, .ref 0), (1, .int p1), (2, .ref 698)]) (S' := [.int (1 : Int32)]) (h' := (hh X (thr g) I2)) rfl ?_
      exact Go_ret (fun _ h => h) rfl
    exact GX_none
set_option maxRecDepth 1000000 in
set_option maxHeartbeats 4000000 in
theorem g_m_onBolts325 (p1 : Nat) {X : XX} {g : GG} {I : MJ} {d : Nat} (hd : 0 ≤ d) : Go d 325 0 (lv_args 0 [.ref 47, .ref p1]) [] (hh X g I) (f_m_onBolts325 p1 I) (pR X g I) := by
  unfold f_m_onBolts325
  refine Go_blk 4 (pc' := 4) (L' := [(3, .int (0 : Int32)), (2, .int (0 : Int32)), (0, .ref 47), (1, .ref p1)]) (S' := []) (h' := (hh X g I)) rfl ?_
  refine Go_lcs [(0, .ref 47), (1, .ref p1), (2, .int (0 : Int32)), (3, .int (0 : Int32))] rfl ⟨rfl, rfl, rfl, rfl, trivial⟩ ?_
  refine Go_seq (pcj := 28) (fun (b2 : Int32) => [(2, .int b2)]) (fun (b2 : Int32) => []) (fun (b2 : Int32) => (hh X g I)) (fun b2 => ?_) ?_
  ·
    refine Go_blk 1 (pc' := 29) (L' := [(2, .int b2)]) (S' := [.int b2]) (h' := (hh X g I)) rfl ?_
    exact Go_ret (fun _ h => h) rfl
  ·
    refine Go_wh (fun (s1 : Int32 × Int32) => [(0, .ref 47), (1, .ref p1), (2, .int s1.1), (3, .int s1.2)]) (fun _ => []) (fun (s1 : Int32 × Int32) => (hh X g I)) (fun s1 => ?_) ((0 : Int32), (0 : Int32))
    refine Go_blk 5 (pc' := 11) (L' := [(0, .ref 47), (1, .ref p1), (2, .int s1.1), (3, .int s1.2)]) (S' := [.int (I 51 0), .int s1.2]) (h' := (hh X g I)) rfl ?_
    refine Go_cmpn rfl rfl (ab_cge _ _) ?_ ?_
    ·
      refine Go_blk 5 (pc' := 19) (L' := [(0, .ref 47), (1, .ref p1), (2, .int s1.1), (3, .int s1.2)]) (S' := [.int ((0 : Int32) + s1.2), .ref p1, .int s1.1]) (h' := (hh X g I)) rfl ?_
      refine Go_iald rfl fun v3 => ?_
      refine Go_blk 4 (pc' := 4) (L' := [(3, .int (s1.2 + (1 : Int32))), (2, .int (s1.1 + v3)), (0, .ref 47), (1, .ref p1)]) (S' := []) (h' := (hh X g I)) rfl ?_
      exact Go_jmp [(0, .ref 47), (1, .ref p1), (2, .int (s1.1 + v3)), (3, .int (s1.2 + (1 : Int32)))] rfl ⟨rfl, rfl, rfl, rfl, trivial⟩ (fun _ h => h)
    ·
      exact Go_jmp [(2, .int s1.1)] rfl ⟨rfl, trivial⟩ (fun _ h => h)
set_option maxRecDepth 1000000 in
set_option maxHeartbeats 4000000 in
theorem g_m_told324 (p1 : Int32) {X : XX} {g : GG} {I : MJ} {d : Nat} (hd : 1 ≤ d) : Go d 324 0 (lv_args 0 [.ref 47, .int p1]) [] (hh X g I) (f_m_told324 p1 I) (pW X g) := by
  obtain ⟨d, rfl⟩ : ∃ k, d = k + 1 := ⟨d - 1, by omega⟩
  unfold f_m_told324
  refine Go_blk 7 (pc' := 10) (L' := [(0, .ref 47), (1, .int p1)]) (S' := [.int (9 : Int32), .int (0 : Int32), .int p1, .ref 47]) (h' := (hh X g (ab_up1 I 47 0 (0 : Int32)))) rfl ?_
  refine Go_cR (y' := 264) (As := [.int p1, .int (0 : Int32), .int (9 : Int32)]) (r := [.ref 47]) rfl (g_m_in264 p1 (0 : Int32) (9 : Int32) (by omega)) fun v1 => ?_
  refine Go_seq (pcj := 21) (fun (b2 : Int32) => [(0, .ref 47), (1, .int p1)]) (fun (b2 : Int32) => [.int b2, .ref 47]) (fun (b2 : Int32) => (hh X g (ab_up1 I 47 0 (0 : Int32)))) (fun b2 => ?_) ?_
  ·
    refine Go_blk 2 (pc' := 23) (L' := [(0, .ref 47), (1, .int p1)]) (S' := [.int (1 : Int32), .int (1 : Int32), .int b2, .ref 47]) (h' := (hh X g (ab_up1 I 47 0 (0 : Int32)))) rfl ?_
    refine Go_cW (y' := 268) (As := [.ref 47, .int b2, .int (1 : Int32), .int (1 : Int32)]) (r := []) rfl (g_m_bad268 b2 (1 : Int32) (1 : Int32) (by omega)) fun w3 => ?_
    refine Go_cmz rfl rfl rfl ?_ ?_
    ·
      refine Go_blk 1 (pc' := 32) (L' := [(0, .ref 47), (1, .int p1)]) (S' := [.int p1]) (h' := (hh X g w3.2)) rfl ?_
      refine Go_sw ?_ fun h0 => ?_
      ·
        refine Go_blk 1 (pc' := 84) (L' := [(0, .ref 47), (1, .int p1)]) (S' := []) (h' := (hh X g w3.2)) rfl ?_
        refine Go_blk 3 (pc' := 89) (L' := [(0, .ref 47), (1, .int p1)]) (S' := [.int p1, .ref 51]) (h' := (hh X g w3.2)) rfl ?_
        refine Go_iald rfl fun v4 => ?_
        exact Go_ret (fun _ h => h) rfl
      refine Go_sw ?_ fun h1 => ?_
      ·
        refine Go_blk 1 (pc' := 84) (L' := [(0, .ref 47), (1, .int p1)]) (S' := []) (h' := (hh X g w3.2)) rfl ?_
        refine Go_blk 3 (pc' := 89) (L' := [(0, .ref 47), (1, .int p1)]) (S' := [.int p1, .ref 51]) (h' := (hh X g w3.2)) rfl ?_
        refine Go_iald rfl fun v5 => ?_
        exact Go_ret (fun _ h => h) rfl
      refine Go_sw ?_ fun h2 => ?_
      ·
        refine Go_blk 1 (pc' := 84) (L' := [(0, .ref 47), (1, .int p1)]) (S' := []) (h' := (hh X g w3.2)) rfl ?_
        refine Go_blk 3 (pc' := 89) (L' := [(0, .ref 47), (1, .int p1)]) (S' := [.int p1, .ref 51]) (h' := (hh X g w3.2)) rfl ?_
        refine Go_iald rfl fun v6 => ?_
        exact Go_ret (fun _ h => h) rfl
      refine Go_sw ?_ fun h3 => ?_
      ·
        refine Go_blk 1 (pc' := 84) (L' := [(0, .ref 47), (1, .int p1)]) (S' := []) (h' := (hh X g w3.2)) rfl ?_
        refine Go_blk 3 (pc' := 89) (L' := [(0, .ref 47), (1, .int p1)]) (S' := [.int p1, .ref 51]) (h' := (hh X g w3.2)) rfl ?_
        refine Go_iald rfl fun v7 => ?_
        exact Go_ret (fun _ h => h) rfl
      refine Go_sw ?_ fun h4 => ?_
      ·
        refine Go_blk 1 (pc' := 91) (L' := [(0, .ref 47), (1, .int p1)]) (S' := []) (h' := (hh X g w3.2)) rfl ?_
        refine Go_blk 4 (pc' := 98) (L' := [(0, .ref 47), (1, .int p1)]) (S' := [.int (w3.2 576 89)]) (h' := (hh X g w3.2)) rfl ?_
        exact Go_ret (fun _ h => h) rfl
      refine Go_sw ?_ fun h5 => ?_
      ·
        refine Go_blk 1 (pc' := 99) (L' := [(0, .ref 47), (1, .int p1)]) (S' := []) (h' := (hh X g w3.2)) rfl ?_
        refine Go_blk 4 (pc' := 106) (L' := [(0, .ref 47), (1, .int p1)]) (S' := [.int (w3.2 576 90)]) (h' := (hh X g w3.2)) rfl ?_
        exact Go_ret (fun _ h => h) rfl
      refine Go_sw ?_ fun h6 => ?_
      ·
        refine Go_blk 1 (pc' := 107) (L' := [(0, .ref 47), (1, .int p1)]) (S' := []) (h' := (hh X g w3.2)) rfl ?_
        refine Go_blk 3 (pc' := 112) (L' := [(0, .ref 47), (1, .int p1)]) (S' := [.ref 576, .ref 47]) (h' := (hh X g w3.2)) rfl ?_
        refine Go_cR (y' := 325) (As := [.ref 47, .ref 576]) (r := []) rfl (g_m_onBolts325 576 (by omega)) fun v8 => ?_
        exact Go_ret (fun _ h => h) rfl
      refine Go_sw ?_ fun h7 => ?_
      ·
        refine Go_blk 1 (pc' := 116) (L' := [(0, .ref 47), (1, .int p1)]) (S' := []) (h' := (hh X g w3.2)) rfl ?_
        refine Go_blk 2 (pc' := 120) (L' := [(0, .ref 47), (1, .int p1)]) (S' := [.int (w3.2 47 39)]) (h' := (hh X g w3.2)) rfl ?_
        exact Go_ret (fun _ h => h) rfl
      refine Go_sw ?_ fun h8 => ?_
      ·
        refine Go_blk 1 (pc' := 121) (L' := [(0, .ref 47), (1, .int p1)]) (S' := []) (h' := (hh X g w3.2)) rfl ?_
        refine Go_blk 2 (pc' := 125) (L' := [(0, .ref 47), (1, .int p1)]) (S' := [.int (w3.2 47 41)]) (h' := (hh X g w3.2)) rfl ?_
        exact Go_ret (fun _ h => h) rfl
      refine Go_swd (t := 126) 9 rfl (by decide) (by decide) (by decide) ⟨⟨⟨⟨⟨⟨⟨⟨⟨trivial, h0⟩, h1⟩, h2⟩, h3⟩, h4⟩, h5⟩, h6⟩, h7⟩, h8⟩ rfl ?_
      refine Go_blk 4 (pc' := 130) (L' := [(3, .int (0 : Int32)), (2, .int (0 : Int32)), (0, .ref 47), (1, .int p1)]) (S' := []) (h' := (hh X g w3.2)) rfl ?_
      refine Go_lcs [(0, .ref 47), (2, .int (0 : Int32)), (3, .int (0 : Int32))] rfl ⟨rfl, rfl, rfl, trivial⟩ ?_
      refine Go_seq (pcj := 165) (fun (b10 : Int32) => [(2, .int b10)]) (fun (b10 : Int32) => []) (fun (b10 : Int32) => (hh X g w3.2)) (fun b10 => ?_) ?_
      ·
        refine Go_blk 1 (pc' := 166) (L' := [(2, .int b10)]) (S' := [.int b10]) (h' := (hh X g w3.2)) rfl ?_
        exact Go_ret (fun _ h => h) rfl
      ·
        refine Go_wh (fun (s9 : Int32 × Int32) => [(0, .ref 47), (2, .int s9.1), (3, .int s9.2)]) (fun _ => []) (fun (s9 : Int32 × Int32) => (hh X g w3.2)) (fun s9 => ?_) ((0 : Int32), (0 : Int32))
        refine Go_blk 5 (pc' := 137) (L' := [(0, .ref 47), (2, .int s9.1), (3, .int s9.2)]) (S' := [.int (w3.2 51 1), .int s9.2]) (h' := (hh X g w3.2)) rfl ?_
        refine Go_cmpn rfl rfl (ab_cge _ _) ?_ ?_
        ·
          refine Go_blk 4 (pc' := 146) (L' := [(0, .ref 47), (2, .int s9.1), (3, .int s9.2)]) (S' := [.int s9.2, .ref 576, .int s9.1]) (h' := (hh X g w3.2)) rfl ?_
          refine Go_cR (y' := 305) (As := [.ref 576, .int s9.2]) (r := [.int s9.1]) rfl (g_m_hasSuit305 576 s9.2 (by omega)) fun v11 => ?_
          refine Go_seq (pcj := 157) (fun (b12 : Int32) => [(0, .ref 47), (3, .int s9.2)]) (fun (b12 : Int32) => [.int b12, .int s9.1]) (fun (b12 : Int32) => (hh X g w3.2)) (fun b12 => ?_) ?_
          ·
            refine Go_blk 4 (pc' := 130) (L' := [(3, .int (s9.2 + (1 : Int32))), (2, .int (s9.1 + b12)), (0, .ref 47)]) (S' := []) (h' := (hh X g w3.2)) rfl ?_
            exact Go_jmp [(0, .ref 47), (2, .int (s9.1 + b12)), (3, .int (s9.2 + (1 : Int32)))] rfl ⟨rfl, rfl, rfl, trivial⟩ (fun _ h => h)
          ·
            refine Go_cmz rfl rfl rfl ?_ ?_
            ·
              refine Go_blk 1 (pc' := 157) (L' := [(0, .ref 47), (2, .int s9.1), (3, .int s9.2)]) (S' := [.int (0 : Int32), .int s9.1]) (h' := (hh X g w3.2)) rfl ?_
              exact Go_jmp [(0, .ref 47), (3, .int s9.2)] rfl ⟨rfl, rfl, trivial⟩ (fun _ h => h)
            ·
              refine Go_blk 2 (pc' := 157) (L' := [(0, .ref 47), (2, .int s9.1), (3, .int s9.2)]) (S' := [.int (1 : Int32), .int s9.1]) (h' := (hh X g w3.2)) rfl ?_
              exact Go_jmp [(0, .ref 47), (3, .int s9.2)] rfl ⟨rfl, rfl, trivial⟩ (fun _ h => h)
        ·
          exact Go_jmp [(2, .int s9.1)] rfl ⟨rfl, trivial⟩ (fun _ h => h)
    ·
      refine Go_blk 1 (pc' := 30) (L' := [(0, .ref 47), (1, .int p1)]) (S' := [.int (0 : Int32)]) (h' := (hh X g w3.2)) rfl ?_
      exact Go_ret (fun _ h => h) rfl
  ·
    refine Go_cmzn rfl rfl rfl ?_ ?_
    ·
      refine Go_blk 2 (pc' := 21) (L' := [(0, .ref 47), (1, .int p1)]) (S' := [.int (1 : Int32), .ref 47]) (h' := (hh X g (ab_up1 I 47 0 (0 : Int32)))) rfl ?_
      exact Go_jmp [(0, .ref 47), (1, .int p1)] rfl ⟨rfl, rfl, trivial⟩ (fun _ h => h)
    ·
      refine Go_blk 1 (pc' := 21) (L' := [(0, .ref 47), (1, .int p1)]) (S' := [.int (0 : Int32), .ref 47]) (h' := (hh X g (ab_up1 I 47 0 (0 : Int32)))) rfl ?_
      exact Go_jmp [(0, .ref 47), (1, .int p1)] rfl ⟨rfl, rfl, trivial⟩ (fun _ h => h)
set_option maxRecDepth 1000000 in
set_option maxHeartbeats 4000000 in
theorem g_sho_boltKind147 (p1 : Int32) {X : XX} {g : GG} {I : MJ} {d : Nat} (hd : 1 ≤ d) : Go d 147 0 (lv_args 0 [.ref 3, .int p1]) [] (hh X g I) (f_sho_boltKind147 p1 I) (pR X g I) := by
  obtain ⟨d, rfl⟩ : ∃ k, d = k + 1 := ⟨d - 1, by omega⟩
  unfold f_sho_boltKind147
  refine Go_blk 3 (pc' := 5) (L' := [(0, .ref 3), (1, .int p1)]) (S' := [.int p1, .ref 4]) (h' := (hh X g I)) rfl ?_
  refine Go_cR (y' := 16) (As := [.ref 4, .int p1]) (r := []) rfl (g_x_at16 4 p1 (by omega)) fun v1 => ?_
  exact Go_ret (fun _ h => h) rfl
set_option maxRecDepth 1000000 in
set_option maxHeartbeats 4000000 in
theorem g_x_bolt146 (p1 : Int32) (p2 : Int32) {X : XX} {g : GG} {I : MJ} {d : Nat} (hd : 2 ≤ d) : Go d 146 0 (lv_args 0 [.ref 0, .int p1, .int p2]) [] (hh X g I) (f_x_bolt146 p1 p2 I) (pT vI X g) := by
  obtain ⟨d, rfl⟩ : ∃ k, d = k + 1 := ⟨d - 1, by omega⟩
  unfold f_x_bolt146
  refine Go_blk 5 (pc' := 9) (L' := [(0, .ref 0), (1, .int p1), (2, .int p2)]) (S' := [.int (I 3 5), .int p1, .ref 0]) (h' := (hh X g I)) rfl ?_
  refine Go_cT (y' := 69) (As := [.ref 0, .int p1, .int (I 3 5)]) (r := []) rfl rfl (g_x_needElement69 p1 (I 3 5) (by omega)) fun v1 I2 => ?_
  refine Go_blk 4 (pc' := 16) (L' := [(0, .ref 0), (1, .int p1), (2, .int p2)]) (S' := [.int (1 : Int32), .int (0 : Int32), .int p2, .ref 0]) (h' := (hh X g I2)) rfl ?_
  refine Go_cT (y' := 38) (As := [.ref 0, .int p2, .int (0 : Int32), .int (1 : Int32)]) (r := []) rfl rfl (g_x_needWithin38 p2 (0 : Int32) (1 : Int32) (by omega)) fun v3 I4 => ?_
  refine Go_blk 1 (pc' := 20) (L' := [(0, .ref 0), (1, .int p1), (2, .int p2)]) (S' := [.int p2]) (h' := (hh X g I4)) rfl ?_
  refine Go_seq (pcj := 42) (fun (b5 : Int32) => []) (fun (b5 : Int32) => [.int b5]) (fun (b5 : Int32) => (hh X g I4)) (fun b5 => ?_) ?_
  ·
    exact Go_ret (fun _ h => h) rfl
  ·
    refine Go_cmzn rfl rfl rfl ?_ ?_
    ·
      refine Go_blk 3 (pc' := 28) (L' := [(0, .ref 0), (1, .int p1), (2, .int p2)]) (S' := [.int p1, .ref 3]) (h' := (hh X g I4)) rfl ?_
      refine Go_cR (y' := 147) (As := [.ref 3, .int p1]) (r := []) rfl (g_sho_boltKind147 p1 (by omega)) fun v6 => ?_
      refine Go_blk 1 (pc' := 42) (L' := [(0, .ref 0), (1, .int p1), (2, .int p2)]) (S' := [.int v6]) (h' := (hh X g I4)) rfl ?_
      exact Go_jmp [] rfl trivial (fun _ h => h)
    ·
      refine Go_blk 3 (pc' := 39) (L' := [(0, .ref 0), (1, .int p1), (2, .int p2)]) (S' := [.int p1, .ref 15]) (h' := (hh X g I4)) rfl ?_
      refine Go_cR (y' := 143) (As := [.ref 15, .int p1]) (r := []) rfl (g_sta_leftOn143_15 p1 (by omega)) fun v7 => ?_
      exact Go_jmp [] rfl trivial (fun _ h => h)
set_option maxRecDepth 1000000 in
set_option maxHeartbeats 4000000 in
theorem g_l_bolt145 (p1 : Int32) (p2 : Int32) {X : XX} {g : GG} {I : MJ} {d : Nat} (hd : 3 ≤ d) : Go d 145 0 (lv_args 0 [.ref 0, .int p1, .int p2, .ref 698]) [] (hh X g I) (f_l_bolt145 p1 p2 I g) (pG X) := by
  obtain ⟨d, rfl⟩ : ∃ k, d = k + 1 := ⟨d - 1, by omega⟩
  unfold f_l_bolt145
  refine Go_blk 5 (pc' := 5) (L' := [(0, .ref 0), (1, .int p1), (2, .int p2), (3, .ref 698)]) (S' := [.int p2, .int p1, .ref 0, .int (0 : Int32), .ref 698]) (h' := (hh X g I)) rfl ?_
  refine Go_try (y' := 146) (As := [.ref 0, .int p1, .int p2]) (r := [.int (0 : Int32), .ref 698]) rfl (g_x_bolt146 p1 p2 (by omega)) (fun v1 I2 => ?_) (fun E2 I2 => ?_)
  ·
    refine Go_blk 1 (pc' := 9) (L' := [(0, .ref 0), (1, .int p1), (2, .int p2), (3, .ref 698)]) (S' := [.long (v1.toInt64), .int (0 : Int32), .ref 698]) (h' := (hh X g I2)) rfl ?_
    refine Go_last rfl fun g3 => ?_
    refine Go_blk 2 (pc' := 22) (L' := [(0, .ref 0), (1, .int p1), (2, .int p2), (3, .ref 698)]) (S' := [.int (0 : Int32)]) (h' := (hh X g3 I2)) rfl ?_
    exact Go_ret (fun _ h => h) rfl
  ·
    refine GX_ite ?_ ?_
    ·
      refine GX_go rfl (t := 15) (k := 4) rfl ?_
      refine Go_blk 1 (pc' := 16) (L' := [(0, .ref 0), (1, .int p1), (2, .int p2), (3, .ref 698)]) (S' := [.int (1 : Int32)]) (h' := (hh X (thr g) I2)) rfl ?_
      exact Go_ret (fun _ h => h) rfl
    refine GX_ite ?_ ?_
    ·
      refine GX_go rfl (t := 19) (k := 4) rfl ?_
      refine Go_blk 1 (pc' := 20) (L' := [(0, .ref 0), (1, .int p1), (2, .int p2), (3, .ref 698)]) (S' := [.int (2 : Int32)]) (h' := (hh X (thr g) I2)) rfl ?_
      exact Go_ret (fun _ h => h) rfl
    exact GX_none
set_option maxRecDepth 1000000 in
set_option maxHeartbeats 4000000 in
theorem g_m_bolt326 (p1 : Int32) (p2 : Int32) {X : XX} {g : GG} {I : MJ} {d : Nat} (hd : 1 ≤ d) : Go d 326 0 (lv_args 0 [.ref 47, .int p1, .int p2]) [] (hh X g I) (f_m_bolt326 p1 p2 I) (pW X g) := by
  obtain ⟨d, rfl⟩ : ∃ k, d = k + 1 := ⟨d - 1, by omega⟩
  unfold f_m_bolt326
  refine Go_blk 12 (pc' := 16) (L' := [(0, .ref 47), (1, .int p1), (2, .int p2)]) (S' := [.int ((I 51 0) - (1 : Int32)), .int (0 : Int32), .int p1, .ref 47]) (h' := (hh X g (ab_up1 I 47 0 (0 : Int32)))) rfl ?_
  refine Go_cR (y' := 264) (As := [.int p1, .int (0 : Int32), .int ((I 51 0) - (1 : Int32))]) (r := [.ref 47]) rfl (g_m_in264 p1 (0 : Int32) ((I 51 0) - (1 : Int32)) (by omega)) fun v1 => ?_
  refine Go_seq (pcj := 27) (fun (b2 : Int32) => [(0, .ref 47), (1, .int p1), (2, .int p2)]) (fun (b2 : Int32) => [.int b2, .ref 47]) (fun (b2 : Int32) => (hh X g (ab_up1 I 47 0 (0 : Int32)))) (fun b2 => ?_) ?_
  ·
    refine Go_blk 2 (pc' := 29) (L' := [(0, .ref 47), (1, .int p1), (2, .int p2)]) (S' := [.int (0 : Int32), .int (1 : Int32), .int b2, .ref 47]) (h' := (hh X g (ab_up1 I 47 0 (0 : Int32)))) rfl ?_
    refine Go_cW (y' := 268) (As := [.ref 47, .int b2, .int (1 : Int32), .int (0 : Int32)]) (r := []) rfl (g_m_bad268 b2 (1 : Int32) (0 : Int32) (by omega)) fun w3 => ?_
    refine Go_cmzn rfl rfl rfl ?_ ?_
    ·
      refine Go_blk 4 (pc' := 39) (L' := [(0, .ref 47), (1, .int p1), (2, .int p2)]) (S' := [.int (1 : Int32), .int (0 : Int32), .int p2, .ref 47]) (h' := (hh X g w3.2)) rfl ?_
      refine Go_cR (y' := 264) (As := [.int p2, .int (0 : Int32), .int (1 : Int32)]) (r := [.ref 47]) rfl (g_m_in264 p2 (0 : Int32) (1 : Int32) (by omega)) fun v4 => ?_
      refine Go_seq (pcj := 50) (fun (b5 : Int32) => [(0, .ref 47), (1, .int p1), (2, .int p2)]) (fun (b5 : Int32) => [.int b5, .ref 47]) (fun (b5 : Int32) => (hh X g w3.2)) (fun b5 => ?_) ?_
      ·
        refine Go_blk 2 (pc' := 52) (L' := [(0, .ref 47), (1, .int p1), (2, .int p2)]) (S' := [.int (1 : Int32), .int (2 : Int32), .int b5, .ref 47]) (h' := (hh X g w3.2)) rfl ?_
        refine Go_cW (y' := 268) (As := [.ref 47, .int b5, .int (2 : Int32), .int (1 : Int32)]) (r := []) rfl (g_m_bad268 b5 (2 : Int32) (1 : Int32) (by omega)) fun w6 => ?_
        refine Go_cmz rfl rfl rfl ?_ ?_
        ·
          refine Go_blk 1 (pc' := 61) (L' := [(0, .ref 47), (1, .int p1), (2, .int p2)]) (S' := [.int p2]) (h' := (hh X g w6.2)) rfl ?_
          refine Go_seq (pcj := 83) (fun (b7 : Int32) => []) (fun (b7 : Int32) => [.int b7]) (fun (b7 : Int32) => (hh X g w6.2)) (fun b7 => ?_) ?_
          ·
            exact Go_ret (fun _ h => h) rfl
          ·
            refine Go_cmzn rfl rfl rfl ?_ ?_
            ·
              refine Go_blk 3 (pc' := 69) (L' := [(0, .ref 47), (1, .int p1), (2, .int p2)]) (S' := [.int p1, .ref 65]) (h' := (hh X g w6.2)) rfl ?_
              refine Go_aald rfl fun r8 => ?_
              refine Go_blk 1 (pc' := 71) (L' := [(0, .ref 47), (1, .int p1), (2, .int p2)]) (S' := [.int (0 : Int32), .ref r8]) (h' := (hh X g w6.2)) rfl ?_
              refine Go_iald rfl fun v9 => ?_
              refine Go_blk 1 (pc' := 83) (L' := [(0, .ref 47), (1, .int p1), (2, .int p2)]) (S' := [.int v9]) (h' := (hh X g w6.2)) rfl ?_
              exact Go_jmp [] rfl trivial (fun _ h => h)
            ·
              refine Go_blk 5 (pc' := 82) (L' := [(0, .ref 47), (1, .int p1), (2, .int p2)]) (S' := [.int ((0 : Int32) + p1), .ref 576]) (h' := (hh X g w6.2)) rfl ?_
              refine Go_iald rfl fun v10 => ?_
              exact Go_jmp [] rfl trivial (fun _ h => h)
        ·
          refine Go_blk 1 (pc' := 59) (L' := [(0, .ref 47), (1, .int p1), (2, .int p2)]) (S' := [.int (0 : Int32)]) (h' := (hh X g w6.2)) rfl ?_
          exact Go_ret (fun _ h => h) rfl
      ·
        refine Go_cmzn rfl rfl rfl ?_ ?_
        ·
          refine Go_blk 2 (pc' := 50) (L' := [(0, .ref 47), (1, .int p1), (2, .int p2)]) (S' := [.int (1 : Int32), .ref 47]) (h' := (hh X g w3.2)) rfl ?_
          exact Go_jmp [(0, .ref 47), (1, .int p1), (2, .int p2)] rfl ⟨rfl, rfl, rfl, trivial⟩ (fun _ h => h)
        ·
          refine Go_blk 1 (pc' := 50) (L' := [(0, .ref 47), (1, .int p1), (2, .int p2)]) (S' := [.int (0 : Int32), .ref 47]) (h' := (hh X g w3.2)) rfl ?_
          exact Go_jmp [(0, .ref 47), (1, .int p1), (2, .int p2)] rfl ⟨rfl, rfl, rfl, trivial⟩ (fun _ h => h)
    ·
      refine Go_blk 1 (pc' := 59) (L' := [(0, .ref 47), (1, .int p1), (2, .int p2)]) (S' := [.int (0 : Int32)]) (h' := (hh X g w3.2)) rfl ?_
      exact Go_ret (fun _ h => h) rfl
  ·
    refine Go_cmzn rfl rfl rfl ?_ ?_
    ·
      refine Go_blk 2 (pc' := 27) (L' := [(0, .ref 47), (1, .int p1), (2, .int p2)]) (S' := [.int (1 : Int32), .ref 47]) (h' := (hh X g (ab_up1 I 47 0 (0 : Int32)))) rfl ?_
      exact Go_jmp [(0, .ref 47), (1, .int p1), (2, .int p2)] rfl ⟨rfl, rfl, rfl, trivial⟩ (fun _ h => h)
    ·
      refine Go_blk 1 (pc' := 27) (L' := [(0, .ref 47), (1, .int p1), (2, .int p2)]) (S' := [.int (0 : Int32), .ref 47]) (h' := (hh X g (ab_up1 I 47 0 (0 : Int32)))) rfl ?_
      exact Go_jmp [(0, .ref 47), (1, .int p1), (2, .int p2)] rfl ⟨rfl, rfl, rfl, trivial⟩ (fun _ h => h)
set_option maxRecDepth 1000000 in
set_option maxHeartbeats 4000000 in
theorem g_sho_streetOf150 (p1 : Int32) {X : XX} {g : GG} {I : MJ} {d : Nat} (hd : 1 ≤ d) : Go d 150 0 (lv_args 0 [.ref 3, .int p1]) [] (hh X g I) (f_sho_streetOf150 p1 I) (pR X g I) := by
  obtain ⟨d, rfl⟩ : ∃ k, d = k + 1 := ⟨d - 1, by omega⟩
  unfold f_sho_streetOf150
  refine Go_blk 3 (pc' := 5) (L' := [(0, .ref 3), (1, .int p1)]) (S' := [.int p1, .ref 6]) (h' := (hh X g I)) rfl ?_
  refine Go_cR (y' := 16) (As := [.ref 6, .int p1]) (r := []) rfl (g_x_at16 6 p1 (by omega)) fun v1 => ?_
  exact Go_ret (fun _ h => h) rfl
set_option maxRecDepth 1000000 in
set_option maxHeartbeats 4000000 in
theorem g_sho_wantPart152 (p1 : Int32) (p2 : Int32) {X : XX} {g : GG} {I : MJ} {d : Nat} (hd : 1 ≤ d) : Go d 152 0 (lv_args 0 [.ref 3, .int p1, .int p2]) [] (hh X g I) (f_sho_wantPart152 p1 p2 I) (pR X g I) := by
  obtain ⟨d, rfl⟩ : ∃ k, d = k + 1 := ⟨d - 1, by omega⟩
  unfold f_sho_wantPart152
  refine Go_blk 7 (pc' := 9) (L' := [(0, .ref 3), (1, .int p1), (2, .int p2)]) (S' := [.int (((5 : Int32) * p1) + p2), .ref 7]) (h' := (hh X g I)) rfl ?_
  refine Go_cR (y' := 16) (As := [.ref 7, .int (((5 : Int32) * p1) + p2)]) (r := []) rfl (g_x_at16 7 (((5 : Int32) * p1) + p2) (by omega)) fun v1 => ?_
  exact Go_ret (fun _ h => h) rfl
set_option maxRecDepth 1000000 in
set_option maxHeartbeats 4000000 in
theorem g_sho_wantsOf151 (p1 : Int32) {X : XX} {g : GG} {I : MJ} {d : Nat} (hd : 2 ≤ d) : Go d 151 0 (lv_args 0 [.ref 3, .int p1]) [] (hh X g I) (f_sho_wantsOf151 p1 I) (pR X g I) := by
  obtain ⟨d, rfl⟩ : ∃ k, d = k + 1 := ⟨d - 1, by omega⟩
  unfold f_sho_wantsOf151
  refine Go_blk 4 (pc' := 4) (L' := [(3, .int (0 : Int32)), (2, .int (0 : Int32)), (0, .ref 3), (1, .int p1)]) (S' := []) (h' := (hh X g I)) rfl ?_
  refine Go_lcs [(0, .ref 3), (1, .int p1), (2, .int (0 : Int32)), (3, .int (0 : Int32))] rfl ⟨rfl, rfl, rfl, rfl, trivial⟩ ?_
  refine Go_seq (pcj := 38) (fun (b2 : Int32) => [(2, .int b2)]) (fun (b2 : Int32) => []) (fun (b2 : Int32) => (hh X g I)) (fun b2 => ?_) ?_
  ·
    refine Go_blk 1 (pc' := 39) (L' := [(2, .int b2)]) (S' := [.int b2]) (h' := (hh X g I)) rfl ?_
    exact Go_ret (fun _ h => h) rfl
  ·
    refine Go_wh (fun (s1 : Int32 × Int32) => [(0, .ref 3), (1, .int p1), (2, .int s1.1), (3, .int s1.2)]) (fun _ => []) (fun (s1 : Int32 × Int32) => (hh X g I)) (fun s1 => ?_) ((0 : Int32), (0 : Int32))
    refine Go_blk 3 (pc' := 9) (L' := [(0, .ref 3), (1, .int p1), (2, .int s1.1), (3, .int s1.2)]) (S' := [.int (I 3 7), .int s1.2]) (h' := (hh X g I)) rfl ?_
    refine Go_cmpn rfl rfl (ab_cge _ _) ?_ ?_
    ·
      refine Go_blk 4 (pc' := 16) (L' := [(0, .ref 3), (1, .int p1), (2, .int s1.1), (3, .int s1.2)]) (S' := [.int (0 : Int32), .int s1.2, .ref 3, .int s1.1]) (h' := (hh X g I)) rfl ?_
      refine Go_cR (y' := 152) (As := [.ref 3, .int s1.2, .int (0 : Int32)]) (r := [.int s1.1]) rfl (g_sho_wantPart152 s1.2 (0 : Int32) (by omega)) fun v3 => ?_
      refine Go_blk 1 (pc' := 20) (L' := [(0, .ref 3), (1, .int p1), (2, .int s1.1), (3, .int s1.2)]) (S' := [.int p1, .int v3, .int s1.1]) (h' := (hh X g I)) rfl ?_
      refine Go_seq (pcj := 30) (fun (b4 : Int32) => [(0, .ref 3), (1, .int p1), (3, .int s1.2)]) (fun (b4 : Int32) => [.int b4, .int s1.1]) (fun (b4 : Int32) => (hh X g I)) (fun b4 => ?_) ?_
      ·
        refine Go_blk 4 (pc' := 4) (L' := [(3, .int (s1.2 + (1 : Int32))), (2, .int (s1.1 ||| b4)), (0, .ref 3), (1, .int p1)]) (S' := []) (h' := (hh X g I)) rfl ?_
        exact Go_jmp [(0, .ref 3), (1, .int p1), (2, .int (s1.1 ||| b4)), (3, .int (s1.2 + (1 : Int32)))] rfl ⟨rfl, rfl, rfl, rfl, trivial⟩ (fun _ h => h)
      ·
        refine Go_cmpn rfl rfl rfl ?_ ?_
        ·
          refine Go_blk 4 (pc' := 30) (L' := [(0, .ref 3), (1, .int p1), (2, .int s1.1), (3, .int s1.2)]) (S' := [.int ((1 : Int32) <<< (s1.2 &&& 31)), .int s1.1]) (h' := (hh X g I)) rfl ?_
          exact Go_jmp [(0, .ref 3), (1, .int p1), (3, .int s1.2)] rfl ⟨rfl, rfl, rfl, trivial⟩ (fun _ h => h)
        ·
          refine Go_blk 1 (pc' := 30) (L' := [(0, .ref 3), (1, .int p1), (2, .int s1.1), (3, .int s1.2)]) (S' := [.int (0 : Int32), .int s1.1]) (h' := (hh X g I)) rfl ?_
          exact Go_jmp [(0, .ref 3), (1, .int p1), (3, .int s1.2)] rfl ⟨rfl, rfl, rfl, trivial⟩ (fun _ h => h)
    ·
      exact Go_jmp [(2, .int s1.1)] rfl ⟨rfl, trivial⟩ (fun _ h => h)
set_option maxRecDepth 1000000 in
set_option maxHeartbeats 4000000 in
theorem g_x_hoursOf155 (p0 : Nat) (p1 : Int32) (p2 : Int32) {X : XX} {g : GG} {I : MJ} {d : Nat} (hd : 1 ≤ d) : Go d 155 0 (lv_args 0 [.ref p0, .int p1, .int p2]) [] (hh X g I) (f_x_hoursOf155 p0 p1 p2 I) (pR X g I) := by
  obtain ⟨d, rfl⟩ : ∃ k, d = k + 1 := ⟨d - 1, by omega⟩
  unfold f_x_hoursOf155
  refine Go_blk 4 (pc' := 5) (L' := [(4, .int (0 : Int32)), (3, .int (0 : Int32)), (0, .ref p0), (1, .int p1), (2, .int p2)]) (S' := []) (h' := (hh X g I)) rfl ?_
  refine Go_lcs [(0, .ref p0), (1, .int p1), (2, .int p2), (3, .int (0 : Int32)), (4, .int (0 : Int32))] rfl ⟨rfl, rfl, rfl, rfl, rfl, trivial⟩ ?_
  refine Go_seq (pcj := 38) (fun (b2 : Int32) => [(3, .int b2)]) (fun (b2 : Int32) => []) (fun (b2 : Int32) => (hh X g I)) (fun b2 => ?_) ?_
  ·
    refine Go_blk 1 (pc' := 39) (L' := [(3, .int b2)]) (S' := [.int b2]) (h' := (hh X g I)) rfl ?_
    exact Go_ret (fun _ h => h) rfl
  ·
    refine Go_wh (fun (s1 : Int32 × Int32) => [(0, .ref p0), (1, .int p1), (2, .int p2), (3, .int s1.1), (4, .int s1.2)]) (fun _ => []) (fun (s1 : Int32 × Int32) => (hh X g I)) (fun s1 => ?_) ((0 : Int32), (0 : Int32))
    refine Go_blk 2 (pc' := 9) (L' := [(0, .ref p0), (1, .int p1), (2, .int p2), (3, .int s1.1), (4, .int s1.2)]) (S' := [.int (12 : Int32), .int s1.2]) (h' := (hh X g I)) rfl ?_
    refine Go_cmpn rfl rfl (ab_cge _ _) ?_ ?_
    ·
      refine Go_blk 5 (pc' := 18) (L' := [(0, .ref p0), (1, .int p1), (2, .int p2), (3, .int s1.1), (4, .int s1.2)]) (S' := [.int (p1 + s1.2), .ref p0, .int s1.1]) (h' := (hh X g I)) rfl ?_
      refine Go_cR (y' := 16) (As := [.ref p0, .int (p1 + s1.2)]) (r := [.int s1.1]) rfl (g_x_at16 p0 (p1 + s1.2) (by omega)) fun v3 => ?_
      refine Go_blk 1 (pc' := 22) (L' := [(0, .ref p0), (1, .int p1), (2, .int p2), (3, .int s1.1), (4, .int s1.2)]) (S' := [.int p2, .int v3, .int s1.1]) (h' := (hh X g I)) rfl ?_
      refine Go_seq (pcj := 30) (fun (b4 : Int32) => [(0, .ref p0), (1, .int p1), (2, .int p2), (4, .int s1.2)]) (fun (b4 : Int32) => [.int b4, .int s1.1]) (fun (b4 : Int32) => (hh X g I)) (fun b4 => ?_) ?_
      ·
        refine Go_blk 4 (pc' := 5) (L' := [(4, .int (s1.2 + (1 : Int32))), (3, .int (s1.1 + b4)), (0, .ref p0), (1, .int p1), (2, .int p2)]) (S' := []) (h' := (hh X g I)) rfl ?_
        exact Go_jmp [(0, .ref p0), (1, .int p1), (2, .int p2), (3, .int (s1.1 + b4)), (4, .int (s1.2 + (1 : Int32)))] rfl ⟨rfl, rfl, rfl, rfl, rfl, trivial⟩ (fun _ h => h)
      ·
        refine Go_cmpn rfl rfl rfl ?_ ?_
        ·
          refine Go_blk 2 (pc' := 30) (L' := [(0, .ref p0), (1, .int p1), (2, .int p2), (3, .int s1.1), (4, .int s1.2)]) (S' := [.int (1 : Int32), .int s1.1]) (h' := (hh X g I)) rfl ?_
          exact Go_jmp [(0, .ref p0), (1, .int p1), (2, .int p2), (4, .int s1.2)] rfl ⟨rfl, rfl, rfl, rfl, trivial⟩ (fun _ h => h)
        ·
          refine Go_blk 1 (pc' := 30) (L' := [(0, .ref p0), (1, .int p1), (2, .int p2), (3, .int s1.1), (4, .int s1.2)]) (S' := [.int (0 : Int32), .int s1.1]) (h' := (hh X g I)) rfl ?_
          exact Go_jmp [(0, .ref p0), (1, .int p1), (2, .int p2), (4, .int s1.2)] rfl ⟨rfl, rfl, rfl, rfl, trivial⟩ (fun _ h => h)
    ·
      exact Go_jmp [(3, .int s1.1)] rfl ⟨rfl, trivial⟩ (fun _ h => h)
set_option maxRecDepth 1000000 in
set_option maxHeartbeats 4000000 in
theorem g_sta_bareHours154_17 (p1 : Int32) {X : XX} {g : GG} {I : MJ} {d : Nat} (hd : 2 ≤ d) : Go d 154 0 (lv_args 0 [.ref 17, .int p1]) [] (hh X g I) (f_sta_bareHours154 17 p1 I) (pR X g I) := by
  obtain ⟨d, rfl⟩ : ∃ k, d = k + 1 := ⟨d - 1, by omega⟩
  unfold f_sta_bareHours154
  refine Go_blk 2 (pc' := 2) (L' := [(0, .ref 17), (1, .int p1)]) (S' := [.int p1, .ref 17]) (h' := (hh X g I)) rfl ?_
  refine Go_cR (y' := 108) (As := [.ref 17, .int p1]) (r := []) rfl (g_sta_hasSuit108_17 p1 (by omega)) fun v1 => ?_
  refine Go_seq (pcj := 26) (fun (b2 : Int32) => []) (fun (b2 : Int32) => [.int b2]) (fun (b2 : Int32) => (hh X g I)) (fun b2 => ?_) ?_
  ·
    exact Go_ret (fun _ h => h) rfl
  ·
    refine Go_cmz rfl rfl rfl ?_ ?_
    ·
      refine Go_blk 1 (pc' := 26) (L' := [(0, .ref 17), (1, .int p1)]) (S' := [.int (0 : Int32)]) (h' := (hh X g I)) rfl ?_
      exact Go_jmp [] rfl trivial (fun _ h => h)
    ·
      refine Go_blk 4 (pc' := 14) (L' := [(0, .ref 17), (1, .int p1)]) (S' := [.int p1, .ref 17, .ref 18]) (h' := (hh X g I)) rfl ?_
      refine Go_cR (y' := 114) (As := [.ref 17, .int p1]) (r := [.ref 18]) rfl (g_sta_suitAt114_17 p1 (by omega)) fun v3 => ?_
      refine Go_blk 1 (pc' := 19) (L' := [(0, .ref 17), (1, .int p1)]) (S' := [.int (6 : Int32), .int v3, .ref 18]) (h' := (hh X g I)) rfl ?_
      refine Go_cR (y' := 155) (As := [.ref 18, .int v3, .int (6 : Int32)]) (r := []) rfl (g_x_hoursOf155 18 v3 (6 : Int32) (by omega)) fun v4 => ?_
      refine Go_blk 1 (pc' := 26) (L' := [(0, .ref 17), (1, .int p1)]) (S' := [.int v4]) (h' := (hh X g I)) rfl ?_
      exact Go_jmp [] rfl trivial (fun _ h => h)
set_option maxRecDepth 1000000 in
set_option maxHeartbeats 4000000 in
theorem g_sta_bareHours154_15 (p1 : Int32) {X : XX} {g : GG} {I : MJ} {d : Nat} (hd : 2 ≤ d) : Go d 154 0 (lv_args 0 [.ref 15, .int p1]) [] (hh X g I) (f_sta_bareHours154 15 p1 I) (pR X g I) := by
  obtain ⟨d, rfl⟩ : ∃ k, d = k + 1 := ⟨d - 1, by omega⟩
  unfold f_sta_bareHours154
  refine Go_blk 2 (pc' := 2) (L' := [(0, .ref 15), (1, .int p1)]) (S' := [.int p1, .ref 15]) (h' := (hh X g I)) rfl ?_
  refine Go_cR (y' := 108) (As := [.ref 15, .int p1]) (r := []) rfl (g_sta_hasSuit108_15 p1 (by omega)) fun v1 => ?_
  refine Go_seq (pcj := 26) (fun (b2 : Int32) => []) (fun (b2 : Int32) => [.int b2]) (fun (b2 : Int32) => (hh X g I)) (fun b2 => ?_) ?_
  ·
    exact Go_ret (fun _ h => h) rfl
  ·
    refine Go_cmz rfl rfl rfl ?_ ?_
    ·
      refine Go_blk 1 (pc' := 26) (L' := [(0, .ref 15), (1, .int p1)]) (S' := [.int (0 : Int32)]) (h' := (hh X g I)) rfl ?_
      exact Go_jmp [] rfl trivial (fun _ h => h)
    ·
      refine Go_blk 4 (pc' := 14) (L' := [(0, .ref 15), (1, .int p1)]) (S' := [.int p1, .ref 15, .ref 16]) (h' := (hh X g I)) rfl ?_
      refine Go_cR (y' := 114) (As := [.ref 15, .int p1]) (r := [.ref 16]) rfl (g_sta_suitAt114_15 p1 (by omega)) fun v3 => ?_
      refine Go_blk 1 (pc' := 19) (L' := [(0, .ref 15), (1, .int p1)]) (S' := [.int (6 : Int32), .int v3, .ref 16]) (h' := (hh X g I)) rfl ?_
      refine Go_cR (y' := 155) (As := [.ref 16, .int v3, .int (6 : Int32)]) (r := []) rfl (g_x_hoursOf155 16 v3 (6 : Int32) (by omega)) fun v4 => ?_
      refine Go_blk 1 (pc' := 26) (L' := [(0, .ref 15), (1, .int p1)]) (S' := [.int v4]) (h' := (hh X g I)) rfl ?_
      exact Go_jmp [] rfl trivial (fun _ h => h)
set_option maxRecDepth 1000000 in
set_option maxHeartbeats 4000000 in
theorem g_x_suitFact153 (p1 : Int32) (p2 : Int32) {X : XX} {g : GG} {I : MJ} {d : Nat} (hd : 3 ≤ d) : Go d 153 0 (lv_args 0 [.ref 0, .int p1, .int p2]) [] (hh X g I) (f_x_suitFact153 p1 p2 I) (pR X g I) := by
  obtain ⟨d, rfl⟩ : ∃ k, d = k + 1 := ⟨d - 1, by omega⟩
  unfold f_x_suitFact153
  refine Go_blk 1 (pc' := 1) (L' := [(0, .ref 0), (1, .int p1), (2, .int p2)]) (S' := [.int p2]) (h' := (hh X g I)) rfl ?_
  refine Go_sw ?_ fun h0 => ?_
  ·
    refine Go_blk 1 (pc' := 32) (L' := [(0, .ref 0), (1, .int p1), (2, .int p2)]) (S' := []) (h' := (hh X g I)) rfl ?_
    refine Go_blk 1 (pc' := 33) (L' := [(0, .ref 0), (1, .int p1), (2, .int p2)]) (S' := [.int (1 : Int32)]) (h' := (hh X g I)) rfl ?_
    exact Go_ret (fun _ h => h) rfl
  refine Go_sw ?_ fun h1 => ?_
  ·
    refine Go_blk 1 (pc' := 34) (L' := [(0, .ref 0), (1, .int p1), (2, .int p2)]) (S' := []) (h' := (hh X g I)) rfl ?_
    refine Go_blk 3 (pc' := 39) (L' := [(0, .ref 0), (1, .int p1), (2, .int p2)]) (S' := [.int p1, .ref 15]) (h' := (hh X g I)) rfl ?_
    refine Go_cR (y' := 132) (As := [.ref 15, .int p1]) (r := []) rfl (g_sta_ageOf132_15 p1 (by omega)) fun v1 => ?_
    exact Go_ret (fun _ h => h) rfl
  refine Go_sw ?_ fun h2 => ?_
  ·
    refine Go_blk 1 (pc' := 43) (L' := [(0, .ref 0), (1, .int p1), (2, .int p2)]) (S' := []) (h' := (hh X g I)) rfl ?_
    refine Go_blk 3 (pc' := 48) (L' := [(0, .ref 0), (1, .int p1), (2, .int p2)]) (S' := [.int p1, .ref 15]) (h' := (hh X g I)) rfl ?_
    refine Go_cR (y' := 154) (As := [.ref 15, .int p1]) (r := []) rfl (g_sta_bareHours154_15 p1 (by omega)) fun v2 => ?_
    exact Go_ret (fun _ h => h) rfl
  refine Go_sw ?_ fun h3 => ?_
  ·
    refine Go_blk 1 (pc' := 52) (L' := [(0, .ref 0), (1, .int p1), (2, .int p2)]) (S' := []) (h' := (hh X g I)) rfl ?_
    refine Go_blk 6 (pc' := 64) (L' := [(0, .ref 0), (1, .int p1), (2, .int p2)]) (S' := [.int p1, .ref 15, .ref 16]) (h' := (hh X g I)) rfl ?_
    refine Go_cR (y' := 114) (As := [.ref 15, .int p1]) (r := [.ref 16]) rfl (g_sta_suitAt114_15 p1 (by omega)) fun v3 => ?_
    refine Go_cR (y' := 133) (As := [.ref 16, .int v3]) (r := []) rfl (g_x_seamsOf133 16 v3 (by omega)) fun v4 => ?_
    exact Go_ret (fun _ h => h) rfl
  refine Go_swd (t := 71) 4 rfl (by decide) (by decide) (by decide) ⟨⟨⟨⟨trivial, h0⟩, h1⟩, h2⟩, h3⟩ rfl ?_
  refine Go_blk 6 (pc' := 83) (L' := [(0, .ref 0), (1, .int p1), (2, .int p2)]) (S' := [.int p1, .ref 15, .ref 16]) (h' := (hh X g I)) rfl ?_
  refine Go_cR (y' := 114) (As := [.ref 15, .int p1]) (r := [.ref 16]) rfl (g_sta_suitAt114_15 p1 (by omega)) fun v5 => ?_
  refine Go_cR (y' := 79) (As := [.ref 16, .int v5]) (r := []) rfl (g_x_runsOf79 16 v5 (by omega)) fun v6 => ?_
  exact Go_ret (fun _ h => h) rfl
