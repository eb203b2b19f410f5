/-! the law, case by case (written by wip/whole/dec_law.py) -/
def TL (d : Nat) (X : XX) (r : (Int32 × MJ × GG) ⊕ (Int32 × MJ × GG)) (x : ab_O × ab_H) : Prop := match r with
  | .inl t => ev d 386 23 [(0, .ref 1000000), (1, .ref 0), (2, .ref 47), (3, .ref 698), (4, .int t.1)] [] (hh X t.2.2 t.2.1) x
  | .inr b => pG X b x
set_option maxRecDepth 1000000 in
set_option maxHeartbeats 4000000 in
theorem gl_c7 {X : XX} {i : Int32} {I : MJ} {g : GG} {d : Nat} (hd : 86 ≤ d + 1) : Go (d + 1) 386 598 [(0, .ref 1000000), (1, .ref 0), (2, .ref 47), (3, .ref 698), (4, .int i)] [] (hh X g I)
  (Option.bind (f_x_undo20 I) fun w1 =>
  (Option.bind (f_m_undo321 w1.2) fun w2 =>
  (if w1.1 = w2.1 then
  some (.inl ((i + (7 : Int32)), w2.2, g))
  else
  some (.inr ((0 : Int32), w2.2, g))
  )
  )
  )
  (TL (d + 1) X) := by
  refine Go_blk 1 (pc' := 599) (L' := [(0, .ref 1000000), (1, .ref 0), (2, .ref 47), (3, .ref 698), (4, .int i)]) (S' := [.ref 0]) (h' := (hh X g I)) rfl ?_
  refine Go_cW (y' := 20) (As := [.ref 0]) (r := []) rfl (g_x_undo20  (by omega)) fun w1 => ?_
  refine Go_blk 1 (pc' := 603) (L' := [(0, .ref 1000000), (1, .ref 0), (2, .ref 47), (3, .ref 698), (4, .int i)]) (S' := [.ref 47, .int w1.1]) (h' := (hh X g w1.2)) rfl ?_
  refine Go_cW (y' := 321) (As := [.ref 47]) (r := [.int w1.1]) rfl (g_m_undo321  (by omega)) fun w2 => ?_
  refine Go_cmp rfl rfl rfl ?_ ?_
  ·
    refine Go_blk 2 (pc' := 23) (L' := [(4, .int (i + (7 : Int32))), (0, .ref 1000000), (1, .ref 0), (2, .ref 47), (3, .ref 698)]) (S' := []) (h' := (hh X g w2.2)) rfl ?_
    exact Go_jmp [(0, .ref 1000000), (1, .ref 0), (2, .ref 47), (3, .ref 698), (4, .int (i + (7 : Int32)))] rfl ⟨rfl, rfl, rfl, rfl, rfl, trivial⟩ (fun _ h => h)
  ·
    refine Go_inrS ?_
    refine Go_blk 1 (pc' := 610) (L' := [(0, .ref 1000000), (1, .ref 0), (2, .ref 47), (3, .ref 698), (4, .int i)]) (S' := [.int (0 : Int32)]) (h' := (hh X g w2.2)) rfl ?_
    exact Go_ret (fun _ h => h) rfl
set_option maxRecDepth 1000000 in
set_option maxHeartbeats 4000000 in
theorem gl_c8 {X : XX} {i : Int32} {I : MJ} {g : GG} {d : Nat} (hd : 86 ≤ d + 1) : Go (d + 1) 386 611 [(0, .ref 1000000), (1, .ref 0), (2, .ref 47), (3, .ref 698), (4, .int i)] [] (hh X g I)
  (Option.bind (rds X (i + (1 : Int32))) fun v1 =>
  (Option.bind (f_l_told140 v1 I g) fun w2 =>
  (Option.bind (rds X (i + (1 : Int32))) fun v3 =>
  (Option.bind (f_m_told324 v3 w2.2.1) fun w4 =>
  (Option.bind (f_m_thrown265 w4.2) fun v5 =>
  (if v5 = w2.1 then
  (if w2.1 = 0 then
  (Option.bind (rdl w2.2.2 698 (0 : Int32)) fun v6 =>
  (if (lg_cmp v6 (w4.1.toInt64)) = 0 then
  some (.inl ((i + (7 : Int32)), w4.2, w2.2.2))
  else
  some (.inr ((0 : Int32), w4.2, w2.2.2))
  )
  )
  else
  some (.inl ((i + (7 : Int32)), w4.2, w2.2.2))
  )
  else
  some (.inr ((0 : Int32), w4.2, w2.2.2))
  )
  )
  )
  )
  )
  )
  (TL (d + 1) X) := by
  refine Go_blk 5 (pc' := 617) (L' := [(0, .ref 1000000), (1, .ref 0), (2, .ref 47), (3, .ref 698), (4, .int i)]) (S' := [.int (i + (1 : Int32)), .ref 1000000, .ref 0]) (h' := (hh X g I)) rfl ?_
  refine Go_ialds rfl fun v1 => ?_
  refine Go_blk 1 (pc' := 619) (L' := [(0, .ref 1000000), (1, .ref 0), (2, .ref 47), (3, .ref 698), (4, .int i)]) (S' := [.ref 698, .int v1, .ref 0]) (h' := (hh X g I)) rfl ?_
  refine Go_cG (y' := 140) (As := [.ref 0, .int v1, .ref 698]) (r := []) rfl (g_l_told140 v1 (by omega)) fun w2 => ?_
  refine Go_blk 6 (pc' := 630) (L' := [(5, .int w2.1), (0, .ref 1000000), (1, .ref 0), (2, .ref 47), (3, .ref 698), (4, .int i)]) (S' := [.int (i + (1 : Int32)), .ref 1000000, .ref 47]) (h' := (hh X w2.2.2 w2.2.1)) rfl ?_
  refine Go_ialds rfl fun v3 => ?_
  refine Go_cW (y' := 324) (As := [.ref 47, .int v3]) (r := []) rfl (g_m_told324 v3 (by omega)) fun w4 => ?_
  refine Go_blk 2 (pc' := 637) (L' := [(6, .int w4.1), (5, .int w2.1), (0, .ref 1000000), (1, .ref 0), (2, .ref 47), (3, .ref 698), (4, .int i)]) (S' := [.ref 47]) (h' := (hh X w2.2.2 w4.2)) rfl ?_
  refine Go_cR (y' := 265) (As := [.ref 47]) (r := []) rfl (g_m_thrown265  (by omega)) fun v5 => ?_
  refine Go_blk 1 (pc' := 642) (L' := [(6, .int w4.1), (5, .int w2.1), (0, .ref 1000000), (1, .ref 0), (2, .ref 47), (3, .ref 698), (4, .int i)]) (S' := [.int w2.1, .int v5]) (h' := (hh X w2.2.2 w4.2)) rfl ?_
  refine Go_cmp rfl rfl rfl ?_ ?_
  ·
    refine Go_blk 1 (pc' := 649) (L' := [(6, .int w4.1), (5, .int w2.1), (0, .ref 1000000), (1, .ref 0), (2, .ref 47), (3, .ref 698), (4, .int i)]) (S' := [.int w2.1]) (h' := (hh X w2.2.2 w4.2)) rfl ?_
    refine Go_cmzn rfl rfl rfl ?_ ?_
    ·
      refine Go_blk 2 (pc' := 654) (L' := [(6, .int w4.1), (5, .int w2.1), (0, .ref 1000000), (1, .ref 0), (2, .ref 47), (3, .ref 698), (4, .int i)]) (S' := [.int (0 : Int32), .ref 698]) (h' := (hh X w2.2.2 w4.2)) rfl ?_
      refine Go_lald rfl fun v6 => ?_
      refine Go_blk 3 (pc' := 659) (L' := [(6, .int w4.1), (5, .int w2.1), (0, .ref 1000000), (1, .ref 0), (2, .ref 47), (3, .ref 698), (4, .int i)]) (S' := [.int (lg_cmp v6 (w4.1.toInt64))]) (h' := (hh X w2.2.2 w4.2)) rfl ?_
      refine Go_cmz rfl rfl rfl ?_ ?_
      ·
        refine Go_blk 3 (pc' := 23) (L' := [(4, .int (i + (7 : Int32))), (6, .int w4.1), (5, .int w2.1), (0, .ref 1000000), (1, .ref 0), (2, .ref 47), (3, .ref 698)]) (S' := []) (h' := (hh X w2.2.2 w4.2)) rfl ?_
        exact Go_jmp [(0, .ref 1000000), (1, .ref 0), (2, .ref 47), (3, .ref 698), (4, .int (i + (7 : Int32)))] rfl ⟨rfl, rfl, rfl, rfl, rfl, trivial⟩ (fun _ h => h)
      ·
        refine Go_inrS ?_
        refine Go_blk 1 (pc' := 663) (L' := [(6, .int w4.1), (5, .int w2.1), (0, .ref 1000000), (1, .ref 0), (2, .ref 47), (3, .ref 698), (4, .int i)]) (S' := [.int (0 : Int32)]) (h' := (hh X w2.2.2 w4.2)) rfl ?_
        exact Go_ret (fun _ h => h) rfl
    ·
      refine Go_blk 3 (pc' := 23) (L' := [(4, .int (i + (7 : Int32))), (6, .int w4.1), (5, .int w2.1), (0, .ref 1000000), (1, .ref 0), (2, .ref 47), (3, .ref 698)]) (S' := []) (h' := (hh X w2.2.2 w4.2)) rfl ?_
      exact Go_jmp [(0, .ref 1000000), (1, .ref 0), (2, .ref 47), (3, .ref 698), (4, .int (i + (7 : Int32)))] rfl ⟨rfl, rfl, rfl, rfl, rfl, trivial⟩ (fun _ h => h)
  ·
    refine Go_inrS ?_
    refine Go_blk 1 (pc' := 646) (L' := [(6, .int w4.1), (5, .int w2.1), (0, .ref 1000000), (1, .ref 0), (2, .ref 47), (3, .ref 698), (4, .int i)]) (S' := [.int (0 : Int32)]) (h' := (hh X w2.2.2 w4.2)) rfl ?_
    exact Go_ret (fun _ h => h) rfl
