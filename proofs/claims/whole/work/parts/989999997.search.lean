/-! pieces: the reference's search -/
theorem gd_app1 {α : Type} {d : α} {m : List α} : ∀ {l : List α} {j : Nat}, j < l.length → (l ++ m).getD j d = l.getD j d
  | [], j, h => absurd h (Nat.not_lt_zero j)
  | x :: t, 0, _ => rfl
  | x :: t, j + 1, h => gd_app1 (l := t) (Nat.lt_of_succ_lt_succ h)
theorem gd_app2 {α : Type} {d x : α} : ∀ {l : List α}, (l ++ [x]).getD l.length d = x
  | [] => rfl
  | y :: t => gd_app2 (l := t)
theorem gd_mem {α : Type} {d : α} : ∀ {l : List α} {j : Nat}, j < l.length → l.getD j d ∈ l
  | [], j, h => absurd h (Nat.not_lt_zero j)
  | x :: t, 0, _ => List.mem_cons_self
  | x :: t, j + 1, h => List.mem_cons_of_mem _ (gd_mem (l := t) (Nat.lt_of_succ_lt_succ h))
theorem drop_gd {α : Type} {d : α} : ∀ {l : List α} {i : Nat}, i < l.length → l.drop i = l.getD i d :: l.drop (i + 1)
  | [], i, h => absurd h (Nat.not_lt_zero i)
  | x :: t, 0, _ => rfl
  | x :: t, i + 1, h => drop_gd (l := t) (Nat.lt_of_succ_lt_succ h)
theorem up_back {J : MJ} {a j : Nat} {x : Int32} : ab_up1 (ab_up1 J a j x) a j (J a j) = J := by
  funext b k
  by_cases e : b = a ∧ k = j
  · obtain ⟨rfl, rfl⟩ := e
    exact up_eq
  · rw [up_ne e, up_ne e]
def pkC (bk : Nat → Nat) (nb : Nat) (RL : List (Nat × Nat)) (I : MJ) : Prop := I 51 0 = Int32.ofNat nb ∧ (∀ b, b < nb → I (66 + b) 0 = Int32.ofNat (bk b)) ∧ I 47 53 = Int32.ofNat RL.length ∧ ∀ j, j < RL.length → I 694 j = Int32.ofNat (RL.getD j (0, 0)).1 ∧ I 695 j = Int32.ofNat (RL.getD j (0, 0)).2
noncomputable def pkB (r : Int32 → Int32 → MJ → Option (Int32 × MJ)) (p1 p2 : Int32) : Int32 × MJ → Option ((Int32 × MJ) ⊕ (Int32 × MJ)) := fun (s1 : Int32 × MJ) =>
  (if s1.1 < (s1.2 51 0) then
  (Option.bind (f_m_has313 p2 s1.1 s1.2) fun v2 =>
  (if v2 = 0 then
  some (.inl ((s1.1 + (1 : Int32)), s1.2))
  else
  (Option.bind (rdp 65 s1.1) fun r3 =>
  (Option.bind (rd s1.2 r3 (0 : Int32)) fun v4 =>
  (Option.bind (rd s1.2 694 p1) fun v5 =>
  (if v4 = v5 then
  (Option.bind (rd s1.2 696 s1.1) fun v6 =>
  (Option.bind (rd s1.2 695 p1) fun v7 =>
  (if v6 < v7 then
  some (.inl ((s1.1 + (1 : Int32)), s1.2))
  else
  (Option.bind (rd s1.2 696 s1.1) fun v8 =>
  (Option.bind (rd s1.2 695 p1) fun v9 =>
  (Option.bind (wr s1.2 696 s1.1 (v8 - v9)) fun I10 =>
  (Option.bind (r (p1 + (1 : Int32)) p2 I10) fun w11 =>
  (Option.bind (rd w11.2 696 s1.1) fun v12 =>
  (Option.bind (rd w11.2 695 p1) fun v13 =>
  (Option.bind (wr w11.2 696 s1.1 (v12 + v13)) fun I14 =>
  (if w11.1 = 0 then
  some (.inl ((s1.1 + (1 : Int32)), I14))
  else
  some (.inr ((1 : Int32), I14))
  )
  )
  )
  )
  )
  )
  )
  )
  )
  )
  )
  else
  some (.inl ((s1.1 + (1 : Int32)), s1.2))
  )
  )
  )
  )
  )
  )
  else
  some (.inr ((0 : Int32), s1.2))
  )
theorem pkB_eq {r : Int32 → Int32 → MJ → Option (Int32 × MJ)} {p1 p2 : Int32} {I : MJ} : F_m_packs356 r p1 p2 I = if p1 = (I 47 53) then some ((1 : Int32), I) else wh (pkB r p1 p2) ((0 : Int32), I) := rfl
section SEARCH
variable {bk : Nat → Nat} {nb set : Nat} {RL : List (Nat × Nat)}
theorem m_packs (hb : nb ≤ 10) (hs : set < 2 ^ nb) (hR : RL.length ≤ 12) (hK : ∀ b, b < nb → bk b < 6) (hl : ∀ x, x ∈ RL → x.1 < 6 ∧ x.2 ≤ 12) : ∀ (k i : Nat) (L : Nat → Nat) (I : MJ), RL.length < k + i → i ≤ RL.length → pkC bk nb RL I → (∀ b, b < nb → L b ≤ 60 ∧ I 696 b = Int32.ofNat (L b)) → ∃ v, f_m_packs356 k (Int32.ofNat i) (Int32.ofNat set) I = some (v, I) ∧ ((v = 1 ∧ PM (Qk bk nb set) (RL.drop i) L) ∨ (v = 0 ∧ ¬ PM (Qk bk nb set) (RL.drop i) L))
  | 0, i, L, I, h1, h2, _, _ => by omega
  | k + 1, i, L, I, h1, h2, hc, hL => by
    have hs31 : set < 2147483648 := Nat.lt_of_lt_of_le hs (Nat.le_trans (Nat.pow_le_pow_right (by decide) hb) (by decide))
    obtain ⟨c1, c2, c3, c4⟩ := id hc
    show ∃ v, F_m_packs356 (f_m_packs356 k) (Int32.ofNat i) (Int32.ofNat set) I = some (v, I) ∧ _
    rw [pkB_eq, c3]
    by_cases hi : i = RL.length
    · refine ⟨1, ?_, Or.inl ⟨rfl, ?_⟩⟩
      · rw [if_pos (by rw [hi])]
      · rw [hi, List.drop_length]
        trivial
    · have hi' : i < RL.length := by omega
      rw [if_neg (neq_l hi (by omega) (by omega)), drop_gd (d := (0, 0)) hi']
      have hx := hl _ (gd_mem (d := (0, 0)) hi')
      obtain ⟨x4, x5⟩ := c4 i hi'
      generalize RL.getD i (0, 0) = x at hx x4 x5
      obtain ⟨hx1, hx2⟩ := hx
      have r4 : rd I 694 (Int32.ofNat i) = some (Int32.ofNat x.1) := by rw [← x4]; exact rd_ok (n := 12) rfl (by omega) (by decide) (by decide)
      have r5 : ∀ J : MJ, J 695 i = I 695 i → rd J 695 (Int32.ofNat i) = some (Int32.ofNat x.2) := fun J hJ => by rw [← x5, ← hJ]; exact rd_ok (n := 12) rfl (by omega) (by decide) (by decide)
      have loop : ∀ t b, b + t = nb → ∃ v, wh (pkB (f_m_packs356 k) (Int32.ofNat i) (Int32.ofNat set)) (Int32.ofNat b, I) = some (v, I) ∧ ((v = 1 ∧ ∃ c, Qk bk nb set x.1 c ∧ x.2 ≤ L c ∧ PM (Qk bk nb set) (RL.drop (i + 1)) (upL L c x.2)) ∨ (v = 0 ∧ ∀ c, b ≤ c → ¬ (Qk bk nb set x.1 c ∧ x.2 ≤ L c ∧ PM (Qk bk nb set) (RL.drop (i + 1)) (upL L c x.2)))) := by
        intro t
        induction t with
        | zero =>
          intro b hbt
          refine ⟨0, wh_inr ?_, Or.inr ⟨rfl, fun c hc z => by have := z.1.1; omega⟩⟩
          unfold pkB
          try dsimp only
          rw [if_neg (by rw [c1]; exact nlt_l (by omega) (by omega) (by omega))]
        | succ t ih =>
          intro b hbt
          have hbn : b < nb := by omega
          obtain ⟨v, w1, w2⟩ := ih (b + 1) (by omega)
          have skip : ¬ (Qk bk nb set x.1 b ∧ x.2 ≤ L b ∧ PM (Qk bk nb set) (RL.drop (i + 1)) (upL L b x.2)) → pkB (f_m_packs356 k) (Int32.ofNat i) (Int32.ofNat set) (Int32.ofNat b, I) = some (.inl (Int32.ofNat (b + 1), I)) → ∃ v, wh (pkB (f_m_packs356 k) (Int32.ofNat i) (Int32.ofNat set)) (Int32.ofNat b, I) = some (v, I) ∧ ((v = 1 ∧ ∃ c, Qk bk nb set x.1 c ∧ x.2 ≤ L c ∧ PM (Qk bk nb set) (RL.drop (i + 1)) (upL L c x.2)) ∨ (v = 0 ∧ ∀ c, b ≤ c → ¬ (Qk bk nb set x.1 c ∧ x.2 ≤ L c ∧ PM (Qk bk nb set) (RL.drop (i + 1)) (upL L c x.2)))) := fun hn he => by
            refine ⟨v, (wh_inl he).trans w1, ?_⟩
            rcases w2 with w2 | ⟨w2, w3⟩
            · exact Or.inl w2
            · refine Or.inr ⟨w2, fun c hc => ?_⟩
              by_cases z : c = b
              · rw [z]; exact hn
              · exact w3 c (by omega)
          have e1 : Int32.ofNat b < I 51 0 := by rw [c1]; exact lt_l hbn (by omega)
          have e2 : f_m_has313 (Int32.ofNat set) (Int32.ofNat b) I = some (if set.testBit b = true then 1 else 0) := by rw [m_has, bitF_nat hs31 (by omega)]
          by_cases hbit : set.testBit b = true
          · rw [if_pos hbit] at e2
            have e3 : rd I (66 + b) (0 : Int32) = some (Int32.ofNat (bk b)) := by
              rw [← c2 b hbn]
              exact rdr_65 (w := b) (k := 0) (by omega) (by decide)
            have e6 : ∀ J : MJ, rd J 696 (Int32.ofNat b) = some (J 696 b) := fun J => rd_ok (n := 10) rfl (by omega) (by decide) (by decide)
            obtain ⟨l60, l6⟩ := hL b hbn
            by_cases hkx : bk b = x.1
            · by_cases hlt : L b < x.2
              · refine skip (fun z => by have := z.2.1; omega) ?_
                unfold pkB
                try dsimp only
                rw [if_pos e1, e2, ob_some, if_neg (show ¬ (1 : Int32) = 0 by decide), rdp_65 (by omega), ob_some, e3, ob_some, r4, ob_some, if_pos (by rw [hkx]), e6, ob_some, r5 I rfl, ob_some, if_pos (by rw [l6]; exact lt_l hlt (by omega)), i_addr]
              · have hle : x.2 ≤ L b := by omega
                have ec : pkC bk nb RL (ab_up1 I 696 b (Int32.ofNat (L b - x.2))) := ⟨by rw [up_ne (by omega)]; exact c1, fun c hc => by rw [up_ne (by omega)]; exact c2 c hc, by rw [up_ne (by omega)]; exact c3, fun j hj => ⟨by rw [up_ne (by omega)]; exact (c4 j hj).1, by rw [up_ne (by omega)]; exact (c4 j hj).2⟩⟩
                obtain ⟨y, y1, y2⟩ := m_packs hb hs hR hK hl k (i + 1) (upL L b x.2) (ab_up1 I 696 b (Int32.ofNat (L b - x.2))) (by omega) (by omega) ec (fun c hc => by
                  unfold upL
                  by_cases z : c = b
                  · subst z
                    rw [if_pos rfl, up_eq]
                    exact ⟨by omega, rfl⟩
                  · rw [if_neg z, up_ne (fun q => z q.2)]
                    exact hL c hc)
                have eb : ab_up1 (ab_up1 I 696 b (Int32.ofNat (L b - x.2))) 696 b (Int32.ofNat (L b)) = I := by rw [← l6]; exact up_back
                have main : ∀ R, (if y = 0 then some (Sum.inl (β := Int32 × MJ) (Int32.ofNat (b + 1), I)) else some (.inr ((1 : Int32), I))) = R → pkB (f_m_packs356 k) (Int32.ofNat i) (Int32.ofNat set) (Int32.ofNat b, I) = R := fun R hR => by
                  unfold pkB
                  try dsimp only
                  rw [if_pos e1, e2, ob_some, if_neg (show ¬ (1 : Int32) = 0 by decide), rdp_65 (by omega), ob_some, e3, ob_some, r4, ob_some, if_pos (by rw [hkx]), e6, ob_some, r5 I rfl, ob_some, if_neg (by rw [l6]; exact nlt_l hlt (by omega) (by omega)), ob_some, ob_some, l6, i_sub hle, wr_ok (a := 696) (n := 10) rfl (by omega) (by decide) (by decide), ob_some, show Int32.ofNat i + (1 : Int32) = Int32.ofNat (i + 1) from i_addr, y1, ob_some]
                  dsimp only
                  rw [e6, ob_some, r5 _ (up_ne (by omega)), ob_some, up_eq, i_add, Nat.sub_add_cancel hle, wr_ok (a := 696) (n := 10) rfl (by omega) (by decide) (by decide), ob_some, eb, show Int32.ofNat b + (1 : Int32) = Int32.ofNat (b + 1) from i_addr]
                  exact hR
                rcases y2 with ⟨rfl, y2⟩ | ⟨rfl, y2⟩
                · exact ⟨1, wh_inr (main _ (if_neg (by decide))), Or.inl ⟨rfl, b, ⟨hbn, hbit, hkx⟩, hle, y2⟩⟩
                · exact skip (fun z => y2 z.2.2) (main _ (if_pos rfl))
            · refine skip (fun z => hkx z.1.2.2) ?_
              unfold pkB
              try dsimp only
              rw [if_pos e1, e2, ob_some, if_neg (show ¬ (1 : Int32) = 0 by decide), rdp_65 (by omega), ob_some, e3, ob_some, r4, ob_some, if_neg (neq_l hkx (by have := hK b hbn; omega) (by omega)), i_addr]
          · rw [if_neg hbit] at e2
            refine skip (fun z => hbit z.1.2.1) ?_
            unfold pkB
            try dsimp only
            rw [if_pos e1, e2, ob_some, if_pos rfl, i_addr]
      obtain ⟨v, w1, w2⟩ := loop nb 0 (Nat.zero_add nb)
      refine ⟨v, w1, ?_⟩
      rcases w2 with ⟨w2, w3⟩ | ⟨w2, w3⟩
      · exact Or.inl ⟨w2, w3⟩
      · refine Or.inr ⟨w2, fun z => ?_⟩
        obtain ⟨c, z1⟩ := z
        exact w3 c (Nat.zero_le _) z1
theorem bit_and {s k : Nat} (hs : s < 2147483648) (hk : k < 31) : (Int32.ofNat s >>> (Int32.ofNat k &&& 31)) &&& (1 : Int32) = Int32.ofNat (if s.testBit k = true then 1 else 0) := by
  have hb := bitF_nat hs hk
  unfold bitF at hb
  rcases and1 (Int32.ofNat s >>> (Int32.ofNat k &&& 31)) with h | h
  · rw [h] at hb ⊢
    rw [← hb, if_neg (by decide)]
    rfl
  · rw [h] at hb ⊢
    rw [← hb, if_pos (by decide)]
    rfl
theorem sN_tail {t : Nat → Nat} {m : Nat} : ∀ {n : Nat}, m ≤ n → (∀ k, m ≤ k → k < n → t k = 0) → sN t n = sN t m
  | 0, h, _ => by rw [show m = 0 by omega]
  | n + 1, h, e => by
    by_cases z : m = n + 1
    · rw [z]
    · show sN t n + t n = sN t m
      rw [sN_tail (n := n) (by omega) (fun k h1 h2 => e k h1 (by omega)), e n (by omega) (by omega)]
      rfl
theorem onesN_le {s : Nat} (hb : nb ≤ 10) : onesN nb s ≤ 10 := by
  have : onesN nb s ≤ 1 * nb := sN_le fun k _ => ite_01
  omega
theorem m_ones {I : MJ} (hb : nb ≤ 10) (hs : set < 2 ^ nb) : f_m_ones355 (Int32.ofNat set) I = some (Int32.ofNat (onesN nb set)) := by
  have hs31 : set < 2147483648 := Nat.lt_of_lt_of_le hs (Nat.le_trans (Nat.pow_le_pow_right (by decide) hb) (by decide))
  unfold f_m_ones355
  rw [wh_sum0 (fun k => Int32.ofNat (if set.testBit k = true then 1 else 0)) 10 ?_ ?_, ob_some, sm_sN, sN_tail (m := nb) hb (fun k h1 h2 => by
    rw [bit_lt hs h1]
    rfl)]
  · rfl
  · intro k hk s
    try dsimp only
    rw [if_pos (show Int32.ofNat k < (10 : Int32) from lt_l (b := 10) hk (by omega)), bit_and hs31 (by omega), i_addr]
  · intro s
    rfl
end SEARCH
