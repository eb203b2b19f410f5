/-! the bolt that a piece is taken off -/
/-- of the first i bolts: the first of those with the least that is enough -/
def chF (bk : Nat → Nat) (L : Nat → Int32) (x hrs : Int32) : Nat → Option Nat
  | 0 => none
  | i + 1 => if Int32.ofNat (bk i) = x ∧ ¬ L i < hrs then (match chF bk L x hrs i with
    | none => some i
    | some c => if L i < L c then some i else some c) else chF bk L x hrs i
def oI : Option Nat → Int32
  | none => -1
  | some c => Int32.ofNat c
theorem chF_lt {bk : Nat → Nat} {L : Nat → Int32} {x hrs : Int32} : ∀ {i c : Nat}, chF bk L x hrs i = some c → c < i
  | 0, c, h => by cases h
  | i + 1, c, h => by
    unfold chF at h
    split at h
    · split at h
      · cases h
        omega
      · rename_i d hd
        have := chF_lt hd
        split at h
        · cases h; omega
        · cases h; omega
    · have := chF_lt h
      omega
/-- what is chosen is of the kind and enough -/
theorem chF_ok {bk : Nat → Nat} {L : Nat → Int32} {x hrs : Int32} : ∀ {i c : Nat}, chF bk L x hrs i = some c → Int32.ofNat (bk c) = x ∧ ¬ L c < hrs
  | 0, c, h => by cases h
  | i + 1, c, h => by
    unfold chF at h
    split at h
    · rename_i hc
      split at h
      · cases h
        exact hc
      · rename_i d hd
        split at h
        · cases h; exact hc
        · cases h; exact chF_ok hd
    · exact chF_ok h
theorem chF_congr {bk : Nat → Nat} {L M : Nat → Int32} {x hrs : Int32} : ∀ {n : Nat}, (∀ b, b < n → L b = M b) → chF bk L x hrs n = chF bk M x hrs n
  | 0, _ => rfl
  | n + 1, h => by
    have ih := chF_congr (bk := bk) (x := x) (hrs := hrs) (n := n) (fun b hb => h b (by omega))
    unfold chF
    rw [ih, h n (by omega)]
    split
    · split
      · rfl
      · rename_i c hc
        rw [h c (by have := chF_lt hc; omega)]
    · rfl
section TAKE
variable {I : MJ}
theorem m_boltFor {a n nb : Nat} {bk : Nat → Nat} {x hrs : Int32} (hK : KS a = (100, n)) (ha : a < 699) (hn : 91 ≤ n ∧ n < 100000) (hb : nb ≤ 10) (e : I 51 0 = Int32.ofNat nb) (h66 : ∀ b, b < nb → I (66 + b) 0 = Int32.ofNat (bk b)) : f_m_boltFor309 a x hrs I = some (oI (chF bk (fun b => I a b) x hrs nb)) := by
  have hat : ∀ k, k < n → rd I a (Int32.ofNat k) = some (I a k) := fun k hk => rd_ok hK hk ha (by omega)
  have hat0 : ∀ k, k < n → rd I a ((0 : Int32) + Int32.ofNat k) = some (I a k) := fun k hk => by rw [Int32.zero_add]; exact hat k hk
  unfold f_m_boltFor309
  rw [show ((-1 : Int32), (0 : Int32)) = (oI (chF bk (fun b => I a b) x hrs 0), Int32.ofNat 0) from rfl, wh_seq (fun i => (oI (chF bk (fun b => I a b) x hrs i), Int32.ofNat i)) nb (b := oI (chF bk (fun b => I a b) x hrs nb)) ?_ ?_]
  · rfl
  · intro i hi
    dsimp only
    rw [if_pos (by rw [e, i_lt (by omega) (by omega)]; exact hi), rdp_65 (by omega), ob_some, show rd I (66 + i) 0 = some (I (66 + i) 0) from rdr_65 (w := i) (k := 0) (by omega) (by decide), ob_some, h66 i hi]
    have fin : ∀ w : Int32, w = oI (chF bk (fun b => I a b) x hrs (i + 1)) → some (Sum.inl (β := Int32) (w, Int32.ofNat i + 1)) = some (Sum.inl (oI (chF bk (fun b => I a b) x hrs (i + 1)), Int32.ofNat (i + 1))) := fun w hw => by rw [hw, show Int32.ofNat i + 1 = Int32.ofNat (i + 1) from i_addr (n := 1)]
    by_cases h1 : Int32.ofNat (bk i) = x
    · rw [if_pos h1, hat0 i (by omega), ob_some]
      by_cases h2 : I a i < hrs
      · rw [if_pos h2, ob_some]
        refine fin _ ?_
        show _ = oI (if Int32.ofNat (bk i) = x ∧ ¬ I a i < hrs then _ else _)
        rw [if_neg (fun h => h.2 h2)]
      · rw [if_neg h2]
        cases hc : chF bk (fun b => I a b) x hrs i with
        | none =>
          rw [if_pos (show oI none = -1 from rfl), ob_some]
          refine fin _ ?_
          have hu : chF bk (fun b => I a b) x hrs (i + 1) = some i := by
            unfold chF
            rw [hc, if_pos ⟨h1, h2⟩]
          rw [hu]
          rfl
        | some c =>
          have hci := chF_lt hc
          rw [if_neg (show ¬ oI (some c) = -1 from fun h => by rw [show oI (some c) = Int32.ofNat c from rfl, i_neg1 (by omega)] at h; exact h), ob_some, show rd I a ((0 : Int32) + oI (some c)) = some (I a c) from hat0 c (by omega), ob_some, o_ite, ob_some]
          refine fin _ ?_
          have hu : chF bk (fun b => I a b) x hrs (i + 1) = (if I a i < I a c then some i else some c) := by
            unfold chF
            rw [hc, if_pos ⟨h1, h2⟩]
          rw [hu]
          by_cases h3 : I a i < I a c
          · rw [if_pos h3, if_pos h3]; rfl
          · rw [if_neg h3, if_neg h3]
    · rw [if_neg h1, ob_some]
      refine fin _ ?_
      show _ = oI (if Int32.ofNat (bk i) = x ∧ ¬ I a i < hrs then _ else _)
      rw [if_neg (fun h => h1 h.1)]
  · exact if_neg (by rw [e]; exact Int32.lt_irrefl)
theorem x_take {t nb : Nat} {bk : Nat → Nat} {x hrs : Int32} (hK : KS (t + 1) = (100, 91)) (ha : t + 1 < 699) (hb : nb ≤ 10) (e : I 3 5 = Int32.ofNat nb) (h4 : ∀ b, b < nb → I 4 b = Int32.ofNat (bk b)) : f_sta_take111 t x hrs I = some (match chF bk (fun b => I (t + 1) (9 + b)) x hrs nb with
    | none => ((0 : Int32), I)
    | some c => ((1 : Int32), ab_up1 I (t + 1) (9 + c) (I (t + 1) (9 + c) - hrs))) := by
  have hat9 : ∀ k, k < 10 → f_x_at16 (t + 1) ((9 : Int32) + Int32.ofNat k) I = some (I (t + 1) (9 + k)) := fun k hk => by
    rw [show (9 : Int32) + Int32.ofNat k = Int32.ofNat (9 + k) from i_addl (n := 9)]
    exact at_ok hK ha (by decide) (by omega)
  have loop : wh (fun (s1 : Int32 × Int32) =>
      (if s1.2 < (I 3 5) then
      (Option.bind (f_x_at16 (t + 1) ((9 : Int32) + s1.2) I) fun v5 =>
      (Option.bind (f_x_at16 4 s1.2 I) fun v6 =>
      (Option.bind (α := Int32)
      (if v6 = x then (if v5 < hrs then some (0 : Int32) else some (1 : Int32)) else some (0 : Int32))
      fun b7 =>
      (Option.bind (α := Int32)
      (if b7 = 0 then some s1.1 else
      (if s1.1 = (-1 : Int32) then some s1.2 else
      (Option.bind (f_x_at16 (t + 1) ((9 : Int32) + s1.1) I) fun v9 =>
      (if v5 < v9 then some s1.2 else some s1.1))))
      fun b8 =>
      some (.inl (b8, (s1.2 + (1 : Int32))))))))
      else
      some (.inr s1.1))) ((-1 : Int32), (0 : Int32)) = some (oI (chF bk (fun b => I (t + 1) (9 + b)) x hrs nb)) := by
    rw [show ((-1 : Int32), (0 : Int32)) = (oI (chF bk (fun b => I (t + 1) (9 + b)) x hrs 0), Int32.ofNat 0) from rfl]
    refine wh_seq (fun i => (oI (chF bk (fun b => I (t + 1) (9 + b)) x hrs i), Int32.ofNat i)) nb ?_ ?_
    · intro i hi
      dsimp only
      rw [if_pos (by rw [e, i_lt (by omega) (by omega)]; exact hi), hat9 i (by omega), ob_some, at_4 (by omega), ob_some, h4 i hi]
      have fin : ∀ w : Int32, w = oI (chF bk (fun b => I (t + 1) (9 + b)) x hrs (i + 1)) → some (Sum.inl (β := Int32) (w, Int32.ofNat i + 1)) = some (Sum.inl (oI (chF bk (fun b => I (t + 1) (9 + b)) x hrs (i + 1)), Int32.ofNat (i + 1))) := fun w hw => by rw [hw, show Int32.ofNat i + 1 = Int32.ofNat (i + 1) from i_addr (n := 1)]
      by_cases h1 : Int32.ofNat (bk i) = x
      · rw [if_pos h1]
        by_cases h2 : I (t + 1) (9 + i) < hrs
        · rw [if_pos h2, ob_some, if_pos rfl, ob_some]
          refine fin _ ?_
          show _ = oI (if Int32.ofNat (bk i) = x ∧ ¬ I (t + 1) (9 + i) < hrs then _ else _)
          rw [if_neg (fun h => h.2 h2)]
        · rw [if_neg h2, ob_some, if_neg (by decide)]
          cases hc : chF bk (fun b => I (t + 1) (9 + b)) x hrs i with
          | none =>
            rw [if_pos (show oI none = -1 from rfl), ob_some]
            refine fin _ ?_
            have hu : chF bk (fun b => I (t + 1) (9 + b)) x hrs (i + 1) = some i := by
              unfold chF
              rw [hc, if_pos ⟨h1, h2⟩]
            rw [hu]
            rfl
          | some c =>
            have hci := chF_lt hc
            rw [if_neg (show ¬ oI (some c) = -1 from fun h => by rw [show oI (some c) = Int32.ofNat c from rfl, i_neg1 (by omega)] at h; exact h), show f_x_at16 (t + 1) ((9 : Int32) + oI (some c)) I = some (I (t + 1) (9 + c)) from hat9 c (by omega), ob_some, o_ite, ob_some]
            refine fin _ ?_
            have hu : chF bk (fun b => I (t + 1) (9 + b)) x hrs (i + 1) = (if I (t + 1) (9 + i) < I (t + 1) (9 + c) then some i else some c) := by
              unfold chF
              rw [hc, if_pos ⟨h1, h2⟩]
            rw [hu]
            by_cases h3 : I (t + 1) (9 + i) < I (t + 1) (9 + c)
            · rw [if_pos h3, if_pos h3]; rfl
            · rw [if_neg h3, if_neg h3]
      · rw [if_neg h1, ob_some, if_pos rfl, ob_some]
        refine fin _ ?_
        show _ = oI (if Int32.ofNat (bk i) = x ∧ ¬ I (t + 1) (9 + i) < hrs then _ else _)
        rw [if_neg (fun h => h1 h.1)]
    · exact if_neg (by rw [e]; exact Int32.lt_irrefl)
  unfold f_sta_take111
  refine (congrArg (fun z => Option.bind z _) loop).trans ?_
  cases hc : chF bk (fun b => I (t + 1) (9 + b)) x hrs nb with
  | none => rfl
  | some c =>
    have hci := chF_lt hc
    show (if oI (some c) = -1 then _ else _) = _
    rw [if_neg (show ¬ oI (some c) = -1 from fun h => by rw [show oI (some c) = Int32.ofNat c from rfl, i_neg1 (by omega)] at h; exact h), show f_x_at16 (t + 1) ((9 : Int32) + oI (some c)) I = some (I (t + 1) (9 + c)) from hat9 c (by omega), ob_some, show (9 : Int32) + oI (some c) = Int32.ofNat (9 + c) from i_addl (n := 9), put_ok hK ha (by decide) (by omega), ob_some]
end TAKE
