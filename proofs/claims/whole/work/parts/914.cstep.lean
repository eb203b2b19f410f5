/-! a constructor's steps over heaps as data -/
def ac_seq (f : Nat → Nat) (s : Nat) : Nat → List (Nat × Nat)
  | 0 => []
  | n + 1 => (s, f s) :: ac_seq f (s + 1) n
theorem ac_as_seq (f : Nat → Nat) (k : Nat) : ∀ n s, ac_as k (ac_seq f s n) = if s ≤ k ∧ k < s + n then some (f k) else none
  | 0, s => by
    rw [if_neg (by omega)]
    rfl
  | n + 1, s => by
    show (if s = k then some (f s) else ac_as k (ac_seq f (s + 1) n)) = _
    rw [ac_as_seq f k n (s + 1)]
    by_cases h : s = k
    · subst h
      rw [if_pos rfl, if_pos (by omega)]
    · rw [if_neg h]
      by_cases h2 : s ≤ k ∧ k < s + (n + 1)
      · rw [if_pos h2, if_pos (by omega)]
      · rw [if_neg h2, if_neg (by omega)]
def ac_rows (q : ac_H) (t n : Nat) : Nat → ac_H
  | 0 => q
  | k + 1 => ac_new (ac_rows q t n k) t n n []
def ac_newb (q : ac_H) (n m : Nat) : ac_H := ac_rows (ac_new q 104 n n (ac_seq (fun i => q.1.length + 1 + i) 0 n)) 100 m n
def ac_rows3 (q : ac_H) (m r : Nat) : Nat → ac_H
  | 0 => q
  | k + 1 => ac_newb (ac_rows3 q m r k) m r
def ac_newc (q : ac_H) (n m r : Nat) : ac_H := ac_rows3 (ac_new q 105 n n (ac_seq (fun i => q.1.length + 1 + i * (m + 1)) 0 n)) m r n
theorem ac_rows_ok {XL : Nat} {xs : Nat → Int32} {q : ac_H} {t n : Nat} : ∀ k, ab_rows (ac_abs XL xs q) t n k = ac_abs XL xs (ac_rows q t n k)
  | 0 => rfl
  | k + 1 => by
    show ab_new (ab_rows (ac_abs XL xs q) t n k) t n n (fun _ => none) = _
    rw [ac_rows_ok k]
    exact ac_new_ok (pl := []) (fun _ => rfl)
theorem ac_newb_ok {XL : Nat} {xs : Nat → Int32} {q : ac_H} {n m : Nat} : ab_newb (ac_abs XL xs q) n m = ac_abs XL xs (ac_newb q n m) := by
  unfold ab_newb ac_newb
  rw [ac_new_ok (pl := ac_seq (fun i => q.1.length + 1 + i) 0 n) (fun k => by
    rw [ac_as_seq]
    show (if k < n then some (q.1.length + 1 + k) else none) = _
    by_cases h : k < n
    · rw [if_pos h, if_pos (by omega)]
    · rw [if_neg h, if_neg (by omega)]), ac_rows_ok]
theorem ac_rows3_ok {XL : Nat} {xs : Nat → Int32} {q : ac_H} {m r : Nat} : ∀ k, ab_rows3 (ac_abs XL xs q) m r k = ac_abs XL xs (ac_rows3 q m r k)
  | 0 => rfl
  | k + 1 => by
    show ab_newb (ab_rows3 (ac_abs XL xs q) m r k) m r = _
    rw [ac_rows3_ok k, ac_newb_ok]
    rfl
theorem ac_newc_ok {XL : Nat} {xs : Nat → Int32} {q : ac_H} {n m r : Nat} : ab_newc (ac_abs XL xs q) n m r = ac_abs XL xs (ac_newc q n m r) := by
  unfold ab_newc ac_newc
  rw [ac_new_ok (pl := ac_seq (fun i => q.1.length + 1 + i * (m + 1)) 0 n) (fun k => by
    rw [ac_as_seq]
    show (if k < n then some (q.1.length + 1 + k * (m + 1)) else none) = _
    by_cases h : k < n
    · rw [if_pos h, if_pos (by omega)]
    · rw [if_neg h, if_neg (by omega)]), ac_rows3_ok]
/-- what an instruction does to the heap -/
def ac_next (c : Nat) (i : Instr) (S : ab_S) (q : ac_H) : Option ac_H := match i with
  | .putfield k => (match ab_lkF c k, S with
    | some (_, f, _), .int x :: .ref a :: _ => if a < q.1.length then some (ac_wI q a f x) else none
    | some (_, f, _), .ref b :: .ref a :: _ => if a < q.1.length then some (ac_wP q a f b) else none
    | _, _ => none)
  | .iastore => (match S with
    | .int x :: .int j :: .ref a :: _ => if a < q.1.length then some (ac_wI q a j.toNatClampNeg x) else none
    | _ => none)
  | .bastore => (match S with
    | .int x :: .int j :: .ref a :: _ => if a < q.1.length then (if (ac_k q.1[a]?).1 = 101 then some (ac_wI q a j.toNatClampNeg (vp_nar .byte x)) else some (ac_wI q a j.toNatClampNeg (vp_nar .boolean x))) else none
    | _ => none)
  | .lastore => none
  | .newarray .int => (match S with | .int n :: _ => some (ac_new q 100 n.toNatClampNeg n.toNatClampNeg []) | _ => none)
  | .newarray .byte => (match S with | .int n :: _ => some (ac_new q 101 n.toNatClampNeg n.toNatClampNeg []) | _ => none)
  | .newarray .boolean => (match S with | .int n :: _ => some (ac_new q 102 n.toNatClampNeg n.toNatClampNeg []) | _ => none)
  | .newarray .long => (match S with | .int n :: _ => some (ac_new q 103 n.toNatClampNeg n.toNatClampNeg []) | _ => none)
  | .multianewarray _ 2 => (match S with | .int m :: .int n :: _ => some (ac_newb q n.toNatClampNeg m.toNatClampNeg) | _ => none)
  | .multianewarray _ 3 => (match S with | .int r :: .int m :: .int n :: _ => some (ac_newc q n.toNatClampNeg m.toNatClampNeg r.toNatClampNeg) | _ => none)
  | .new k => (ab_lkN c k).map (fun ci => ac_new q ci 0 (ab_cnt ci) [])
  | .invokevirtual _ => none
  | .invokestatic _ => none
  | _ => some q
theorem ac_N {XL : Nat} {xs : Nat → Int32} {q : ac_H} : ab_N (ac_abs XL xs q) = q.1.length := rfl
theorem ac_C {XL : Nat} {xs : Nat → Int32} {q : ac_H} : ab_C (ac_abs XL xs q) = q.1.length := rfl
theorem ac_K {XL : Nat} {xs : Nat → Int32} {q : ac_H} {a : Nat} : ab_K (ac_abs XL xs q) a = ac_k q.1[a]? := rfl
theorem ac_P {XL : Nat} {xs : Nat → Int32} {q : ac_H} {a k : Nat} : ab_P (ac_abs XL xs q) a k = ac_p q.1[a]? k := rfl
theorem ac_I {XL : Nat} {xs : Nat → Int32} {q : ac_H} {a k : Nat} : ab_I (ac_abs XL xs q) a k = ac_i q.1[a]? k := rfl
theorem ac_G {XL : Nat} {xs : Nat → Int32} {q : ac_H} {a k : Nat} : ab_G (ac_abs XL xs q) a k = 0 := rfl
section PRIM
variable {XL : Nat} {xs : Nat → Int32} {c pc pc' : Nat} {L L' : ab_L} {S S' : ab_S} {q q' : ac_H} {h' : ab_H}
theorem ac_getf {i : Nat} (h : ab_getf c i pc L S (ac_abs 0 (fun _ => 0) q) = some (pc', L', S', h')) : ab_getf c i pc L S (ac_abs XL xs q) = some (pc', L', S', ac_abs XL xs q) := by
  unfold ab_getf at h ⊢
  split at h
  · cases h
  · split at h
    · simp only [ac_N, ac_K, ac_P, ac_I] at h ⊢
      obtain ⟨hc, h⟩ := Option.ite_none_right_eq_some.mp h
      refine (if_pos hc).trans ?_
      split at h
      · rename_i hr
        rw [if_pos hr]
        obtain ⟨t, ht, hh⟩ := Option.map_eq_some_iff.mp h
        cases hh
        rw [ht]
        rfl
      · rename_i hr
        rw [if_neg hr]
        cases h
        rfl
    · cases h
theorem ac_aload {t : Nat} (hs : ∀ a, .ref a ∈ S → a ≠ ab_scr) (h : ab_aload (ac_abs 0 (fun _ => 0) q) t L S pc = some (pc', L', S', h')) : ab_aload (ac_abs XL xs q) t L S pc = some (pc', L', S', ac_abs XL xs q) := by
  unfold ab_aload at h ⊢
  split at h
  · rename_i i a r
    have ha : a ≠ ab_scr := hs a (by simp)
    simp only [ac_N, ac_K, ac_P, ac_I, ac_G, if_neg ha] at h ⊢
    split at h
    · rename_i ht
      rw [if_pos ht]
      obtain ⟨hc, h⟩ := Option.ite_none_right_eq_some.mp h
      refine (if_pos hc).trans ?_
      cases h
      rfl
    · rename_i ht
      rw [if_neg ht]
      split at h
      · rename_i ht2
        rw [if_pos ht2]
        obtain ⟨hc, h⟩ := Option.ite_none_right_eq_some.mp h
        refine (if_pos hc).trans ?_
        cases h
        rfl
      · rename_i ht2
        rw [if_neg ht2]
        split at h
        · rename_i ht3
          rw [if_pos ht3]
          obtain ⟨hc, h⟩ := Option.ite_none_right_eq_some.mp h
          refine (if_pos hc).trans ?_
          cases h
          rfl
        · rename_i ht3
          rw [if_neg ht3]
          obtain ⟨hc, h⟩ := Option.ite_none_right_eq_some.mp h
          refine (if_pos hc).trans ?_
          obtain ⟨t, ht, hh⟩ := Option.map_eq_some_iff.mp h
          cases hh
          rw [ht]
          rfl
  · cases h
theorem ac_alen (hs : ∀ a, .ref a ∈ S → a ≠ ab_scr) (h : ab_alen (ac_abs 0 (fun _ => 0) q) L S pc = some (pc', L', S', h')) : ab_alen (ac_abs XL xs q) L S pc = some (pc', L', S', ac_abs XL xs q) := by
  unfold ab_alen at h ⊢
  split at h
  · rename_i a r
    have ha : a ≠ ab_scr := hs a (by simp)
    simp only [ac_N, ac_K, if_neg ha] at h ⊢
    obtain ⟨hc, h⟩ := Option.ite_none_right_eq_some.mp h
    refine (if_pos hc).trans ?_
    cases h
    rfl
  · cases h
theorem ac_newa {t : Nat} {n : Int32} {r : ab_S} (h : ab_newa t L (.int n :: r) (ac_abs 0 (fun _ => 0) q) pc = some (pc', L', S', h')) : ab_newa t L (.int n :: r) (ac_abs XL xs q) pc = some (pc', L', S', ac_abs XL xs (ac_new q t n.toNatClampNeg n.toNatClampNeg [])) := by
  unfold ab_newa at h ⊢
  simp only [ac_N, ac_C] at h ⊢
  obtain ⟨hc, h⟩ := Option.ite_none_right_eq_some.mp h
  refine (if_pos hc).trans ?_
  rw [ac_new_ok (pl := []) (p := fun _ => none) (fun _ => rfl)]
  cases h
  rfl
theorem ac_two {m n : Int32} {r : ab_S} (h : ab_two L (.int m :: .int n :: r) (ac_abs 0 (fun _ => 0) q) pc = some (pc', L', S', h')) : ab_two L (.int m :: .int n :: r) (ac_abs XL xs q) pc = some (pc', L', S', ac_abs XL xs (ac_newb q n.toNatClampNeg m.toNatClampNeg)) := by
  unfold ab_two at h ⊢
  simp only [ac_N, ac_C] at h ⊢
  obtain ⟨hc, h⟩ := Option.ite_none_right_eq_some.mp h
  refine (if_pos hc).trans ?_
  rw [ac_newb_ok]
  cases h
  rfl
theorem ac_three {z m n : Int32} {r : ab_S} (h : ab_three L (.int z :: .int m :: .int n :: r) (ac_abs 0 (fun _ => 0) q) pc = some (pc', L', S', h')) : ab_three L (.int z :: .int m :: .int n :: r) (ac_abs XL xs q) pc = some (pc', L', S', ac_abs XL xs (ac_newc q n.toNatClampNeg m.toNatClampNeg z.toNatClampNeg)) := by
  unfold ab_three at h ⊢
  simp only [ac_N, ac_C] at h ⊢
  obtain ⟨hc, h⟩ := Option.ite_none_right_eq_some.mp h
  refine (if_pos hc).trans ?_
  rw [ac_newc_ok]
  cases h
  rfl
theorem ac_putf {ini : Bool} {k : Nat} (hn : ac_next c (.putfield k) S q = some q') (h : ab_putf ini c k pc L S (ac_abs 0 (fun _ => 0) q) = some (pc', L', S', h')) : ab_putf ini c k pc L S (ac_abs XL xs q) = some (pc', L', S', ac_abs XL xs q') := by
  unfold ab_putf at h ⊢
  unfold ac_next at hn
  split at h
  · cases h
  · rename_i ci f ne hk
    dsimp only at hn
    rw [hk] at hn
    split at h
    · simp only at hn
      obtain ⟨ha, hn⟩ := Option.ite_none_right_eq_some.mp hn
      cases hn
      obtain ⟨hc, h⟩ := Option.ite_none_right_eq_some.mp h
      cases h
      refine (if_pos hc).trans ?_
      rw [ac_wI_ok ha]
    · simp only at hn
      obtain ⟨ha, hn⟩ := Option.ite_none_right_eq_some.mp hn
      cases hn
      obtain ⟨hc, h⟩ := Option.ite_none_right_eq_some.mp h
      cases h
      refine (if_pos hc).trans ?_
      rw [ac_wP_ok ha]
    · cases h
theorem ac_iast (hn : ac_next c .iastore S q = some q') (h : ab_astore (ac_abs 0 (fun _ => 0) q) 0 L S pc = some (pc', L', S', h')) : ab_astore (ac_abs XL xs q) 0 L S pc = some (pc', L', S', ac_abs XL xs q') := by
  unfold ab_astore at h ⊢
  unfold ac_next at hn
  split at h
  · rw [if_pos rfl] at h
    simp only at hn
    obtain ⟨ha, hn⟩ := Option.ite_none_right_eq_some.mp hn
    cases hn
    obtain ⟨hc, h⟩ := Option.ite_none_right_eq_some.mp h
    cases h
    show (if (0 : Nat) = 0 then _ else _) = _
    rw [if_pos rfl]
    refine (if_pos hc).trans ?_
    rw [ac_wI_ok ha]
  · rw [if_neg (by decide)] at h
    cases h
  · cases h
theorem ac_bast (hn : ac_next c .bastore S q = some q') (h : ab_astore (ac_abs 0 (fun _ => 0) q) 1 L S pc = some (pc', L', S', h')) : ab_astore (ac_abs XL xs q) 1 L S pc = some (pc', L', S', ac_abs XL xs q') := by
  unfold ab_astore at h ⊢
  unfold ac_next at hn
  split at h
  · rename_i x i a r
    rw [if_neg (by decide), if_pos rfl] at h
    simp only at hn
    obtain ⟨ha, hn⟩ := Option.ite_none_right_eq_some.mp hn
    obtain ⟨hc, h⟩ := Option.ite_none_right_eq_some.mp h
    show (if (1 : Nat) = 0 then _ else if (1 : Nat) = 1 then _ else _) = _
    rw [if_neg (by decide), if_pos rfl]
    refine (if_pos hc).trans ?_
    by_cases hk : (ac_k q.1[a]?).1 = 101
    · rw [if_pos hk] at hn
      cases hn
      have hk1 : ((ab_K (ac_abs 0 (fun _ => 0) q) a).1 == 101) = true := beq_iff_eq.mpr hk
      have hk2 : ((ab_K (ac_abs XL xs q) a).1 == 101) = true := beq_iff_eq.mpr hk
      rw [if_pos hk1] at h
      rw [if_pos hk2]
      cases h
      rw [ac_wI_ok ha]
    · rw [if_neg hk] at hn
      cases hn
      have hk1 : ¬ ((ab_K (ac_abs 0 (fun _ => 0) q) a).1 == 101) = true := fun e => hk (beq_iff_eq.mp e)
      have hk2 : ¬ ((ab_K (ac_abs XL xs q) a).1 == 101) = true := fun e => hk (beq_iff_eq.mp e)
      rw [if_neg hk1] at h
      rw [if_neg hk2]
      obtain ⟨hd, h⟩ := Option.ite_none_right_eq_some.mp h
      cases h
      refine (if_pos hd).trans ?_
      rw [ac_wI_ok ha]
  · rw [if_neg (by decide)] at h
    cases h
  · cases h
end PRIM
set_option maxHeartbeats 4000000 in
theorem ac_step_ok {ini : Bool} {nL c : Nat} {i : Instr} {len pc : Nat} {L : ab_L} {S : ab_S} {q q' : ac_H} {pc' : Nat} {L' : ab_L} {S' : ab_S} {h' : ab_H} (XL : Nat) (xs : Nat → Int32) (hs : ∀ a, .ref a ∈ S → a ≠ ab_scr) (hn : ac_next c i S q = some q')
    (hst : ab_step ini nL c i len pc L S (ac_abs 0 (fun _ => 0) q) = some (pc', L', S', h')) : ab_step ini nL c i len pc L S (ac_abs XL xs q) = some (pc', L', S', ac_abs XL xs q') := by
  unfold ab_step at hst ⊢
  split at hst
  all_goals first
    | exact ac_putf hn hst
    | exact ac_iast hn hst
    | exact ac_bast hn hst
    | (cases hn; exact ac_getf hst)
    | (cases hn; exact ac_aload hs hst)
    | (cases hn; exact ac_alen hs hst)
    | (unfold ac_next at hn
       dsimp only at hn
       split at hn
       · cases hn
         exact ac_newa hst
       · cases hn)
    | (split at hst
       · rename_i hk
         try rw [hk]
         simp only [ac_next] at hn
         split at hn
         · cases hn
           first | exact ac_two hst | exact ac_three hst
         · cases hn
       · cases hst)
    | (split at hst
       · rename_i hk
         unfold ac_next at hn
         dsimp only at hn
         rw [hk] at hn
         try rw [hk]
         obtain ⟨hc, h⟩ := Option.ite_none_right_eq_some.mp hst
         cases hn
         cases h
         refine (if_pos hc).trans ?_
         rw [ac_new_ok (pl := []) (p := fun _ => none) (fun _ => rfl)]
         rfl
       · cases hst)
    | skip
  all_goals try simp only [ab_ld, ab_stI, ab_stA, ab_stL, ab_getf, ab_putf, ab_aload, ab_astore, ab_alen, ab_newa, ab_two, ab_three, ac_N, ac_C, ac_K, ac_P, ac_I, ac_G] at hst ⊢
  all_goals try unfold ab_lib at hst ⊢
  all_goals first
    | (simp [ac_next] at hn; done)
    | (obtain ⟨t, ht, hh⟩ := Option.map_eq_some_iff.mp hst
       cases hh
       cases hn
       rw [ht]
       rfl)
    | skip
  all_goals repeat' split at hst
  all_goals first
    | (cases hst; done)
    | (simp only [Option.some.injEq, Prod.mk.injEq] at hst
       obtain ⟨rfl, rfl, rfl, rfl⟩ := hst
       simp only [ac_next] at hn
       first
         | (cases hn; rfl)
         | (cases hn; simp_all; done)
         | (simp_all [ac_next]; subst hn; first | exact ac_wI_ok (by omega) | exact ac_wP_ok (by omega) | exact ac_new_ok (fun _ => rfl) | exact ac_newb_ok | exact ac_newc_ok))
    | (simp only [Option.ite_none_right_eq_some] at hst
       obtain ⟨hc, hst⟩ := hst
       simp only [ac_next] at hn
       cases hn
       simp_all
       done)
    | (have hst2 := hst
       simp only [Option.map_eq_some_iff] at hst2
       obtain ⟨t, ht, hh⟩ := hst2
       cases hh
       cases hn
       simp_all
       done)
    | (split
       · rename_i hp
         exact absurd hp (by assumption)
       · simp only [Option.map_eq_some_iff] at hst
         obtain ⟨t, ht, hh⟩ := hst
         cases hh
         cases hn
         rw [ht]
         rfl)
    | skip
