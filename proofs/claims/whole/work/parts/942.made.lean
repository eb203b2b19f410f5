/-! the heap that the constructors leave; the law's run from its entry (written by wip/whole/gen_made.py) -/
theorem mk_cond {α : Type} {x z w : α} (c : Bool) (h1 : x = w) (h2 : z = w) : cond c x z = w := by cases c <;> assumption
theorem mk_pl0 : ∀ {l : List Nat} {k : Nat}, l.length ≤ k → ab_pl l k = none := by
  intro l
  induction l with
  | nil => intro k _; cases k <;> rfl
  | cons a r ih =>
    intro k hk
    cases k with
    | zero => simp at hk
    | succ k => exact ih (by simpa using hk)
theorem mk_pl {l : List Nat} {k : Nat} (h1 : l.length ≤ 200) (h2 : 200 ≤ k) : ab_pl l k = none := mk_pl0 (by omega)
theorem mk_blt {n k : Nat} {a : Option Nat} (h : n ≤ k) : cond (Nat.blt k n) a none = none := by
  have : Nat.blt k n = false := by
    cases hb : Nat.blt k n with
    | false => rfl
    | true => exact absurd (Nat.le_of_ble_eq_true hb) (by omega)
  rw [this]
  rfl
set_option maxRecDepth 100000 in
theorem PS_high {a k : Nat} (hk : 200 ≤ k) : PS a k = none := (mk_cond _ (mk_cond _ (mk_cond _ (mk_cond _ (mk_cond _ (mk_cond _ (mk_pl (by decide) hk) (mk_pl (by decide) hk)) (mk_cond _ rfl (mk_cond _ (mk_pl (by decide) hk) rfl))) (mk_cond _ (mk_cond _ (mk_pl (by decide) hk) rfl) (mk_cond _ (mk_pl (by decide) hk) (mk_cond _ rfl (mk_pl (by decide) hk))))) (mk_cond _ (mk_cond _ (mk_cond _ rfl (mk_pl (by decide) hk)) (mk_cond _ rfl (mk_cond _ (mk_pl (by decide) hk) rfl))) (mk_cond _ (mk_cond _ (mk_pl (by decide) hk) (mk_cond _ (mk_pl (by decide) hk) rfl)) (mk_cond _ (mk_pl (by decide) hk) (mk_cond _ rfl (mk_pl (by decide) hk)))))) (mk_cond _ (mk_cond _ (mk_cond _ (mk_cond _ rfl (mk_pl (by decide) hk)) (mk_cond _ rfl (mk_cond _ (mk_pl (by decide) hk) rfl))) (mk_cond _ (mk_cond _ (mk_pl (by decide) hk) rfl) (mk_cond _ (mk_blt (by omega)) (mk_cond _ rfl (mk_blt (by omega)))))) (mk_cond _ (mk_cond _ (mk_cond _ rfl (mk_blt (by omega))) (mk_cond _ rfl (mk_cond _ (mk_blt (by omega)) rfl))) (mk_cond _ (mk_cond _ (mk_blt (by omega)) (mk_cond _ rfl (mk_blt (by omega)))) (mk_cond _ rfl (mk_cond _ (mk_blt (by omega)) rfl)))))) (mk_cond _ (mk_cond _ (mk_cond _ (mk_cond _ (mk_cond _ (mk_blt (by omega)) rfl) (mk_cond _ (mk_blt (by omega)) (mk_cond _ rfl (mk_blt (by omega))))) (mk_cond _ (mk_cond _ rfl (mk_blt (by omega))) (mk_cond _ rfl (mk_cond _ (mk_blt (by omega)) rfl)))) (mk_cond _ (mk_cond _ (mk_cond _ (mk_blt (by omega)) rfl) (mk_cond _ (mk_blt (by omega)) (mk_cond _ rfl (mk_blt (by omega))))) (mk_cond _ (mk_cond _ rfl (mk_cond _ (mk_blt (by omega)) (mk_blt (by omega)))) (mk_cond _ rfl (mk_cond _ (mk_blt (by omega)) rfl))))) (mk_cond _ (mk_cond _ (mk_cond _ (mk_cond _ (mk_blt (by omega)) rfl) (mk_cond _ (mk_blt (by omega)) (mk_cond _ rfl (mk_blt (by omega))))) (mk_cond _ (mk_cond _ rfl (mk_cond _ (mk_blt (by omega)) rfl)) (mk_cond _ (mk_blt (by omega)) (mk_cond _ rfl (mk_blt (by omega)))))) (mk_cond _ (mk_cond _ (mk_cond _ rfl (mk_blt (by omega))) (mk_cond _ rfl (mk_cond _ (mk_blt (by omega)) rfl))) (mk_cond _ (mk_cond _ (mk_blt (by omega)) (mk_cond _ rfl (mk_blt (by omega)))) (mk_cond _ rfl (mk_cond _ (mk_blt (by omega)) rfl)))))))
theorem mk_z {x y : Bool} {p q : Nat → Option Nat} (c : Bool) (h1 : x = true → ∀ k, p k = none) (h2 : y = true → ∀ k, q k = none) : cond c x y = true → ∀ k, cond c (p k) (q k) = none := by cases c <;> assumption
def PSz (a : Nat) : Bool := (cond (Nat.blt a 136) (cond (Nat.blt a 36) (cond (Nat.blt a 18) (cond (Nat.blt a 9) (cond (Nat.blt a 2) (cond (Nat.blt a 1) false false) (cond (Nat.blt a 3) true (cond (Nat.blt a 4) false true))) (cond (Nat.blt a 15) (cond (Nat.blt a 10) false true) (cond (Nat.blt a 16) false (cond (Nat.blt a 17) true false)))) (cond (Nat.blt a 28) (cond (Nat.blt a 20) (cond (Nat.blt a 19) true false) (cond (Nat.blt a 23) true (cond (Nat.blt a 24) false true))) (cond (Nat.blt a 31) (cond (Nat.blt a 29) false (cond (Nat.blt a 30) false true)) (cond (Nat.blt a 32) false (cond (Nat.blt a 35) true false))))) (cond (Nat.blt a 66) (cond (Nat.blt a 47) (cond (Nat.blt a 40) (cond (Nat.blt a 39) true false) (cond (Nat.blt a 43) true (cond (Nat.blt a 44) false true))) (cond (Nat.blt a 54) (cond (Nat.blt a 48) false true) (cond (Nat.blt a 55) false (cond (Nat.blt a 65) true false)))) (cond (Nat.blt a 110) (cond (Nat.blt a 77) (cond (Nat.blt a 76) true false) (cond (Nat.blt a 93) true (cond (Nat.blt a 94) false true))) (cond (Nat.blt a 120) (cond (Nat.blt a 111) false (cond (Nat.blt a 119) true false)) (cond (Nat.blt a 128) true (cond (Nat.blt a 129) false true)))))) (cond (Nat.blt a 616) (cond (Nat.blt a 495) (cond (Nat.blt a 307) (cond (Nat.blt a 145) (cond (Nat.blt a 137) false true) (cond (Nat.blt a 146) false (cond (Nat.blt a 306) true false))) (cond (Nat.blt a 468) (cond (Nat.blt a 467) true false) (cond (Nat.blt a 480) true (cond (Nat.blt a 481) false true)))) (cond (Nat.blt a 596) (cond (Nat.blt a 578) (cond (Nat.blt a 496) false true) (cond (Nat.blt a 579) false (cond (Nat.blt a 595) true false))) (cond (Nat.blt a 603) (cond (Nat.blt a 601) true (cond (Nat.blt a 602) false false)) (cond (Nat.blt a 609) true (cond (Nat.blt a 610) false true))))) (cond (Nat.blt a 652) (cond (Nat.blt a 631) (cond (Nat.blt a 623) (cond (Nat.blt a 617) false true) (cond (Nat.blt a 624) false (cond (Nat.blt a 630) true false))) (cond (Nat.blt a 644) (cond (Nat.blt a 637) true (cond (Nat.blt a 638) false true)) (cond (Nat.blt a 645) false (cond (Nat.blt a 651) true false)))) (cond (Nat.blt a 672) (cond (Nat.blt a 659) (cond (Nat.blt a 658) true false) (cond (Nat.blt a 665) true (cond (Nat.blt a 666) false true))) (cond (Nat.blt a 680) (cond (Nat.blt a 673) false (cond (Nat.blt a 679) true false)) (cond (Nat.blt a 686) true (cond (Nat.blt a 687) false true)))))))
set_option maxRecDepth 100000 in
theorem PSz_ok {a : Nat} : PSz a = true → ∀ k, PS a k = none := (mk_z _ (mk_z _ (mk_z _ (mk_z _ (mk_z _ (mk_z _ (fun h => absurd h Bool.false_ne_true) (fun h => absurd h Bool.false_ne_true)) (mk_z _ (fun _ k => rfl) (mk_z _ (fun h => absurd h Bool.false_ne_true) (fun _ k => rfl)))) (mk_z _ (mk_z _ (fun h => absurd h Bool.false_ne_true) (fun _ k => rfl)) (mk_z _ (fun h => absurd h Bool.false_ne_true) (mk_z _ (fun _ k => rfl) (fun h => absurd h Bool.false_ne_true))))) (mk_z _ (mk_z _ (mk_z _ (fun _ k => rfl) (fun h => absurd h Bool.false_ne_true)) (mk_z _ (fun _ k => rfl) (mk_z _ (fun h => absurd h Bool.false_ne_true) (fun _ k => rfl)))) (mk_z _ (mk_z _ (fun h => absurd h Bool.false_ne_true) (mk_z _ (fun h => absurd h Bool.false_ne_true) (fun _ k => rfl))) (mk_z _ (fun h => absurd h Bool.false_ne_true) (mk_z _ (fun _ k => rfl) (fun h => absurd h Bool.false_ne_true)))))) (mk_z _ (mk_z _ (mk_z _ (mk_z _ (fun _ k => rfl) (fun h => absurd h Bool.false_ne_true)) (mk_z _ (fun _ k => rfl) (mk_z _ (fun h => absurd h Bool.false_ne_true) (fun _ k => rfl)))) (mk_z _ (mk_z _ (fun h => absurd h Bool.false_ne_true) (fun _ k => rfl)) (mk_z _ (fun h => absurd h Bool.false_ne_true) (mk_z _ (fun _ k => rfl) (fun h => absurd h Bool.false_ne_true))))) (mk_z _ (mk_z _ (mk_z _ (fun _ k => rfl) (fun h => absurd h Bool.false_ne_true)) (mk_z _ (fun _ k => rfl) (mk_z _ (fun h => absurd h Bool.false_ne_true) (fun _ k => rfl)))) (mk_z _ (mk_z _ (fun h => absurd h Bool.false_ne_true) (mk_z _ (fun _ k => rfl) (fun h => absurd h Bool.false_ne_true))) (mk_z _ (fun _ k => rfl) (mk_z _ (fun h => absurd h Bool.false_ne_true) (fun _ k => rfl))))))) (mk_z _ (mk_z _ (mk_z _ (mk_z _ (mk_z _ (fun h => absurd h Bool.false_ne_true) (fun _ k => rfl)) (mk_z _ (fun h => absurd h Bool.false_ne_true) (mk_z _ (fun _ k => rfl) (fun h => absurd h Bool.false_ne_true)))) (mk_z _ (mk_z _ (fun _ k => rfl) (fun h => absurd h Bool.false_ne_true)) (mk_z _ (fun _ k => rfl) (mk_z _ (fun h => absurd h Bool.false_ne_true) (fun _ k => rfl))))) (mk_z _ (mk_z _ (mk_z _ (fun h => absurd h Bool.false_ne_true) (fun _ k => rfl)) (mk_z _ (fun h => absurd h Bool.false_ne_true) (mk_z _ (fun _ k => rfl) (fun h => absurd h Bool.false_ne_true)))) (mk_z _ (mk_z _ (fun _ k => rfl) (mk_z _ (fun h => absurd h Bool.false_ne_true) (fun h => absurd h Bool.false_ne_true))) (mk_z _ (fun _ k => rfl) (mk_z _ (fun h => absurd h Bool.false_ne_true) (fun _ k => rfl)))))) (mk_z _ (mk_z _ (mk_z _ (mk_z _ (fun h => absurd h Bool.false_ne_true) (fun _ k => rfl)) (mk_z _ (fun h => absurd h Bool.false_ne_true) (mk_z _ (fun _ k => rfl) (fun h => absurd h Bool.false_ne_true)))) (mk_z _ (mk_z _ (fun _ k => rfl) (mk_z _ (fun h => absurd h Bool.false_ne_true) (fun _ k => rfl))) (mk_z _ (fun h => absurd h Bool.false_ne_true) (mk_z _ (fun _ k => rfl) (fun h => absurd h Bool.false_ne_true))))) (mk_z _ (mk_z _ (mk_z _ (fun _ k => rfl) (fun h => absurd h Bool.false_ne_true)) (mk_z _ (fun _ k => rfl) (mk_z _ (fun h => absurd h Bool.false_ne_true) (fun _ k => rfl)))) (mk_z _ (mk_z _ (fun h => absurd h Bool.false_ne_true) (mk_z _ (fun _ k => rfl) (fun h => absurd h Bool.false_ne_true))) (mk_z _ (fun _ k => rfl) (mk_z _ (fun h => absurd h Bool.false_ne_true) (fun _ k => rfl))))))))
theorem KS_high {a : Nat} (ha : 699 ≤ a) : KS a = (0, 0) := by
  have : Nat.blt a 699 = false := by
    cases hb : Nat.blt a 699 with
    | false => rfl
    | true => exact absurd (Nat.le_of_ble_eq_true hb) (by omega)
  unfold KS
  rw [this]
  rfl
theorem mk_as {l : List (Nat × Nat)} {k : Nat} (h : l.all (fun e => decide (e.1 < 200)) = true) (hk : 200 ≤ k) : ac_as k l = none := by
  induction l with
  | nil => rfl
  | cons e r ih =>
    rw [List.all_cons, Bool.and_eq_true] at h
    have h1 : e.1 < 200 := of_decide_eq_true h.1
    show (if e.1 = k then some e.2 else ac_as k r) = none
    rw [if_neg (by omega)]
    exact ih h.2
def mk_oeq : Option Nat → Option Nat → Bool
  | none, none => true
  | some a, some b => Nat.beq a b
  | _, _ => false
theorem mk_oeq_ok : ∀ {a b : Option Nat}, mk_oeq a b = true → a = b
  | none, none, _ => rfl
  | some a, some b, h => congrArg some (Nat.eq_of_beq_eq_true h)
  | none, some b, h => by cases h
  | some a, none, h => by cases h
def mk_upto (f : Nat → Bool) : Nat → Bool
  | 0 => true
  | n + 1 => f n && mk_upto f n
theorem mk_upto_ok {f : Nat → Bool} : ∀ {n : Nat}, mk_upto f n = true → ∀ k, k < n → f k = true
  | 0, _, k, h => by omega
  | n + 1, h, k, hk => by
    unfold mk_upto at h
    rw [Bool.and_eq_true] at h
    by_cases e : k = n
    · rw [e]; exact h.1
    · exact mk_upto_ok h.2 k (by omega)
def mk_chk (c : ac_Cell) (a : Nat) : Bool := (Nat.beq c.1 (KS a).1 && Nat.beq c.2.1 (KS a).2) && (match c.2.2.1 with
  | [] => PSz a
  | e :: r => (e :: r).all (fun e => decide (e.1 < 200)) && mk_upto (fun k => mk_oeq (ac_as k (e :: r)) (PS a k)) 200)
theorem mk_chk_ok {c : ac_Cell} {a : Nat} (h : mk_chk c a = true) : (c.1, c.2.1) = KS a ∧ ∀ k, ac_as k c.2.2.1 = PS a k := by
  unfold mk_chk at h
  rw [Bool.and_eq_true, Bool.and_eq_true] at h
  refine ⟨Prod.ext (Nat.eq_of_beq_eq_true h.1.1) (Nat.eq_of_beq_eq_true h.1.2), fun k => ?_⟩
  have h2 := h.2
  split at h2
  · rename_i he
    rw [he, PSz_ok h2 k]
    rfl
  · rename_i e r he
    rw [he]
    rw [Bool.and_eq_true] at h2
    by_cases hk : k < 200
    · exact mk_oeq_ok (mk_upto_ok h2.2 k hk)
    · rw [mk_as h2.1 (by omega), PS_high (by omega)]
def mk_go : List ac_Cell → Nat → Bool
  | [], _ => true
  | c :: r, a => mk_chk c a && mk_go r (a + 1)
theorem mk_go_ok : ∀ {l : List ac_Cell} {a : Nat}, mk_go l a = true → ∀ (i : Nat) (c : ac_Cell), l[i]? = some c → mk_chk c (a + i) = true := by
  intro l
  induction l with
  | nil => intro a _ i c h; simp at h
  | cons x r ih =>
    intro a h i c hc
    unfold mk_go at h
    rw [Bool.and_eq_true] at h
    cases i with
    | zero =>
      simp only [List.getElem?_cons_zero, Option.some.injEq] at hc
      subst hc
      exact h.1
    | succ i =>
      simp only [List.getElem?_cons_succ] at hc
      have := ih h.2 i c hc
      rw [show a + 1 + i = a + (i + 1) by omega] at this
      exact this
def cf_q : ac_H := cf_last.2
set_option maxRecDepth 1000000 in
theorem cf_q_go : mk_go cf_q.1 0 = true := by decide +kernel
set_option maxRecDepth 1000000 in
theorem cf_q_len : cf_q.1.length = 699 ∧ cf_q.2 = 23634 := by decide +kernel
theorem cf_q_none {a : Nat} (ha : 699 ≤ a) : cf_q.1[a]? = none := List.getElem?_eq_none (by rw [cf_q_len.1]; exact ha)
theorem cf_q_some {a : Nat} (ha : a < 699) : ∃ c, cf_q.1[a]? = some c ∧ mk_chk c a = true := by
  have h : a < cf_q.1.length := by rw [cf_q_len.1]; exact ha
  refine ⟨cf_q.1[a], List.getElem?_eq_getElem h, ?_⟩
  have := mk_go_ok cf_q_go a _ (List.getElem?_eq_getElem h)
  rw [Nat.zero_add] at this
  exact this
theorem PS_hi {a : Nat} (ha : 699 ≤ a) (k : Nat) : PS a k = none := by
  have hb : ∀ n, n ≤ 699 → Nat.blt a n = false := by
    intro n hn
    cases hb : Nat.blt a n with
    | false => rfl
    | true => exact absurd (Nat.le_of_ble_eq_true hb) (by omega)
  unfold PS
  rw [hb 136 (by decide)]
  rw [cond_false]
  rw [hb 616 (by decide)]
  rw [cond_false]
  rw [hb 652 (by decide)]
  rw [cond_false]
  rw [hb 672 (by decide)]
  rw [cond_false]
  rw [hb 680 (by decide)]
  rw [cond_false]
  rw [hb 686 (by decide)]
  rw [cond_false]
  rw [hb 687 (by decide)]
  rw [cond_false]
def I0 : MJ := fun a k => ac_i cf_q.1[a]? k
def g0 : GG := (fun _ _ => 0, 699, 23634)
theorem made {X : XX} : ac_abs X.1 X.2 cf_q = hh X g0 I0 := by
  have e1 : (fun a => ac_k cf_q.1[a]?) = KS := by
    funext a
    by_cases ha : a < 699
    · obtain ⟨c, h1, h2⟩ := cf_q_some ha
      rw [h1]
      exact (mk_chk_ok h2).1
    · rw [cf_q_none (by omega), KS_high (by omega)]
      rfl
  have e2 : (fun a k => ac_p cf_q.1[a]? k) = PS := by
    funext a k
    by_cases ha : a < 699
    · obtain ⟨c, h1, h2⟩ := cf_q_some ha
      rw [h1]
      exact (mk_chk_ok h2).2 k
    · rw [cf_q_none (by omega), PS_hi (by omega)]
      rfl
  show ((cf_q.1.length, (fun a => ac_k cf_q.1[a]?), (fun a k => ac_p cf_q.1[a]? k), X.1, X.2), (I0, (fun _ _ => 0), cf_q.1.length, cf_q.2)) = _
  rw [e1, e2, cf_q_len.1, cf_q_len.2]
  rfl
theorem h0_abs {XL : Nat} {xs : Nat → Int32} : la_h0 XL xs = ac_abs XL xs ([], 0) := rfl
set_option maxRecDepth 100000 in
theorem cf_last_fr : cf_last.1 = [(386, 23, [(4, .int 0), (3, .ref 698), (2, .ref 47), (1, .ref 0), (0, .ref 1000000)], [])] := rfl
/-- the law's run, out of its function's answer -/
theorem la_run_fun (h : ∀ X : XX, X.1 ≤ 3584 → ∃ I2 g2, f_l_law386 X I0 g0 = some ((1 : Int32), I2, g2) ∧ g2.2.1 ≤ 601024 ∧ g2.2.2 ≤ 7293034) : la_run := by
  refine la_run_of fun XL xs hL => ?_
  obtain ⟨I2, g2, h1, h2, h3⟩ := h (XL, xs) hL
  refine ⟨hh (XL, xs) g2 I2, ?_, h2, h3⟩
  have hg : ev 300 386 23 [(0, .ref 1000000), (1, .ref 0), (2, .ref 47), (3, .ref 698), (4, .int (0 : Int32))] [] (hh (XL, xs) g0 I0) (.inl (some (.int 1)), hh (XL, xs) g2 I2) := g_l_law386 (X := (XL, xs)) (g := g0) (I := I0) (d := 300) (by decide) _ h1 _ rfl
  have hg2 : ev 300 386 23 [(4, .int 0), (3, .ref 698), (2, .ref 47), (1, .ref 0), (0, .ref 1000000)] [] (ac_abs XL xs cf_last.2) (.inl (some (.int 1)), hh (XL, xs) g2 I2) := by
    rw [show ac_abs XL xs cf_last.2 = hh (XL, xs) g0 I0 from made (X := (XL, xs))]
    exact ev_le (Nat.le_refl _) (ab_le_sub (L1 := [(0, .ref 1000000), (1, .ref 0), (2, .ref 47), (3, .ref 698), (4, .int (0 : Int32))]) rfl ⟨rfl, rfl, rfl, rfl, rfl, trivial⟩) hg
  have hs : evs (300 + 1 - cf_last.1.length) cf_last.1 (ac_abs XL xs cf_last.2) (.inl (some (.int 1)), hh (XL, xs) g2 I2) := by
    rw [cf_last_fr]
    exact ⟨_, _, hg2, rfl⟩
  obtain ⟨v, h1', k1, k2⟩ := cf_all hs
  have k3 : ((.inl (some (.int 1)), hh (XL, xs) g2 I2) : ab_O × ab_H) = (.inl v, h1') := k2
  rw [h0_abs, k3]
  exact k1
