/-! constructors in small steps: a stack of frames over a heap as data; cut where one likes -/
abbrev ac_Fr : Type := Nat × Nat × ab_L × ab_S
abbrev ac_Cf : Type := List ac_Fr × ac_H
def ac_noscr (S : ab_S) : Bool := S.all (fun v => match v with | .ref a => !(a == ab_scr) | _ => true)
def ac_one (c : ac_Cf) : Option ac_Cf := match c.1 with
  | [] => none
  | (y, pc, L, S) :: fs => match decode (ab_b y) pc with
    | .error _ => none
    | .ok (i, len) => if ab_len i len then (match ab_end y pc i S (ac_abs 0 (fun _ => 0) c.2) with
      | some (.inl v, _) => (match fs with
        | (y2, pc2, L2, S2) :: r => some ((y2, pc2, L2, v.toList ++ S2) :: r, c.2)
        | [] => none)
      | some (.inr _, _) => none
      | none => match ab_call (ab_c y) i S (ac_abs 0 (fun _ => 0) c.2) with
        | some (y', As, r, _) => if fs.length < 15 then some ((y', 0, lv_args 0 As, []) :: (y, pc + 3, L, r) :: fs, c.2) else none
        | none => match ab_step (decide ((ab_y y).name = "<init>")) (ab_nL y) (ab_c y) i len pc L S (ac_abs 0 (fun _ => 0) c.2) with
          | some (pc', L', S', _) => if ac_noscr S then (ac_next (ab_c y) i S c.2).map (fun q => ((y, pc', L', S') :: fs, q)) else none
          | none => none) else none
def ac_go : Nat → ac_Cf → Option ac_Cf
  | 0, c => some c
  | n + 1, c => match ac_one c with
    | some c' => ac_go n c'
    | none => none
/-- the callers go on with what was answered -/
def evc : List ac_Fr → Nat → Option Value → ab_H → ab_O × ab_H → Prop
  | [], _, v, h, x => x = (.inl v, h)
  | (y, pc, L, S) :: r, d, v, h, x => ∃ w h1, ev d y pc L (v.toList ++ S) h (.inl w, h1) ∧ evc r (d + 1) w h1 x
/-- from these frames, the topmost with d calls left, the run comes to x -/
def evs (d : Nat) (fs : List ac_Fr) (h : ab_H) (x : ab_O × ab_H) : Prop := match fs with
  | [] => False
  | (y, pc, L, S) :: r => ∃ v h1, ev d y pc L S h (.inl v, h1) ∧ evc r (d + 1) v h1 x
theorem evs_top {d y pc : Nat} {L : ab_L} {S : ab_S} {h : ab_H} {y' pc' : Nat} {L' : ab_L} {S' : ab_S} {h' : ab_H} {fs : List ac_Fr} {x : ab_O × ab_H} (hk : ∀ z, ev d y' pc' L' S' h' z → ev d y pc L S h z) (he : evs d ((y', pc', L', S') :: fs) h' x) : evs d ((y, pc, L, S) :: fs) h x := by
  obtain ⟨v, h1, h2, h3⟩ := he
  exact ⟨v, h1, hk _ h2, h3⟩
theorem ac_end_none {y pc : Nat} {i : Instr} {S : ab_S} {h1 h2 : ab_H} (h : ab_end y pc i S h1 = none) : ab_end y pc i S h2 = none := by
  unfold ab_end at h ⊢
  split at h
  all_goals try (split at h)
  all_goals try (split at h)
  all_goals first
    | rfl
    | (cases h; done)
    | (rename_i hc; exact if_neg hc)
    | simp_all
theorem ac_end_inl {y pc : Nat} {i : Instr} {S : ab_S} {h1 h1' h2 : ab_H} {v : Option Value} (h : ab_end y pc i S h1 = some (.inl v, h1')) : ab_end y pc i S h2 = some (.inl v, h2) := by
  unfold ab_end at h ⊢
  split at h
  all_goals try (split at h)
  all_goals try (split at h)
  all_goals first
    | (cases h; done)
    | (cases h; rfl)
    | (rename_i hc; cases h; exact if_pos hc)
    | (cases h; simp_all; done)
    | (simp_all; done)
theorem ac_noscr_ok {S : ab_S} (h : ac_noscr S = true) : ∀ a, .ref a ∈ S → a ≠ ab_scr := by
  intro a ha e
  have := List.all_eq_true.mp h _ ha
  subst e
  revert this
  decide
theorem ac_one_ok {XL : Nat} {xs : Nat → Int32} {fs fs' : List ac_Fr} {q q' : ac_H} {D : Nat} {x : ab_O × ab_H} (h : ac_one (fs, q) = some (fs', q')) (hD : fs'.length ≤ D + 1) (he : evs (D + 1 - fs'.length) fs' (ac_abs XL xs q') x) (hD2 : fs.length ≤ D + 1) : evs (D + 1 - fs.length) fs (ac_abs XL xs q) x := by
  unfold ac_one at h
  dsimp only at h
  split at h
  · cases h
  · rename_i y pc L S fs0
    split at h
    · cases h
    · rename_i i len hdec
      obtain ⟨hlen, h⟩ := Option.ite_none_right_eq_some.mp h
      split at h
      · rename_i v h1 hend
        cases fs0 with
        | nil => cases h
        | cons f r =>
          obtain ⟨y2, pc2, L2, S2⟩ := f
          simp only [Option.some.injEq, Prod.mk.injEq] at h
          obtain ⟨rfl, rfl⟩ := h
          refine ⟨v, _, ev_end hdec hlen (ac_end_inl hend), ?_⟩
          have : D + 1 - ((y, pc, L, S) :: (y2, pc2, L2, S2) :: r).length + 1 = D + 1 - ((y2, pc2, L2, v.toList ++ S2) :: r).length := by
            simp only [List.length_cons] at hD hD2 ⊢
            omega
          rw [this]
          exact he
      · cases h
      · rename_i hend
        have hend2 : ab_end y pc i S (ac_abs XL xs q) = none := ac_end_none hend
        split at h
        · rename_i y' As r pl hcall
          have hcall2 : ab_call (ab_c y) i S (ac_abs XL xs q) = some (y', As, r, pl) := by
            rw [← hcall]
            cases i <;> rfl
          obtain ⟨hl, h⟩ := Option.ite_none_right_eq_some.mp h
          simp only [Option.some.injEq, Prod.mk.injEq] at h
          obtain ⟨rfl, rfl⟩ := h
          obtain ⟨v, h1, g1, v2, h2, g3, g4⟩ := he
          have e1 : D + 1 - ((y', 0, lv_args 0 As, []) :: (y, pc + 3, L, r) :: fs0).length + 1 = D + 1 - ((y, pc, L, S) :: fs0).length := by
            simp only [List.length_cons] at hD hD2 ⊢
            omega
          rw [← e1]
          exact ⟨v2, h2, ev_call hdec hlen hend2 hcall2 g1 g3, g4⟩
        · rename_i hcall
          have hcall2 : ab_call (ab_c y) i S (ac_abs XL xs q) = none := by
            rw [← hcall]
            cases i <;> rfl
          split at h
          · rename_i pc' L' S' h' hst
            obtain ⟨hs, h⟩ := Option.ite_none_right_eq_some.mp h
            obtain ⟨q1, hn, h⟩ := Option.map_eq_some_iff.mp h
            simp only [Prod.mk.injEq] at h
            obtain ⟨rfl, rfl⟩ := h
            refine evs_top (fun z hz => ?_) he
            exact ev_step hdec hlen hend2 hcall2 (ac_step_ok XL xs (ac_noscr_ok hs) hn hst) hz
          · cases h
theorem ac_one_len {c c' : ac_Cf} (h : ac_one c = some c') (hc : c.1.length ≤ 17) : c'.1.length ≤ 17 := by
  unfold ac_one at h
  split at h
  · cases h
  · rename_i y pc L S fs0 he
    rw [he] at hc
    split at h
    · cases h
    · obtain ⟨hlen, h⟩ := Option.ite_none_right_eq_some.mp h
      split at h
      · split at h
        · cases h
          simp only [List.length_cons] at hc ⊢
          omega
        · cases h
      · cases h
      · split at h
        · obtain ⟨hl, h⟩ := Option.ite_none_right_eq_some.mp h
          cases h
          simp only [List.length_cons] at hc ⊢
          omega
        · split at h
          · obtain ⟨hs, h⟩ := Option.ite_none_right_eq_some.mp h
            obtain ⟨q1, hn, h⟩ := Option.map_eq_some_iff.mp h
            subst h
            exact hc
          · cases h
theorem ac_go_ok {XL : Nat} {xs : Nat → Int32} {x : ab_O × ab_H} (D : Nat) (hD : 17 ≤ D + 1) : ∀ (n : Nat) {fs fs' : List ac_Fr} {q q' : ac_H}, ac_go n (fs, q) = some (fs', q') → fs.length ≤ 17 → evs (D + 1 - fs'.length) fs' (ac_abs XL xs q') x → evs (D + 1 - fs.length) fs (ac_abs XL xs q) x
  | 0, fs, fs', q, q', h, hl, he => by
    cases h
    exact he
  | n + 1, fs, fs', q, q', h, hl, he => by
    unfold ac_go at h
    split at h
    · rename_i c' h1
      obtain ⟨fs1, q1⟩ := c'
      have hl1 := ac_one_len h1 hl
      dsimp only at hl1
      exact ac_one_ok h1 (by omega) (ac_go_ok D hD n h hl1 he) (by omega)
    · cases h
/-- equality of what stands in a configuration, looked at by a program -/
def ac_veq : Value → Value → Bool
  | .int a, .int b => decide (a = b)
  | .ref a, .ref b => a == b
  | _, _ => false
theorem ac_veq_ok : ∀ {a b : Value}, ac_veq a b = true → a = b := by
  intro a b h
  cases a <;> cases b <;> first | (simp [ac_veq] at h; done) | (simp [ac_veq] at h; subst h; rfl)
def ac_leq {α : Type} (f : α → α → Bool) : List α → List α → Bool
  | [], [] => true
  | a :: r, b :: s => f a b && ac_leq f r s
  | _, _ => false
theorem ac_leq_ok {α : Type} {f : α → α → Bool} (hf : ∀ {a b}, f a b = true → a = b) : ∀ {l m : List α}, ac_leq f l m = true → l = m
  | [], [], _ => rfl
  | [], b :: s, h => by cases h
  | a :: r, [], h => by cases h
  | a :: r, b :: s, h => by
    simp only [ac_leq, Bool.and_eq_true] at h
    rw [hf h.1, ac_leq_ok hf h.2]
def ac_ceq (a b : ac_Cell) : Bool := a.1 == b.1 && a.2.1 == b.2.1 && ac_leq (fun x z => x.1 == z.1 && x.2 == z.2) a.2.2.1 b.2.2.1 && ac_leq (fun x z => x.1 == z.1 && decide (x.2 = z.2)) a.2.2.2 b.2.2.2
theorem ac_ceq_ok {a b : ac_Cell} (h : ac_ceq a b = true) : a = b := by
  simp only [ac_ceq, Bool.and_eq_true] at h
  obtain ⟨a1, a2, a3, a4⟩ := a
  obtain ⟨b1, b2, b3, b4⟩ := b
  have h1 : a1 = b1 := by simpa using h.1.1.1
  have h2 : a2 = b2 := by simpa using h.1.1.2
  have h3 : a3 = b3 := ac_leq_ok (fun {x z} hx => by
    simp only [Bool.and_eq_true] at hx
    exact Prod.ext (by simpa using hx.1) (by simpa using hx.2)) h.1.2
  have h4 : a4 = b4 := ac_leq_ok (fun {x z} hx => by
    simp only [Bool.and_eq_true] at hx
    exact Prod.ext (by simpa using hx.1) (by simpa using hx.2)) h.2
  rw [h1, h2, h3, h4]
def ac_feq (a b : ac_Fr) : Bool := a.1 == b.1 && a.2.1 == b.2.1 && ac_leq (fun x z => x.1 == z.1 && ac_veq x.2 z.2) a.2.2.1 b.2.2.1 && ac_leq ac_veq a.2.2.2 b.2.2.2
theorem ac_feq_ok {a b : ac_Fr} (h : ac_feq a b = true) : a = b := by
  simp only [ac_feq, Bool.and_eq_true] at h
  obtain ⟨a1, a2, a3, a4⟩ := a
  obtain ⟨b1, b2, b3, b4⟩ := b
  have h1 : a1 = b1 := by simpa using h.1.1.1
  have h2 : a2 = b2 := by simpa using h.1.1.2
  have h3 : a3 = b3 := ac_leq_ok (fun {x z} hx => by
    simp only [Bool.and_eq_true] at hx
    exact Prod.ext (by simpa using hx.1) (ac_veq_ok hx.2)) h.1.2
  have h4 : a4 = b4 := ac_leq_ok (fun {x z} hx => ac_veq_ok hx) h.2
  rw [h1, h2, h3, h4]
def ac_is (o : Option ac_Cf) (c : ac_Cf) : Bool := match o with
  | none => false
  | some b => ac_leq ac_feq b.1 c.1 && ac_leq ac_ceq b.2.1 c.2.1 && b.2.2 == c.2.2
theorem ac_is_ok {o : Option ac_Cf} {c : ac_Cf} (h : ac_is o c = true) : o = some c := by
  unfold ac_is at h
  split at h
  · cases h
  · rename_i b
    simp only [Bool.and_eq_true] at h
    obtain ⟨b1, b2, b3⟩ := b
    obtain ⟨c1, c2, c3⟩ := c
    have h1 : b1 = c1 := ac_leq_ok (fun {x z} hx => ac_feq_ok hx) h.1.1
    have h2 : b2 = c2 := ac_leq_ok (fun {x z} hx => ac_ceq_ok hx) h.1.2
    have h3 : b3 = c3 := by simpa using h.2
    rw [h1, h2, h3]
