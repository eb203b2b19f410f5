/-! heaps as data: what constructors do, they do to closed lists -/
abbrev ac_Cell : Type := Nat × Nat × List (Nat × Nat) × List (Nat × Int32)
abbrev ac_H : Type := List ac_Cell × Nat
def ac_as {α : Type} (k : Nat) : List (Nat × α) → Option α
  | [] => none
  | (a, v) :: r => if a = k then some v else ac_as k r
def ac_k : Option ac_Cell → Nat × Nat
  | some c => (c.1, c.2.1)
  | none => (0, 0)
def ac_p (o : Option ac_Cell) (k : Nat) : Option Nat := match o with
  | some c => ac_as k c.2.2.1
  | none => none
def ac_i (o : Option ac_Cell) (k : Nat) : Int32 := match o with
  | some c => (ac_as k c.2.2.2).getD 0
  | none => 0
def ac_abs (XL : Nat) (xs : Nat → Int32) (q : ac_H) : ab_H :=
  ((q.1.length, (fun a => ac_k q.1[a]?), (fun a k => ac_p q.1[a]? k), XL, xs), ((fun a k => ac_i q.1[a]? k), (fun _ _ => 0), q.1.length, q.2))
def ac_put {α : Type} (k : Nat) (v : α) (l : List (Nat × α)) : List (Nat × α) := (k, v) :: l.filter (fun e => !(e.1 == k))
theorem ac_as_ne {α : Type} {k j : Nat} (h : ¬ k = j) : ∀ l : List (Nat × α), ac_as j (l.filter (fun e => !(e.1 == k))) = ac_as j l
  | [] => rfl
  | (a, w) :: r => by
    rw [List.filter_cons]
    by_cases ha : a = k
    · subst ha
      have h1 : (!((a, w).1 == a)) = false := by simp
      rw [h1, if_neg (by decide), ac_as_ne h r]
      show _ = (if a = j then some w else ac_as j r)
      rw [if_neg h]
    · have h1 : (!((a, w).1 == k)) = true := by simp [ha]
      rw [h1, if_pos rfl]
      show (if a = j then some w else ac_as j _) = (if a = j then some w else ac_as j r)
      rw [ac_as_ne h r]
theorem ac_as_put {α : Type} (k : Nat) (v : α) (l : List (Nat × α)) (j : Nat) : ac_as j (ac_put k v l) = if j = k then some v else ac_as j l := by
  show (if k = j then some v else ac_as j _) = _
  by_cases h : k = j
  · rw [if_pos h, if_pos h.symm]
  · rw [if_neg h, if_neg (fun e => h e.symm), ac_as_ne h]
def ac_wI (q : ac_H) (a j : Nat) (x : Int32) : ac_H := (q.1.modify a (fun e => (e.1, e.2.1, e.2.2.1, ac_put j x e.2.2.2)), q.2)
def ac_wP (q : ac_H) (a j : Nat) (x : Nat) : ac_H := (q.1.modify a (fun e => (e.1, e.2.1, ac_put j x e.2.2.1, e.2.2.2)), q.2)
def ac_new (q : ac_H) (t n z : Nat) (p : List (Nat × Nat)) : ac_H := (q.1 ++ [(t, n, p, [])], q.2 + z)
theorem ac_mod (l : List ac_Cell) (a b : Nat) (f : ac_Cell → ac_Cell) : (l.modify a f)[b]? = if b = a then (l[b]?).map f else l[b]? := by
  rw [List.getElem?_modify]
  by_cases h : b = a
  · subst h; simp
  · rw [if_neg h]
    cases l[b]? with
    | none => rfl
    | some e => simp [show ¬ a = b from fun e => h e.symm]
theorem ac_wI_ok {XL : Nat} {xs : Nat → Int32} {q : ac_H} {a j : Nat} {x : Int32} (ha : a < q.1.length) : ab_wI (ac_abs XL xs q) a j x = ac_abs XL xs (ac_wI q a j x) := by
  have e1 : (fun (b : Nat) => ac_k q.1[b]?) = (fun (b : Nat) => ac_k (ac_wI q a j x).1[b]?) := by
    funext b
    show _ = ac_k ((q.1.modify a _)[b]?)
    rw [ac_mod]
    split <;> cases q.1[b]? <;> rfl
  have e2 : (fun (b k : Nat) => ac_p q.1[b]? k) = (fun b k => ac_p (ac_wI q a j x).1[b]? k) := by
    funext b k
    show _ = ac_p ((q.1.modify a _)[b]?) k
    rw [ac_mod]
    split <;> cases q.1[b]? <;> rfl
  have e3 : ab_up1 (fun (b k : Nat) => ac_i q.1[b]? k) a j x = (fun b k => ac_i (ac_wI q a j x).1[b]? k) := by
    funext b k
    show (if b = a then upd (fun k => ac_i q.1[a]? k) j x else (fun k => ac_i q.1[b]? k)) k = ac_i ((q.1.modify a _)[b]?) k
    rw [ac_mod]
    by_cases hb : b = a
    · subst hb
      rw [if_pos rfl, if_pos rfl, List.getElem?_eq_getElem ha]
      show (if k = j then x else _) = (ac_as k (ac_put j x _)).getD 0
      rw [ac_as_put]
      by_cases hk : k = j
      · rw [if_pos hk, if_pos hk]; rfl
      · rw [if_neg hk, if_neg hk]; rfl
    · rw [if_neg hb, if_neg hb]
  have e4 : (ac_wI q a j x).1.length = q.1.length := List.length_modify ..
  show ((q.1.length, (fun (b : Nat) => ac_k q.1[b]?), (fun (b k : Nat) => ac_p q.1[b]? k), XL, xs), (ab_up1 (fun (b k : Nat) => ac_i q.1[b]? k) a j x, (fun _ _ => 0), q.1.length, q.2)) = _
  rw [e1, e2, e3]
  unfold ac_abs
  rw [e4]
  rfl
theorem ac_wP_ok {XL : Nat} {xs : Nat → Int32} {q : ac_H} {a j x : Nat} (ha : a < q.1.length) : ab_wP (ac_abs XL xs q) a j x = ac_abs XL xs (ac_wP q a j x) := by
  have e1 : (fun (b : Nat) => ac_k q.1[b]?) = (fun (b : Nat) => ac_k (ac_wP q a j x).1[b]?) := by
    funext b
    show _ = ac_k ((q.1.modify a _)[b]?)
    rw [ac_mod]
    split <;> cases q.1[b]? <;> rfl
  have e2 : (fun (b k : Nat) => ac_i q.1[b]? k) = (fun b k => ac_i (ac_wP q a j x).1[b]? k) := by
    funext b k
    show _ = ac_i ((q.1.modify a _)[b]?) k
    rw [ac_mod]
    split <;> cases q.1[b]? <;> rfl
  have e3 : ab_upP (fun (b k : Nat) => ac_p q.1[b]? k) a j (some x) = (fun b k => ac_p (ac_wP q a j x).1[b]? k) := by
    funext b k
    show (if b = a then (fun k => if k = j then some x else ac_p q.1[a]? k) else (fun k => ac_p q.1[b]? k)) k = ac_p ((q.1.modify a _)[b]?) k
    rw [ac_mod]
    by_cases hb : b = a
    · subst hb
      rw [if_pos rfl, if_pos rfl, List.getElem?_eq_getElem ha]
      show (if k = j then some x else _) = ac_as k (ac_put j x _)
      rw [ac_as_put]
      rfl
    · rw [if_neg hb, if_neg hb]
  have e4 : (ac_wP q a j x).1.length = q.1.length := List.length_modify ..
  show ((q.1.length, (fun (b : Nat) => ac_k q.1[b]?), ab_upP (fun (b k : Nat) => ac_p q.1[b]? k) a j (some x), XL, xs), ((fun (b k : Nat) => ac_i q.1[b]? k), (fun _ _ => 0), q.1.length, q.2)) = _
  rw [e1, e2, e3]
  unfold ac_abs
  rw [e4]
  rfl
theorem ac_new_ok {XL : Nat} {xs : Nat → Int32} {q : ac_H} {t n z : Nat} {p : Nat → Option Nat} {pl : List (Nat × Nat)} (hp : ∀ k, p k = ac_as k pl) : ab_new (ac_abs XL xs q) t n z p = ac_abs XL xs (ac_new q t n z pl) := by
  have key : ∀ b, (ac_new q t n z pl).1[b]? = if b = q.1.length then some (t, n, pl, []) else q.1[b]? := by
    intro b
    show (q.1 ++ [(t, n, pl, ([] : List (Nat × Int32)))])[b]? = _
    rcases Nat.lt_trichotomy b q.1.length with h | h | h
    · rw [List.getElem?_append_left h, if_neg (by omega)]
    · subst h; simp
    · rw [if_neg (by omega), List.getElem?_eq_none (by simp; omega), List.getElem?_eq_none (by omega)]
  have e1 : (fun b => if b = q.1.length then (t, n) else ac_k q.1[b]?) = (fun b => ac_k (ac_new q t n z pl).1[b]?) := by
    funext b
    rw [key]
    split <;> rfl
  have e2 : (fun b => if b = q.1.length then p else (fun k => ac_p q.1[b]? k)) = (fun b k => ac_p (ac_new q t n z pl).1[b]? k) := by
    funext b k
    rw [key]
    split
    · exact hp k
    · rfl
  have e3 : (fun (b k : Nat) => ac_i q.1[b]? k) = (fun b k => ac_i (ac_new q t n z pl).1[b]? k) := by
    funext b k
    rw [key]
    split
    · rename_i hb
      rw [hb, List.getElem?_eq_none (Nat.le_refl _)]
      rfl
    · rfl
  have e4 : (ac_new q t n z pl).1.length = q.1.length + 1 := by
    show (q.1 ++ [_]).length = _
    simp
  show ((q.1.length + 1, (fun b => if b = q.1.length then (t, n) else ac_k q.1[b]?), (fun b => if b = q.1.length then p else (fun k => ac_p q.1[b]? k)), XL, xs), ((fun (b k : Nat) => ac_i q.1[b]? k), (fun _ _ => 0), q.1.length + 1, q.2 + z)) = _
  rw [e1, e2, e3]
  unfold ac_abs
  rw [e4]
  rfl
