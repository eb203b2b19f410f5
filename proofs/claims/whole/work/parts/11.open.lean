section SOUND
variable {p : Program} {l : Launch} {e : Env} {R : Room} {s : State} {m : MethodId} {args : Array Value} {below : List Frame} {meth : Method} {c : Code} {Q : State → Prop}
variable {D : va_G} {tA : Nat → ClassId} {n0 b0 : Nat} {sa : Nat → Nat} {HL : Heap} {XL : Nat} {xs : Nat → Int32} {St : State → Prop} {y : Nat} {c0 z0 : Nat}
variable {pc len : Nat} {L : ab_L} {S r : ab_S} {h : ab_H}

theorem so_ld {t : Nat} {pc' : Nat} {L' : ab_L} {S' : ab_S} {h' : ab_H} {k q : Nat} (hst : ab_ld L S h k t q = some (pc', L', S', h')) : ∃ v, ab_get L k = some v ∧ pc' = q ∧ L' = L ∧ S' = v :: S ∧ h' = h ∧ ((t = 0 ∧ ∃ x, v = .int x) ∨ (t = 1 ∧ ∃ x, v = .long x) ∨ (t = 2 ∧ ∃ x, v = .ref x)) := by
  unfold ab_ld at hst
  obtain ⟨v, hv, hh⟩ := Option.map_eq_some_iff.mp hst
  cases hh
  unfold ab_load at hv
  split at hv
  · rename_i x hx
    split at hv
    · rename_i ht; cases hv; exact ⟨_, hx, rfl, rfl, rfl, rfl, Or.inl ⟨ht, _, rfl⟩⟩
    · cases hv
  · rename_i x hx
    split at hv
    · rename_i ht; cases hv; exact ⟨_, hx, rfl, rfl, rfl, rfl, Or.inr (Or.inl ⟨ht, _, rfl⟩)⟩
    · cases hv
  · rename_i x hx
    split at hv
    · rename_i ht; cases hv; exact ⟨_, hx, rfl, rfl, rfl, rfl, Or.inr (Or.inr ⟨ht, _, rfl⟩)⟩
    · cases hv
  · cases hv
theorem so_ldS (C : so_Cx p l s m args meth c D tA n0 b0 sa HL XL xs St y c0) {k : Nat} (hd : decode (ab_b y) pc = .ok (.ldc k, 2)) {t : Nat} (hk : ab_lkS (ab_c y) k = some t) (k1 : so_G p l e R s m args below meth c Q D tA (so_fa n0 b0 sa) HL y c0 z0 (pc + 2) L (.ref (ab_str + t) :: S) h) : so_G p l e R s m args below meth c Q D tA (so_fa n0 b0 sa) HL y c0 z0 pc L S h := by
  sorry
theorem so_slenS (C : so_Cx p l s m args meth c D tA n0 b0 sa HL XL xs St y c0) (hF : 6 ≤ R.frames) (hLo : 100 ≤ R.locals) (hC : ab_C h ≤ c0 + R.cells) (hZ : ab_Z h ≤ z0 + R.slots) {k y' : Nat} (hd : decode (ab_b y) pc = .ok (.invokevirtual k, 3)) (hk : ab_lkM (ab_c y) k = some (10, y')) {a : Nat} (ha : ab_str ≤ a ∧ a < ab_str + 5 ∧ ab_cat S ≤ 8) (k1 : so_G p l e R s m args below meth c Q D tA (so_fa n0 b0 sa) HL y c0 z0 (pc + 3) L (.int (Int32.ofNat (ta_tx (a - ab_str)).length) :: S) h) : so_G p l e R s m args below meth c Q D tA (so_fa n0 b0 sa) HL y c0 z0 pc L (.ref a :: S) h := by
  sorry
theorem so_chat (C : so_Cx p l s m args meth c D tA n0 b0 sa HL XL xs St y c0) (hF : 6 ≤ R.frames) (hLo : 100 ≤ R.locals) (hC : ab_C h ≤ c0 + R.cells) (hZ : ab_Z h ≤ z0 + R.slots) {k y' : Nat} (hd : decode (ab_b y) pc = .ok (.invokevirtual k, 3)) (hk : ab_lkM (ab_c y) k = some (11, y')) {a : Nat} {i : Int32} (ha : ab_str ≤ a ∧ a < ab_str + 5 ∧ ab_cat S ≤ 8 ∧ ab_in i (ta_tx (a - ab_str)).length = true) (k1 : so_G p l e R s m args below meth c Q D tA (so_fa n0 b0 sa) HL y c0 z0 (pc + 3) L (.int (Int32.ofNat ((ta_tx (a - ab_str)).toList.getD i.toNatClampNeg ' ').toNat) :: S) h) : so_G p l e R s m args below meth c Q D tA (so_fa n0 b0 sa) HL y c0 z0 pc L (.int i :: .ref a :: S) h := by
  sorry
theorem so_two (C : so_Cx p l s m args meth c D tA n0 b0 sa HL XL xs St y c0) {k : Nat} (hd : decode (ab_b y) pc = .ok (.multianewarray k 2, 4)) (hk : ab_lkA (ab_c y) k = some 2) {n m' : Int32} (h1 : 0 ≤ n) (h2 : 0 ≤ m') (h3 : n.toNatClampNeg ≤ 1000) (h4 : m'.toNatClampNeg ≤ 100000) (hCN : ab_C h = ab_N h) (hN : ab_N h + n.toNatClampNeg < 900000) (hC : ab_C (ab_newb h n.toNatClampNeg m'.toNatClampNeg) ≤ c0 + R.cells) (hZ : ab_Z (ab_newb h n.toNatClampNeg m'.toNatClampNeg) ≤ z0 + R.slots)
    (k1 : so_G p l e R s m args below meth c Q D tA (so_fa n0 b0 sa) HL y c0 z0 (pc + 4) L (.ref (ab_N h) :: S) (ab_newb h n.toNatClampNeg m'.toNatClampNeg)) : so_G p l e R s m args below meth c Q D tA (so_fa n0 b0 sa) HL y c0 z0 pc L (.int m' :: .int n :: S) h := by
  sorry
theorem so_three (C : so_Cx p l s m args meth c D tA n0 b0 sa HL XL xs St y c0) {k : Nat} (hd : decode (ab_b y) pc = .ok (.multianewarray k 3, 4)) (hk : ab_lkA (ab_c y) k = some 3) {n m' q : Int32} (h1 : 0 ≤ n) (h2 : 0 ≤ m') (h2' : 0 ≤ q) (h3 : n.toNatClampNeg ≤ 100) (h4 : m'.toNatClampNeg ≤ 100) (h5 : q.toNatClampNeg ≤ 100) (hCN : ab_C h = ab_N h) (hN : ab_N h < 800000) (hC : ab_C (ab_newc h n.toNatClampNeg m'.toNatClampNeg q.toNatClampNeg) ≤ c0 + R.cells) (hZ : ab_Z (ab_newc h n.toNatClampNeg m'.toNatClampNeg q.toNatClampNeg) ≤ z0 + R.slots)
    (k1 : so_G p l e R s m args below meth c Q D tA (so_fa n0 b0 sa) HL y c0 z0 (pc + 4) L (.ref (ab_N h) :: S) (ab_newc h n.toNatClampNeg m'.toNatClampNeg q.toNatClampNeg)) : so_G p l e R s m args below meth c Q D tA (so_fa n0 b0 sa) HL y c0 z0 pc L (.int q :: .int m' :: .int n :: S) h := by
  sorry
end SOUND

