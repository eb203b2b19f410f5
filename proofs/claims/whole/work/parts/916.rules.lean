/-! rules of Go over the made heap -/
abbrev MJ : Type := Nat → Nat → Int32
abbrev GG : Type := (Nat → Nat → Int64) × Nat × Nat
abbrev XX : Type := Nat × (Nat → Int32)
def hh (X : XX) (g : GG) (I : MJ) : ab_H := ((699, KS, PS, X), (I, g))
def thr (g : GG) : GG := (g.1, g.2.1 + 1, g.2.2 + 6)
def rd (I : MJ) (a : Nat) (i : Int32) : Option Int32 := if a < 699 && (KS a).1 == 100 && ab_in i (KS a).2 then some (I a i.toNatClampNeg) else none
def rdb (I : MJ) (a : Nat) (i : Int32) : Option Int32 := if a < 699 && ((KS a).1 == 101 || (KS a).1 == 102) && ab_in i (KS a).2 then some (I a i.toNatClampNeg) else none
def rdp (a : Nat) (i : Int32) : Option Nat := if a < 699 && ((KS a).1 == 104 || (KS a).1 == 105) && ab_in i (KS a).2 then PS a i.toNatClampNeg else none
def rdl (g : GG) (a : Nat) (i : Int32) : Option Int64 := if a < 699 && (KS a).1 == 103 && ab_in i (KS a).2 then some (g.1 a i.toNatClampNeg) else none
def rds (X : XX) (i : Int32) : Option Int32 := if ab_in i X.1 then some (X.2 i.toNatClampNeg) else none
def wr (I : MJ) (a : Nat) (i x : Int32) : Option MJ := if a < 699 && (KS a).1 == 100 && ab_in i (KS a).2 then some (ab_up1 I a i.toNatClampNeg x) else none
def wrb (I : MJ) (a : Nat) (i x : Int32) : Option MJ := if a < 699 && ab_in i (KS a).2 then (if (KS a).1 == 101 then some (ab_up1 I a i.toNatClampNeg (vp_nar .byte x)) else if (KS a).1 == 102 then some (ab_up1 I a i.toNatClampNeg (vp_nar .boolean x)) else none) else none
def wrl (g : GG) (a : Nat) (i : Int32) (x : Int64) : Option GG := if a < 699 && (KS a).1 == 103 && ab_in i (KS a).2 then some (ab_upL g.1 a i.toNatClampNeg x, g.2) else none
def lna (a : Nat) : Option Int32 := if a < 699 && (KS a).1 ≥ 100 && (KS a).1 < 106 then some (Int32.ofNat (KS a).2) else none
def acp (I : MJ) (a : Nat) (sp : Int32) (b : Nat) (dp n : Int32) : Option MJ := if a < 699 && b < 699 && (KS a).1 == 100 && (KS b).1 == 100 && decide (0 ≤ n) && decide (0 ≤ dp) && decide (0 ≤ sp) && decide (sp.toNatClampNeg + n.toNatClampNeg ≤ (KS a).2) && decide (dp.toNatClampNeg + n.toNatClampNeg ≤ (KS b).2) then some (ab_cpy I a b sp.toNatClampNeg dp.toNatClampNeg n.toNatClampNeg) else none
def sln (a : Nat) : Option Int32 := if ab_str ≤ a ∧ a < ab_str + 8 then some (Int32.ofNat (ta_tx (a - ab_str)).length) else none
def sat (a : Nat) (i : Int32) : Option Int32 := if ab_str ≤ a ∧ a < ab_str + 8 ∧ ab_in i (ta_tx (a - ab_str)).length = true then some (Int32.ofNat ((ta_tx (a - ab_str)).toList.getD i.toNatClampNeg ' ').toNat) else none
def dv (x z : Int32) : Option Int32 := if z = 0 then none else some (x / z)
def rmd (x z : Int32) : Option Int32 := if z = 0 then none else some (x - x / z * z)
def ldv (x z : Int64) : Option Int64 := if z = 0 then none else some (x / z)
def lrm (x z : Int64) : Option Int64 := if z = 0 then none else some (x - x / z * z)
def tb {α β : Type} (e : Option ((Nat ⊕ α) × MJ)) (f : α → MJ → Option ((Nat ⊕ β) × MJ)) : Option ((Nat ⊕ β) × MJ) := e.bind fun b => match b.1 with
  | .inl E => some (.inl E, b.2)
  | .inr v => f v b.2
def tryb {α β : Type} (e : Option ((Nat ⊕ α) × MJ)) (f1 : α → MJ → Option β) (f2 : Nat → MJ → Option β) : Option β := e.bind fun b => match b.1 with
  | .inl E => f2 E b.2
  | .inr v => f1 v b.2
/-- what a piece's answer says of the machine's end -/
def pR (X : XX) (g : GG) (I : MJ) (v : Int32) (x : ab_O × ab_H) : Prop := x = (.inl (some (.int v)), hh X g I)
def pL (X : XX) (g : GG) (I : MJ) (v : Int64) (x : ab_O × ab_H) : Prop := x = (.inl (some (.long v)), hh X g I)
def pW (X : XX) (g : GG) (b : Int32 × MJ) (x : ab_O × ab_H) : Prop := x = (.inl (some (.int b.1)), hh X g b.2)
def pWJ (X : XX) (g : GG) (b : Int64 × MJ) (x : ab_O × ab_H) : Prop := x = (.inl (some (.long b.1)), hh X g b.2)
def pV (X : XX) (g : GG) (b : MJ) (x : ab_O × ab_H) : Prop := x = (.inl none, hh X g b)
def pG (X : XX) (b : Int32 × MJ × GG) (x : ab_O × ab_H) : Prop := x = (.inl (some (.int b.1)), hh X b.2.2 b.2.1)
def vI (v : Int32) : Option Value := some (.int v)
def vJ (v : Int64) : Option Value := some (.long v)
def vU (_ : Unit) : Option Value := none
def pT {α : Type} (vf : α → Option Value) (X : XX) (g : GG) (b : (Nat ⊕ α) × MJ) (x : ab_O × ab_H) : Prop := x = (match b.1 with
  | .inl E => (.inr E, hh X (thr g) b.2)
  | .inr v => (.inl (vf v), hh X g b.2))
def ab_sub : ab_L → ab_L → Prop
  | [], _ => True
  | (k, v) :: r, M => ab_get M k = some v ∧ ab_sub r M
theorem ab_sub_get : ∀ {L1 L2 : ab_L}, ab_sub L1 L2 → ∀ k v, ab_get L1 k = some v → ab_get L2 k = some v
  | [], _, _, k, v, h => by cases h
  | (a, w) :: r, L2, hs, k, v, h => by
    unfold ab_get at h
    by_cases hk : (a == k) = true
    · rw [if_pos hk] at h
      cases h
      have : a = k := by simpa using hk
      subst this
      exact hs.1
    · rw [if_neg hk] at h
      exact ab_sub_get hs.2 k v h
theorem ab_le_sub {L1 L2 : ab_L} (hn : ab_nd L1 = true) (hs : ab_sub L1 L2) : ab_le L1 L2 := Or.inr ⟨hn, ab_sub_get hs⟩
def ab_cl (y pc : Nat) (S : ab_S) (h : ab_H) : Option (Nat × List Value × ab_S × Bool) := match decode (ab_b y) pc with
  | .ok (i, len) => if ab_len i len && (ab_end y pc i S h).isNone then ab_call (ab_c y) i S h else none
  | .error _ => none
def ab_en (y pc : Nat) (S : ab_S) (h : ab_H) : Option (ab_O × ab_H) := match decode (ab_b y) pc with
  | .ok (i, len) => if ab_len i len then ab_end y pc i S h else none
  | .error _ => none
/-- where the handler of E goes on, behind its astore, and the local that it writes -/
def ab_ct (y pc E : Nat) : Option (Nat × Nat) := match ab_hand y pc E with
  | none => none
  | some t => match decode (ab_b y) t with
    | .ok (.astore_n k, 1) => if (k : Nat) < ab_nL y then some (t + 1, (k : Nat)) else none
    | .ok (.astore k, 2) => if k < ab_nL y then some (t + 2, k) else none
    | _ => none
def ab_dl (L : ab_L) (k : Nat) : ab_L := L.filter (fun q => !(q.1 == k) && !(q.1 + 1 == k && q.2.category == 2))
theorem ab_cl_spec {y pc : Nat} {S : ab_S} {h : ab_H} {r : Nat × List Value × ab_S × Bool} (hc : ab_cl y pc S h = some r) : ∃ i len, decode (ab_b y) pc = .ok (i, len) ∧ ab_len i len = true ∧ ab_end y pc i S h = none ∧ ab_call (ab_c y) i S h = some r := by
  unfold ab_cl at hc
  split at hc
  · rename_i i len hd
    split at hc
    · rename_i hb
      rw [Bool.and_eq_true, Option.isNone_iff_eq_none] at hb
      exact ⟨i, len, hd, hb.1, hb.2, hc⟩
    · cases hc
  · cases hc
theorem ev_cl {d y pc y' : Nat} {L : ab_L} {S r : ab_S} {h h1 : ab_H} {As : List Value} {pl : Bool} {v : Option Value} {x : ab_O × ab_H} (hc : ab_cl y pc S h = some (y', As, r, pl)) (hr : ev d y' 0 (lv_args 0 As) [] h (.inl v, h1)) (k : ev (d + 1) y (pc + 3) L (v.toList ++ r) h1 x) : ev (d + 1) y pc L S h x := by
  obtain ⟨i, len, h1, h2, h3, h4⟩ := ab_cl_spec hc
  exact ev_call h1 h2 h3 h4 hr k
theorem ev_clT {d y pc y' : Nat} {L : ab_L} {S r : ab_S} {h h1 : ab_H} {As : List Value} {E : Nat} (hc : ab_cl y pc S h = some (y', As, r, true)) (hr : ev d y' 0 (lv_args 0 As) [] h (.inr E, h1)) (hh : ab_hh y = []) : ev (d + 1) y pc L S h (.inr E, h1) := by
  obtain ⟨i, len, h1, h2, h3, h4⟩ := ab_cl_spec hc
  exact ev_thr h1 h2 h3 h4 hr hh
theorem ev_ct {d y pc y' : Nat} {L : ab_L} {S r : ab_S} {h h1 : ab_H} {As : List Value} {E t k : Nat} {x : ab_O × ab_H} (hc : ab_cl y pc S h = some (y', As, r, true)) (hr : ev d y' 0 (lv_args 0 As) [] h (.inr E, h1)) (ht : ab_ct y pc E = some (t, k)) (kk : ev (d + 1) y t (ab_dl L k) [] h1 x) : ev (d + 1) y pc L S h x := by
  obtain ⟨i, len, hd, hl, he, hc⟩ := ab_cl_spec hc
  obtain ⟨n1, hn1⟩ := hr
  obtain ⟨n2, hn2⟩ := kk
  refine ⟨max n1 n2 + 1, ?_⟩
  unfold ab_run
  rw [hd]
  dsimp only
  rw [hl, he, hc]
  dsimp only
  rw [ab_run_le n1 (max n1 n2) _ _ _ _ _ _ _ _ _ (Nat.le_max_left _ _) (Nat.le_refl _) (ab_le_rf _) hn1]
  have hn3 := ab_run_le n2 (max n1 n2) _ _ _ _ _ _ _ _ _ (Nat.le_max_right _ _) (Nat.le_refl _) (ab_le_rf _) hn2
  simp only [Bool.true_eq_false, if_false]
  unfold ab_ct at ht
  split at ht
  · cases ht
  · rename_i t0 hh0
    rw [hh0]
    try dsimp only
    split at ht
    · rename_i k0 hk0
      obtain ⟨hlt, h2⟩ := Option.ite_none_right_eq_some.mp ht
      cases h2
      rw [hk0]
      exact (if_pos hlt).trans hn3
    · rename_i k0 hk0
      obtain ⟨hlt, h2⟩ := Option.ite_none_right_eq_some.mp ht
      cases h2
      rw [hk0]
      exact (if_pos hlt).trans hn3
    · cases ht
section RULES
variable {β : Type} {γ : Type} {σ : Type} {d y pc : Nat} {L : ab_L} {S : ab_S} {h : ab_H} {T : β → ab_O × ab_H → Prop} {X : XX} {g : GG} {I : MJ}
theorem Go_opt {e1 : Option γ} {f : γ → Option β} (k : ∀ v, e1 = some v → Go d y pc L S h (f v) T) : Go d y pc L S h (e1.bind f) T := fun z hz x hx => by
  obtain ⟨v, hv, hf⟩ := Option.bind_eq_some_iff.mp hz
  exact k v hv z hf x hx
theorem Go_st {i : Instr} {len pc' : Nat} {L' : ab_L} {S' : ab_S} {h' : ab_H} {e : Option β} (hd : decode (ab_b y) pc = .ok (i, len)) (hl : ab_len i len = true) (he : ab_end y pc i S h = none) (hc : ab_call (ab_c y) i S h = none) (hs : ab_step (decide ((ab_y y).name = "<init>")) (ab_nL y) (ab_c y) i len pc L S h = some (pc', L', S', h')) (k : Go d y pc' L' S' h' e T) : Go d y pc L S h e T := fun z hz x hx => ev_step hd hl he hc hs (k z hz x hx)
theorem Go_ret {b : β} {x0 : ab_O × ab_H} (hT : ∀ x, T b x → x = x0) (he : ab_en y pc S h = some x0) : Go d y pc L S h (some b) T := Go_leaf fun x hx => by
  rw [hT x hx]
  unfold ab_en at he
  split at he
  · rename_i i len hd
    obtain ⟨h1, h2⟩ := Option.ite_none_right_eq_some.mp he
    exact ev_end hd h1 h2
  · cases he
theorem Go_jmp {b : β} (L' : ab_L) (hn : ab_nd L' = true) (hs : ab_sub L' L) (hT : ∀ x, T b x → ev d y pc L' S h x) : Go d y pc L S h (some b) T := Go_leaf fun x hx => ev_le (Nat.le_refl _) (ab_le_sub hn hs) (hT x hx)
theorem Go_lcs {e : Option β} (L' : ab_L) (hn : ab_nd L' = true) (hs : ab_sub L' L) (k : Go d y pc L' S h e T) : Go d y pc L S h e T := Go_loc (ab_le_sub hn hs) k
theorem Go_seq {e : Option γ} {f : γ → Option β} {pcj : Nat} (Lf : γ → ab_L) (Sf : γ → ab_S) (hf : γ → ab_H) (hj : ∀ b, Go d y pcj (Lf b) (Sf b) (hf b) (f b) T) (k : Go d y pc L S h e (fun b x => ev d y pcj (Lf b) (Sf b) (hf b) x)) : Go d y pc L S h (e.bind f) T := fun z hz x hx => by
  obtain ⟨b, h1, h2⟩ := Option.bind_eq_some_iff.mp hz
  exact k b h1 x (hj b z h2 x hx)
theorem Go_inr {e : Option β} {T' : σ ⊕ β → ab_O × ab_H → Prop} (k : Go d y pc L S h e (fun b x => T' (.inr b) x)) : Go d y pc L S h (e.map Sum.inr) T' := fun z hz x hx => by
  obtain ⟨b, h1, h2⟩ := Option.map_eq_some_iff.mp hz
  subst h2
  exact k b h1 x hx
theorem Go_iald {a : Nat} {i : Int32} {f : Int32 → Option β} (hd : decode (ab_b y) pc = .ok (.iaload, 1)) (k : ∀ v, Go d y (pc + 1) L (.int v :: S) (hh X g I) (f v) T) : Go d y pc L (.int i :: .ref a :: S) (hh X g I) ((rd I a i).bind f) T := Go_opt fun v hv => by
  unfold rd at hv
  obtain ⟨hc, h2⟩ := Option.ite_none_right_eq_some.mp hv
  cases h2
  refine Go_st hd rfl rfl rfl ?_ (k _)
  have ha : a ≠ ab_scr := by rintro rfl; simp [ab_scr] at hc
  unfold ab_step ab_aload
  try dsimp only
  rw [if_pos rfl, if_neg ha]
  exact if_pos hc
theorem Go_ialds {i : Int32} {f : Int32 → Option β} (hd : decode (ab_b y) pc = .ok (.iaload, 1)) (k : ∀ v, Go d y (pc + 1) L (.int v :: S) (hh X g I) (f v) T) : Go d y pc L (.int i :: .ref 1000000 :: S) (hh X g I) ((rds X i).bind f) T := Go_opt fun v hv => by
  unfold rds at hv
  obtain ⟨hc, h2⟩ := Option.ite_none_right_eq_some.mp hv
  cases h2
  refine Go_st hd rfl rfl rfl ?_ (k _)
  unfold ab_step ab_aload
  try dsimp only
  rw [if_pos rfl, if_pos (show (1000000 : Nat) = ab_scr from rfl)]
  exact if_pos hc
theorem Go_bald {a : Nat} {i : Int32} {f : Int32 → Option β} (hd : decode (ab_b y) pc = .ok (.baload, 1)) (k : ∀ v, Go d y (pc + 1) L (.int v :: S) (hh X g I) (f v) T) : Go d y pc L (.int i :: .ref a :: S) (hh X g I) ((rdb I a i).bind f) T := Go_opt fun v hv => by
  unfold rdb at hv
  obtain ⟨hc, h2⟩ := Option.ite_none_right_eq_some.mp hv
  cases h2
  refine Go_st hd rfl rfl rfl ?_ (k _)
  unfold ab_step ab_aload
  try dsimp only
  rw [if_neg (by decide), if_pos rfl]
  exact if_pos hc
theorem Go_aald {a : Nat} {i : Int32} {f : Nat → Option β} (hd : decode (ab_b y) pc = .ok (.aaload, 1)) (k : ∀ v, Go d y (pc + 1) L (.ref v :: S) (hh X g I) (f v) T) : Go d y pc L (.int i :: .ref a :: S) (hh X g I) ((rdp a i).bind f) T := Go_opt fun v hv => by
  unfold rdp at hv
  obtain ⟨hc, h2⟩ := Option.ite_none_right_eq_some.mp hv
  refine Go_st hd rfl rfl rfl ?_ (k _)
  unfold ab_step ab_aload
  try dsimp only
  rw [if_neg (by decide), if_neg (by decide), if_neg (by decide)]
  rw [show (if a < ab_N (hh X g I) && ((ab_K (hh X g I) a).1 == 104 || (ab_K (hh X g I) a).1 == 105) && ab_in i (ab_K (hh X g I) a).2 then (ab_P (hh X g I) a i.toNatClampNeg).map (fun b => (pc + 1, L, Value.ref b :: S, hh X g I)) else none) = (ab_P (hh X g I) a i.toNatClampNeg).map (fun b => (pc + 1, L, Value.ref b :: S, hh X g I)) from if_pos hc]
  have h3 : ab_P (hh X g I) a i.toNatClampNeg = some v := h2
  rw [h3]
  rfl
theorem Go_lald {a : Nat} {i : Int32} {f : Int64 → Option β} (hd : decode (ab_b y) pc = .ok (.laload, 1)) (k : ∀ v, Go d y (pc + 1) L (.long v :: S) (hh X g I) (f v) T) : Go d y pc L (.int i :: .ref a :: S) (hh X g I) ((rdl g a i).bind f) T := Go_opt fun v hv => by
  unfold rdl at hv
  obtain ⟨hc, h2⟩ := Option.ite_none_right_eq_some.mp hv
  cases h2
  refine Go_st hd rfl rfl rfl ?_ (k _)
  unfold ab_step ab_aload
  try dsimp only
  rw [if_neg (by decide), if_neg (by decide), if_pos rfl]
  exact if_pos hc
theorem Go_iast {a : Nat} {i x : Int32} {f : MJ → Option β} (hd : decode (ab_b y) pc = .ok (.iastore, 1)) (k : ∀ I', Go d y (pc + 1) L S (hh X g I') (f I') T) : Go d y pc L (.int x :: .int i :: .ref a :: S) (hh X g I) ((wr I a i x).bind f) T := Go_opt fun v hv => by
  unfold wr at hv
  obtain ⟨hc, h2⟩ := Option.ite_none_right_eq_some.mp hv
  cases h2
  refine Go_st hd rfl rfl rfl ?_ (k _)
  unfold ab_step ab_astore
  try dsimp only
  rw [if_pos rfl]
  exact if_pos hc
theorem Go_bast {a : Nat} {i x : Int32} {f : MJ → Option β} (hd : decode (ab_b y) pc = .ok (.bastore, 1)) (k : ∀ I', Go d y (pc + 1) L S (hh X g I') (f I') T) : Go d y pc L (.int x :: .int i :: .ref a :: S) (hh X g I) ((wrb I a i x).bind f) T := Go_opt fun v hv => by
  unfold wrb at hv
  obtain ⟨hc, h2⟩ := Option.ite_none_right_eq_some.mp hv
  refine Go_st hd rfl rfl rfl ?_ (k v)
  unfold ab_step ab_astore
  try dsimp only
  rw [if_neg (by decide), if_pos rfl]
  refine (if_pos hc).trans ?_
  split at h2
  · rename_i h3
    cases h2
    exact if_pos h3
  · rename_i h3
    obtain ⟨h4, h5⟩ := Option.ite_none_right_eq_some.mp h2
    cases h5
    exact (if_neg h3).trans (if_pos h4)
theorem Go_last {a : Nat} {i : Int32} {x : Int64} {f : GG → Option β} (hd : decode (ab_b y) pc = .ok (.lastore, 1)) (k : ∀ g', Go d y (pc + 1) L S (hh X g' I) (f g') T) : Go d y pc L (.long x :: .int i :: .ref a :: S) (hh X g I) ((wrl g a i x).bind f) T := Go_opt fun v hv => by
  unfold wrl at hv
  obtain ⟨hc, h2⟩ := Option.ite_none_right_eq_some.mp hv
  cases h2
  refine Go_st hd rfl rfl rfl ?_ (k _)
  unfold ab_step ab_astore
  try dsimp only
  rw [if_pos rfl]
  exact if_pos hc
theorem Go_alen {a : Nat} {f : Int32 → Option β} (hd : decode (ab_b y) pc = .ok (.arraylength, 1)) (k : ∀ v, Go d y (pc + 1) L (.int v :: S) (hh X g I) (f v) T) : Go d y pc L (.ref a :: S) (hh X g I) ((lna a).bind f) T := Go_opt fun v hv => by
  unfold lna at hv
  obtain ⟨hc, h2⟩ := Option.ite_none_right_eq_some.mp hv
  cases h2
  refine Go_st hd rfl rfl rfl ?_ (k _)
  have ha : a ≠ ab_scr := by rintro rfl; simp [ab_scr] at hc
  unfold ab_step ab_alen
  try dsimp only
  rw [if_neg ha]
  exact if_pos hc
theorem Go_alens {f : Option β} (hd : decode (ab_b y) pc = .ok (.arraylength, 1)) (k : Go d y (pc + 1) L (.int (Int32.ofNat X.1) :: S) (hh X g I) f T) : Go d y pc L (.ref 1000000 :: S) (hh X g I) f T := Go_st hd rfl rfl rfl rfl k
theorem Go_idiv {x z : Int32} {f : Int32 → Option β} (hd : decode (ab_b y) pc = .ok (.idiv, 1)) (k : ∀ v, Go d y (pc + 1) L (.int v :: S) h (f v) T) : Go d y pc L (.int z :: .int x :: S) h ((dv x z).bind f) T := Go_opt fun v hv => by
  unfold dv at hv
  obtain ⟨hc, h2⟩ := Option.ite_none_left_eq_some.mp hv
  cases h2
  exact Go_st hd rfl rfl rfl (if_neg hc) (k _)
theorem Go_irem {x z : Int32} {f : Int32 → Option β} (hd : decode (ab_b y) pc = .ok (.irem, 1)) (k : ∀ v, Go d y (pc + 1) L (.int v :: S) h (f v) T) : Go d y pc L (.int z :: .int x :: S) h ((rmd x z).bind f) T := Go_opt fun v hv => by
  unfold rmd at hv
  obtain ⟨hc, h2⟩ := Option.ite_none_left_eq_some.mp hv
  cases h2
  exact Go_st hd rfl rfl rfl (if_neg hc) (k _)
theorem Go_ldiv {x z : Int64} {f : Int64 → Option β} (hd : decode (ab_b y) pc = .ok (.ldiv, 1)) (k : ∀ v, Go d y (pc + 1) L (.long v :: S) h (f v) T) : Go d y pc L (.long z :: .long x :: S) h ((ldv x z).bind f) T := Go_opt fun v hv => by
  unfold ldv at hv
  obtain ⟨hc, h2⟩ := Option.ite_none_left_eq_some.mp hv
  cases h2
  exact Go_st hd rfl rfl rfl (if_neg hc) (k _)
theorem Go_lrem {x z : Int64} {f : Int64 → Option β} (hd : decode (ab_b y) pc = .ok (.lrem, 1)) (k : ∀ v, Go d y (pc + 1) L (.long v :: S) h (f v) T) : Go d y pc L (.long z :: .long x :: S) h ((lrm x z).bind f) T := Go_opt fun v hv => by
  unfold lrm at hv
  obtain ⟨hc, h2⟩ := Option.ite_none_left_eq_some.mp hv
  cases h2
  exact Go_st hd rfl rfl rfl (if_neg hc) (k _)
theorem Go_acp {a b i : Nat} {sp dp n : Int32} {f : MJ → Option β} (hd : decode (ab_b y) pc = .ok (.invokestatic i, 3)) (hc : ab_call (ab_c y) (.invokestatic i) (.int n :: .int dp :: .ref b :: .int sp :: .ref a :: S) (hh X g I) = none) (hi : (ab_lkM (ab_c y) i).map (fun q => q.1) = some 9) (hS : decide (ab_cat S ≤ 8) = true) (k : ∀ I', Go d y (pc + 3) L S (hh X g I') (f I') T) : Go d y pc L (.int n :: .int dp :: .ref b :: .int sp :: .ref a :: S) (hh X g I) ((acp I a sp b dp n).bind f) T := Go_opt fun v hv => by
  unfold acp at hv
  obtain ⟨hc2, h2⟩ := Option.ite_none_right_eq_some.mp hv
  cases h2
  obtain ⟨⟨q1, q2⟩, h3, h4⟩ := Option.map_eq_some_iff.mp hi
  dsimp only at h4
  subst h4
  refine Go_st hd rfl rfl hc ?_ (k _)
  unfold ab_step
  try dsimp only
  rw [h3]
  try dsimp only
  rw [if_pos (by decide)]
  unfold ab_lib
  dsimp only
  refine if_pos ?_
  rw [hS, Bool.and_true]
  exact hc2
theorem Go_sln {a i : Nat} {f : Int32 → Option β} (hd : decode (ab_b y) pc = .ok (.invokevirtual i, 3)) (hc : ab_call (ab_c y) (.invokevirtual i) (.ref a :: S) (hh X g I) = none) (hi : (ab_lkM (ab_c y) i).map (fun q => q.1) = some 10) (hS : decide (ab_cat S ≤ 8) = true) (k : ∀ v, Go d y (pc + 3) L (.int v :: S) (hh X g I) (f v) T) : Go d y pc L (.ref a :: S) (hh X g I) ((sln a).bind f) T := Go_opt fun v hv => by
  unfold sln at hv
  obtain ⟨hc2, h2⟩ := Option.ite_none_right_eq_some.mp hv
  have h2 := Option.some.inj h2
  subst h2
  obtain ⟨⟨q1, q2⟩, h3, h4⟩ := Option.map_eq_some_iff.mp hi
  dsimp only at h4
  subst h4
  refine Go_st hd rfl rfl hc ?_ (k _)
  unfold ab_step
  try dsimp only
  rw [h3]
  try dsimp only
  rw [if_pos (by decide)]
  unfold ab_lib
  dsimp only
  exact if_pos ⟨hc2.1, hc2.2, of_decide_eq_true hS⟩
theorem Go_sat {a i : Nat} {j : Int32} {f : Int32 → Option β} (hd : decode (ab_b y) pc = .ok (.invokevirtual i, 3)) (hc : ab_call (ab_c y) (.invokevirtual i) (.int j :: .ref a :: S) (hh X g I) = none) (hi : (ab_lkM (ab_c y) i).map (fun q => q.1) = some 11) (hS : decide (ab_cat S ≤ 8) = true) (k : ∀ v, Go d y (pc + 3) L (.int v :: S) (hh X g I) (f v) T) : Go d y pc L (.int j :: .ref a :: S) (hh X g I) ((sat a j).bind f) T := Go_opt fun v hv => by
  unfold sat at hv
  obtain ⟨hc2, h2⟩ := Option.ite_none_right_eq_some.mp hv
  have h2 := Option.some.inj h2
  subst h2
  obtain ⟨⟨q1, q2⟩, h3, h4⟩ := Option.map_eq_some_iff.mp hi
  dsimp only at h4
  subst h4
  refine Go_st hd rfl rfl hc ?_ (k _)
  unfold ab_step
  try dsimp only
  rw [h3]
  try dsimp only
  rw [if_pos (by decide)]
  unfold ab_lib
  dsimp only
  exact if_pos ⟨hc2.1, hc2.2.1, of_decide_eq_true hS, hc2.2.2⟩
theorem Go_cmp {c : Prop} [Decidable c] {k : ClassFile.Cond} {off : Int} {t : Nat} {x z : Int32} {e1 e2 : Option β} (hd : decode (ab_b y) pc = .ok (.if_icmp k off, 3)) (ht : ab_to pc off = some t) (hc : ab_cmp k x z = decide c) (k1 : Go d y t L S h e1 T) (k2 : Go d y (pc + 3) L S h e2 T) : Go d y pc L (.int z :: .int x :: S) h (if c then e1 else e2) T := by
  have hs : ab_step (decide ((ab_y y).name = "<init>")) (ab_nL y) (ab_c y) (.if_icmp k off) 3 pc L (.int z :: .int x :: S) h = (if ab_cmp k x z then some (t, L, S, h) else some (pc + 3, L, S, h)) := by
    unfold ab_step
    try dsimp only
    rw [ht]
  split
  · rename_i h1
    refine Go_st hd rfl rfl rfl (hs.trans (if_pos ?_)) k1
    rw [hc]; exact decide_eq_true h1
  · rename_i h1
    refine Go_st hd rfl rfl rfl (hs.trans (if_neg ?_)) k2
    rw [hc, decide_eq_false h1]; exact Bool.false_ne_true
theorem Go_cmpn {c : Prop} [Decidable c] {k : ClassFile.Cond} {off : Int} {t : Nat} {x z : Int32} {e1 e2 : Option β} (hd : decode (ab_b y) pc = .ok (.if_icmp k off, 3)) (ht : ab_to pc off = some t) (hc : ab_cmp k x z = !decide c) (k1 : Go d y (pc + 3) L S h e1 T) (k2 : Go d y t L S h e2 T) : Go d y pc L (.int z :: .int x :: S) h (if c then e1 else e2) T := by
  have hs : ab_step (decide ((ab_y y).name = "<init>")) (ab_nL y) (ab_c y) (.if_icmp k off) 3 pc L (.int z :: .int x :: S) h = (if ab_cmp k x z then some (t, L, S, h) else some (pc + 3, L, S, h)) := by
    unfold ab_step
    try dsimp only
    rw [ht]
  split
  · rename_i h1
    refine Go_st hd rfl rfl rfl (hs.trans (if_neg ?_)) k1
    rw [hc, decide_eq_true h1]; exact Bool.false_ne_true
  · rename_i h1
    refine Go_st hd rfl rfl rfl (hs.trans (if_pos ?_)) k2
    rw [hc, decide_eq_false h1]; rfl
theorem Go_cmz {c : Prop} [Decidable c] {k : ClassFile.Cond} {off : Int} {t : Nat} {x : Int32} {e1 e2 : Option β} (hd : decode (ab_b y) pc = .ok (.ifCond k off, 3)) (ht : ab_to pc off = some t) (hc : ab_cmp0 k x = decide c) (k1 : Go d y t L S h e1 T) (k2 : Go d y (pc + 3) L S h e2 T) : Go d y pc L (.int x :: S) h (if c then e1 else e2) T := by
  have hs : ab_step (decide ((ab_y y).name = "<init>")) (ab_nL y) (ab_c y) (.ifCond k off) 3 pc L (.int x :: S) h = (if ab_cmp0 k x then some (t, L, S, h) else some (pc + 3, L, S, h)) := by
    unfold ab_step
    try dsimp only
    rw [ht]
  split
  · rename_i h1
    refine Go_st hd rfl rfl rfl (hs.trans (if_pos ?_)) k1
    rw [hc]; exact decide_eq_true h1
  · rename_i h1
    refine Go_st hd rfl rfl rfl (hs.trans (if_neg ?_)) k2
    rw [hc, decide_eq_false h1]; exact Bool.false_ne_true
theorem Go_cmzn {c : Prop} [Decidable c] {k : ClassFile.Cond} {off : Int} {t : Nat} {x : Int32} {e1 e2 : Option β} (hd : decode (ab_b y) pc = .ok (.ifCond k off, 3)) (ht : ab_to pc off = some t) (hc : ab_cmp0 k x = !decide c) (k1 : Go d y (pc + 3) L S h e1 T) (k2 : Go d y t L S h e2 T) : Go d y pc L (.int x :: S) h (if c then e1 else e2) T := by
  have hs : ab_step (decide ((ab_y y).name = "<init>")) (ab_nL y) (ab_c y) (.ifCond k off) 3 pc L (.int x :: S) h = (if ab_cmp0 k x then some (t, L, S, h) else some (pc + 3, L, S, h)) := by
    unfold ab_step
    try dsimp only
    rw [ht]
  split
  · rename_i h1
    refine Go_st hd rfl rfl rfl (hs.trans (if_neg ?_)) k1
    rw [hc, decide_eq_true h1]; exact Bool.false_ne_true
  · rename_i h1
    refine Go_st hd rfl rfl rfl (hs.trans (if_pos ?_)) k2
    rw [hc, decide_eq_false h1]; rfl
theorem ab_cge (x z : Int32) : ab_cmp .ge x z = !decide (x < z) := by
  show decide (z ≤ x) = _
  by_cases h1 : x < z
  · rw [decide_eq_true h1, decide_eq_false (Int32.not_le.mpr h1)]; rfl
  · rw [decide_eq_false h1, decide_eq_true (Int32.not_lt.mp h1)]; rfl
theorem ab_cle (x z : Int32) : ab_cmp .le x z = !decide (z < x) := ab_cge z x
theorem ab_cge0 (x : Int32) : ab_cmp0 .ge x = !decide (x < 0) := ab_cge x 0
theorem ab_cle0 (x : Int32) : ab_cmp0 .le x = !decide (0 < x) := ab_cge 0 x
theorem Go_inrS {b : β} {T' : σ ⊕ β → ab_O × ab_H → Prop} (k : Go d y pc L S h (some b) (fun b x => T' (.inr b) x)) : Go d y pc L S h (some (.inr b)) T' := Go_inr (e := some b) k
/-- calls -/
theorem Go_cR {y' : Nat} {As : List Value} {r : ab_S} {pl : Bool} {e1 : Option Int32} {f : Int32 → Option β} (hc : ab_cl y pc S (hh X g I) = some (y', As, r, pl)) (hr : Go d y' 0 (lv_args 0 As) [] (hh X g I) e1 (pR X g I)) (k : ∀ v, Go (d + 1) y (pc + 3) L (.int v :: r) (hh X g I) (f v) T) : Go (d + 1) y pc L S (hh X g I) (e1.bind f) T := Go_opt fun v hv z hz x hx => ev_cl hc (hr v hv _ rfl) (k v z hz x hx)
theorem Go_cJ {y' : Nat} {As : List Value} {r : ab_S} {pl : Bool} {e1 : Option Int64} {f : Int64 → Option β} (hc : ab_cl y pc S (hh X g I) = some (y', As, r, pl)) (hr : Go d y' 0 (lv_args 0 As) [] (hh X g I) e1 (pL X g I)) (k : ∀ v, Go (d + 1) y (pc + 3) L (.long v :: r) (hh X g I) (f v) T) : Go (d + 1) y pc L S (hh X g I) (e1.bind f) T := Go_opt fun v hv z hz x hx => ev_cl hc (hr v hv _ rfl) (k v z hz x hx)
theorem Go_cW {y' : Nat} {As : List Value} {r : ab_S} {pl : Bool} {e1 : Option (Int32 × MJ)} {f : Int32 × MJ → Option β} (hc : ab_cl y pc S (hh X g I) = some (y', As, r, pl)) (hr : Go d y' 0 (lv_args 0 As) [] (hh X g I) e1 (pW X g)) (k : ∀ b, Go (d + 1) y (pc + 3) L (.int b.1 :: r) (hh X g b.2) (f b) T) : Go (d + 1) y pc L S (hh X g I) (e1.bind f) T := Go_opt fun v hv z hz x hx => ev_cl hc (hr v hv _ rfl) (k v z hz x hx)
theorem Go_cWJ {y' : Nat} {As : List Value} {r : ab_S} {pl : Bool} {e1 : Option (Int64 × MJ)} {f : Int64 × MJ → Option β} (hc : ab_cl y pc S (hh X g I) = some (y', As, r, pl)) (hr : Go d y' 0 (lv_args 0 As) [] (hh X g I) e1 (pWJ X g)) (k : ∀ b, Go (d + 1) y (pc + 3) L (.long b.1 :: r) (hh X g b.2) (f b) T) : Go (d + 1) y pc L S (hh X g I) (e1.bind f) T := Go_opt fun v hv z hz x hx => ev_cl hc (hr v hv _ rfl) (k v z hz x hx)
theorem Go_cV {y' : Nat} {As : List Value} {r : ab_S} {pl : Bool} {e1 : Option MJ} {f : MJ → Option β} (hc : ab_cl y pc S (hh X g I) = some (y', As, r, pl)) (hr : Go d y' 0 (lv_args 0 As) [] (hh X g I) e1 (pV X g)) (k : ∀ b, Go (d + 1) y (pc + 3) L r (hh X g b) (f b) T) : Go (d + 1) y pc L S (hh X g I) (e1.bind f) T := Go_opt fun v hv z hz x hx => ev_cl hc (hr v hv _ rfl) (k v z hz x hx)
theorem Go_cG {y' : Nat} {As : List Value} {r : ab_S} {pl : Bool} {e1 : Option (Int32 × MJ × GG)} {f : Int32 × MJ × GG → Option β} (hc : ab_cl y pc S (hh X g I) = some (y', As, r, pl)) (hr : Go d y' 0 (lv_args 0 As) [] (hh X g I) e1 (pG X)) (k : ∀ b, Go (d + 1) y (pc + 3) L (.int b.1 :: r) (hh X b.2.2 b.2.1) (f b) T) : Go (d + 1) y pc L S (hh X g I) (e1.bind f) T := Go_opt fun v hv z hz x hx => ev_cl hc (hr v hv _ rfl) (k v z hz x hx)
/-- a call that may throw; this method doesn't catch -/
theorem Go_cT {α δ : Type} {vf : α → Option Value} {wf : δ → Option Value} {y' : Nat} {As : List Value} {r : ab_S} {e1 : Option ((Nat ⊕ α) × MJ)} {f : α → MJ → Option ((Nat ⊕ δ) × MJ)} (hc : ab_cl y pc S (hh X g I) = some (y', As, r, true)) (hy : ab_hh y = []) (hr : Go d y' 0 (lv_args 0 As) [] (hh X g I) e1 (pT vf X g)) (k : ∀ v I', Go (d + 1) y (pc + 3) L ((vf v).toList ++ r) (hh X g I') (f v I') (pT wf X g)) : Go (d + 1) y pc L S (hh X g I) (tb e1 f) (pT wf X g) := Go_opt fun v hv z hz x hx => by
  obtain ⟨b, I'⟩ := v
  cases b with
  | inl E =>
    simp only [Option.some.injEq] at hz
    subst hz
    have := hr _ hv _ rfl
    rw [show x = (.inr E, hh X (thr g) I') from hx]
    exact ev_clT hc this hy
  | inr w => exact ev_cl hc (hr _ hv _ rfl) (k w I' z hz x hx)
/-- the call has thrown E: it is caught -/
def GX (d y pc : Nat) (L : ab_L) (S : ab_S) (h : ab_H) (y' : Nat) (As : List Value) (E : Nat) (h1 : ab_H) (e : Option β) (T : β → ab_O × ab_H → Prop) : Prop := ∀ b, e = some b → ∀ x, T b x → ev d y' 0 (lv_args 0 As) [] h (.inr E, h1) → ev (d + 1) y pc L S h x
theorem GX_ite {y' : Nat} {As : List Value} {E E0 : Nat} {h1 : ab_H} {e1 e2 : Option β} (k1 : GX d y pc L S h y' As E0 h1 e1 T) (k2 : GX d y pc L S h y' As E h1 e2 T) : GX d y pc L S h y' As E h1 (if E = E0 then e1 else e2) T := by
  split
  · rename_i h2
    subst h2
    exact k1
  · exact k2
theorem GX_none {y' : Nat} {As : List Value} {E : Nat} {h1 : ab_H} : GX d y pc L S h y' As E h1 (none : Option β) T := fun b hb => by cases hb
theorem GX_go {y' : Nat} {As : List Value} {r : ab_S} {E t k : Nat} {h1 : ab_H} {e : Option β} (hc : ab_cl y pc S h = some (y', As, r, true)) (ht : ab_ct y pc E = some (t, k)) (kk : Go (d + 1) y t (ab_dl L k) [] h1 e T) : GX d y pc L S h y' As E h1 e T := fun b hb x hx hr => ev_ct hc hr ht (kk b hb x hx)
theorem Go_try {α : Type} {vf : α → Option Value} {y' : Nat} {As : List Value} {r : ab_S} {e1 : Option ((Nat ⊕ α) × MJ)} {f1 : α → MJ → Option β} {f2 : Nat → MJ → Option β} (hc : ab_cl y pc S (hh X g I) = some (y', As, r, true)) (hr : Go d y' 0 (lv_args 0 As) [] (hh X g I) e1 (pT vf X g)) (k : ∀ v I', Go (d + 1) y (pc + 3) L ((vf v).toList ++ r) (hh X g I') (f1 v I') T) (kx : ∀ E I', GX d y pc L S (hh X g I) y' As E (hh X (thr g) I') (f2 E I') T) : Go (d + 1) y pc L S (hh X g I) (tryb e1 f1 f2) T := Go_opt fun v hv z hz x hx => by
  obtain ⟨b, I'⟩ := v
  cases b with
  | inl E => exact kx E I' z hz x hx (hr _ hv _ rfl)
  | inr w => exact ev_cl hc (hr _ hv _ rfl) (k w I' z hz x hx)
/-- a switch -/
def sw_ne (x : Int32) (lo : Int) : Nat → Prop
  | 0 => True
  | n + 1 => sw_ne x lo n ∧ x ≠ Int32.ofInt (lo + n)
theorem sw_ne_out {x : Int32} {lo : Int} (h1 : -2147483648 ≤ lo) : ∀ {n : Nat}, lo + n ≤ 2147483647 → sw_ne x lo n → x.toInt < lo ∨ lo + n ≤ x.toInt
  | 0, _, _ => by omega
  | n + 1, h2, h3 => by
    have ih := sw_ne_out (x := x) h1 (n := n) (by omega) h3.1
    have h4 : x.toInt ≠ lo + n := by
      intro e
      apply h3.2
      rw [← e, Int32.ofInt_toInt]
    omega
theorem Go_swd {dd lo hi : Int} {offs : Array Int} {len t : Nat} {x : Int32} {e : Option β} (n : Nat) (hd : decode (ab_b y) pc = .ok (.tableswitch dd lo hi offs, len)) (h1 : -2147483648 ≤ lo) (h2 : lo + n ≤ 2147483647) (hn : hi = lo + n - 1) (hs : sw_ne x lo n) (ht : ab_to pc dd = some t) (k : Go d y t L S h e T) : Go d y pc L (.int x :: S) h e T := by
  refine Go_st hd rfl rfl rfl ?_ k
  have h3 := sw_ne_out h1 h2 hs
  unfold ab_step
  try dsimp only
  rw [if_pos (by omega), ht]
  rfl
theorem Go_sw {x v : Int32} {e1 e2 : Option β} (k1 : Go d y pc L (.int v :: S) h e1 T) (k2 : x ≠ v → Go d y pc L (.int x :: S) h e2 T) : Go d y pc L (.int x :: S) h (if x = v then e1 else e2) T := by
  split
  · rename_i h1
    subst h1
    exact k1
  · rename_i h1
    exact k2 h1
end RULES
