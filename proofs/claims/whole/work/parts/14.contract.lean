def so_rm (d cc zz : Nat) : Room := { frames := d + 6, cells := cc, slots := zz, locals := 100 * (d + 1) }
def so_Pc (D : va_G) (tA : Nat → ClassId) (fa : Nat → Nat) (HL : Heap) (XL : Nat) (xs : Nat → Int32) (St : State → Prop) (As : List Value) (h : ab_H) : Array Value → State → Prop :=
  va_Pc (As.map (so_v fa)) (fun U => so_Am D tA fa HL XL xs St U ∧ so_R D tA fa HL h U.heap [] ∧ U.heap.size ≤ HL.size + ab_C h)
def so_Qr (D : va_G) (tA : Nat → ClassId) (fa : Nat → Nat) (HL : Heap) (out : ab_O) (h' : ab_H) : Array Value → State → Outcome → State → Prop :=
  fun _ _ oc t => ∃ v, out = .inl v ∧ oc = .returned (v.map (so_v fa)) ∧ so_R D tA fa HL h' t.heap []
def so_Xc (D : va_G) (tA : Nat → ClassId) (fa : Nat → Nat) (HL : Heap) (out : ab_O) (h' : ab_H) : String → State → State → Prop :=
  fun nm _ t => ∃ E, out = .inr E ∧ nm = ta_ex E ∧ so_R D tA fa HL h' t.heap []
section SOUND
variable {p : Program} {l : Launch} {e : Env} {R : Room} {s : State} {m : MethodId} {args : Array Value} {below : List Frame} {meth : Method} {c : Code} {Q : State → Prop}
variable {D : va_G} {tA : Nat → ClassId} {n0 b0 : Nat} {sa : Nat → Nat} {HL : Heap} {XL : Nat} {xs : Nat → Int32} {St : State → Prop} {y : Nat} {c0 z0 : Nat}
variable {pc len : Nat} {L : ab_L} {S r : ab_S} {h : ab_H}

theorem so_nests {w : Cond} {U : State} (hw : so_nest w = true) (hW : s.WarmedH U.vm) (hz : va_Nw w s) : va_Nw w U := by
  cases w
  case arrayOver t => cases t <;> first | (cases hw; done) | exact Jvm.Stand.arrayOver_alikeB hW.alike hz
  all_goals first | (cases hw; done) | exact va_Nw.warmF hW hz | exact va_Nw.warmM hW hz | exact va_Nw.warmC hW hz | exact va_Nw.warmD hW hz
theorem so_Am_moved {fa : Nat → Nat} (hSt : ∀ s U : State, St s → s.WarmedH U.vm → St U) {U : State} (hW : s.WarmedH U.vm) (hA : so_Am D tA fa HL XL xs St s) : so_Am D tA fa HL XL xs St U := by
  obtain ⟨A1, A2, A3, A4, A5, A6, A7, A8⟩ := hA
  exact ⟨va_K.moved hW.alike A1, fun w h1 h2 => so_nests h2 hW (A2 w h1 h2), va_X.moved hW.alike A3, A4, vx_Zq.moved hW.alike A5, vx_Zq.moved hW.alike A6, fun i j h1 h2 h3 => va_Nc.moved hW.alike (A7 i j h1 h2 h3), hSt _ _ A8 hW⟩
theorem so_blind {fa : Nat → Nat} (hSt : ∀ s U : State, St s → s.WarmedH U.vm → St U) {As : List Value} : FrameBlind (so_Pc D tA fa HL XL xs St As h) := by
  intro a U g mk hp
  obtain ⟨h1, h2, h3, h4⟩ := hp
  exact ⟨h1, so_Am_moved hSt (U := U.calling g mk a) (State.WarmedH.refl U) h2, h3, h4⟩
theorem so_R0 {fa : Nat → Nat} {H : Heap} {locs : List Loc} (hR : so_R D tA fa HL h H locs) : so_R D tA fa HL h H [] := ⟨hR.1, ⟨hR.2.1.1, hR.2.1.2.1, fun _ h => by cases h⟩, hR.2.2⟩
theorem so_Rl {fa : Nat → Nat} {H : Heap} {locs : List Loc} (hR : so_R D tA fa HL h H []) (hl : ∀ q ∈ locs, so_A HL q.base) : so_R D tA fa HL h H locs := ⟨hR.1, ⟨hR.2.1.1, hR.2.1.2.1, hl⟩, hR.2.2⟩
theorem so_size {T : State} {locs : List Loc} {cells slots : Nat} {H : Heap} (hT : T.heap = H) (X : Stand p l e R s m args below meth c T locs cells slots) (h0 : s.heap.size ≤ HL.size + c0) (hc : cells + c0 = ab_C h) : H.size ≤ HL.size + ab_C h := by
  have h1 := X.heapSize
  rw [hT] at h1
  omega
/-- from a call's run to what stands behind it -/
theorem so_cont {fa : Nat → Nat} {H : Heap} {locs : List Loc} {cells slots mc ms : Nat} {ls : Array Slot} {st0 rest : List Value} {a : Array Value} {out1 : ab_O} {h1 : ab_H}
    (hr : vx_Run p l e R s m args below meth c H locs cells slots mc ms (F0 m pc ls st0) rest (so_Qr D tA fa HL out1 h1 a) (so_Xc D tA fa HL out1 h1) (so_A HL)) (hl : ∀ q ∈ locs, so_A HL q.base)
    (kv : ∀ (v : Option Value) (H1 : Heap) (locs1 : List Loc), out1 = .inl v → so_R D tA fa HL h1 H1 locs1 → W p l e R s m args below meth c H1 locs1 (cells + mc) (slots + ms) Q (F0 m (pc + 3) ls ((v.map (so_v fa)).toList ++ rest)))
    (kx : ∀ (E : Nat) (q : Addr) (ce : Cell) (H1 : Heap) (locs1 : List Loc), out1 = .inr E → so_R D tA fa HL h1 H1 locs1 → H1[q]? = some ce → ce.vm = .none → s.vm.findClass (ta_ex E) = some ce.cls → vx_W p l e R s m args below meth c H1 locs1 (cells + mc) (slots + ms) Q (F0 m pc ls rest) q) :
    W p l e R s m args below meth c H locs cells slots Q (F0 m pc ls st0) := by
  intro T hT X
  have hloc : ∀ (L : List Loc), (∀ q ∈ L, so_A HL q.base) → ∀ q ∈ locs ++ L, so_A HL q.base := fun L hL q hq => (List.mem_append.mp hq).elim (hl q) (hL q)
  rcases hr T hT X with ⟨v, st₀, t, T', L, h0, X', hL, e1, e2, ⟨w, ho, hv, hR⟩, st⟩ | ⟨q, st₀, t, T', L, E, ce, h0, X', hL, e1, e2, ⟨E', ho, hE, hR⟩, hce, hcv, hcl, st⟩
  · cases hv
    obtain ⟨t2, a1, b1⟩ := kv w T'.heap (locs ++ L) ho (by rw [e1]; exact so_Rl hR (hloc L hL)) T' rfl X'
    exact ⟨t2, st t2 a1, b1⟩
  · subst hE
    obtain ⟨t2, a1, b1⟩ := kx E' q ce T'.heap (locs ++ L) ho (by rw [e1]; exact so_Rl hR (hloc L hL)) (by rw [e1]; exact hce) hcv hcl T' rfl X'
    exact ⟨t2, st.trans a1, b1⟩
theorem so_toX {H : Heap} {locs : List Loc} {cells slots mc ms : Nat} {g : JFrame} {rest : List Value} {Qa : State → Outcome → State → Prop} {XC : String → State → State → Prop} {free : Addr → Prop} (hr : va_Run p l e R s m args below meth c H locs cells slots mc ms g rest Qa free) : vx_Run p l e R s m args below meth c H locs cells slots mc ms g rest Qa XC free :=
  fun T hT X => Or.inl (hr T hT X)
/-- a contract that never throws -/
theorem so_noX {yn : MethodName} {ws : List Cond} {rm : Room} {Pc : Array Value → State → Prop} {Qc : Array Value → State → Outcome → State → Prop} {XC : String → State → State → Prop} {mc ms : Nat} {free : Addr → Prop} (hM : vx_Met l yn ws rm Pc Qc XC mc ms free) (hno : ∀ E st t, ¬ XC E st t) : Met l yn ws rm Pc Qc mc ms free := by
  intro p e ha hc hk s m args below hf hap hP hK
  obtain ⟨k, o, h1, h2, h3, hQ⟩ := hM p e ha hc hk s m args below hf hap hP hK
  refine ⟨k, o, h1, h2, h3, ?_⟩
  rcases hQ with hQ | ⟨q, -, E, ce, L, hx, -⟩
  · exact hQ
  · exact absurd hx (hno _ _ _)
end SOUND

