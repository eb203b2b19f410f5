/-! the abstract machine: small cells by number, values with abstract addresses; a function that runs the bytecode -/
abbrev ab_L : Type := List (Nat × Value)
abbrev ab_S : Type := List Value
/-- shape: how many cells; each cell's kind and length; references held; the script -/
abbrev ab_Sh : Type := Nat × (Nat → Nat × Nat) × (Nat → Nat → Option Nat) × Nat × (Nat → Int32)
/-- memory: ints, longs, cells and slots made so far -/
abbrev ab_Mem : Type := (Nat → Nat → Int32) × (Nat → Nat → Int64) × Nat × Nat
abbrev ab_H : Type := ab_Sh × ab_Mem
def ab_N (h : ab_H) : Nat := h.1.1
def ab_K (h : ab_H) : Nat → Nat × Nat := h.1.2.1
def ab_P (h : ab_H) : Nat → Nat → Option Nat := h.1.2.2.1
def ab_XL (h : ab_H) : Nat := h.1.2.2.2.1
def ab_X (h : ab_H) : Nat → Int32 := h.1.2.2.2.2
def ab_I (h : ab_H) : Nat → Nat → Int32 := h.2.1
def ab_G (h : ab_H) : Nat → Nat → Int64 := h.2.2.1
def ab_C (h : ab_H) : Nat := h.2.2.2.1
def ab_Z (h : ab_H) : Nat := h.2.2.2.2
def ab_scr : Nat := 1000000
def ab_str : Nat := 2000000
def ab_up1 (f : Nat → Nat → Int32) (a j : Nat) (x : Int32) : Nat → Nat → Int32 := fun b => if b = a then upd (f a) j x else f b
def ab_upL (f : Nat → Nat → Int64) (a j : Nat) (x : Int64) : Nat → Nat → Int64 := fun b => if b = a then vp_updL (f a) j x else f b
def ab_upP (f : Nat → Nat → Option Nat) (a j : Nat) (x : Option Nat) : Nat → Nat → Option Nat := fun b => if b = a then (fun k => if k = j then x else f a k) else f b
def ab_cpy (f : Nat → Nat → Int32) (a b sp dp n : Nat) : Nat → Nat → Int32 := fun c => if c = b then va_cpy (f a) (f b) sp dp n else f c
def ab_wI (h : ab_H) (a j : Nat) (x : Int32) : ab_H := (h.1, (ab_up1 h.2.1 a j x, h.2.2))
def ab_wG (h : ab_H) (a j : Nat) (x : Int64) : ab_H := (h.1, (h.2.1, ab_upL h.2.2.1 a j x, h.2.2.2))
def ab_wP (h : ab_H) (a j : Nat) (x : Nat) : ab_H := ((h.1.1, h.1.2.1, ab_upP h.1.2.2.1 a j (some x), h.1.2.2.2), h.2)
def ab_wC (h : ab_H) (a b sp dp n : Nat) : ab_H := (h.1, (ab_cpy h.2.1 a b sp dp n, h.2.2))
/-- an exception was made: cells and slots are counted, no more -/
def ab_thr (h : ab_H) (n : Nat) : ab_H := (h.1, (h.2.1, h.2.2.1, ab_C h + 1, ab_Z h + n))
/-- a new cell of a kind, of a length, of so many slots -/
def ab_new (h : ab_H) (t n z : Nat) (p : Nat → Option Nat) : ab_H :=
  ((ab_N h + 1, (fun b => if b = ab_N h then (t, n) else ab_K h b), (fun b => if b = ab_N h then p else ab_P h b), h.1.2.2.2),
   (h.2.1, h.2.2.1, ab_C h + 1, ab_Z h + z))
def ab_in (i : Int32) (n : Nat) : Bool := decide (0 ≤ i) && decide (i.toNatClampNeg < n)
def ab_get (L : ab_L) (i : Nat) : Option Value := match L with
  | [] => none
  | (k, v) :: r => if k == i then some v else ab_get r i
def ab_put (L : ab_L) (i : Nat) (v : Value) : ab_L := (i, v) :: L.filter (fun q => !(q.1 == i) && !(q.1 + 1 == i && q.2.category == 2))
def ab_put2 (L : ab_L) (i : Nat) (v : Value) : ab_L := (i, v) :: L.filter (fun q => !(q.1 == i) && (!(q.1 == i + 1) && !(q.1 + 1 == i && q.2.category == 2)))
def ab_cat (S : ab_S) : Nat := (S.map fun v => v.category).sum
def ab_op (i : Instr) : Option (Int32 → Int32 → Int32) := match i with
  | .iadd => some (fun x y => x + y)
  | .isub => some (fun x y => x - y)
  | .imul => some (fun x y => x * y)
  | .iand => some (fun x y => x &&& y)
  | .ior => some (fun x y => x ||| y)
  | .ixor => some (fun x y => x ^^^ y)
  | .ishl => some (fun x y => x <<< (y &&& 31))
  | .ishr => some (fun x y => x >>> (y &&& 31))
  | .iushr => some (fun x y => (x.toUInt32 >>> (y.toUInt32 &&& Int32.toUInt32 31)).toInt32)
  | _ => none
def ab_lop (i : Instr) : Option (Int64 → Int64 → Int64) := match i with
  | .ladd => some (fun x y => x + y)
  | .lmul => some (fun x y => x * y)
  | _ => none
def ab_un (i : Instr) : Option (Int32 → Int32) := match i with
  | .ineg => some (fun x => -x)
  | .i2b => some (fun x => x.toInt8.toInt32)
  | _ => none
def ab_cmp (k : ClassFile.Cond) (x y : Int32) : Bool := match k with
  | .eq => decide (x = y)
  | .ne => !decide (x = y)
  | .lt => decide (x < y)
  | .ge => decide (y ≤ x)
  | .gt => decide (y < x)
  | .le => decide (x ≤ y)
def ab_cmp0 (k : ClassFile.Cond) (x : Int32) : Bool := match k with
  | .eq => decide (x = 0)
  | .ne => !decide (x = 0)
  | .lt => decide (x < 0)
  | .ge => decide (0 ≤ x)
  | .gt => decide (0 < x)
  | .le => decide (x ≤ 0)
/-- the place where a jump goes -/
def ab_to (pc : Nat) (off : Int) : Option Nat := if 0 ≤ (pc : Int) + off then some ((pc : Int) + off).toNat else none
/-- links: by the class that holds the constant pool, and the place in it -/
def ab_lkF (c i : Nat) : Option (Nat × Nat × Nat) := (ta_LF.find? (fun e => e.1 == c && e.2.1 == i)).map (fun e => (e.2.2.1, e.2.2.2.1, e.2.2.2.2.1))
def ab_lkM (c i : Nat) : Option (Nat × Nat) := (ta_LM.find? (fun e => e.1 == c && e.2.1 == i)).map (fun e => (e.2.2.1, e.2.2.2.1))
def ab_lkI (c i : Nat) : Option Int32 := (ta_LI.find? (fun e => e.1 == c && e.2.1 == i)).map (fun e => e.2.2.1)
def ab_lkJ (c i : Nat) : Option Int64 := (ta_LJ.find? (fun e => e.1 == c && e.2.1 == i)).map (fun e => e.2.2.1)
def ab_lkS (c i : Nat) : Option Nat := (ta_LS.find? (fun e => e.1 == c && e.2.1 == i)).map (fun e => e.2.2.1)
def ab_lkN (c i : Nat) : Option Nat := (ta_LN.find? (fun e => e.1 == c && e.2.1 == i)).map (fun e => e.2.2.1)
def ab_lkA (c i : Nat) : Option Nat := (ta_LA.find? (fun e => e.1 == c && e.2.1 == i)).map (fun e => e.2.2.1)
/-- is a field a reference? (its descriptor is longer than a letter) -/
def ab_ref (ci k : Nat) : Bool := match ta_cl[ci]? with
  | none => false
  | some q => decide ((q.2.1 k).2.2.1 ≠ "I")
def ab_fin (ci k : Nat) : Bool := match ta_cl[ci]? with
  | none => false
  | some q => (q.2.1 k).2.2.2
def ab_cnt (ci : Nat) : Nat := match ta_cl[ci]? with
  | none => 0
  | some q => q.2.2
def ab_load (L : ab_L) (k : Nat) (t : Nat) : Option Value := match ab_get L k with
  | some (.int x) => if t = 0 then some (.int x) else none
  | some (.long x) => if t = 1 then some (.long x) else none
  | some (.ref a) => if t = 2 then some (.ref a) else none
  | _ => none
abbrev ab_R : Type := Option (Nat × ab_L × ab_S × ab_H)
def ab_ld (L : ab_L) (S : ab_S) (h : ab_H) (k t pc : Nat) : ab_R := (ab_load L k t).map (fun v => (pc, L, v :: S, h))
def ab_stI (nL : Nat) (L : ab_L) (S : ab_S) (h : ab_H) (k pc : Nat) : ab_R := match S with
  | .int x :: r => if k < nL then some (pc, ab_put L k (.int x), r, h) else none
  | _ => none
def ab_stA (nL : Nat) (L : ab_L) (S : ab_S) (h : ab_H) (k pc : Nat) : ab_R := match S with
  | .ref x :: r => if k < nL then some (pc, ab_put L k (.ref x), r, h) else none
  | _ => none
def ab_stL (nL : Nat) (L : ab_L) (S : ab_S) (h : ab_H) (k pc : Nat) : ab_R := match S with
  | .long x :: r => if k + 1 < nL then some (pc, ab_put2 L k (.long x), r, h) else none
  | _ => none
def ab_getf (c i pc : Nat) (L : ab_L) (S : ab_S) (h : ab_H) : ab_R := match ab_lkF c i with
  | none => none
  | some (ci, k, _) => match S with
    | .ref a :: r => if a < ab_N h && ((ab_K h a).1 == ci) then
        (if ab_ref ci k then (ab_P h a k).map (fun b => (pc, L, .ref b :: r, h)) else some (pc, L, .int (ab_I h a k) :: r, h)) else none
    | _ => none
/-- y is the method: only a constructor writes a final field -/
def ab_putf (ini : Bool) (c i pc : Nat) (L : ab_L) (S : ab_S) (h : ab_H) : ab_R := match ab_lkF c i with
  | none => none
  | some (ci, k, ne) => match S with
    | .int x :: .ref a :: r => if a < ab_N h && ((ab_K h a).1 == ci) && !(ab_ref ci k) && !(ab_fin ci k) then some (pc, L, r, ab_wI h a k x) else none
    | .ref b :: .ref a :: r => if ini && ne == 0 && c == ci && a < ab_N h && b < ab_N h && ((ab_K h a).1 == ci) && ab_ref ci k && ab_fin ci k then some (pc, L, r, ab_wP h a k b) else none
    | _ => none
def ab_aload (h : ab_H) (t : Nat) (L : ab_L) (S : ab_S) (pc : Nat) : ab_R := match S with
  | .int i :: .ref a :: r =>
    if t = 0 then
      (if a = ab_scr then (if ab_in i (ab_XL h) then some (pc, L, .int (ab_X h i.toNatClampNeg) :: r, h) else none)
       else if a < ab_N h && (ab_K h a).1 == 100 && ab_in i (ab_K h a).2 then some (pc, L, .int (ab_I h a i.toNatClampNeg) :: r, h) else none)
    else if t = 1 then
      (if a < ab_N h && ((ab_K h a).1 == 101 || (ab_K h a).1 == 102) && ab_in i (ab_K h a).2 then some (pc, L, .int (ab_I h a i.toNatClampNeg) :: r, h) else none)
    else if t = 3 then
      (if a < ab_N h && (ab_K h a).1 == 103 && ab_in i (ab_K h a).2 then some (pc, L, .long (ab_G h a i.toNatClampNeg) :: r, h) else none)
    else
      (if a < ab_N h && ((ab_K h a).1 == 104 || (ab_K h a).1 == 105) && ab_in i (ab_K h a).2 then (ab_P h a i.toNatClampNeg).map (fun b => (pc, L, .ref b :: r, h)) else none)
  | _ => none
def ab_astore (h : ab_H) (t : Nat) (L : ab_L) (S : ab_S) (pc : Nat) : ab_R := match S with
  | .int x :: .int i :: .ref a :: r =>
    if t = 0 then (if a < ab_N h && (ab_K h a).1 == 100 && ab_in i (ab_K h a).2 then some (pc, L, r, ab_wI h a i.toNatClampNeg x) else none)
    else if t = 1 then
      (if a < ab_N h && ab_in i (ab_K h a).2 then
        (if (ab_K h a).1 == 101 then some (pc, L, r, ab_wI h a i.toNatClampNeg (vp_nar .byte x))
         else if (ab_K h a).1 == 102 then some (pc, L, r, ab_wI h a i.toNatClampNeg (vp_nar .boolean x)) else none) else none)
    else none
  | .long x :: .int i :: .ref a :: r => if t = 3 then (if a < ab_N h && (ab_K h a).1 == 103 && ab_in i (ab_K h a).2 then some (pc, L, r, ab_wG h a i.toNatClampNeg x) else none) else none
  | _ => none
def ab_alen (h : ab_H) (L : ab_L) (S : ab_S) (pc : Nat) : ab_R := match S with
  | .ref a :: r => if a = ab_scr then some (pc, L, .int (Int32.ofNat (ab_XL h)) :: r, h)
      else if a < ab_N h && (ab_K h a).1 ≥ 100 && (ab_K h a).1 < 106 then some (pc, L, .int (Int32.ofNat (ab_K h a).2) :: r, h) else none
  | _ => none
/-- the library's functions that are known by what they answer -/
def ab_lib (kd : Nat) (L : ab_L) (S : ab_S) (h : ab_H) (pc : Nat) : ab_R := match kd with
  | 7 => (match S with
    | .int y :: .int x :: r => if ab_cat r ≤ 8 then some (pc, L, .int (if x < y then y else x) :: r, h) else none
    | _ => none)
  | 8 => (match S with
    | .int y :: .int x :: r => if ab_cat r ≤ 8 then some (pc, L, .int (if y < x then y else x) :: r, h) else none
    | _ => none)
  | 9 => (match S with
    | .int n :: .int dp :: .ref b :: .int sp :: .ref a :: r =>
      if a < ab_N h && b < ab_N h && (ab_K h a).1 == 100 && (ab_K h b).1 == 100 && decide (0 ≤ n) && decide (0 ≤ dp) && decide (0 ≤ sp) && decide (sp.toNatClampNeg + n.toNatClampNeg ≤ (ab_K h a).2) && decide (dp.toNatClampNeg + n.toNatClampNeg ≤ (ab_K h b).2) && decide (ab_cat r ≤ 8) then
        some (pc, L, r, ab_wC h a b sp.toNatClampNeg dp.toNatClampNeg n.toNatClampNeg) else none
    | _ => none)
  | 10 => (match S with
    | .ref a :: r => if ab_str ≤ a ∧ a < ab_str + 8 ∧ ab_cat r ≤ 8 then some (pc, L, .int (Int32.ofNat (ta_tx (a - ab_str)).length) :: r, h) else none
    | _ => none)
  | 11 => (match S with
    | .int i :: .ref a :: r => if ab_str ≤ a ∧ a < ab_str + 8 ∧ ab_cat r ≤ 8 ∧ ab_in i (ta_tx (a - ab_str)).length = true then some (pc, L, .int (Int32.ofNat ((ta_tx (a - ab_str)).toList.getD i.toNatClampNeg ' ').toNat) :: r, h) else none
    | _ => none)
  | _ => none
def ab_fits (n z : Nat) : Bool := decide (n * 8 ≤ 4000000) && decide (z ≤ 4000000)
/-- new int[n], byte[n], boolean[n], long[n] -/
def ab_newa (t : Nat) (L : ab_L) (S : ab_S) (h : ab_H) (pc : Nat) : ab_R := match S with
  | .int n :: r => if decide (0 ≤ n) && decide (n.toNatClampNeg ≤ 100000) && decide (ab_C h = ab_N h) && decide (ab_N h < 900000) then
      some (pc, L, .ref (ab_N h) :: r, ab_new h t n.toNatClampNeg n.toNatClampNeg (fun _ => none)) else none
  | _ => none
/-- rows of an array of arrays, behind it -/
def ab_rows (h : ab_H) (t n : Nat) : Nat → ab_H
  | 0 => h
  | k + 1 => ab_new (ab_rows h t n k) t n n (fun _ => none)
/-- new int[n][m] -/
def ab_newb (h : ab_H) (n m : Nat) : ab_H := ab_rows (ab_new h 104 n n (fun i => if i < n then some (ab_N h + 1 + i) else none)) 100 m n
def ab_two (L : ab_L) (S : ab_S) (h : ab_H) (pc : Nat) : ab_R := match S with
  | .int m :: .int n :: r => if decide (0 ≤ n) && decide (0 ≤ m) && decide (n.toNatClampNeg ≤ 1000) && decide (m.toNatClampNeg ≤ 100000) && decide (ab_C h = ab_N h) && decide (ab_N h + n.toNatClampNeg < 900000) then
      some (pc, L, .ref (ab_N h) :: r, ab_newb h n.toNatClampNeg m.toNatClampNeg) else none
  | _ => none
def ab_rows3 (h : ab_H) (m q : Nat) : Nat → ab_H
  | 0 => h
  | k + 1 => ab_newb (ab_rows3 h m q k) m q
/-- new int[n][m][q] -/
def ab_newc (h : ab_H) (n m q : Nat) : ab_H := ab_rows3 (ab_new h 105 n n (fun i => if i < n then some (ab_N h + 1 + i * (m + 1)) else none)) m q n
def ab_three (L : ab_L) (S : ab_S) (h : ab_H) (pc : Nat) : ab_R := match S with
  | .int q :: .int m :: .int n :: r => if decide (0 ≤ n) && decide (0 ≤ m) && decide (0 ≤ q) && decide (n.toNatClampNeg ≤ 100) && decide (m.toNatClampNeg ≤ 100) && decide (q.toNatClampNeg ≤ 100) && decide (ab_C h = ab_N h) && decide (ab_N h < 800000) then
      some (pc, L, .ref (ab_N h) :: r, ab_newc h n.toNatClampNeg m.toNatClampNeg q.toNatClampNeg) else none
  | _ => none
/-- one instruction of a method of class c with nL locals, but calls, answers and throws -/
def ab_step (ini : Bool) (nL c : Nat) (i : Instr) (len pc : Nat) (L : ab_L) (S : ab_S) (h : ab_H) : ab_R := match i with
  | .iconst v => some (pc + 1, L, .int (Int32.ofInt v) :: S, h)
  | .bipush v => some (pc + 2, L, .int (Int8.ofInt v).toInt32 :: S, h)
  | .sipush v => some (pc + 3, L, .int (Int16.ofInt v).toInt32 :: S, h)
  | .lconst v => some (pc + 1, L, .long (Int64.ofNat (v : Nat)) :: S, h)
  | .ldc k => (match ab_lkI c k with
    | some v => some (pc + 2, L, .int v :: S, h)
    | none => (ab_lkS c k).map (fun t => (pc + 2, L, .ref (ab_str + t) :: S, h)))
  | .ldc_w k => (ab_lkI c k).map (fun v => (pc + 3, L, .int v :: S, h))
  | .ldc2_w k => (ab_lkJ c k).map (fun v => (pc + 3, L, .long v :: S, h))
  | .iload k => ab_ld L S h k 0 (pc + 2)
  | .iload_n k => ab_ld L S h k 0 (pc + 1)
  | .lload k => ab_ld L S h k 1 (pc + 2)
  | .lload_n k => ab_ld L S h k 1 (pc + 1)
  | .aload k => ab_ld L S h k 2 (pc + 2)
  | .aload_n k => ab_ld L S h k 2 (pc + 1)
  | .istore k => ab_stI nL L S h k (pc + 2)
  | .istore_n k => ab_stI nL L S h k (pc + 1)
  | .lstore k => ab_stL nL L S h k (pc + 2)
  | .lstore_n k => ab_stL nL L S h k (pc + 1)
  | .astore k => ab_stA nL L S h k (pc + 2)
  | .astore_n k => ab_stA nL L S h k (pc + 1)
  | .iinc k v => (match ab_get L k with
    | some (.int x) => if k < nL then some (pc + 3, ab_put L k (.int (x + Int32.ofInt v)), S, h) else none
    | _ => none)
  | .pop => (match S with
    | .int _ :: r => some (pc + 1, L, r, h)
    | .ref _ :: r => some (pc + 1, L, r, h)
    | _ => none)
  | .dup => (match S with
    | .int x :: r => some (pc + 1, L, .int x :: .int x :: r, h)
    | .ref x :: r => some (pc + 1, L, .ref x :: .ref x :: r, h)
    | _ => none)
  | .dup2 => (match S with
    | .int x :: .ref y :: r => some (pc + 1, L, .int x :: .ref y :: .int x :: .ref y :: r, h)
    | _ => none)
  | .idiv => (match S with
    | .int y :: .int x :: r => if y = 0 then none else some (pc + 1, L, .int (x / y) :: r, h)
    | _ => none)
  | .irem => (match S with
    | .int y :: .int x :: r => if y = 0 then none else some (pc + 1, L, .int (x - x / y * y) :: r, h)
    | _ => none)
  | .ldiv => (match S with
    | .long y :: .long x :: r => if y = 0 then none else some (pc + 1, L, .long (x / y) :: r, h)
    | _ => none)
  | .lrem => (match S with
    | .long y :: .long x :: r => if y = 0 then none else some (pc + 1, L, .long (x - x / y * y) :: r, h)
    | _ => none)
  | .i2l => (match S with
    | .int x :: r => some (pc + 1, L, .long x.toInt64 :: r, h)
    | _ => none)
  | .l2i => (match S with
    | .long x :: r => some (pc + 1, L, .int x.toInt32 :: r, h)
    | _ => none)
  | .lcmp => (match S with
    | .long y :: .long x :: r => some (pc + 1, L, .int (lg_cmp x y) :: r, h)
    | _ => none)
  | .goto off => (ab_to pc off).map (fun t => (t, L, S, h))
  | .ifCond k off => (match ab_to pc off with
    | none => none
    | some t => match S with
      | .int x :: r => if ab_cmp0 k x then some (t, L, r, h) else some (pc + 3, L, r, h)
      | _ => none)
  | .if_icmp k off => (match ab_to pc off with
    | none => none
    | some t => match S with
      | .int y :: .int x :: r => if ab_cmp k x y then some (t, L, r, h) else some (pc + 3, L, r, h)
      | _ => none)
  | .ifnull _ => (match S with
    | .ref _ :: r => some (pc + 3, L, r, h)
    | _ => none)
  | .ifnonnull off => (match S with
    | .ref _ :: r => (ab_to pc off).map (fun t => (t, L, r, h))
    | _ => none)
  | .tableswitch d lo hi offs => (match S with
    | .int x :: r => if x.toInt < lo ∨ hi < x.toInt then (ab_to pc d).map (fun t => (t, L, r, h)) else (match offs[(x.toInt - lo).toNat]? with
      | some o => (ab_to pc o).map (fun t => (t, L, r, h))
      | none => none)
    | _ => none)
  | .getfield k => ab_getf c k (pc + 3) L S h
  | .putfield k => ab_putf ini c k (pc + 3) L S h
  | .iaload => ab_aload h 0 L S (pc + 1)
  | .baload => ab_aload h 1 L S (pc + 1)
  | .laload => ab_aload h 3 L S (pc + 1)
  | .aaload => ab_aload h 4 L S (pc + 1)
  | .iastore => ab_astore h 0 L S (pc + 1)
  | .bastore => ab_astore h 1 L S (pc + 1)
  | .lastore => ab_astore h 3 L S (pc + 1)
  | .arraylength => ab_alen h L S (pc + 1)
  | .newarray .int => ab_newa 100 L S h (pc + 2)
  | .newarray .byte => ab_newa 101 L S h (pc + 2)
  | .newarray .boolean => ab_newa 102 L S h (pc + 2)
  | .newarray .long => ab_newa 103 L S h (pc + 2)
  | .multianewarray k 2 => (match ab_lkA c k with
    | some 2 => ab_two L S h (pc + 4)
    | _ => none)
  | .multianewarray k 3 => (match ab_lkA c k with
    | some 3 => ab_three L S h (pc + 4)
    | _ => none)
  | .new k => (match ab_lkN c k with
    | some ci => if decide (ab_C h = ab_N h) && decide (ab_N h < 900000) && decide (ci < 13) then some (pc + 3, L, .ref (ab_N h) :: S, ab_new h ci 0 (ab_cnt ci) (fun _ => none)) else none
    | none => none)
  | .invokevirtual k => (match ab_lkM c k with
    | some (kd, _) => if 10 ≤ kd then ab_lib kd L S h (pc + 3) else none
    | none => none)
  | .invokestatic k => (match ab_lkM c k with
    | some (kd, _) => if kd < 10 then ab_lib kd L S h (pc + 3) else none
    | none => none)
  | .invokespecial k => (match ab_lkM c k with
    | some (6, _) => (match S with
      | .ref _ :: r => if ab_cat r ≤ 8 then some (pc + 3, L, r, h) else none
      | _ => none)
    | _ => none)
  | i => (match ab_op i with
    | some f => (match S with
      | .int y :: .int x :: r => some (pc + 1, L, .int (f x y) :: r, h)
      | _ => none)
    | none => match ab_lop i with
      | some f => (match S with
        | .long y :: .long x :: r => some (pc + 1, L, .long (f x y) :: r, h)
        | _ => none)
      | none => match ab_un i with
        | some f => (match S with
          | .int x :: r => some (pc + 1, L, .int (f x) :: r, h)
          | _ => none)
        | none => none)
/-- methods by number -/
def ab_y (y : Nat) : MethodName := (ta_me y).1
def ab_b (y : Nat) : ByteArray := (ta_me y).2.1
def ab_nL (y : Nat) : Nat := (ta_me y).2.2.1
def ab_ret (y : Nat) : Option FieldType := (ta_me y).2.2.2.1
def ab_c (y : Nat) : Nat := (ta_me y).2.2.2.2.1
def ab_hh (y : Nat) : List (Nat × Nat × Nat × Nat) := (ta_me y).2.2.2.2.2
abbrev ab_O : Type := Option Value ⊕ Nat
/-- how many arguments the call pops, by kind: the receiver counted -/
def ab_np (y : Nat) : Nat := (ta_n (ab_y y)).getD 0
/-- a call: the method, its arguments, what stays on the stack, may it throw -/
def ab_call (c : Nat) (i : Instr) (S : ab_S) (h : ab_H) : Option (Nat × List Value × ab_S × Bool) := match i with
  | .invokevirtual k => (match ab_lkM c k with
    | some (kd, y) => if kd ≤ 1 then (match S.drop (ab_np y) with
        | .ref a :: r => if (S.take (ab_np y)).length = ab_np y ∧ ab_cat r ≤ 8 ∧ a < ab_N h ∧ (ab_K h a).1 = (ta_me y).2.2.2.2.1 ∧ (lg_sl (.ref a :: (S.take (ab_np y)).reverse)).length ≤ (ta_me y).2.2.1 then some (y, .ref a :: (S.take (ab_np y)).reverse, r, kd == 0) else none
        | _ => none) else none
    | none => none)
  | .invokespecial k => (match ab_lkM c k with
    | some (kd, y) => if kd = 4 ∨ kd = 5 then (match S.drop (ab_np y) with
        | .ref a :: r => if (S.take (ab_np y)).length = ab_np y ∧ ab_cat r ≤ 8 ∧ (lg_sl (.ref a :: (S.take (ab_np y)).reverse)).length ≤ (ta_me y).2.2.1 then some (y, .ref a :: (S.take (ab_np y)).reverse, r, false) else none
        | _ => none) else none
    | none => none)
  | .invokestatic k => (match ab_lkM c k with
    | some (kd, y) => if kd = 2 ∨ kd = 3 ∨ kd = 12 then (if (S.take (ab_np y)).length = ab_np y ∧ ab_cat (S.drop (ab_np y)) ≤ 8 ∧ (lg_sl (S.take (ab_np y)).reverse).length ≤ (ta_me y).2.2.1 then some (y, (S.take (ab_np y)).reverse, S.drop (ab_np y), kd == 2) else none) else none
    | none => none)
  | _ => none
/-- what follows 'new E' in a throw -/
def ab_thrOk (b : ByteArray) (pc ic : Nat) : Bool := match decode b (pc + 3), decode b (pc + 4), decode b (pc + 7) with
  | .ok (.dup, 1), .ok (.invokespecial i, 3), .ok (.athrow, 1) => i == ic
  | _, _, _ => false
/-- an answer, or 'throw new E()' -/
def ab_end (y pc : Nat) (i : Instr) (S : ab_S) (h : ab_H) : Option (ab_O × ab_H) := match i with
  | .return_ => if S = [] ∧ ab_ret y = none then some (.inl none, h) else none
  | .ireturn => (match S with
    | [.int x] => (match ab_ret y with
      | some .int => some (.inl (some (.int x)), h)
      | some .boolean => some (.inl (some (.int (vp_nar .boolean x))), h)
      | _ => none)
    | _ => none)
  | .lreturn => (match S with
    | [.long x] => if ab_ret y = some .long then some (.inl (some (.long x)), h) else none
    | _ => none)
  | .new k => (match ta_LX.find? (fun e => e.1 == ab_c y && e.2.1 == k) with
    | some e => if S = [] ∧ ab_hh y = [] ∧ ab_thrOk (ab_b y) pc e.2.2.1 = true then some (.inr e.2.2.2.1, ab_thr h 6) else none
    | none => none)
  | _ => none
/-- the handler that takes exception E thrown at pc: where it begins -/
def ab_hand (y pc E : Nat) : Option Nat := ((ab_hh y).find? (fun q => decide (q.1 ≤ pc) && decide (pc < q.2.1) && ((ta_LH.find? (fun e => e.1 == q.2.2.2)).map (fun e => e.2.1) == some E))).map (fun q => q.2.2.1)
/-- the lengths of instructions, as the rows have them (no wide ones) -/
def ab_len (i : Instr) (len : Nat) : Bool := match i with
  | .bipush _ | .ldc _ | .iload _ | .lload _ | .aload _ | .istore _ | .lstore _ | .astore _ | .newarray _ => len == 2
  | .sipush _ | .ldc_w _ | .ldc2_w _ | .iinc _ _ | .goto _ | .ifCond _ _ | .if_icmp _ _ | .ifnull _ | .ifnonnull _ | .getfield _ | .putfield _ | .invokevirtual _ | .invokestatic _ | .invokespecial _ | .new _ => len == 3
  | .multianewarray _ _ => len == 4
  | .tableswitch _ _ _ _ => true
  | _ => len == 1
def ab_run : Nat → Nat → Nat → Nat → ab_L → ab_S → ab_H → Option (ab_O × ab_H)
  | 0, _, _, _, _, _, _ => none
  | n + 1, d, y, pc, L, S, h => match decode (ab_b y) pc with
    | .error _ => none
    | .ok (i, len) => if ab_len i len = false then none else match ab_end y pc i S h with
      | some r => some r
      | none => match ab_call (ab_c y) i S h with
        | some (y', As, r, pl) => (match d with
          | 0 => none
          | d' + 1 => match ab_run n d' y' 0 (lv_args 0 As) [] h with
            | none => none
            | some (.inl v, h') => ab_run n (d' + 1) y (pc + 3) L (v.toList ++ r) h'
            | some (.inr E, h') => if pl = false then none else match ab_hand y pc E with
              | none => if ab_hh y = [] then some (.inr E, h') else none
              | some t => (match decode (ab_b y) t with
                | .ok (.astore_n k, 1) => if (k : Nat) < ab_nL y then ab_run n (d' + 1) y (t + 1) (L.filter (fun q => !(q.1 == (k : Nat)) && !(q.1 + 1 == (k : Nat) && q.2.category == 2))) [] h' else none
                | .ok (.astore k, 2) => if k < ab_nL y then ab_run n (d' + 1) y (t + 2) (L.filter (fun q => !(q.1 == k) && !(q.1 + 1 == k && q.2.category == 2))) [] h' else none
                | _ => none))
        | none => match ab_step (decide ((ab_y y).name = "<init>")) (ab_nL y) (ab_c y) i len pc L S h with
          | none => none
          | some (pc', L', S', h') => ab_run n d y pc' L' S' h'
