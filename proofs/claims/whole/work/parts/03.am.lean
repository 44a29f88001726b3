/-! AN ABSTRACT MACHINE: numbers without wrap, references as places in a list of cells, control as a tree.
    What it computes, the machine does (part 04); all later reasoning is about it alone. -/
abbrev am_V : Type := Int ⊕ Option Nat ⊕ Int64 ⊕ Unit
abbrev vI (x : Int) : am_V := Sum.inl x
abbrev vR (a : Nat) : am_V := Sum.inr (Sum.inl (some a))
abbrev vN : am_V := Sum.inr (Sum.inl none)
abbrev vL (x : Int64) : am_V := Sum.inr (Sum.inr (Sum.inl x))
abbrev vU : am_V := Sum.inr (Sum.inr (Sum.inr ()))
/-- a cell: its kind (0 to 12: an object, 20 to 25: a row, 30: a row that is read only, 99: none), its length, what it holds -/
abbrev am_C : Type := Nat × Nat × (Nat → am_V)
abbrev am_H : Type := Nat × (Nat → am_C)
/-- names, stack, cells -/
abbrev am_S : Type := List am_V × List am_V × am_H
abbrev am_I : Type := Instr × Nat × Nat × Nat
abbrev am_G : Type := Nat → List am_V → am_H → Option (List am_V × am_H)
def au {α : Type} (f : Nat → α) (k : Nat) (v : α) : Nat → α := fun j => if j = k then v else f j
theorem au_s {α : Type} (f : Nat → α) (k : Nat) (v : α) : au f k v k = v := if_pos rfl
theorem au_n {α : Type} (f : Nat → α) {k j : Nat} (v : α) (h : j ≠ k) : au f k v j = f j := if_neg h
def lget : List am_V → Nat → am_V
  | [], _ => vU
  | a :: _, 0 => a
  | _ :: l, n + 1 => lget l n
abbrev inR (x : Int) : Prop := -2147483648 ≤ x ∧ x ≤ 2147483647
def am_cat (v : am_V) : Nat := match v with
  | .inr (.inr (.inl _)) => 2
  | _ => 1
def am_cats : List am_V → Nat
  | [] => 0
  | v :: r => am_cat v + am_cats r
def defV : FieldType → am_V
  | .int => vI 0
  | .boolean => vI 0
  | .long => vL 0
  | .object _ => vN
  | .array _ => vN
  | _ => vU
def am_ty (c : Nat) : Nat → FieldType := match c with
  | 0 => tyX0 | 1 => tyX1 | 2 => tyX2 | 3 => tyX3 | 4 => tyX4 | 5 => tyX5 | 6 => tyX6 | 7 => tyX7 | 8 => tyX8 | 9 => tyX9 | 10 => tyX10 | 11 => tyX11 | _ => tyX12
def am_n (c : Nat) : Nat := match c with
  | 0 => 3 | 1 => 3 | 2 => 6 | 3 => 11 | 4 => 8 | 5 => 3 | 6 => 1 | 7 => 7 | 8 => 3 | 9 => 4 | 10 => 2 | 11 => 13 | _ => 31
/-- which kind of value a field takes: 0 int, 1 boolean, 2 long, 3 a reference -/
def am_fk : FieldType → Nat
  | .int => 0
  | .boolean => 1
  | .long => 2
  | .object _ => 3
  | .array _ => 3
  | _ => 9
def am_fit (k : Nat) (v : am_V) : Bool := match k, v with
  | 0, .inl _ => true
  | 1, .inl x => decide (x = 0 ∨ x = 1)
  | 2, .inr (.inr (.inl _)) => true
  | 3, .inr (.inl (some _)) => true
  | _, _ => false
/-- the kind of what a row of references holds -/
def am_el (t : Nat) : Nat := match t with
  | 22 => 20 | 23 => 6 | 24 => 8 | 25 => 2 | _ => 99
def am_st (ls : List am_V) (i : Nat) (v : am_V) : Option (List am_V) := match i with
  | 0 => some (ls.set 0 v)
  | j + 1 => if am_cat (lget ls j) = 1 then some (ls.set (j + 1) v) else none
def am_put (h : am_H) (a : Nat) (c : am_C) : am_H := (h.1, au h.2 a c)
def am_new (h : am_H) (c : am_C) : am_H := (h.1 + 1, au h.2 h.1 c)
/-- a row of n rows of k ints, all new: the row first -/
def am_rows (n k : Nat) (h : am_H) : am_H := (h.1 + 1 + n, fun j => if j = h.1 then (22, n, fun i => vR (h.1 + 1 + i)) else if h.1 + 1 ≤ j ∧ j < h.1 + 1 + n then (20, k, fun _ => vI 0) else h.2 j)
/-- whether what is called is an object of that kind -/
def am_rc (c : Nat) (h : am_H) (as : List am_V) : Bool := match as with
  | .inr (.inl (some a)) :: _ => decide ((h.2 a).1 = c)
  | _ => false
def am_inv (G : am_G) (r : Bool) (k n c : Nat) (x : am_S) : Option am_S :=
  if n ≤ x.2.1.length ∧ am_cats (x.2.1.drop n) ≤ 8 ∧ (r = true → am_rc c x.2.2 (x.2.1.take n).reverse = true) then
    (G k (x.2.1.take n).reverse x.2.2).map fun q => (x.1, q.1 ++ x.2.1.drop n, q.2)
  else none
def am_cpy (f g : Nat → am_V) (sp dp n : Nat) : Nat → am_V := fun j => if dp ≤ j ∧ j < dp + n then f (sp + (j - dp)) else g j
/-- System.arraycopy over rows of ints -/
def am_copy (x : am_S) : Option am_S := match x with
  | (ls, .inl n :: .inl dp :: .inr (.inl (some d)) :: .inl sp :: .inr (.inl (some s)) :: st, h) =>
    if (h.2 s).1 = 20 ∧ (h.2 d).1 = 20 ∧ 0 ≤ sp ∧ 0 ≤ dp ∧ 0 ≤ n ∧ sp + n ≤ (h.2 s).2.1 ∧ dp + n ≤ (h.2 d).2.1 ∧ (h.2 s).2.1 ≤ 100000 ∧ (h.2 d).2.1 ≤ 100000 ∧ am_cats st ≤ 8 then
      some (ls, st, am_put h d (20, (h.2 d).2.1, am_cpy (h.2 s).2.2 (h.2 d).2.2 sp.toNat dp.toNat n.toNat))
    else none
  | _ => none
def am_ldi (i : Nat) (x : am_S) : Option am_S := match lget x.1 i with
  | .inl v => some (x.1, vI v :: x.2.1, x.2.2)
  | _ => none
def am_lda (i : Nat) (x : am_S) : Option am_S := match lget x.1 i with
  | .inr (.inl (some v)) => some (x.1, vR v :: x.2.1, x.2.2)
  | _ => none
def am_ldl (i : Nat) (x : am_S) : Option am_S := match lget x.1 i with
  | .inr (.inr (.inl v)) => some (x.1, vL v :: x.2.1, x.2.2)
  | _ => none
def am_sti (i : Nat) (x : am_S) : Option am_S := match x with
  | (ls, .inl v :: st, h) => (am_st ls i (vI v)).map fun q => (q, st, h)
  | _ => none
def am_sta (i : Nat) (x : am_S) : Option am_S := match x with
  | (ls, .inr (.inl (some v)) :: st, h) => (am_st ls i (vR v)).map fun q => (q, st, h)
  | _ => none
def am_stl (i : Nat) (x : am_S) : Option am_S := match x with
  | (ls, .inr (.inr (.inl v)) :: st, h) => (am_st ls i (vL v)).map fun q => (q.set (i + 1) vU, st, h)
  | _ => none
def am_b2 (f : Int → Int → Int) (x : am_S) : Option am_S := match x with
  | (ls, .inl b :: .inl a :: st, h) => some (ls, vI (f a b) :: st, h)
  | _ => none
/-- division, rest, shift, mask: where the numbers must be in their range -/
def am_b3 (ok : Int → Int → Bool) (f : Int → Int → Int) (x : am_S) : Option am_S := match x with
  | (ls, .inl b :: .inl a :: st, h) => if inR a ∧ inR b ∧ ok a b = true then some (ls, vI (f a b) :: st, h) else none
  | _ => none
def am_aload (t : Nat → Bool) (x : am_S) : Option am_S := match x with
  | (ls, .inl i :: .inr (.inl (some a)) :: st, h) => if t (h.2 a).1 = true ∧ 0 ≤ i ∧ i < (h.2 a).2.1 ∧ (h.2 a).2.1 ≤ 100000 then some (ls, (h.2 a).2.2 i.toNat :: st, h) else none
  | _ => none
def am_I1 (G : am_G) (ai : am_I) (x : am_S) : Option am_S := match ai.1 with
  | .iconst n => some (x.1, vI n :: x.2.1, x.2.2)
  | .bipush n => some (x.1, vI n :: x.2.1, x.2.2)
  | .sipush n => some (x.1, vI n :: x.2.1, x.2.2)
  | .ldc _ => some (x.1, vI ai.2.1 :: x.2.1, x.2.2)
  | .ldc2_w _ => some (x.1, vL (Int64.ofNat ai.2.1) :: x.2.1, x.2.2)
  | .iload i => am_ldi i x
  | .iload_n i => am_ldi i.val x
  | .aload i => am_lda i x
  | .aload_n i => am_lda i.val x
  | .lload_n i => am_ldl i.val x
  | .istore i => am_sti i x
  | .istore_n i => am_sti i.val x
  | .astore i => am_sta i x
  | .astore_n i => am_sta i.val x
  | .lstore_n i => am_stl i.val x
  | .iinc i n => match lget x.1 i with
    | .inl v => (am_st x.1 i (vI (v + n))).map fun q => (q, x.2.1, x.2.2)
    | _ => none
  | .dup => match x with
    | (ls, v :: st, h) => if am_cat v = 1 then some (ls, v :: v :: st, h) else none
    | _ => none
  | .pop => match x with
    | (ls, v :: st, h) => if am_cat v = 1 then some (ls, st, h) else none
    | _ => none
  | .dup2 => match x with
    | (ls, v :: w :: st, h) => if am_cat v = 1 ∧ am_cat w = 1 then some (ls, v :: w :: v :: w :: st, h) else none
    | _ => none
  | .iadd => am_b2 (· + ·) x
  | .isub => am_b2 (· - ·) x
  | .imul => am_b2 (· * ·) x
  | .ineg => match x with
    | (ls, .inl a :: st, h) => some (ls, vI (- a) :: st, h)
    | _ => none
  | .idiv => am_b3 (fun _ b => decide (0 < b)) Int.tdiv x
  | .irem => am_b3 (fun _ b => decide (0 < b)) Int.tmod x
  | .ishr => am_b3 (fun _ b => decide (0 ≤ b ∧ b < 32)) (fun a b => a / 2 ^ b.toNat) x
  | .iand => am_b3 (fun _ b => decide (b = 1 ∨ b = 31)) (fun a b => a % (b + 1)) x
  | .ixor => am_b2 (fun a b => (Int32.ofInt a ^^^ Int32.ofInt b).toInt) x
  | .i2l => match x with
    | (ls, .inl a :: st, h) => if inR a then some (ls, vL (Int64.ofInt a) :: st, h) else none
    | _ => none
  | .ladd => match x with
    | (ls, .inr (.inr (.inl b)) :: .inr (.inr (.inl a)) :: st, h) => some (ls, vL (a + b) :: st, h)
    | _ => none
  | .lmul => match x with
    | (ls, .inr (.inr (.inl b)) :: .inr (.inr (.inl a)) :: st, h) => some (ls, vL (a * b) :: st, h)
    | _ => none
  | .lcmp => match x with
    | (ls, .inr (.inr (.inl b)) :: .inr (.inr (.inl a)) :: st, h) => some (ls, vI (lg_cmp a b).toInt :: st, h)
    | _ => none
  | .getfield _ => match x with
    | (ls, .inr (.inl (some a)) :: st, h) => if (h.2 a).1 = ai.2.1 then some (ls, (h.2 a).2.2 ai.2.2.1 :: st, h) else none
    | _ => none
  | .putfield _ => match x with
    | (ls, v :: .inr (.inl (some a)) :: st, h) => if (h.2 a).1 = ai.2.1 ∧ am_fit ai.2.2.2 v = true then some (ls, st, am_put h a (ai.2.1, (h.2 a).2.1, au (h.2 a).2.2 ai.2.2.1 v)) else none
    | _ => none
  | .getstatic _ => some (x.1, vR ai.2.1 :: x.2.1, x.2.2)
  | .iaload => am_aload (fun t => t == 20 || t == 30) x
  | .baload => am_aload (fun t => t == 21) x
  | .aaload => am_aload (fun t => decide (22 ≤ t ∧ t ≤ 25)) x
  | .iastore => match x with
    | (ls, .inl v :: .inl i :: .inr (.inl (some a)) :: st, h) => if (h.2 a).1 = 20 ∧ 0 ≤ i ∧ i < (h.2 a).2.1 ∧ (h.2 a).2.1 ≤ 100000 then some (ls, st, am_put h a (20, (h.2 a).2.1, au (h.2 a).2.2 i.toNat (vI v))) else none
    | _ => none
  | .bastore => match x with
    | (ls, .inl v :: .inl i :: .inr (.inl (some a)) :: st, h) => if (h.2 a).1 = 21 ∧ 0 ≤ i ∧ i < (h.2 a).2.1 ∧ (h.2 a).2.1 ≤ 100000 ∧ (v = 0 ∨ v = 1) then some (ls, st, am_put h a (21, (h.2 a).2.1, au (h.2 a).2.2 i.toNat (vI v))) else none
    | _ => none
  | .aastore => match x with
    | (ls, .inr (.inl (some v)) :: .inl i :: .inr (.inl (some a)) :: st, h) => if 22 ≤ (h.2 a).1 ∧ (h.2 a).1 ≤ 25 ∧ (h.2 v).1 = am_el (h.2 a).1 ∧ 0 ≤ i ∧ i < (h.2 a).2.1 ∧ (h.2 a).2.1 ≤ 100000 then some (ls, st, am_put h a ((h.2 a).1, (h.2 a).2.1, au (h.2 a).2.2 i.toNat (vR v))) else none
    | _ => none
  | .arraylength => match x with
    | (ls, .inr (.inl (some a)) :: st, h) => if (h.2 a).1 = 20 ∨ (h.2 a).1 = 30 then some (ls, vI (h.2 a).2.1 :: st, h) else none
    | _ => none
  | .newarray _ => match x with
    | (ls, .inl n :: st, h) => if 0 ≤ n ∧ n ≤ 100000 then some (ls, vR h.1 :: st, am_new h (ai.2.1, n.toNat, fun _ => vI 0)) else none
    | _ => none
  | .anewarray _ => match x with
    | (ls, .inl n :: st, h) => if 0 ≤ n ∧ n ≤ 100000 then some (ls, vR h.1 :: st, am_new h (ai.2.1, n.toNat, fun _ => vN)) else none
    | _ => none
  | .multianewarray _ _ => match x with
    | (ls, .inl k :: .inl n :: st, h) => if 0 < n ∧ n ≤ 1000 ∧ 0 ≤ k ∧ k ≤ 1000 then some (ls, vR h.1 :: st, am_rows n.toNat k.toNat h) else none
    | _ => none
  | .new _ => some (x.1, vR x.2.2.1 :: x.2.1, am_new x.2.2 (ai.2.1, am_n ai.2.1, fun k => defV (am_ty ai.2.1 k)))
  | .invokevirtual _ => am_inv G true ai.2.1 ai.2.2.1 ai.2.2.2 x
  | .invokespecial _ => if ai.2.1 = 998 then (match x with
    | (ls, .inr (.inl (some _)) :: st, h) => if am_cats st ≤ 8 then some (ls, st, h) else none
    | _ => none) else am_inv G true ai.2.1 ai.2.2.1 ai.2.2.2 x
  | .invokestatic _ => if ai.2.1 = 999 then am_copy x else am_inv G false ai.2.1 ai.2.2.1 ai.2.2.2 x
  | _ => none
def am_L (G : am_G) : List am_I → am_S → Option am_S
  | [], x => some x
  | i :: r, x => (am_I1 G i x).bind (am_L G r)
def am_cmp (c : Jvm.ClassFile.Cond) (a b : Int) : Bool := match c with
  | .eq => decide (a = b)
  | .ne => decide (a ≠ b)
  | .lt => decide (a < b)
  | .ge => decide (b ≤ a)
  | .gt => decide (b < a)
  | .le => decide (a ≤ b)
/-- what ends a stretch: 0 goes on behind it, 1 returns, t + 2 goes to t -/
def am_t (i : Instr) (ts : List Nat) (x : am_S) : Option (Nat × am_S) := match i with
  | .goto _ => some (ts.headD 0 + 2, x)
  | .ifCond c _ => match x with
    | (ls, .inl a :: st, h) => if inR a then some (if am_cmp c a 0 = true then ts.headD 0 + 2 else 0, ls, st, h) else none
    | _ => none
  | .if_icmp c _ => match x with
    | (ls, .inl b :: .inl a :: st, h) => if inR a ∧ inR b then some (if am_cmp c a b = true then ts.headD 0 + 2 else 0, ls, st, h) else none
    | _ => none
  | .tableswitch _ lo hi _ => match x with
    | (ls, .inl a :: st, h) => if inR a then some ((if lo ≤ a ∧ a ≤ hi then ts.getD ((a - lo).toNat + 1) 0 else ts.headD 0) + 2, ls, st, h) else none
    | _ => none
  | .ireturn => match x with
    | (ls, [.inl a], h) => if ts.headD 0 = 0 ∨ a = 0 ∨ a = 1 then some (1, ls, [vI a], h) else none
    | _ => none
  | .lreturn => match x with
    | (ls, [.inr (.inr (.inl a))], h) => some (1, ls, [vL a], h)
    | _ => none
  | .areturn => match x with
    | (ls, [.inr (.inl (some a))], h) => some (1, ls, [vR a], h)
    | _ => none
  | .return_ => match x with
    | (ls, [], h) => some (1, ls, [], h)
    | _ => none
  | _ => none
def am_lp (f : am_S → Option (Nat × am_S)) (L : Nat) : Nat → am_S → Option (Nat × am_S)
  | 0, _ => none
  | n + 1, x => (f x).bind fun r => if r.1 = L + 2 then am_lp f L n r.2 else some r
abbrev am_T : Type := Lean.RArray (List am_I × Option (Instr × List Nat))
/-- how often a loop may go round -/
abbrev am_F : Nat := 100000000
def am_ev (G : am_G) : am_T → am_S → Option (Nat × am_S)
  | .leaf q, x => (am_L G q.1 x).bind fun y => match q.2 with
    | none => some (0, y)
    | some r => am_t r.1 r.2 y
  | .branch 0 a b, x => (am_ev G a x).bind fun r => if r.1 = 0 then am_ev G b r.2 else some r
  | .branch (n + 1) a _, x => if n % 2 = 0 then (am_ev G a x).map fun r => if r.1 = n / 2 + 2 then (0, r.2) else r
    else am_lp (am_ev G a) (n / 2) am_F x
/-- a stretch; a stretch with its end; one behind another; one whose ways out to L end behind it; one whose ways to L go round -/
abbrev tS (is : List am_I) : am_T := .leaf (is, none)
abbrev tB (is : List am_I) (i : Instr) (ts : List Nat) : am_T := .leaf (is, some (i, ts))
abbrev tQ (a b : am_T) : am_T := .branch 0 a b
abbrev tK (L : Nat) (a : am_T) : am_T := .branch (2 * L + 1) a (.leaf ([], none))
abbrev tW (L : Nat) (a : am_T) : am_T := .branch (2 * L + 2) a (.leaf ([], none))
theorem ev_S (G : am_G) (is : List am_I) (x : am_S) : am_ev G (tS is) x = (am_L G is x).bind fun y => some (0, y) := rfl
theorem ev_B (G : am_G) (is : List am_I) (i : Instr) (ts : List Nat) (x : am_S) : am_ev G (tB is i ts) x = (am_L G is x).bind (am_t i ts) := rfl
theorem ev_Q (G : am_G) (a b : am_T) (x : am_S) : am_ev G (tQ a b) x = (am_ev G a x).bind fun r => if r.1 = 0 then am_ev G b r.2 else some r := rfl
theorem ev_K (G : am_G) (L : Nat) (a : am_T) (x : am_S) : am_ev G (tK L a) x = (am_ev G a x).map fun r => if r.1 = L + 2 then (0, r.2) else r := by
  show (if 2 * L % 2 = 0 then (am_ev G a x).map (fun r => if r.1 = 2 * L / 2 + 2 then (0, r.2) else r) else _) = _
  rw [if_pos (by omega), show 2 * L / 2 = L by omega]
theorem ev_W (G : am_G) (L : Nat) (a : am_T) (x : am_S) : am_ev G (tW L a) x = am_lp (am_ev G a) L am_F x := by
  show (if (2 * L + 1) % 2 = 0 then (am_ev G a x).map (fun r => if r.1 = (2 * L + 1) / 2 + 2 then (0, r.2) else r) else am_lp (am_ev G a) ((2 * L + 1) / 2) am_F x) = _
  rw [if_neg (by omega), show (2 * L + 1) / 2 = L by omega]
/-- a method: the name of what it belongs to, its own name, its bytes, how many names it has, what it returns, its tree -/
abbrev am_M : Type := String × MethodName × ByteArray × Nat × Option FieldType × am_T
def am_lay : List am_V → List am_V
  | [] => []
  | .inr (.inr (.inl v)) :: r => vL v :: vU :: am_lay r
  | v :: r => v :: am_lay r
def am_in (as : List am_V) (n : Nat) : List am_V := am_lay as ++ List.replicate (n - (am_lay as).length) vU
def am_run (tb : Nat → Option am_M) : Nat → am_G
  | 0 => fun _ _ _ => none
  | d + 1 => fun k as h => (tb k).bind fun q => if (am_lay as).length ≤ q.2.2.2.1 then
      (am_ev (am_run tb d) q.2.2.2.2.2 (am_in as q.2.2.2.1, [], h)).bind fun r => if r.1 = 1 then some (r.2.2.1, r.2.2.2) else none
    else none
