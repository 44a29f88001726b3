/-! What the abstract machine computes, the machine does: one step, a stretch, a tree, a table of methods. -/
def am_le (h h' : am_H) : Prop := h.1 ≤ h'.1 ∧ am_sl h ≤ am_sl h'
theorem am_le.rf (h : am_H) : am_le h h := ⟨Nat.le_refl _, Nat.le_refl _⟩
theorem am_le.tr {a b c : am_H} (h1 : am_le a b) (h2 : am_le b c) : am_le a c := ⟨Nat.le_trans h1.1 h2.1, Nat.le_trans h1.2 h2.2⟩
theorem am_B.mid {R : Room} {h0 a b c : am_H} (h1 : am_B R h0 a) (h2 : am_B R h0 c) (h3 : am_le a b) (h4 : am_le b c) : am_B R h0 b := by
  obtain ⟨p1, p2, -, -⟩ := h1
  obtain ⟨q1, q2, q3, q4⟩ := h2
  obtain ⟨r1, r2⟩ := h3
  obtain ⟨s1, s2⟩ := h4
  exact ⟨by omega, by omega, by omega, by omega⟩
theorem i32_shn : ∀ n : Nat, n < 32 → (Int32.ofInt (n : Int) &&& 31).toBitVec.smod 32#32 = BitVec.ofNat 32 n := by decide +kernel
theorem int_div_in {a c : Int} (ha : inR a) (hc : 0 < c) : inR (a / c) := by
  obtain ⟨h1, h2⟩ := ha
  by_cases h : 0 ≤ a
  · have := Int.ediv_le_self c h
    have := Int.ediv_nonneg h (Int.le_of_lt hc)
    exact ⟨by omega, by omega⟩
  · have h3 := Int.ediv_neg_of_neg_of_pos (by omega : a < 0) hc
    have h4 : a ≤ a / c := Int.le_ediv_of_mul_le hc (by
      have := Int.mul_le_mul_of_nonpos_left (a := a) (b := c) (c := 1) (by omega) (by omega)
      omega)
    exact ⟨by omega, by omega⟩
theorem i32_shr {a b : Int} (ha : inR a) (hb : 0 ≤ b ∧ b < 32) : Int32.ofInt a >>> (Int32.ofInt b &&& 31) = Int32.ofInt (a / 2 ^ b.toNat) := by
  obtain ⟨n, rfl⟩ : ∃ n : Nat, b = n := ⟨b.toNat, by omega⟩
  have hn : n < 32 := by omega
  apply Int32.toInt_inj.mp
  have hp : (0 : Int) < 2 ^ n := Int.pow_pos (by decide)
  rw [Int.toNat_natCast, i32_of (int_div_in ha hp)]
  show ((Int32.ofInt a).toBitVec.sshiftRight' ((Int32.ofInt (n : Int) &&& 31).toBitVec.smod 32#32)).toInt = _
  rw [i32_shn n hn]
  show ((Int32.ofInt a).toBitVec.sshiftRight (BitVec.ofNat 32 n).toNat).toInt = _
  rw [BitVec.toInt_sshiftRight, show (Int32.ofInt a).toBitVec.toInt = a from i32_of ha, BitVec.toNat_ofNat, Nat.mod_eq_of_lt (by omega), Int.shiftRight_eq_div_pow]
  simp
theorem i32_and {a b : Int} (ha : inR a) (hb : b = 1 ∨ b = 31) : Int32.ofInt a &&& Int32.ofInt b = Int32.ofInt (a % (b + 1)) := by
  apply Int32.toBitVec_inj.mp
  rcases hb with rfl | rfl
  · show BitVec.ofInt 32 a &&& 1#32 = BitVec.ofInt 32 (a % 2)
    apply BitVec.eq_of_toNat_eq
    rw [BitVec.toNat_and, BitVec.toNat_ofInt, BitVec.toNat_ofInt, show (1#32).toNat = 2 ^ 1 - 1 from rfl, Nat.and_two_pow_sub_one_eq_mod]
    omega
  · show BitVec.ofInt 32 a &&& 31#32 = BitVec.ofInt 32 (a % 32)
    apply BitVec.eq_of_toNat_eq
    rw [BitVec.toNat_and, BitVec.toNat_ofInt, BitVec.toNat_ofInt, show (31#32).toNat = 2 ^ 5 - 1 from rfl, Nat.and_two_pow_sub_one_eq_mod]
    omega
section SOUND
variable {p : Program} {l : Launch} {e : Env} {R : Room} {s : State} {m : MethodId} {args : Array Value} {below : List Frame} {meth : Method} {c : Code} {Q : State → Prop} {cc : ByteArray} {nL : Nat} {own : String} {ini : Bool} {D : am_D} {h0 : am_H}
variable {tb : Nat → Option am_M} {d : Nat} {G : am_G}
/-- what a step does to the size -/
theorem am_I1_le (hS : am_Snd l D tb d G) {ai : am_I} (hok : am_ok1 tb own ini nL ai) {x y : am_S} (hev : am_I1 G ai x = some y) : am_le x.2.2 y.2.2 := by
  have inv : ∀ {r : Bool} {k n c0 : Nat}, (∃ q, tb k = some q) → am_inv G r k n c0 x = some y → am_le x.2.2 y.2.2 := by
    intro r k n c0 ⟨q, hq⟩ h
    obtain ⟨-, -, -, v, h', hg, rfl⟩ := am_inv_eq h
    exact (hS k q _ _ _ _ hq hg).1
  have same : y.2.2 = x.2.2 → am_le x.2.2 y.2.2 := fun h => by rw [h]; exact am_le.rf _
  have sb2 : ∀ {f : Int → Int → Int}, am_b2 f x = some y → am_le x.2.2 y.2.2 := by
    intro f h
    unfold am_b2 at h
    split at h <;> cases h
    exact am_le.rf _
  have sb3 : ∀ {ok : Int → Int → Bool} {f : Int → Int → Int}, am_b3 ok f x = some y → am_le x.2.2 y.2.2 := by
    intro ok f h
    unfold am_b3 at h
    split at h
    · split at h <;> cases h
      exact am_le.rf _
    · cases h
  have sal : ∀ {t : Nat → Bool}, am_aload t x = some y → am_le x.2.2 y.2.2 := by
    intro t h
    obtain ⟨ls, st, h', i, a, rfl, -, -, -, -, rfl⟩ := am_aload_eq h
    exact am_le.rf _
  have sput : ∀ {h : am_H} {a : Nat} {q : am_C}, q.2.1 = (h.2 a).2.1 → am_le h (am_put h a q) := fun hq => ⟨Nat.le_refl _, by rw [am_sl_put hq]; exact Nat.le_refl _⟩
  have snew : ∀ {h : am_H} {q : am_C}, am_le h (am_new h q) := fun {h q} => ⟨Nat.le_succ _, by rw [am_sl_new]; exact Nat.le_add_right _ _⟩
  have srows : ∀ (h : am_H) (n k : Nat), am_le h (am_rows n k h) := fun h n k => ⟨by show h.1 ≤ h.1 + 1 + n; omega, by rw [am_sl_rows]; omega⟩
  obtain ⟨i, a1, a2, a3⟩ := ai
  cases i <;> simp only [am_I1] at hev <;> try (cases hev; done)
  case iconst => cases hev; exact am_le.rf _
  case bipush => cases hev; exact am_le.rf _
  case sipush => cases hev; exact am_le.rf _
  case ldc => cases hev; exact am_le.rf _
  case ldc2_w => cases hev; exact am_le.rf _
  case getstatic => cases hev; exact am_le.rf _
  case iload => unfold am_ldi at hev; split at hev <;> cases hev; exact am_le.rf _
  case iload_n => unfold am_ldi at hev; split at hev <;> cases hev; exact am_le.rf _
  case aload => unfold am_lda at hev; split at hev <;> cases hev; exact am_le.rf _
  case aload_n => unfold am_lda at hev; split at hev <;> cases hev; exact am_le.rf _
  case lload_n => unfold am_ldl at hev; split at hev <;> cases hev; exact am_le.rf _
  case istore =>
    unfold am_sti at hev
    split at hev
    · obtain ⟨_, -, rfl⟩ := Option.map_eq_some_iff.mp hev; exact am_le.rf _
    · cases hev
  case istore_n =>
    unfold am_sti at hev
    split at hev
    · obtain ⟨_, -, rfl⟩ := Option.map_eq_some_iff.mp hev; exact am_le.rf _
    · cases hev
  case astore =>
    unfold am_sta at hev
    split at hev
    · obtain ⟨_, -, rfl⟩ := Option.map_eq_some_iff.mp hev; exact am_le.rf _
    · cases hev
  case astore_n =>
    unfold am_sta at hev
    split at hev
    · obtain ⟨_, -, rfl⟩ := Option.map_eq_some_iff.mp hev; exact am_le.rf _
    · cases hev
  case lstore_n =>
    unfold am_stl at hev
    split at hev
    · obtain ⟨_, -, rfl⟩ := Option.map_eq_some_iff.mp hev; exact am_le.rf _
    · cases hev
  case iinc =>
    split at hev
    · obtain ⟨_, -, rfl⟩ := Option.map_eq_some_iff.mp hev; exact am_le.rf _
    · cases hev
  case dup =>
    split at hev
    · split at hev <;> cases hev; exact am_le.rf _
    · cases hev
  case pop =>
    split at hev
    · split at hev <;> cases hev; exact am_le.rf _
    · cases hev
  case dup2 =>
    split at hev
    · split at hev <;> cases hev; exact am_le.rf _
    · cases hev
  case iadd => exact sb2 hev
  case isub => exact sb2 hev
  case imul => exact sb2 hev
  case ixor => exact sb2 hev
  case idiv => exact sb3 hev
  case irem => exact sb3 hev
  case ishr => exact sb3 hev
  case iand => exact sb3 hev
  case ineg => split at hev <;> cases hev; exact am_le.rf _
  case i2l =>
    split at hev
    · split at hev <;> cases hev; exact am_le.rf _
    · cases hev
  case ladd => split at hev <;> cases hev; exact am_le.rf _
  case lmul => split at hev <;> cases hev; exact am_le.rf _
  case lcmp => split at hev <;> cases hev; exact am_le.rf _
  case getfield =>
    split at hev
    · split at hev <;> cases hev; exact am_le.rf _
    · cases hev
  case putfield =>
    split at hev
    · split at hev <;> cases hev; exact sput rfl
    · cases hev
  case iaload => exact sal hev
  case baload => exact sal hev
  case aaload => exact sal hev
  case iastore =>
    split at hev
    · split at hev <;> cases hev; exact sput rfl
    · cases hev
  case bastore =>
    split at hev
    · split at hev <;> cases hev; exact sput rfl
    · cases hev
  case aastore =>
    split at hev
    · split at hev <;> cases hev; exact sput rfl
    · cases hev
  case arraylength =>
    split at hev
    · split at hev <;> cases hev; exact am_le.rf _
    · cases hev
  case newarray =>
    split at hev
    · split at hev <;> cases hev; exact snew
    · cases hev
  case anewarray =>
    split at hev
    · split at hev <;> cases hev; exact snew
    · cases hev
  case multianewarray =>
    split at hev
    · split at hev <;> cases hev; exact srows _ _ _
    · cases hev
  case new => cases hev; exact snew
  case invokevirtual => obtain ⟨q, hq, -⟩ := hok; exact inv ⟨q, hq⟩ hev
  case invokespecial =>
    have hok : (if a1 = 998 then _ else _ : Prop) := hok
    by_cases h998 : a1 = 998
    · simp only [if_pos h998] at hev
      split at hev
      · split at hev <;> cases hev; exact am_le.rf _
      · cases hev
    · simp only [if_neg h998] at hev hok
      obtain ⟨q, hq, -⟩ := hok; exact inv ⟨q, hq⟩ hev
  case invokestatic =>
    have hok : (if a1 = 999 then _ else _ : Prop) := hok
    by_cases h999 : a1 = 999
    · simp only [if_pos h999] at hev
      unfold am_copy at hev
      split at hev
      · split at hev <;> cases hev; exact sput rfl
      · cases hev
    · simp only [if_neg h999] at hev hok
      obtain ⟨q, hq, -⟩ := hok; exact inv ⟨q, hq⟩ hev
/-- one step -/
theorem am_I1_ok (X : am_Fx p R s m args meth c cc nL own ini D) (hS : am_Snd l D tb d G) (hd1 : d + 1 ≤ R.frames) (hd2 : 100 * d + 100 ≤ R.locals) {ai : am_I} (hok : am_ok1 tb own ini nL ai) {pc : Nat} (hd : decode cc pc = .ok (ai.1, am_len ai.1)) {x y : am_S} (hev : am_I1 G ai x = some y) (hB : am_B R h0 x.2.2) (hB' : am_B R h0 y.2.2)
    (kk : am_At p l e R s m args below meth c Q D nL h0 y (pc + am_len ai.1)) : am_At p l e R s m args below meth c Q D nL h0 x pc := by
  have hx := X.1
  have hb := X.2.1
  obtain ⟨i, a1, a2, a3⟩ := ai
  cases i <;> try (simp only [am_I1] at hev; cases hev; done)
  case iconst n =>
    simp only [am_I1] at hev; cases hev
    exact at_push (v := vI n) (fun k => lv_iconst hx hb hd rfl k) kk
  case bipush n =>
    simp only [am_I1] at hev; cases hev
    have hok : -128 ≤ n ∧ n ≤ 127 := hok
    exact at_push (v := vI n) (fun k => lv_bipush hx hb hd (Int8.toInt32_ofInt (by show (-128 : Int) ≤ n; omega) (by show n ≤ (127 : Int); omega)) k) kk
  case sipush n =>
    simp only [am_I1] at hev; cases hev
    have hok : -32768 ≤ n ∧ n ≤ 32767 := hok
    exact at_push (v := vI n) (fun k => lv_sipush hx hb hd (Int16.toInt32_ofInt (by show (-32768 : Int) ≤ n; omega) (by show n ≤ (32767 : Int); omega)) k) kk
  case ldc n =>
    simp only [am_I1] at hev; cases hev
    exact at_push (v := vI a1) (fun k => lv_ldc hx hb X.2.2.2.1 (X.w hok rfl) hd k) kk
  case ldc2_w n =>
    simp only [am_I1] at hev; cases hev
    exact at_push (v := vL (Int64.ofNat a1)) (fun k => lv_ldc2 hx hb X.2.2.2.1 (X.w hok rfl) hd k) kk
  case iload i => exact at_ldi (fun h k => lv_iload hx hb hd h k) hev kk
  case iload_n i => exact at_ldi (fun h k => lv_iload_n hx hb hd rfl h k) hev kk
  case aload i => exact at_lda (fun h k => lv_aload hx hb hd h k) hev kk
  case aload_n i => exact at_lda (fun h k => lv_aload_n hx hb hd rfl h k) hev kk
  case lload_n i => exact at_ldl (fun h k => lv_lload_n hx hb hd rfl h k) hev kk
  case istore i =>
    simp only [am_I1, am_sti] at hev
    split at hev
    · obtain ⟨B, hB1, rfl⟩ := Option.map_eq_some_iff.mp hev
      exact at_st (v := vI _) hok rfl hB1 (fun h k => W.ist hx hb (Or.inr ⟨rfl, hd⟩) h k) kk
    · cases hev
  case istore_n i =>
    simp only [am_I1, am_sti] at hev
    split at hev
    · obtain ⟨B, hB1, rfl⟩ := Option.map_eq_some_iff.mp hev
      exact at_st (v := vI _) hok rfl hB1 (fun h k => W.ist hx hb (Or.inl ⟨i, rfl, rfl, hd⟩) h k) kk
    · cases hev
  case astore i =>
    simp only [am_I1, am_sta] at hev
    split at hev
    · obtain ⟨B, hB1, rfl⟩ := Option.map_eq_some_iff.mp hev
      exact at_st (v := vR _) hok rfl hB1 (fun h k => W.ast hx hb (Or.inr ⟨rfl, hd⟩) h k) kk
    · cases hev
  case astore_n i =>
    simp only [am_I1, am_sta] at hev
    split at hev
    · obtain ⟨B, hB1, rfl⟩ := Option.map_eq_some_iff.mp hev
      exact at_st (v := vR _) hok rfl hB1 (fun h k => W.ast hx hb (Or.inl ⟨i, rfl, rfl, hd⟩) h k) kk
    · cases hev
  case lstore_n i =>
    simp only [am_I1, am_stl] at hev
    split at hev
    · obtain ⟨B, hB1, rfl⟩ := Option.map_eq_some_iff.mp hev
      intro LS H locs hl hR hf
      obtain ⟨ls', e', h'⟩ := am_ls.st2 hl hok hB1
      exact W.lst hx hb hd e' (kk ls' H locs h' hR hf)
    · cases hev
  case iinc i n =>
    simp only [am_I1] at hev
    cases hv : lget x.1 i with
    | inl v =>
      simp only [hv] at hev
      obtain ⟨B, hB1, rfl⟩ := Option.map_eq_some_iff.mp hev
      intro LS H locs hl hR hf
      obtain ⟨ls', e', h'⟩ := am_ls.st1 hl (v := vI (v + n)) hok rfl hB1
      refine W.inc hx hb hd (hl.at hv (by intro q; cases q)) ?_ (kk ls' H locs h' hR hf)
      rw [← Int32.ofInt_add]
      exact e'
    | inr v => simp only [hv] at hev; cases hev
  case dup =>
    simp only [am_I1] at hev
    split at hev
    · split at hev <;> cases hev
      rename_i hc
      exact fun LS H locs hl hR hf => lv_dup hx hb hd (by rw [am_rv_cat]; exact hc) (kk LS H locs hl hR hf)
    · cases hev
  case pop =>
    simp only [am_I1] at hev
    split at hev
    · split at hev <;> cases hev
      rename_i hc
      exact fun LS H locs hl hR hf => lv_pop hx hb hd (by rw [am_rv_cat]; exact hc) (kk LS H locs hl hR hf)
    · cases hev
  case dup2 =>
    simp only [am_I1] at hev
    split at hev
    · split at hev <;> cases hev
      rename_i hc
      exact fun LS H locs hl hR hf => lv_dup2_11 hx hb hd (by rw [am_rv_cat]; exact hc.1) (by rw [am_rv_cat]; exact hc.2) (kk LS H locs hl hR hf)
    · cases hev
  case iadd => exact at_b2 (g := (· + ·)) (fun a b => Int32.ofInt_add a b) (fun k => lv_iadd hx hb hd k) hev kk
  case isub => exact at_b2 (g := (· - ·)) (fun a b => Int32.ofInt_sub a b) (fun k => lv_isub hx hb hd k) hev kk
  case imul => exact at_b2 (g := (· * ·)) (fun a b => Int32.ofInt_mul a b) (fun k => lv_imul hx hb hd k) hev kk
  case ixor => exact at_b2 (g := (· ^^^ ·)) (fun a b => Int32.ofInt_toInt _) (fun k => lv_ixor hx hb hd k) hev kk
  case ineg =>
    simp only [am_I1] at hev
    split at hev <;> cases hev
    intro LS H locs hl hR hf
    refine lv_ineg hx hb hd ?_
    rw [← Int32.ofInt_neg]
    exact kk LS H locs hl hR hf
  case idiv => exact at_b3 (g := (· / ·)) (C := fun b => ¬ b = 0) (fun a b ha hb2 h => ⟨(i32_div ha hb2 (of_decide_eq_true h)).symm, i32_ne0 hb2 (of_decide_eq_true h)⟩) (fun h k => lv_idiv hx hb hd h k) hev kk
  case irem => exact at_b3 (g := fun a b => a - a / b * b) (C := fun b => ¬ b = 0) (fun a b ha hb2 h => ⟨i32_rem ha hb2 (of_decide_eq_true h), i32_ne0 hb2 (of_decide_eq_true h)⟩) (fun h k => lv_irem hx hb hd h k) hev kk
  case ishr => exact at_b3 (g := fun a b => a >>> (b &&& 31)) (C := fun _ => True) (fun a b ha hb2 h => ⟨i32_shr ha (of_decide_eq_true h), trivial⟩) (fun _ k => lv_ishr hx hb hd k) hev kk
  case iand => exact at_b3 (g := fun a b => a &&& b) (C := fun _ => True) (fun a b ha hb2 h => ⟨i32_and ha (of_decide_eq_true h), trivial⟩) (fun _ k => lv_iand hx hb hd k) hev kk
  case i2l =>
    simp only [am_I1] at hev
    split at hev
    · split at hev <;> cases hev
      rename_i hc
      exact fun LS H locs hl hR hf => lv_i2l hx hb hd (Int32.toInt64_ofInt (by have := hc.1; show (-2147483648 : Int) ≤ _; omega) (by have := hc.2; show _ ≤ (2147483647 : Int); omega)) (kk LS H locs hl hR hf)
    · cases hev
  case ladd =>
    simp only [am_I1] at hev
    split at hev <;> cases hev
    exact fun LS H locs hl hR hf => lv_ladd hx hb hd (kk LS H locs hl hR hf)
  case lmul =>
    simp only [am_I1] at hev
    split at hev <;> cases hev
    exact fun LS H locs hl hR hf => lv_lmul hx hb hd (kk LS H locs hl hR hf)
  case lcmp =>
    simp only [am_I1] at hev
    split at hev <;> cases hev
    intro LS H locs hl hR hf
    refine W.lcmp hx hb hd ?_
    have := kk LS H locs hl hR hf
    simp only [List.map_cons, am_rv, Int32.ofInt_toInt] at this
    exact this
  case getfield i => exact at_get X hok hd hev kk
  case putfield i => exact at_put X hok.1 hok.2.1 hok.2.2 hd hev kk
  case getstatic i => exact at_gets X hok hd hev kk
  case iaload => exact at_iald X hd hev kk
  case baload => exact at_bald X hd hev kk
  case aaload => exact at_aald X hd hev kk
  case iastore => exact at_iast X hd hev kk
  case bastore => exact at_bast X hd hev kk
  case aastore => exact at_aast X hd hev kk
  case arraylength => exact at_alen X hd hev kk
  case newarray t => exact at_newa X hok hB hB' hd hev kk
  case anewarray i => exact at_anew X hok hB hB' hd hev kk
  case multianewarray i dd => exact at_multi X hok hB hB' hd hev kk
  case new i => exact at_new X hok hB hB' hd hev kk
  case invokevirtual i => exact at_invV X hS hd1 hd2 hok hB hB' hd hev kk
  case invokespecial i =>
    have hok : (if a1 = 998 then _ else _ : Prop) := hok
    by_cases h998 : a1 = 998
    · subst h998
      rw [if_pos rfl] at hok
      exact at_oini X hok hd hev kk
    · rw [if_neg h998] at hok
      simp only [am_I1, if_neg h998] at hev
      exact at_invI X hS hd1 hd2 hok hB hB' hd hev kk
  case invokestatic i =>
    have hok : (if a1 = 999 then _ else _ : Prop) := hok
    by_cases h999 : a1 = 999
    · subst h999
      rw [if_pos rfl] at hok
      simp only [am_I1, if_true] at hev
      exact at_copy X hok hd hev kk
    · rw [if_neg h999] at hok
      simp only [am_I1, if_neg h999] at hev
      exact at_invS X hS hd1 hd2 hok hB hB' hd hev kk
end SOUND
