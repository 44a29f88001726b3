/-! A program that decides whether a tree is the code. -/
def ck1 (o nL : Nat) (ini : Bool) (ai : am_I) : Bool := match ai.1 with
  | .bipush n => decide (-128 ≤ n ∧ n ≤ 127)
  | .sipush n => decide (-32768 ≤ n ∧ n ≤ 32767)
  | .ldc i => (lk_ld o).contains (i, ai.2.1)
  | .ldc2_w i => (lk_l2 o).contains (i, ai.2.1)
  | .istore i => decide (i < nL)
  | .istore_n i => decide (i.val < nL)
  | .astore i => decide (i < nL)
  | .astore_n i => decide (i.val < nL)
  | .lstore_n i => decide (i.val + 1 < nL)
  | .iinc i _ => decide (i < nL)
  | .getfield i => (lk_fl o).contains (i, ai.2.1, ai.2.2.1)
  | .putfield i => (lk_fl o).contains (i, ai.2.1, ai.2.2.1) && (decide (am_fk (am_ty ai.2.1 ai.2.2.1) = ai.2.2.2) && (decide (((am_q ai.2.1).2.1 ai.2.2.1).2.2.2 = false) || (ini && (decide (((am_q ai.2.1).2.1 ai.2.2.1).2.2.2 = true) && decide (((am_q ai.2.1).2.1 ai.2.2.1).1 = am_own o)))))
  | .getstatic i => (lk_gs o).contains (i, ai.2.1)
  | .newarray t => decide ((t = .int ∧ ai.2.1 = 20) ∨ (t = .boolean ∧ ai.2.1 = 21))
  | .anewarray i => (lk_an o).contains (i, ai.2.1)
  | .multianewarray i d => decide (d = 2) && (lk_mu o).contains i
  | .new i => (lk_nw o).contains (i, ai.2.1)
  | .invokevirtual i => (lk_iv o).contains (i, ai.2.1, ai.2.2.1, ai.2.2.2)
  | .invokespecial i => if ai.2.1 = 998 then (lk_oi o).contains i else (lk_is o).contains (i, ai.2.1, ai.2.2.1)
  | .invokestatic i => if ai.2.1 = 999 then (lk_ac o).contains i else (lk_st o).contains (i, ai.2.1, ai.2.2.1)
  | _ => true
theorem ck1_ok {o nL : Nat} {ini : Bool} {ai : am_I} (h : ck1 o nL ini ai = true) : am_ok1 am_tb (am_own o) ini nL ai := by
  obtain ⟨i, a1, a2, a3⟩ := ai
  cases i <;> try exact trivial
  case bipush n => simp only [ck1, decide_eq_true_eq] at h; exact h
  case sipush n => simp only [ck1, decide_eq_true_eq] at h; exact h
  case ldc i => exact lk_ld_ok o (i, a1) (List.contains_iff_mem.mp h)
  case ldc2_w i => exact lk_l2_ok o (i, a1) (List.contains_iff_mem.mp h)
  case istore i => simp only [ck1, decide_eq_true_eq] at h; exact h
  case istore_n i => simp only [ck1, decide_eq_true_eq] at h; exact h
  case astore i => simp only [ck1, decide_eq_true_eq] at h; exact h
  case astore_n i => simp only [ck1, decide_eq_true_eq] at h; exact h
  case lstore_n i => simp only [ck1, decide_eq_true_eq] at h; exact h
  case iinc i n => simp only [ck1, decide_eq_true_eq] at h; exact h
  case getfield i => exact lk_fl_ok o (i, a1, a2) (List.contains_iff_mem.mp h)
  case putfield i =>
    simp only [ck1, Bool.and_eq_true, Bool.or_eq_true, decide_eq_true_eq] at h
    exact ⟨lk_fl_ok o (i, a1, a2) (List.contains_iff_mem.mp h.1), h.2.1, h.2.2⟩
  case getstatic i => exact lk_gs_ok o (i, a1) (List.contains_iff_mem.mp h)
  case newarray t => simp only [ck1, decide_eq_true_eq] at h; exact h
  case anewarray i => exact lk_an_ok o (i, a1) (List.contains_iff_mem.mp h)
  case multianewarray i d =>
    simp only [ck1, Bool.and_eq_true, decide_eq_true_eq] at h
    exact ⟨h.1, lk_mu_ok o i (List.contains_iff_mem.mp h.2)⟩
  case new i => exact lk_nw_ok o (i, a1) (List.contains_iff_mem.mp h)
  case invokevirtual i => exact lk_iv_ok o (i, a1, a2, a3) (List.contains_iff_mem.mp h)
  case invokespecial i =>
    simp only [ck1] at h
    show (if a1 = 998 then _ else _ : Prop)
    by_cases h998 : a1 = 998
    · rw [if_pos h998] at h ⊢
      exact lk_oi_ok o i (List.contains_iff_mem.mp h)
    · rw [if_neg h998] at h ⊢
      exact (lk_is_ok o (i, a1, a2) (List.contains_iff_mem.mp h)).2
  case invokestatic i =>
    simp only [ck1] at h
    show (if a1 = 999 then _ else _ : Prop)
    by_cases h999 : a1 = 999
    · rw [if_pos h999] at h ⊢
      exact lk_ac_ok o i (List.contains_iff_mem.mp h)
    · rw [if_neg h999] at h ⊢
      exact (lk_st_ok o (i, a1, a2) (List.contains_iff_mem.mp h)).2
def ckL (o nL : Nat) (ini : Bool) (cc : ByteArray) : List am_I → Nat → Option Nat
  | [], pc => some pc
  | i :: r, pc => if ck1 o nL ini i = true ∧ decode cc pc = .ok (i.1, am_len i.1) then ckL o nL ini cc r (pc + am_len i.1) else none
theorem ckL_ok {o nL : Nat} {ini : Bool} {cc : ByteArray} : ∀ (is : List am_I) {pc pc' : Nat}, ckL o nL ini cc is pc = some pc' → am_okL am_tb (am_own o) ini nL cc is pc pc'
  | [], pc, pc', h => (Option.some.inj h).symm
  | i :: r, pc, pc', h => by
    unfold ckL at h
    split at h
    · rename_i hc
      exact ⟨ck1_ok hc.1, hc.2, ckL_ok r h⟩
    · cases h
def ckt (cc : ByteArray) (ret : Option FieldType) (i : Instr) (ts : List Nat) (pc : Nat) : Option Nat := match i with
  | .goto off => if decode cc pc = .ok (.goto off, 3) ∧ (pc : Int) + off = ((ts.headD 0 : Nat) : Int) then some (pc + 3) else none
  | .ifCond c off => if decode cc pc = .ok (.ifCond c off, 3) ∧ (pc : Int) + off = ((ts.headD 0 : Nat) : Int) then some (pc + 3) else none
  | .if_icmp c off => if decode cc pc = .ok (.if_icmp c off, 3) ∧ (pc : Int) + off = ((ts.headD 0 : Nat) : Int) then some (pc + 3) else none
  | .tableswitch dd lo hi offs => match decode cc pc with
    | .ok (j, n) => if j = .tableswitch dd lo hi offs ∧ (pc : Int) + dd = ((ts.headD 0 : Nat) : Int) ∧ (List.range (hi - lo + 1).toNat).all (fun j => match offs[j]? with
        | some off => decide ((pc : Int) + off = ((ts.getD (j + 1) 0 : Nat) : Int))
        | none => false) = true then some (pc + n) else none
    | .error _ => none
  | .ireturn => if decode cc pc = .ok (.ireturn, 1) ∧ ((ts.headD 0 = 0 ∧ ret = some .int) ∨ (ts.headD 0 = 1 ∧ ret = some .boolean)) then some (pc + 1) else none
  | .lreturn => if decode cc pc = .ok (.lreturn, 1) ∧ ret = some .long then some (pc + 1) else none
  | .areturn => if decode cc pc = .ok (.areturn, 1) ∧ ret = some (.object "WeylWords$Basis") then some (pc + 1) else none
  | .return_ => if decode cc pc = .ok (.return_, 1) ∧ ret = none then some (pc + 1) else none
  | _ => none
theorem ckt_ok {cc : ByteArray} {ret : Option FieldType} {i : Instr} {ts : List Nat} {pc pc' : Nat} (h : ckt cc ret i ts pc = some pc') : am_okt cc ret i ts pc pc' := by
  cases i <;> simp only [ckt] at h <;> try (cases h; done)
  case goto off =>
    split at h
    · rename_i hc; cases h; exact ⟨hc.1, rfl, hc.2⟩
    · cases h
  case ifCond c off =>
    split at h
    · rename_i hc; cases h; exact ⟨hc.1, rfl, hc.2⟩
    · cases h
  case if_icmp c off =>
    split at h
    · rename_i hc; cases h; exact ⟨hc.1, rfl, hc.2⟩
    · cases h
  case tableswitch dd lo hi offs =>
    split at h
    · rename_i j n hd
      split at h
      · rename_i hc
        cases h
        obtain ⟨rfl, h2, h3⟩ := hc
        refine ⟨n, hd, rfl, h2, fun k hk => ?_⟩
        have h4 := List.all_eq_true.mp h3 k (List.mem_range.mpr (by omega))
        cases ho : offs[k]? with
        | none => simp only [ho] at h4; cases h4
        | some off => simp only [ho, decide_eq_true_eq] at h4; exact ⟨off, rfl, h4⟩
      · cases h
    · cases h
  case ireturn =>
    split at h
    · rename_i hc; cases h; exact ⟨hc.1, rfl, hc.2⟩
    · cases h
  case lreturn =>
    split at h
    · rename_i hc; cases h; exact ⟨hc.1, rfl, hc.2⟩
    · cases h
  case areturn =>
    split at h
    · rename_i hc; cases h; exact ⟨hc.1, rfl, _, hc.2⟩
    · cases h
  case return_ =>
    split at h
    · rename_i hc; cases h; exact ⟨hc.1, rfl, hc.2⟩
    · cases h
def ckT (o nL : Nat) (ini : Bool) (cc : ByteArray) (ret : Option FieldType) : am_T → Nat → Option Nat
  | .leaf q, pc => match q.2 with
    | none => ckL o nL ini cc q.1 pc
    | some r => (ckL o nL ini cc q.1 pc).bind (ckt cc ret r.1 r.2)
  | .branch 0 a b, pc => (ckT o nL ini cc ret a pc).bind (ckT o nL ini cc ret b)
  | .branch (n + 1) a _, pc => (ckT o nL ini cc ret a pc).bind fun pc' => if n % 2 = 0 then (if n / 2 = pc' then some pc' else none) else (if n / 2 = pc then some pc' else none)
theorem ckT_ok {o nL : Nat} {ini : Bool} {cc : ByteArray} {ret : Option FieldType} : ∀ (t : am_T) {pc pc' : Nat}, ckT o nL ini cc ret t pc = some pc' → am_okT am_tb (am_own o) ini nL cc ret t pc pc'
  | .leaf (is, none), pc, pc', h => ckL_ok is h
  | .leaf (is, some r), pc, pc', h => by
    obtain ⟨pc1, h1, h2⟩ := Option.bind_eq_some_iff.mp h
    exact ⟨pc1, ckL_ok is h1, ckt_ok h2⟩
  | .branch 0 a b, pc, pc', h => by
    obtain ⟨pc1, h1, h2⟩ := Option.bind_eq_some_iff.mp h
    exact ⟨pc1, ckT_ok a h1, ckT_ok b h2⟩
  | .branch (n + 1) a _, pc, pc', h => by
    obtain ⟨pc1, h1, h2⟩ := Option.bind_eq_some_iff.mp h
    by_cases hn : n % 2 = 0
    · rw [if_pos hn] at h2
      split at h2
      · rename_i he
        cases h2
        exact ⟨ckT_ok a h1, by rw [if_pos hn]; exact he⟩
      · cases h2
    · rw [if_neg hn] at h2
      split at h2
      · rename_i he
        cases h2
        exact ⟨ckT_ok a h1, by rw [if_neg hn]; exact he⟩
      · cases h2
