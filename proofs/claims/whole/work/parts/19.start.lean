/-! THE CLAIM OUT OF ONE WALK OF THE LAW'S BODY. Your part is whole_start (and what it stands on); all else here is the same for every law, but numbers. -/
def R_law : String := "WeylWordsLaw"
def lw_P (b : Addr) (xs : List Int32) (args : Array Value) (s : State) : Prop := args = #[.ref b] ∧ s.IntsAt b xs ∧ xs.length ≤ 3072 ∧ (Jvm.Cond.and given_1 narrow_1).before args s = true
def lw_Q (_ : Array Value) (s : State) (o : Outcome) (t : State) : Prop := o = .returned (some (.int 1)) ∧ Framed s o t [] 600000 7302250
def lw_Z (below : List Frame) (a : Array Value) (s : State) : State → Prop := fun t => ∃ o, t.status = .running ∧ Ended t below o ∧ lw_Q a s o t
/-- the law's own end, with 1 on the stack, nothing written that was there before, its room as the claim has it -/
theorem lw_ret {p : Program} {l : Launch} {e : Env} {s : State} {m : MethodId} {below : List Frame} {meth : Method} {c : Code} {b : Nat} (hx : p.tables.exec = Jvm.exec) (hb : c.code = code) (hr : meth.sig.returnType = ret) (hlocks : meth.locks = false) {pc : Nat} {H : Heap} {ls : Array Slot} (hdg : decode code pc = .ok (.ireturn, 1)) : W p l e room_1 s m #[Value.ref b] below meth c H [] 600000 7302250 (lw_Z below #[Value.ref b] s) (F0 m pc ls [.int 1]) := by
  intro T hT X
  obtain ⟨fs, hret, hrun, hended, hW, hframe⟩ := X.leave (v := some (.int 1)) (hlocks := hlocks) (fun h => by rw [hr] at h; cases h)
  have hmeth' : T.vm.method? m = some meth := X.method'
  refine ⟨T.setFrames fs, ?_, .returned (some (.int 1)), hrun, hended, rfl, ⟨_, rfl⟩, hW, hframe⟩
  jvm_step X.here [X.here.top, hx, hb, hdg, hmeth', hr, ret, narrow_b1]
  (try refine ⟨rfl, ?_⟩); (try refine ⟨rfl, ?_⟩)
  first | (intro acts; rw [hret _ acts rfl rfl rfl]) | rw [hret _ _ rfl rfl rfl]
  exact Steps.refl _
/-- what holds at the law's entry: the machine, the code, the tables' words (any of lw_tbl by 'hts w (by decide +kernel)'), the script of L ints xs at the cell b, what the Statement gives of the start (any of its parts by flat_of_before) -/
def lw_At (p : Program) (s : State) (m : MethodId) (meth : Method) (c : Code) (b L : Nat) (xs : Nat → Int32) : Prop :=
  p.tables.exec = Jvm.exec ∧ c.code = code ∧ meth.sig.returnType = ret ∧ c.maxLocals = 4 ∧ s.vm.findClass R_law = some m.cls ∧ (∀ w ∈ lw_tbl, w.before #[Value.ref b] s = true) ∧ va_X b L xs s s.heap ∧ b < s.heap.size ∧ meth.locks = false ∧ (Jvm.Cond.and given_1 narrow_1).before #[Value.ref b] s = true
/-- the two rows of the class that are read only -/
def am_xl : List Nat := [0, 1, 0, 2, 1, 0, 3, 2, 1, 0, 4, 3, 2, 1, 0, 5, 4, 3, 2, 1, 0, 6, 5, 4, 3, 2, 1, 0, 7, 6, 5, 4, 3, 2, 1, 0, 8, 7, 6, 5, 4, 3, 2, 1, 0, 9, 8, 7, 6, 5, 4, 3, 2, 1, 0, 10, 9, 8, 7, 6, 5, 4, 3, 2, 1, 0, 11, 10, 9, 8, 7, 6, 5, 4, 3, 2, 1, 0, 12, 11, 10, 9, 8, 7, 6, 5, 4, 3, 2, 1, 0]
def am_dl : List Nat := [0, 0, 1, 0, 1, 2, 0, 1, 2, 3, 0, 1, 2, 3, 4, 0, 1, 2, 3, 4, 5, 0, 1, 2, 3, 4, 5, 6, 0, 1, 2, 3, 4, 5, 6, 7, 0, 1, 2, 3, 4, 5, 6, 7, 8, 0, 1, 2, 3, 4, 5, 6, 7, 8, 9, 0, 1, 2, 3, 4, 5, 6, 7, 8, 9, 10, 0, 1, 2, 3, 4, 5, 6, 7, 8, 9, 10, 11, 0, 1, 2, 3, 4, 5, 6, 7, 8, 9, 10, 11, 12]
def am_xat (j : Nat) : Nat := am_xl.getD j 0
def am_dat (j : Nat) : Nat := am_dl.getD j 0
theorem st_x : ∀ j, j < 91 → Cond.eq (.elem (.static "WeylWords$Operator" "X_AT" "[I") (.int (Int32.ofNat j))) (.int (Int32.ofNat (am_xat j))) ∈ flatC (Jvm.Cond.and given_1 narrow_1) := by decide +kernel
theorem st_d : ∀ j, j < 91 → Cond.eq (.elem (.static "WeylWords$Operator" "D_AT" "[I") (.int (Int32.ofNat j))) (.int (Int32.ofNat (am_dat j))) ∈ flatC (Jvm.Cond.and given_1 narrow_1) := by decide +kernel
/-- the cells at the start: the script, the two rows -/
def am_h0 (L : Nat) (xs : Nat → Int) : am_H := (3, fun k => if k = 0 then (30, L, fun j => vI (xs j)) else if k = 1 then (30, 91, fun j => vI (am_xat j)) else if k = 2 then (30, 91, fun j => vI (am_dat j)) else (99, 0, fun _ => vU))
/-- THE CLAIM, over the abstract machine alone -/
def am_Pure : Prop := ∀ (L : Nat) (xs : Nat → Int), L ≤ 3072 → (∀ j, inR (xs j)) → ∃ ls' h', am_ev (am_run am_tb 60) tL_law ([vR 0, vU, vU, vU], [], am_h0 L xs) = some (1, ls', [vI 1], h') ∧ h'.1 ≤ 600000 ∧ am_sl h' ≤ 7302250
theorem st_static {args : Array Value} {s : State} {n : String} {f : Nat → Nat} {A : Nat → Prop} (h : (Jvm.Cond.and given_1 narrow_1).before args s = true) (hl : (Cond.laysStatic "WeylWords$Operator" n "[I").before args s = true) (hini : (Cond.initialized "WeylWords$Operator").before args s = true)
    (h1 : Cond.arrayOf (.static "WeylWords$Operator" n "[I") .int ∈ flatC (Jvm.Cond.and given_1 narrow_1)) (h2 : Cond.eq (.length (.static "WeylWords$Operator" n "[I")) (.int 91) ∈ flatC (Jvm.Cond.and given_1 narrow_1)) (h3 : ∀ j, j < 91 → Cond.eq (.elem (.static "WeylWords$Operator" n "[I") (.int (Int32.ofNat j))) (.int (Int32.ofNat (f j))) ∈ flatC (Jvm.Cond.and given_1 narrow_1))
    (hA : ∀ a : Nat, a < s.heap.size → ¬ A a) : ∃ t : Nat, va_Z "WeylWords$Operator" n "[I" (.ref t) A s s.heap ∧ va_T .int t 91 (fun j => .int (Int32.ofNat (f j))) A s s.heap := by
  have hs := flat_of_before _ h
  obtain ⟨t, ht, hT⟩ := va_Tof (N := 91) (f := fun j => .int (Int32.ofNat (f j))) (by decide) (hs _ h1) (va_eqt (hs _ h2)) (fun j hj => va_eqt (hs _ (h3 j hj))) hA
  exact ⟨t, va_Zref hl hini ht hA, hT⟩
theorem am_arrs {args : Array Value} {s : State} (hts : ∀ w ∈ lw_tbl, w.before args s = true) : ∀ t, ∃ cA, 20 ≤ t → t ≤ 25 → am_KA s t cA := by
  intro t
  by_cases ht : 20 ≤ t ∧ t ≤ 25
  · rcases (show t = 20 ∨ t = 21 ∨ t = 22 ∨ t = 23 ∨ t = 24 ∨ t = 25 by omega) with rfl | rfl | rfl | rfl | rfl | rfl
    · obtain ⟨c, k, comp, g1, g2, g3⟩ := Cond.arrayClass_spec (hts _ tb_ai)
      exact ⟨c, fun _ _ => ⟨g1, k, comp, g2, g3, fun w => by omega⟩⟩
    · obtain ⟨c, k, comp, g1, g2, g3⟩ := Cond.arrayClass_spec (hts _ tb_ab)
      exact ⟨c, fun _ _ => ⟨g1, k, comp, g2, g3, fun w => by omega⟩⟩
    · obtain ⟨comp, c, k, g1, g2, g3, g4, g5⟩ := arrayOverA_spec (hts _ tb_aa)
      exact ⟨c, fun _ _ => ⟨g5, k, comp, g3, g4, fun _ => g1⟩⟩
    · obtain ⟨comp, c, k, g1, g2, g3, g4, g5⟩ := Cond.arrayOver_spec (hts _ tb_ao23)
      exact ⟨c, fun _ _ => ⟨g5, k, comp, g3, g4, fun _ => g1⟩⟩
    · obtain ⟨comp, c, k, g1, g2, g3, g4, g5⟩ := Cond.arrayOver_spec (hts _ tb_ao24)
      exact ⟨c, fun _ _ => ⟨g5, k, comp, g3, g4, fun _ => g1⟩⟩
    · obtain ⟨comp, c, k, g1, g2, g3, g4, g5⟩ := Cond.arrayOver_spec (hts _ tb_ao25)
      exact ⟨c, fun _ _ => ⟨g5, k, comp, g3, g4, fun _ => g1⟩⟩
  · exact ⟨0, fun h1 h2 => absurd ⟨h1, h2⟩ ht⟩
theorem am_clss {args : Array Value} {s : State} (hts : ∀ w ∈ lw_tbl, w.before args s = true) : ∀ c, ∃ q : ClassId × (Nat → Nat), c < 13 → u_Kn s (am_q c).1 (am_q c).2.1 (am_n c) q.1 q.2 := by
  intro c
  by_cases hc : c < 13
  · obtain ⟨cC, iS, h⟩ := u_known (ws := lw_tbl) hts (tb_lay c hc) (hts _ (tb_inst c hc))
    exact ⟨(cC, iS), fun _ => h⟩
  · exact ⟨(0, fun _ => 0), fun h => absurd h hc⟩
theorem am_kws {args : Array Value} {s : State} (hts : ∀ w ∈ lw_tbl, w.before args s = true) : am_Kw s := by
  intro w hw hk
  have h1 := hts w hw
  cases w <;> try cases hk
  case arrayOver t =>
    cases t <;> try cases hk
    case object C => exact h1
    case array t => exact h1
  case methodLinkNest a i x b => exact va_Nw.of rfl h1
theorem whole_of (hp : am_Pure) {p : Program} {e : Env} {s : State} {m : MethodId} {below : List Frame} {meth : Method} {c : Code} (l : Launch) {b L : Nat} {xs : Nat → Int32} (hL : L ≤ 3072) (C0 : lw_At p s m meth c b L xs) : W p l e room_1 s m #[Value.ref b] below meth c s.heap [] 0 0 (lw_Z below #[Value.ref b] s) (entryFrame m ([Value.ref b] : List Value).toArray 4) := by
  obtain ⟨hx, hb, hr, hml, hown, hts, hX, hbl, hlocks, hgv⟩ := C0
  have hA : ∀ a : Nat, a < s.heap.size → ¬ (s.heap.size ≤ a) := fun a ha => by omega
  obtain ⟨tX, zX, vX⟩ := st_static (n := "X_AT") (f := am_xat) (A := fun q => s.heap.size ≤ q) hgv (hts _ (am_in9 542 (by decide +kernel))) (hts _ (tb_ini 6 (by decide))) (by decide +kernel) (by decide +kernel) st_x hA
  obtain ⟨tD, zD, vD⟩ := st_static (n := "D_AT") (f := am_dat) (A := fun q => s.heap.size ≤ q) hgv (hts _ (am_in9 544 (by decide +kernel))) (hts _ (tb_ini 6 (by decide))) (by decide +kernel) (by decide +kernel) st_d hA
  have hcl := am_clss hts
  have har := am_arrs hts
  let D : am_D := ((b, tX, tD, s.heap.size), fun c => (Classical.choose (hcl c)).1, fun c => (Classical.choose (hcl c)).2, fun t => Classical.choose (har t))
  have hK : am_K D s := by
    refine ⟨⟨fun c q hq => ?_, fun k q hk => by simp at hk⟩, fun t h1 h2 => Classical.choose_spec (har t) h1 h2, am_kws hts⟩
    have hc : c < 13 := (List.getElem?_eq_some_iff.mp hq).1
    have hq' : q = am_q c := Option.some.inj (hq.symm.trans (tb_q c hc).1)
    subst hq'
    rw [(tb_q c hc).2]
    exact Classical.choose_spec (hcl c) hc
  obtain ⟨ls', h', hev, hB1, hB2⟩ := hp L (fun j => (xs j).toInt) hL (fun j => ⟨by have := (xs j).le_toInt; omega, by have := (xs j).toInt_lt; omega⟩)
  have X : am_Fx p room_1 s m #[Value.ref b] meth c code 4 (am_own 15) false D :=
    ⟨hx, hb, hml, hown, fun w hw => hts w (List.mem_filter.mp hw).1, hK, by decide, by decide, fun h => by cases h⟩
  have hS := am_run_ok l D am_tb ok_tb 60
  have hle := am_ev_le hS _ okT_law hev
  have hBB : am_B room_1 (am_h0 L fun j => (xs j).toInt) (am_h0 L fun j => (xs j).toInt) := ⟨Nat.le_refl _, Nat.le_refl _, by rw [Nat.sub_self]; exact Nat.zero_le _, by rw [Nat.sub_self]; exact Nat.zero_le _⟩
  have hBB' : am_B room_1 (am_h0 L fun j => (xs j).toInt) h' := ⟨hle.1, hle.2, Nat.le_trans (Nat.sub_le _ _) hB1, Nat.le_trans (Nat.sub_le _ _) hB2⟩
  have hR : am_R D s (am_h0 L fun j => (xs j).toInt) s.heap := by
    obtain ⟨scr, c1, c2, c3, c4, c5⟩ := hX
    obtain ⟨cx, x1, x2, x3, x4, x5, x6, -⟩ := vX
    obtain ⟨cd, d1, d2, d3, d4, d5, d6, -⟩ := vD
    refine ⟨Nat.le_refl 3, rfl, ⟨hbl, (Array.getElem?_eq_some_iff.mp x1).1, (Array.getElem?_eq_some_iff.mp d1).1⟩, fun k hk => ?_, fun k hk => ?_, zX, zD⟩
    · rcases (show k = 0 ∨ k = 1 ∨ k = 2 by omega) with rfl | rfl | rfl <;> exact Or.inl rfl
    · by_cases h0 : k = 0
      · subst h0
        exact ⟨by show 0 < 3; omega, scr, c1, Or.inr (Or.inr ⟨rfl, c2, c3, ⟨by rw [c4]; exact Nat.le_refl L, by rw [c4]; rfl⟩, fun j hj => by rw [c5 j hj]; show some (Value.int (xs j)) = some (Value.int (Int32.ofInt (xs j).toInt)); rw [Int32.ofInt_toInt]⟩)⟩
      · by_cases h1 : k = 1
        · subst h1
          exact ⟨by show 1 < 3; omega, cx, x1, Or.inr (Or.inr ⟨rfl, x2, x3, ⟨x4, x5⟩, fun j hj => x6 j hj⟩)⟩
        · by_cases h2 : k = 2
          · subst h2
            exact ⟨by show 2 < 3; omega, cd, d1, Or.inr (Or.inr ⟨rfl, d2, d3, ⟨d4, d5⟩, fun j hj => d6 j hj⟩)⟩
          · refine absurd ?_ hk
            show (if k = 0 then _ else if k = 1 then _ else if k = 2 then _ else (99, 0, fun _ => vU) : am_C).1 = 99
            rw [if_neg h0, if_neg h1, if_neg h2]
  have main : am_At p l e room_1 s m #[Value.ref b] below meth c (lw_Z below #[Value.ref b] s) D 4 (am_h0 L fun j => (xs j).toInt) ([vR 0, vU, vU, vU], [], am_h0 L fun j => (xs j).toInt) 0 := by
    refine am_ev_ok X hS (by decide) (by decide) _ okT_law hev hBB hBB' ⟨fun q => by omega, fun t ht => by omega, fun _ i ts pcx pcy hokt ht => ?_⟩
    intro LS H locs hl hR hf
    have fin : decode code pcx = .ok (.ireturn, 1) → W p l e room_1 s m #[Value.ref b] below meth c H locs (h'.1 - (am_h0 L fun j => (xs j).toInt).1) (am_sl h' - am_sl (am_h0 L fun j => (xs j).toInt)) (lw_Z below #[Value.ref b] s) (F0 m pcx LS [.int 1]) := fun hd => by
      refine va_forget hf ?_
      refine W.widen (k := 600000) (n := 7302250) hBB'.2.2.1 hBB'.2.2.2 ?_
      exact lw_ret hx hb hr hlocks hd
    cases i <;> simp only [am_t] at ht <;> try (cases ht; done)
    case ifCond cd off =>
      split at ht
      · have := congrArg Prod.fst (Option.some.inj ht); split at this <;> cases this
      · cases ht
    case ireturn => exact fin hokt.1
  have hen := main _ s.heap [] (am_in_ls D.1 [vR 0] 4 (by decide)) hR (fun q hq => absurd hq List.not_mem_nil)
  rw [show (([vR 0, vU, vU, vU] : List am_V), ([] : List am_V), am_h0 L fun j => (xs j).toInt).2.2 = am_h0 L fun j => (xs j).toInt from rfl, Nat.sub_self, Nat.sub_self] at hen
  rw [lg_entry_eq]
  exact hen
