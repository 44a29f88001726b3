/-! One step of the abstract machine is one of the machine: what needs no tables. -/
def am_sm (f : Nat → am_C) : Nat → Nat
  | 0 => 0
  | n + 1 => am_sm f n + (f n).2.1
def am_sl (h : am_H) : Nat := am_sm h.2 h.1
theorem am_sm_eq {f g : Nat → am_C} {n : Nat} (h : ∀ k, k < n → (f k).2.1 = (g k).2.1) : am_sm f n = am_sm g n := by
  induction n with
  | zero => rfl
  | succ n ih =>
    show am_sm f n + _ = am_sm g n + _
    rw [ih (fun k hk => h k (by omega)), h n (by omega)]
theorem am_sl_put {h : am_H} {a : Nat} {x : am_C} (hx : x.2.1 = (h.2 a).2.1) : am_sl (am_put h a x) = am_sl h := by
  refine am_sm_eq fun k _ => ?_
  show (au h.2 a x k).2.1 = _
  by_cases hk : k = a
  · rw [hk, au_s, hx]
  · rw [au_n _ _ hk]
theorem am_sl_new {h : am_H} {x : am_C} : am_sl (am_new h x) = am_sl h + x.2.1 := by
  show am_sm (au h.2 h.1 x) h.1 + (au h.2 h.1 x h.1).2.1 = _
  rw [au_s]
  congr 1
  exact am_sm_eq fun k hk => by rw [au_n _ _ (by omega)]
def am_q (c : Nat) : vw_C := match c with
  | 0 => (RX0, TX0, 3) | 1 => (RX1, TX1, 3) | 2 => (RX2, TX2, 6) | 3 => (RX3, TX3, 11) | 4 => (RX4, TX4, 8) | 5 => (RX5, TX5, 3) | 6 => (RX6, TX6, 1) | 7 => (RX7, TX7, 7) | 8 => (RX8, TX8, 3) | 9 => (RX9, TX9, 4) | 10 => (RX10, TX10, 2) | 11 => (RX11, TX11, 13) | _ => (RX12, TX12, 31)
def am_len : Instr → Nat
  | .iload _ => 2 | .aload _ => 2 | .istore _ => 2 | .astore _ => 2 | .bipush _ => 2 | .newarray _ => 2 | .ldc _ => 2
  | .sipush _ => 3 | .iinc _ _ => 3 | .getfield _ => 3 | .putfield _ => 3 | .getstatic _ => 3 | .ldc2_w _ => 3 | .new _ => 3 | .anewarray _ => 3
  | .invokevirtual _ => 3 | .invokespecial _ => 3 | .invokestatic _ => 3 | .goto _ => 3 | .ifCond _ _ => 3 | .if_icmp _ _ => 3 | .multianewarray _ _ => 4
  | _ => 1
def am_fl (own : String) (i c k : Nat) : Prop := c < 13 ∧ k < am_n c ∧ Cond.fieldLink own i ((am_q c).2.1 k).1 ((am_q c).2.1 k).2.1 ((am_q c).2.1 k).2.2.1 ∈ lw_tbl
def am_okm (q : am_M) (n : Nat) : Prop := Cond.code q.2.1 q.2.2.1 q.2.2.2.1 q.2.2.2.2.1 ∈ lw_tbl ∧ Cond.initialized q.2.1.cls ∈ lw_tbl ∧ (q.2.1.cls ≠ "java/lang/invoke/MethodHandle" ∧ q.2.1.cls ≠ "java/lang/invoke/VarHandle") ∧ (parseMethodDescriptor q.2.1.desc).map (fun d => d.parameters.length) = some n ∧ q.2.2.2.1 ≤ 60
def am_lk (own : String) (i : Nat) (y : MethodName) : Prop := Cond.methodLink own i y ∈ lw_tbl ∨ ∃ host, Cond.methodLinkNest own i y host ∈ lw_tbl
def am_ok1 (tb : Nat → Option am_M) (own : String) (ini : Bool) (nL : Nat) (ai : am_I) : Prop := match ai.1 with
  | .bipush n => -128 ≤ n ∧ n ≤ 127
  | .sipush n => -32768 ≤ n ∧ n ≤ 32767
  | .ldc i => Cond.constant own i (Int32.ofInt ai.2.1) ∈ lw_tbl
  | .ldc2_w i => Cond.constantLong own i (Int64.ofNat ai.2.1) ∈ lw_tbl
  | .istore i => i < nL
  | .istore_n i => i.val < nL
  | .astore i => i < nL
  | .astore_n i => i.val < nL
  | .lstore_n i => i.val + 1 < nL
  | .iinc i _ => i < nL
  | .getfield i => am_fl own i ai.2.1 ai.2.2.1
  | .putfield i => am_fl own i ai.2.1 ai.2.2.1 ∧ am_fk (am_ty ai.2.1 ai.2.2.1) = ai.2.2.2 ∧ (((am_q ai.2.1).2.1 ai.2.2.1).2.2.2 = false ∨ (ini = true ∧ ((am_q ai.2.1).2.1 ai.2.2.1).2.2.2 = true ∧ ((am_q ai.2.1).2.1 ai.2.2.1).1 = own))
  | .getstatic i => (ai.2.1 = 1 ∧ Cond.fieldLink own i "WeylWords$Operator" "X_AT" "[I" ∈ lw_tbl) ∨ (ai.2.1 = 2 ∧ Cond.fieldLink own i "WeylWords$Operator" "D_AT" "[I" ∈ lw_tbl)
  | .newarray t => (t = .int ∧ ai.2.1 = 20) ∨ (t = .boolean ∧ ai.2.1 = 21)
  | .anewarray i => 23 ≤ ai.2.1 ∧ ai.2.1 ≤ 25 ∧ Cond.classLink own i (am_cn ai.2.1) ∈ lw_tbl
  | .multianewarray i d => d = 2 ∧ Cond.classLink own i "[[I" ∈ lw_tbl
  | .new i => ai.2.1 < 13 ∧ Cond.classLink own i (am_q ai.2.1).1 ∈ lw_tbl
  | .invokevirtual i => ∃ q, tb ai.2.1 = some q ∧ ai.2.2.2 < 13 ∧ q.2.1.cls = (am_q ai.2.2.2).1 ∧ am_okm q (ai.2.2.1 - 1) ∧ 1 ≤ ai.2.2.1 ∧ Cond.methodLink own i q.2.1 ∈ lw_tbl ∧ Cond.instanceMethod q.2.1 ∈ lw_tbl ∧ Cond.selects (am_q ai.2.2.2).1 q.2.1 q.2.1 ∈ lw_tbl
  | .invokespecial i => if ai.2.1 = 998 then Cond.methodLink own i Lib.objectInit ∈ lw_tbl else
      ∃ q, tb ai.2.1 = some q ∧ am_okm q (ai.2.2.1 - 1) ∧ 1 ≤ ai.2.2.1 ∧ am_lk own i q.2.1 ∧ Cond.instanceMethod q.2.1 ∈ lw_tbl ∧ q.2.1.name = "<init>" ∧ q.2.2.2.2.1 = none
  | .invokestatic i => if ai.2.1 = 999 then Cond.methodLink own i arraycopyName ∈ lw_tbl else
      ∃ q, tb ai.2.1 = some q ∧ am_okm q ai.2.2.1 ∧ am_lk own i q.2.1 ∧ Cond.static q.2.1 ∈ lw_tbl
  | _ => True
/-- what a frame of the machine is, at its method's beginning -/
def am_Fx (p : Program) (R : Room) (s : State) (m : MethodId) (args : Array Value) (meth : Method) (c : Code) (cc : ByteArray) (nL : Nat) (own : String) (ini : Bool) (D : am_D) : Prop :=
  p.tables.exec = Jvm.exec ∧ c.code = cc ∧ c.maxLocals = nL ∧ s.vm.findClass own = some m.cls ∧ (∀ w ∈ lw_good, w.before args s = true) ∧ am_K D s ∧ 1 ≤ R.frames ∧ 100 ≤ R.locals ∧ (ini = true → meth.name = "<init>")
def am_At (p : Program) (l : Launch) (e : Env) (R : Room) (s : State) (m : MethodId) (args : Array Value) (below : List Frame) (meth : Method) (c : Code) (Q : State → Prop) (D : am_D) (nL : Nat) (h0 : am_H) (x : am_S) (pc : Nat) : Prop :=
  ∀ (LS : Array Slot) (H : Heap) (locs : List Loc), am_ls D.1 nL x.1 LS → am_R D s x.2.2 H → (∀ q ∈ locs, D.1.2.2.2 ≤ q.base) → W p l e R s m args below meth c H locs (x.2.2.1 - h0.1) (am_sl x.2.2 - am_sl h0) Q (F0 m pc LS (x.2.1.map (am_rv D.1)))
section INS
variable {p : Program} {l : Launch} {e : Env} {R : Room} {s : State} {m : MethodId} {args : Array Value} {below : List Frame} {meth : Method} {c : Code} {Q : State → Prop} {cc : ByteArray} {nL : Nat} {own : String} {ini : Bool} {D : am_D} {h0 : am_H}
theorem at_b2 {f : Int → Int → Int} {g : Int32 → Int32 → Int32} {pc : Nat} (hr : ∀ a b : Int, Int32.ofInt (f a b) = g (Int32.ofInt a) (Int32.ofInt b))
    (row : ∀ {H : Heap} {locs : List Loc} {cells slots : Nat} {LS : Array Slot} {rest : List Value} {a b : Int32}, W p l e R s m args below meth c H locs cells slots Q (F0 m (pc + 1) LS (.int (g a b) :: rest)) → W p l e R s m args below meth c H locs cells slots Q (F0 m pc LS (.int b :: .int a :: rest)))
    {x y : am_S} (hev : am_b2 f x = some y) (k : am_At p l e R s m args below meth c Q D nL h0 y (pc + 1)) : am_At p l e R s m args below meth c Q D nL h0 x pc := by
  obtain ⟨ls, st, h⟩ := x
  rcases st with _ | ⟨b | b, _ | ⟨a | a, st⟩⟩ <;> try cases hev
  intro LS H locs hl hR hf
  refine row ?_
  have := k LS H locs hl hR hf
  simp only [List.map_cons, am_rv, hr] at this
  exact this
theorem at_b3 {ok : Int → Int → Bool} {f : Int → Int → Int} {g : Int32 → Int32 → Int32} {pc : Nat} {C : Int32 → Prop} (hr : ∀ a b : Int, inR a → inR b → ok a b = true → g (Int32.ofInt a) (Int32.ofInt b) = Int32.ofInt (f a b) ∧ C (Int32.ofInt b))
    (row : ∀ {H : Heap} {locs : List Loc} {cells slots : Nat} {LS : Array Slot} {rest : List Value} {a b : Int32}, C b → W p l e R s m args below meth c H locs cells slots Q (F0 m (pc + 1) LS (.int (g a b) :: rest)) → W p l e R s m args below meth c H locs cells slots Q (F0 m pc LS (.int b :: .int a :: rest)))
    {x y : am_S} (hev : am_b3 ok f x = some y) (k : am_At p l e R s m args below meth c Q D nL h0 y (pc + 1)) : am_At p l e R s m args below meth c Q D nL h0 x pc := by
  obtain ⟨ls, st, h⟩ := x
  rcases st with _ | ⟨b | b, _ | ⟨a | a, st⟩⟩ <;> try cases hev
  by_cases hc : inR a ∧ inR b ∧ ok a b = true
  · simp only [am_b3, if_pos hc] at hev
    cases hev
    intro LS H locs hl hR hf
    obtain ⟨e1, e2⟩ := hr a b hc.1 hc.2.1 hc.2.2
    refine row e2 ?_
    rw [e1]
    exact k LS H locs hl hR hf
  · simp only [am_b3, if_neg hc] at hev
    cases hev
theorem i32_ne0 {b : Int} (hb : inR b) (h : 0 < b) : ¬ Int32.ofInt b = 0 := by
  rw [i32_0, i32_eq hb inR_0]; omega
/-- a constant -/
theorem at_push {v : am_V} {pc n : Nat} {x : am_S} (row : ∀ {H : Heap} {locs : List Loc} {cells slots : Nat} {LS : Array Slot} {rest : List Value}, W p l e R s m args below meth c H locs cells slots Q (F0 m (pc + n) LS (am_rv D.1 v :: rest)) → W p l e R s m args below meth c H locs cells slots Q (F0 m pc LS rest))
    (k : am_At p l e R s m args below meth c Q D nL h0 (x.1, v :: x.2.1, x.2.2) (pc + n)) : am_At p l e R s m args below meth c Q D nL h0 x pc :=
  fun LS H locs hl hR hf => row (k LS H locs hl hR hf)
theorem at_ldi {i pc n : Nat} {x y : am_S} (row : ∀ {H : Heap} {locs : List Loc} {cells slots : Nat} {LS : Array Slot} {rest : List Value} {v : Int32}, LS[i]? = some (.val (.int v)) → W p l e R s m args below meth c H locs cells slots Q (F0 m (pc + n) LS (.int v :: rest)) → W p l e R s m args below meth c H locs cells slots Q (F0 m pc LS rest))
    (hev : am_ldi i x = some y) (k : am_At p l e R s m args below meth c Q D nL h0 y (pc + n)) : am_At p l e R s m args below meth c Q D nL h0 x pc := by
  intro LS H locs hl hR hf
  cases hv : lget x.1 i with
  | inl v =>
    simp only [am_ldi, hv] at hev
    cases hev
    exact row (hl.at hv (by intro q; cases q)) (k LS H locs hl hR hf)
  | inr v => simp only [am_ldi, hv] at hev; cases hev
theorem at_lda {i pc n : Nat} {x y : am_S} (row : ∀ {H : Heap} {locs : List Loc} {cells slots : Nat} {LS : Array Slot} {rest : List Value} {v : Nat}, LS[i]? = some (.val (.ref v)) → W p l e R s m args below meth c H locs cells slots Q (F0 m (pc + n) LS (.ref v :: rest)) → W p l e R s m args below meth c H locs cells slots Q (F0 m pc LS rest))
    (hev : am_lda i x = some y) (k : am_At p l e R s m args below meth c Q D nL h0 y (pc + n)) : am_At p l e R s m args below meth c Q D nL h0 x pc := by
  intro LS H locs hl hR hf
  rcases hv : lget x.1 i with v | (_ | v) | v | v <;> simp only [am_lda, hv] at hev <;> cases hev
  exact row (v := am_rho D.1 v) (hl.at hv (by intro q; cases q)) (k LS H locs hl hR hf)
theorem at_ldl {i pc n : Nat} {x y : am_S} (row : ∀ {H : Heap} {locs : List Loc} {cells slots : Nat} {LS : Array Slot} {rest : List Value} {v : Int64}, LS[i]? = some (.val (.long v)) → W p l e R s m args below meth c H locs cells slots Q (F0 m (pc + n) LS (.long v :: rest)) → W p l e R s m args below meth c H locs cells slots Q (F0 m pc LS rest))
    (hev : am_ldl i x = some y) (k : am_At p l e R s m args below meth c Q D nL h0 y (pc + n)) : am_At p l e R s m args below meth c Q D nL h0 x pc := by
  intro LS H locs hl hR hf
  rcases hv : lget x.1 i with v | (_ | v) | v | v <;> simp only [am_ldl, hv] at hev <;> cases hev
  exact row (v := v) (hl.at hv (by intro q; cases q)) (k LS H locs hl hR hf)
/-- a store of one slot: the machine's step is a row whose new names are those of storeLocals -/
theorem at_st {v : am_V} {i pc n : Nat} {ls B : List am_V} {st : List am_V} {h : am_H} (hi : i < nL) (hc : am_cat v = 1) (hs : am_st ls i v = some B)
    (row : ∀ {H : Heap} {locs : List Loc} {cells slots : Nat} {LS LS' : Array Slot} {rest : List Value}, storeLocals LS i (am_rv D.1 v) = some LS' → W p l e R s m args below meth c H locs cells slots Q (F0 m (pc + n) LS' rest) → W p l e R s m args below meth c H locs cells slots Q (F0 m pc LS (am_rv D.1 v :: rest)))
    (k : am_At p l e R s m args below meth c Q D nL h0 (B, st, h) (pc + n)) : am_At p l e R s m args below meth c Q D nL h0 (ls, v :: st, h) pc := by
  intro LS H locs hl hR hf
  obtain ⟨ls', e', h'⟩ := hl.st1 hi hc hs
  exact row e' (k ls' H locs h' hR hf)
variable {H : Heap} {locs : List Loc} {cells slots : Nat} {LS LS' : Array Slot} {rest : List Value} {pc : Nat}
theorem W.ist (hexec : p.tables.exec = Jvm.exec) (hb : c.code = cc) {i n : Nat} {v : Int32} (hdg : (∃ k : Fin 4, k.val = i ∧ n = 1 ∧ decode cc pc = .ok (.istore_n k, 1)) ∨ (n = 2 ∧ decode cc pc = .ok (.istore i, 2))) (hs : storeLocals LS i (.int v) = some LS') (kk : W p l e R s m args below meth c H locs cells slots Q (F0 m (pc + n) LS' rest)) : W p l e R s m args below meth c H locs cells slots Q (F0 m pc LS (.int v :: rest)) := by
  intro T hT X
  obtain ⟨t, a, b⟩ := kk T hT X
  refine ⟨t, ?_, b⟩
  rcases hdg with ⟨k, rfl, rfl, hdg⟩ | ⟨rfl, hdg⟩
  · jvm_step X.here [X.here.top, ↓top_set X.here.top, hexec, hb, hdg, hs]
    exact a
  · jvm_step X.here [X.here.top, ↓top_set X.here.top, hexec, hb, hdg, hs]
    exact a
theorem W.ast (hexec : p.tables.exec = Jvm.exec) (hb : c.code = cc) {i n : Nat} {v : Nat} (hdg : (∃ k : Fin 4, k.val = i ∧ n = 1 ∧ decode cc pc = .ok (.astore_n k, 1)) ∨ (n = 2 ∧ decode cc pc = .ok (.astore i, 2))) (hs : storeLocals LS i (.ref v) = some LS') (kk : W p l e R s m args below meth c H locs cells slots Q (F0 m (pc + n) LS' rest)) : W p l e R s m args below meth c H locs cells slots Q (F0 m pc LS (.ref v :: rest)) := by
  intro T hT X
  obtain ⟨t, a, b⟩ := kk T hT X
  refine ⟨t, ?_, b⟩
  rcases hdg with ⟨k, rfl, rfl, hdg⟩ | ⟨rfl, hdg⟩
  · jvm_step X.here [X.here.top, ↓top_set X.here.top, hexec, hb, hdg, hs, Value.isRef]
    exact a
  · jvm_step X.here [X.here.top, ↓top_set X.here.top, hexec, hb, hdg, hs, Value.isRef]
    exact a
theorem W.lst (hexec : p.tables.exec = Jvm.exec) (hb : c.code = cc) {k : Fin 4} {v : Int64} (hdg : decode cc pc = .ok (.lstore_n k, 1)) (hs : storeLocals LS k.val (.long v) = some LS') (kk : W p l e R s m args below meth c H locs cells slots Q (F0 m (pc + 1) LS' rest)) : W p l e R s m args below meth c H locs cells slots Q (F0 m pc LS (.long v :: rest)) := by
  intro T hT X
  obtain ⟨t, a, b⟩ := kk T hT X
  refine ⟨t, ?_, b⟩
  jvm_step X.here [X.here.top, ↓top_set X.here.top, hexec, hb, hdg, hs]
  exact a
theorem W.inc (hexec : p.tables.exec = Jvm.exec) (hb : c.code = cc) {i : Nat} {n : Int} {v : Int32} (hdg : decode cc pc = .ok (.iinc i n, 3)) (hg : LS[i]? = some (.val (.int v))) (hs : storeLocals LS i (.int (v + Int32.ofInt n)) = some LS') (kk : W p l e R s m args below meth c H locs cells slots Q (F0 m (pc + 3) LS' rest)) : W p l e R s m args below meth c H locs cells slots Q (F0 m pc LS rest) := by
  intro T hT X
  obtain ⟨t, a, b⟩ := kk T hT X
  refine ⟨t, ?_, b⟩
  jvm_step X.here [X.here.top, ↓top_set X.here.top, hexec, hb, hdg, hg, hs]
  exact a
end INS
