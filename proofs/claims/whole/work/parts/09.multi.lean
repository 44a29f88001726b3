/-! A row of rows of ints: multianewarray of two dimensions. -/
section MULTI
variable {E : CtlPost} {e : Env} {d : Bool} {acts : List Action} {s : State}
theorem mu_newA {c : ClassId} {n : Nat} {k : Class} {comp : ClassId} {ty : FieldType} {v : Value} {Qn : Addr → Pre} (hk : s.vm.classes[c]? = some k) (hkind : k.kind = .array comp ty) (hv : fits ty v = true)
    (hlimit : ¬ n > e.platform.arrayLengthLimit) (hheap : ¬ n * componentBytes ty > e.platform.maxHeapBytes) (h1 : s.heap.size < e.platform.maxCells) (h2 : s.slotsUsed + n ≤ e.platform.maxSlots)
    (hq : ∀ d' acts', Qn s.heap.size d' acts' (s.pushCell { cls := c, slots := Array.replicate n v, vm := .none })) : wp (Jvm.newArray c n v) Qn E e d acts s := by
  have hfit : ∀ i w, (Array.replicate n v)[i]? = some w → s.fitsSlot c .none i w = true := by
    intro i w hw
    simp only [Array.getElem?_replicate] at hw
    split at hw
    · cases hw; simp [State.fitsSlot, State.slotType?, hk, hkind, hv]
    · cases hw
  simp only [Jvm.newArray, Jvm.arrayFits, wp_bind', W.ask, W.ite, hlimit, if_false, wp_pure', W.theClass, hk, hkind, hheap, W.alloc, W.stop, Option.some.injEq, exists_eq_left']
  rw [if_neg (by omega)]
  exact ⟨h1, by simpa using h2, hfit, hq _ _⟩
theorem mu_make1 {c : ClassId} {n : Int32} {k : Class} {comp : ClassId} {ty : FieldType} {Qn : Addr → Pre} (hn : ¬ n < 0) (hk : s.vm.classes[c]? = some k) (hkind : k.kind = .array comp ty) (hv : fits ty (defaultValue ty) = true)
    (hlimit : ¬ n.toNatClampNeg > e.platform.arrayLengthLimit) (hheap : ¬ n.toNatClampNeg * componentBytes ty > e.platform.maxHeapBytes) (h1 : s.heap.size < e.platform.maxCells) (h2 : s.slotsUsed + n.toNatClampNeg ≤ e.platform.maxSlots)
    (hq : ∀ d' acts', Qn s.heap.size d' acts' (s.pushCell { cls := c, slots := Array.replicate n.toNatClampNeg (defaultValue ty), vm := .none })) : wp (multianewarray.make c [n]) Qn E e d acts s := by
  simp only [multianewarray.make, wp_bind', W.ite, hn, if_false, wp_pure', W.theClass, hk, hkind, Option.some.injEq, exists_eq_left']
  exact mu_newA hk hkind hv hlimit hheap h1 h2 hq
end MULTI
section MULTI2
variable {E : CtlPost} {e : Env} {d : Bool} {acts : List Action} {s : State}
theorem mu_make2 {c : ClassId} {n k : Int32} {kc : Class} {comp : ClassId} {Qn : Addr → Pre} (I : Nat → State → Prop) (hn : ¬ n < 0) (hn0 : ¬ n.toNatClampNeg = 0) (hk0 : ¬ k < 0) (hk : s.vm.classes[c]? = some kc) (hkind : kc.kind = .array comp (.array .int))
    (hlimit : ¬ n.toNatClampNeg > e.platform.arrayLengthLimit) (hheap : ¬ n.toNatClampNeg * 4 > e.platform.maxHeapBytes) (h1 : s.heap.size < e.platform.maxCells) (h2 : s.slotsUsed + n.toNatClampNeg ≤ e.platform.maxSlots)
    (h0 : I 0 (s.pushCell { cls := c, slots := Array.replicate n.toNatClampNeg .null, vm := .none }))
    (hstep : ∀ i s' d' acts' (Q' : ForInStep PUnit → Pre), i < n.toNatClampNeg → I i s' → (∀ s'' d'' acts'', I (i + 1) s'' → Q' (ForInStep.yield PUnit.unit) d'' acts'' s'') → wp (do let a ← multianewarray.make comp [k]; Jvm.writeLoc s.heap.size i (.ref a); Pure.pure (ForInStep.yield PUnit.unit)) Q' E e d' acts' s')
    (hq : ∀ s' d' acts', I n.toNatClampNeg s' → Qn s.heap.size d' acts' s') : wp (multianewarray.make c [n, k]) Qn E e d acts s := by
  rw [multianewarray.make]
  simp only [wp_bind', W.ite, hn, if_false, wp_pure', W.theClass, hk, hkind, Option.some.injEq, exists_eq_left']
  refine mu_newA hk hkind rfl hlimit hheap h1 h2 fun d' acts' => ?_
  have hz : (n == 0) = false := by
    rw [beq_eq_false_iff_ne]
    intro q
    subst q
    exact hn0 rfl
  simp only [hz, Bool.false_eq_true, if_false, wp_bind', wp_pure', Std.Legacy.Range.forIn_eq_forIn_range', Std.Legacy.Range.size]
  refine wp_forIn_inv (fun rest s' => ∃ i, i ≤ n.toNatClampNeg ∧ rest = List.range' i (n.toNatClampNeg - i) ∧ I i s') _ _ ⟨0, Nat.zero_le _, by simp, h0⟩ ?_ ?_
  · rintro x rest s' d2 acts2 Q' ⟨i, hi, hr, hI⟩ hQ
    by_cases hlt : i < n.toNatClampNeg
    · rw [show n.toNatClampNeg - i = (n.toNatClampNeg - (i + 1)) + 1 by omega, List.range'_succ] at hr
      obtain ⟨rfl, rfl⟩ := List.cons.inj hr
      exact hstep _ s' d2 acts2 Q' hlt hI fun s'' d'' acts'' h => hQ s'' d'' acts'' ⟨_, hlt, rfl, h⟩
    · rw [show n.toNatClampNeg - i = 0 by omega] at hr
      cases hr
  · rintro s' d2 acts2 ⟨i, hi, hr, hI⟩
    have hi' : i = n.toNatClampNeg := by
      by_cases hlt : i < n.toNatClampNeg
      · rw [show n.toNatClampNeg - i = (n.toNatClampNeg - (i + 1)) + 1 by omega, List.range'_succ] at hr
        cases hr
      · omega
    subst hi'
    exact hq s' d2 acts2 hI
end MULTI2
def muT (T : State) (cA cI : ClassId) (n k : Nat) : Nat → State
  | 0 => T.pushCell { cls := cA, slots := Array.replicate n .null, vm := .none }
  | i + 1 => ((muT T cA cI n k i).pushCell { cls := cI, slots := Array.replicate k (.int 0), vm := .none }).setCell T.heap.size ((arrV cA n (fun j => if j < i then .ref (T.heap.size + 1 + j) else .null)).setSlot i (.ref (T.heap.size + 1 + i)))
section MULTI3
variable {p : Program} {l : Launch} {e : Env} {R : Room} {s : State} {m : MethodId} {args : Array Value} {below : List Frame} {meth : Method} {c : Code} {T : State} {locs : List Loc} {cells slots : Nat}
theorem mu_vm (T : State) (cA cI : ClassId) (n k i : Nat) : (muT T cA cI n k i).vm = T.vm := by
  induction i with
  | zero => rfl
  | succ i ih => exact ih
theorem mu_facts (T : State) (cA cI : ClassId) (n k : Nat) : ∀ i, i ≤ n → (muT T cA cI n k i).heap.size = T.heap.size + 1 + i ∧ (muT T cA cI n k i).heap[T.heap.size]? = some (arrV cA n (fun j => if j < i then .ref (T.heap.size + 1 + j) else .null))
    ∧ (∀ j, j < i → (muT T cA cI n k i).heap[T.heap.size + 1 + j]? = some (arrV cI k (fun _ => .int 0))) ∧ ∀ q, q < T.heap.size → (muT T cA cI n k i).heap[q]? = T.heap[q]? := by
  intro i
  induction i with
  | zero =>
    intro _
    refine ⟨by simp [muT, State.pushCell], ?_, fun j hj => absurd hj (by omega), fun q hq => ?_⟩
    · show (T.heap.push _)[T.heap.size]? = _
      rw [Array.getElem?_push_size, arrV_new]
      rfl
    · show (T.heap.push _)[q]? = _
      rw [Array.getElem?_push, if_neg (Nat.ne_of_lt hq)]
  | succ i ih =>
    intro hi
    obtain ⟨h1, h2, h3, h4⟩ := ih (by omega)
    generalize hU : muT T cA cI n k i = U at h1 h2 h3 h4
    have e : (muT T cA cI n k (i + 1)).heap = (U.heap.push { cls := cI, slots := Array.replicate k (.int 0), vm := .none }).setIfInBounds T.heap.size ((arrV cA n (fun j => if j < i then .ref (T.heap.size + 1 + j) else .null)).setSlot i (.ref (T.heap.size + 1 + i))) := by
      rw [← hU]; rfl
    rw [e]
    refine ⟨by rw [Array.size_setIfInBounds, Array.size_push, h1]; omega, ?_, fun j hj => ?_, fun q hq => ?_⟩
    · rw [Array.getElem?_setIfInBounds, if_pos rfl, if_pos (by rw [Array.size_push, h1]; omega), arrV_store]
      congr 2
      funext j
      show updV _ _ _ _ = _
      unfold updV
      by_cases hji : j = i
      · subst hji; simp
      · rw [if_neg hji]
        show (if j < i then Value.ref (T.heap.size + 1 + j) else Value.null) = _
        by_cases hlt : j < i
        · rw [if_pos hlt, if_pos (by omega)]
        · rw [if_neg hlt, if_neg (by omega)]
    · rw [Array.getElem?_setIfInBounds, if_neg (by omega), Array.getElem?_push]
      by_cases hji : j = i
      · subst hji
        rw [if_pos (by omega), arrV_new]
      · rw [if_neg (by omega)]
        exact h3 j (by omega)
    · rw [Array.getElem?_setIfInBounds, if_neg (by omega), Array.getElem?_push, if_neg (by omega)]
      exact h4 q hq
theorem mu_stand (X : Stand p l e R s m args below meth c T locs cells slots) (cA cI : ClassId) (n k : Nat) : ∀ i, i ≤ n → ∃ L : List Loc, (∀ q ∈ L, q.base = T.heap.size) ∧ Stand p l e R s m args below meth c (muT T cA cI n k i) (locs ++ L) (cells + 1 + i) (slots + n + i * k) := by
  intro i
  induction i with
  | zero =>
    intro _
    refine ⟨[], fun q hq => absurd hq List.not_mem_nil, ?_⟩
    have := X.pushed { cls := cA, slots := Array.replicate n .null, vm := .none }
    simpa [muT] using this
  | succ i ih =>
    intro hi
    obtain ⟨L, hL, X1⟩ := ih (by omega)
    obtain ⟨h1, h2, -, -⟩ := mu_facts T cA cI n k i (by omega)
    have X2 := X1.pushed { cls := cI, slots := Array.replicate k (.int 0), vm := .none }
    have hc : ((muT T cA cI n k i).pushCell { cls := cI, slots := Array.replicate k (.int 0), vm := .none }).heap[T.heap.size]? = some (arrV cA n (fun j => if j < i then .ref (T.heap.size + 1 + j) else .null)) := by
      show ((muT T cA cI n k i).heap.push _)[T.heap.size]? = _
      rw [Array.getElem?_push, if_neg (by omega)]
      exact h2
    have X3 := X2.stored hc i (.ref (T.heap.size + 1 + i))
    refine ⟨L ++ [⟨T.heap.size, i⟩], fun q hq => ?_, ?_⟩
    · rcases List.mem_append.mp hq with g | g
      · exact hL q g
      · rw [List.mem_singleton.mp g]
    · have e1 : cells + 1 + i + 1 = cells + 1 + (i + 1) := by omega
      have e2 : slots + n + i * k + (Array.replicate k (Value.int 0)).size = slots + n + (i + 1) * k := by rw [Array.size_replicate, Nat.succ_mul]; omega
      rw [← List.append_assoc, ← e1, ← e2]
      exact X3
theorem mu_cold {E : CtlPost} {d : Bool} {acts : List Action} {Qn : Unit → Pre} {f : JFrame} {index c : Nat} {vm' : Vm} (hs : s.topJava?.isSome) (hg : (Jvm.resolveClass f.method.cls index).Gives e.toSetting s.vm (.ok c) vm') (hr : vm'.classReady f.method.cls index c)
    (hsz : vm'.classes.size ≤ s.vm.classes.size := by no_record) :
    wp (multianewarray.sem index 2) Qn E e d acts (s.setTop f) ↔ wp (multianewarray.sem index 2) Qn E e d acts ((s.setVm vm').setTop f) := by
  simp only [multianewarray.sem, wp_bind']
  exact W.resolveClassAt_transfer (s := s.setTop f) (State.method?_setTop f hs) hg hr
theorem mu_row (X : Stand p l e R s m args below meth c T locs cells slots) (hexec : p.tables.exec = Jvm.exec) {own : String} {index : Nat}
    (hown : s.vm.findClass own = some m.cls) (hclink : (Cond.classLink own index "[[I").before args s = true) {cA comp ci : ClassId} {kA kI : Class} (hA : s.vm.findClass "[[I" = some cA) (hkA : s.vm.classes[cA]? = some kA) (hkindA : kA.kind = .array comp (.array .int)) (hkI : s.vm.classes[comp]? = some kI) (hkindI : kI.kind = .array ci .int)
    {g : JFrame} (hg : g.method = m) (hdg : decode c.code g.pc = .ok (.multianewarray index 2, 4)) {n k : Int32} {rest : List Value} (hstack : g.stack = .int k :: .int n :: rest) (hn : ¬ n < 0) (hn0 : ¬ n.toNatClampNeg = 0) (hk : ¬ k < 0) (hnb : n.toNatClampNeg ≤ 1000) (hkb : k.toNatClampNeg ≤ 1000)
    (hcells : cells + 1 + n.toNatClampNeg ≤ R.cells) (hslots : slots + n.toNatClampNeg + n.toNatClampNeg * k.toNatClampNeg ≤ R.slots) :
    ∃ vm₁ : Vm, s.WarmedH vm₁ ∧ ∀ target, Steps p.tables e below ((muT (T.setVm vm₁) cA comp n.toNatClampNeg k.toNatClampNeg n.toNatClampNeg).setTop { g with pc := g.pc + 4, stack := .ref T.heap.size :: rest }) target → Steps p.tables e below (T.setTop g) target := by
  subst hg
  have hpl : e.platform.magicAccessors = ({} : Platform).magicAccessors := by rw [X.admits.platform]
  obtain ⟨cc, hfcc, hcl⟩ := Cond.classLink_spec hown hclink e.platform hpl
  cases hA.symm.trans hfcc
  obtain ⟨hg₁, hwarm₁, hready₁⟩ := State.classEntry (e := e) X.warmed hcl
  generalize T.vm.noted g.method.cls index (.cls cA) = vm₁ at hg₁ hwarm₁ hready₁
  have hal : s.vm.Alike vm₁ := hwarm₁.alike
  refine ⟨vm₁, hwarm₁, fun target hrest => ?_⟩
  refine Steps.instr (c := _) (by simpa using X.here) ?_
  simp [jvm, wpRun, exec, X.here.top, hexec, hdg]
  rw [mu_cold (e := e) (s := T) (f := g) X.here.top hg₁ hready₁]
  have htop : (T.setVm vm₁).topJava?.isSome := X.here.top
  simp only [multianewarray.sem, wp_bind', W.resolveClassAt_ready (State.method?_setTop g htop) hready₁, popN, W.pop, State.topJava?_setTop' _ htop, Option.some.injEq, exists_eq_left', hstack, List.cons.injEq, exists_cons_eq, State.setTop_setTop, wp_pure', List.nil_append, List.cons_append, List.mapM_cons, List.mapM_nil]
  obtain ⟨kA₁, hkA₁, heA⟩ := hal.2.2 _ _ hkA
  have hkindA₁ : kA₁.kind = .array comp (.array .int) := by rw [heA]; exact hkindA
  obtain ⟨kI₁, hkI₁, heI⟩ := hal.2.2 _ _ hkI
  have hkindI₁ : kI₁.kind = .array ci .int := by rw [heI]; exact hkindI
  have X₁ := X.noted hwarm₁
  have lim : ∀ q : Nat, q ≤ 1000 → ¬ q > e.platform.arrayLengthLimit := fun q hq => by rw [Launch.admits_arrayLengthLimit X.admits]; omega
  have lim2 : ∀ q : Nat, q ≤ 1000 → ¬ q * 4 > e.platform.maxHeapBytes := fun q hq => by rw [Launch.admits_maxHeapBytes X.admits]; omega
  obtain ⟨r1, r2⟩ := X₁.roomAbove (a := 1) (b := n.toNatClampNeg) (by omega) (by omega)
  generalize hT1 : T.setVm vm₁ = T1 at htop X₁ r1 r2 ⊢
  have hT1h : T1.heap = T.heap := by rw [← hT1]; rfl
  have hT1v : T1.vm = vm₁ := by rw [← hT1]; rfl
  refine mu_make2 (fun i s' => s' = (muT T1 cA comp n.toNatClampNeg k.toNatClampNeg i).setTop { g with stack := rest }) hn hn0 hk (kc := kA₁) (by show T1.vm.classes[cA]? = _; rw [hT1v]; exact hkA₁) hkindA₁ (lim _ hnb) (lim2 _ hnb) (by show T1.heap.size < _; omega) (by show T1.slotsUsed + _ ≤ _; exact r2) ?_ ?_ ?_
  · rfl
  · rintro i s' d' acts' Q' hi rfl hQ
    obtain ⟨f1, f2, f3, f4⟩ := mu_facts T1 cA comp n.toNatClampNeg k.toNatClampNeg i (by omega)
    obtain ⟨L, -, Xi⟩ := mu_stand X₁ cA comp n.toNatClampNeg k.toNatClampNeg i (by omega)
    have hvm := mu_vm T1 cA comp n.toNatClampNeg k.toNatClampNeg i
    have hmul : i * k.toNatClampNeg + k.toNatClampNeg ≤ n.toNatClampNeg * k.toNatClampNeg := by
      rw [← Nat.succ_mul]; exact Nat.mul_le_mul_right _ hi
    obtain ⟨g1, g2⟩ := Xi.roomAbove (a := 1) (b := k.toNatClampNeg) (by omega) (by omega)
    generalize hU : muT T1 cA comp n.toNatClampNeg k.toNatClampNeg i = U at f1 f2 f3 f4 Xi hvm g1 g2 ⊢
    simp only [wp_bind']
    refine mu_make1 (k := kI₁) hk (by show U.vm.classes[comp]? = _; rw [hvm, hT1v]; exact hkI₁) hkindI₁ rfl (lim _ hkb) (lim2 _ hkb) (by show U.heap.size < _; omega) (by show U.slotsUsed + _ ≤ _; exact g2) fun d2 acts2 => ?_
    simp only [wp_bind', W.writeLoc, wp_pure']
    refine ⟨arrV cA n.toNatClampNeg (fun j => if j < i then .ref (T1.heap.size + 1 + j) else .null), ?_, fun q => (by cases q), (by rw [arrV_size]; exact hi), ?_, hQ _ _ _ ?_⟩
    · show (U.heap.push _)[T1.heap.size]? = _
      rw [Array.getElem?_push, if_neg (by omega)]
      exact f2
    · show ((U.setTop _).pushCell _).fitsSlot cA .none i _ = true
      have : ((U.setTop { g with stack := rest }).pushCell { cls := comp, slots := Array.replicate k.toNatClampNeg (defaultValue .int), vm := .none }).vm.classes[cA]? = some kA₁ := by show U.vm.classes[cA]? = _; rw [hvm, hT1v]; exact hkA₁
      simp [State.fitsSlot, State.slotType?, hvm, hT1v, hkA₁, hkindA₁]
      rfl
    · show _ = (muT T1 cA comp n.toNatClampNeg k.toNatClampNeg (i + 1)).setTop _
      show _ = (((muT T1 cA comp n.toNatClampNeg k.toNatClampNeg i).pushCell { cls := comp, slots := Array.replicate k.toNatClampNeg (.int 0), vm := .none }).setCell T1.heap.size ((arrV cA n.toNatClampNeg (fun j => if j < i then .ref (T1.heap.size + 1 + j) else .null)).setSlot i (.ref (T1.heap.size + 1 + i)))).setTop _
      rw [hU, ← f1]
      rfl
  · rintro s' d' acts' rfl
    have htop2 : (muT T1 cA comp n.toNatClampNeg k.toNatClampNeg n.toNatClampNeg).topJava?.isSome := by
      obtain ⟨L, -, Xn⟩ := mu_stand X₁ cA comp n.toNatClampNeg k.toNatClampNeg n.toNatClampNeg (by omega)
      exact Xn.here.top
    simp only [wp_bind', W.mark, W.pushRef, State.topJava?_setTop' _ htop2, Option.some.injEq, exists_eq_left', State.setTop_setTop]
    intro acts
    rw [hT1] at hrest
    rw [← hT1h] at hrest
    simpa [jvm] using hrest
end MULTI3
