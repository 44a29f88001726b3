/-! One step of the abstract machine is one of the machine: rows of rows, calls. -/
theorem am_sm_add (f : Nat → am_C) (a b : Nat) : am_sm f (a + b) = am_sm f a + am_sm (fun j => f (a + j)) b := by
  induction b with
  | zero => rfl
  | succ b ih =>
    show am_sm f (a + b) + (f (a + b)).2.1 = am_sm f a + (am_sm (fun j => f (a + j)) b + (f (a + b)).2.1)
    rw [ih, Nat.add_assoc]
theorem am_sm_const (f : Nat → am_C) (n k : Nat) (h : ∀ j, j < n → (f j).2.1 = k) : am_sm f n = n * k := by
  induction n with
  | zero => simp [am_sm]
  | succ n ih =>
    show am_sm f n + (f n).2.1 = _
    rw [ih (fun j hj => h j (by omega)), h n (by omega), Nat.succ_mul]
theorem am_sl_rows (n k : Nat) (h : am_H) : am_sl (am_rows n k h) = am_sl h + n + n * k := by
  show am_sm (am_rows n k h).2 (h.1 + 1 + n) = _
  rw [am_sm_add, am_sm_const _ n k (fun j hj => ?_)]
  · show am_sm (am_rows n k h).2 h.1 + ((am_rows n k h).2 h.1).2.1 + n * k = _
    have e1 : ((am_rows n k h).2 h.1).2.1 = n := by
      show (if h.1 = h.1 then _ else _ : am_C).2.1 = n
      rw [if_pos rfl]
    have e2 : am_sm (am_rows n k h).2 h.1 = am_sl h := am_sm_eq fun j hj => by
      show (if j = h.1 then _ else if h.1 + 1 ≤ j ∧ j < h.1 + 1 + n then _ else h.2 j : am_C).2.1 = _
      rw [if_neg (by omega), if_neg (by omega)]
    rw [e1, e2]
  · show (if h.1 + 1 + j = h.1 then _ else if h.1 + 1 ≤ h.1 + 1 + j ∧ h.1 + 1 + j < h.1 + 1 + n then _ else _ : am_C).2.1 = k
    rw [if_neg (by omega), if_pos (by omega)]
def am_Pc (D : am_D) (as : List am_V) (h : am_H) : Array Value → State → Prop := fun a U => a = (as.map (am_rv D.1)).toArray ∧ am_R D U h U.heap ∧ am_K D U
def am_Qc (D : am_D) (v : List am_V) (h : am_H) : Array Value → State → Outcome → State → Prop := fun _ _ o t => o = .returned (v.map (am_rv D.1)).head? ∧ v.length ≤ 1 ∧ am_R D t h t.heap
def am_rm (d mc ms : Nat) : Room := { frames := d, cells := mc, slots := ms, locals := 100 * d }
/-- what a table of methods computes, the machine's methods do, in so many frames -/
def am_Snd (l : Launch) (D : am_D) (tb : Nat → Option am_M) (d : Nat) (G : am_G) : Prop := ∀ (k : Nat) (q : am_M) (as : List am_V) (h : am_H) (v : List am_V) (h' : am_H), tb k = some q → G k as h = some (v, h') →
  (h.1 ≤ h'.1 ∧ am_sl h ≤ am_sl h') ∧ v.length ≤ 1 ∧ Met l q.2.1 (Cond.code q.2.1 q.2.2.1 q.2.2.2.1 q.2.2.2.2.1 :: lw_good) (am_rm d (h'.1 - h.1) (am_sl h' - am_sl h)) (am_Pc D as h) (am_Qc D v h') (h'.1 - h.1) (am_sl h' - am_sl h) (fun a => D.1.2.2.2 ≤ a)
section CALL
variable {p : Program} {l : Launch} {e : Env} {R : Room} {s : State} {m : MethodId} {args : Array Value} {below : List Frame} {meth : Method} {c : Code} {Q : State → Prop} {cc : ByteArray} {nL : Nat} {own : String} {ini : Bool} {D : am_D} {h0 : am_H}
theorem am_R.rows {h : am_H} {H H' : Heap} {n k : Nat} (hR : am_R D s h H) (f1 : H'.size = H.size + 1 + n) (f2 : H'[H.size]? = some (arrV (D.2.2.2 22) n (fun j => .ref (H.size + 1 + j)))) (f3 : ∀ j, j < n → H'[H.size + 1 + j]? = some (arrV (D.2.2.2 20) k (fun _ => .int 0))) (f4 : ∀ q, q < H.size → H'[q]? = H[q]?) : am_R D s (am_rows n k h) H' := by
  have hR0 := hR
  obtain ⟨h1, h2, h3, h4, h5, h6, h7⟩ := hR
  have hz : ∀ j, am_rho D.1 (h.1 + j) = H.size + j := fun j => by rw [am_rho_ge (by omega)]; omega
  refine ⟨by show 3 ≤ h.1 + 1 + n; omega, by show H'.size + 3 = D.1.2.2.2 + (h.1 + 1 + n); omega, h3, fun j hj => ?_, fun j hj => ?_, h6.kept (fun a ha _ => f4 a ha), h7.kept (fun a ha _ => f4 a ha)⟩
  · show (if j = h.1 then _ else if h.1 + 1 ≤ j ∧ j < h.1 + 1 + n then _ else h.2 j : am_C).1 = 30 ∨ (if j = h.1 then _ else if h.1 + 1 ≤ j ∧ j < h.1 + 1 + n then _ else h.2 j : am_C).1 = 99
    rw [if_neg (by omega), if_neg (by omega)]
    exact h4 j hj
  · have hj : (if j = h.1 then (22, n, fun i => vR (h.1 + 1 + i)) else if h.1 + 1 ≤ j ∧ j < h.1 + 1 + n then (20, k, fun _ => vI 0) else h.2 j : am_C).1 ≠ 99 := hj
    show j < h.1 + 1 + n ∧ ∃ r : Cell, H'[am_rho D.1 j]? = some r ∧ am_ce D s (if j = h.1 then (22, n, fun i => vR (h.1 + 1 + i)) else if h.1 + 1 ≤ j ∧ j < h.1 + 1 + n then (20, k, fun _ => vI 0) else h.2 j : am_C) r
    by_cases e1 : j = h.1
    · rw [if_pos e1]
      refine ⟨by omega, _, by rw [e1, show h.1 = h.1 + 0 from rfl, hz]; exact f2, Or.inr (Or.inl ⟨by show 20 ≤ 22; omega, by show 22 ≤ 25; omega, ?_, fun w => absurd w (by show ¬ 22 = 20; omega)⟩)⟩
      congr 1
      funext i
      show Value.ref _ = Value.ref (am_rho D.1 (h.1 + 1 + i))
      rw [show h.1 + 1 + i = h.1 + (1 + i) by omega, hz, Nat.add_assoc]
    · rw [if_neg e1] at hj ⊢
      by_cases e2 : h.1 + 1 ≤ j ∧ j < h.1 + 1 + n
      · rw [if_pos e2]
        refine ⟨e2.2, _, ?_, Or.inr (Or.inl ⟨by show 20 ≤ 20; omega, by show 20 ≤ 25; omega, rfl, fun _ _ _ => ⟨0, rfl⟩⟩)⟩
        have := f3 (j - (h.1 + 1)) (by omega)
        rw [show am_rho D.1 j = H.size + 1 + (j - (h.1 + 1)) by rw [show j = h.1 + (j - h.1) by omega, hz]; omega]
        exact this
      · rw [if_neg e2] at hj ⊢
        obtain ⟨q1, r', q2, q3⟩ := h5 j hj
        exact ⟨by omega, r', by rw [f4 _ (Array.getElem?_eq_some_iff.mp q2).1]; exact q2, q3⟩
theorem at_multi (X : am_Fx p R s m args meth c cc nL own ini D) {G : am_G} {i d k j z pc : Nat} (hl : d = 2 ∧ Cond.classLink own i "[[I" ∈ lw_tbl) {x y : am_S} (hB : am_B R h0 x.2.2) (hB' : am_B R h0 y.2.2) (hd : decode cc pc = .ok (.multianewarray i d, 4)) (hev : am_I1 G (.multianewarray i d, k, j, z) x = some y) (kk : am_At p l e R s m args below meth c Q D nL h0 y (pc + 4)) : am_At p l e R s m args below meth c Q D nL h0 x pc := by
  obtain ⟨rfl, hl⟩ := hl
  obtain ⟨ls, st, h⟩ := x
  rcases st with _ | ⟨k | k, _ | ⟨n | n, st⟩⟩ <;> simp only [am_I1] at hev <;> try cases hev
  by_cases hc : 0 < n ∧ n ≤ 1000 ∧ 0 ≤ k ∧ k ≤ 1000
  · simp only [if_pos hc] at hev
    cases hev
    intro LS H locs hls hR hf
    have hR : am_R D s h H := hR
    have hB : am_B R h0 h := hB
    have hB' : am_B R h0 (am_rows n.toNat k.toNat h) := hB'
    have hn := i32_nat (show 0 ≤ n by omega) (show n ≤ 2147483647 by omega)
    have hk := i32_nat hc.2.2.1 (show k ≤ 2147483647 by omega)
    have neg : ∀ v : Int, 0 ≤ v → v ≤ 1000 → ¬ Int32.ofInt v < 0 := fun v w1 w2 => by rw [i32_0, i32_lt ⟨by omega, by omega⟩ inR_0]; omega
    obtain ⟨g1, kA, comp, g2, g3, g4⟩ := X.2.2.2.2.2.1.2.1 22 (by omega) (by omega)
    obtain ⟨w1, kI, ci, w2, w3, -⟩ := X.2.2.2.2.2.1.2.1 20 (by omega) (by omega)
    have hcomp : comp = D.2.2.2 20 := Option.some.inj ((g4 (by omega)).symm.trans w1)
    subst hcomp
    obtain ⟨b1, b2, b3, b4⟩ := hB
    obtain ⟨-, -, b5, b6⟩ := hB'
    rw [am_sl_rows] at b6
    have b5 : h.1 + 1 + n.toNat - h0.1 ≤ R.cells := b5
    intro T hT Y
    obtain ⟨vm₁, hW, step⟩ := mu_row Y X.1 X.2.2.2.1 (X.w hl rfl) g1 g2 g3 w2 w3 (g := F0 m pc LS (.int (Int32.ofInt k) :: .int (Int32.ofInt n) :: st.map (am_rv D.1))) rfl (by rw [X.2.1]; exact hd) (n := Int32.ofInt n) (k := Int32.ofInt k) (rest := st.map (am_rv D.1)) rfl (neg n (by omega) hc.2.1) (by rw [hn]; omega) (neg k hc.2.2.1 hc.2.2.2) (by rw [hn]; omega) (by rw [hk]; omega) (by rw [hn]; show h.1 - h0.1 + 1 + _ ≤ _; omega) (by rw [hn, hk]; show am_sl h - am_sl h0 + _ + _ ≤ _; omega)
    obtain ⟨L, hL, Y'⟩ := mu_stand (Y.noted hW) (D.2.2.2 22) (D.2.2.2 20) (Int32.ofInt n).toNatClampNeg (Int32.ofInt k).toNatClampNeg (Int32.ofInt n).toNatClampNeg (by omega)
    obtain ⟨f1, f2, f3, f4⟩ := mu_facts (T.setVm vm₁) (D.2.2.2 22) (D.2.2.2 20) (Int32.ofInt n).toNatClampNeg (Int32.ofInt k).toNatClampNeg (Int32.ofInt n).toNatClampNeg (by omega)
    rw [hn, hk] at Y' f1 f2 f3 f4 step
    have hh : (T.setVm vm₁).heap = H := hT
    rw [hh] at f1 f2 f3 f4 hL
    generalize muT (T.setVm vm₁) (D.2.2.2 22) (D.2.2.2 20) n.toNat k.toNat n.toNat = T' at Y' f1 f2 f3 f4 step
    have hR' : am_R D s (am_rows n.toNat k.toNat h) T'.heap := by
      refine hR.rows f1 ?_ f3 f4
      rw [f2]
      unfold arrV
      congr 2
      apply congrArg
      funext j
      exact if_pos j.isLt
    have hk2 := kk LS T'.heap (locs ++ L) hls hR' (fun q hq => by
      rcases List.mem_append.mp hq with g | g
      · exact hf q g
      · rw [hL q g]
        have := hR.2.1
        have := hR.1
        omega)
    have e1 : (am_rows n.toNat k.toNat h).1 - h0.1 = h.1 - h0.1 + 1 + n.toNat := by show h.1 + 1 + n.toNat - h0.1 = _; omega
    have e2 : am_sl (am_rows n.toNat k.toNat h) - am_sl h0 = am_sl h - am_sl h0 + n.toNat + n.toNat * k.toNat := by rw [am_sl_rows]; omega
    rw [show (ls, vR h.1 :: st, am_rows n.toNat k.toNat h).2.2 = am_rows n.toNat k.toNat h from rfl, e1, e2] at hk2
    obtain ⟨t, a1, c1⟩ := hk2 T' rfl Y'
    refine ⟨t, step t ?_, c1⟩
    have e3 : am_rho D.1 h.1 = T.heap.size := by rw [am_rho_size hR, hT]
    rw [← e3]
    exact a1
  · simp only [if_neg hc] at hev
    cases hev
theorem am_inv_eq {G : am_G} {r : Bool} {k n c0 : Nat} {x y : am_S} (h : am_inv G r k n c0 x = some y) : n ≤ x.2.1.length ∧ am_cats (x.2.1.drop n) ≤ 8 ∧ (r = true → am_rc c0 x.2.2 (x.2.1.take n).reverse = true) ∧ ∃ v h', G k (x.2.1.take n).reverse x.2.2 = some (v, h') ∧ y = (x.1, v ++ x.2.1.drop n, h') := by
  unfold am_inv at h
  split at h
  case isTrue hc =>
    obtain ⟨⟨v, h'⟩, h1, h2⟩ := Option.map_eq_some_iff.mp h
    exact ⟨hc.1, hc.2.1, hc.2.2, v, h', h1, h2.symm⟩
  case isFalse hc => cases h
theorem am_Pc.blind {as : List am_V} {h : am_H} : FrameBlind (am_Pc D as h) := by
  rintro a U g mk ⟨h1, h2, h3⟩
  exact ⟨h1, am_R.moved (u := U) (U := U.calling g mk a) (Vm.Alike.refl U.vm) h2, am_K.same (u := U) (U := U.calling g mk a) rfl h3⟩
/-- behind a call -/
theorem at_call {k n d pc : Nat} {G : am_G} {tb : Nat → Option am_M} {q : am_M} (X : am_Fx p R s m args meth c cc nL own ini D) (hS : am_Snd l D tb d G) (hq : tb k = some q) {ls st : List am_V} {h : am_H} {v : List am_V} {h' : am_H} (hg : G k (st.take n).reverse h = some (v, h')) (hB : am_B R h0 h) (hB' : am_B R h0 h')
    (hrun : ∀ (LS : Array Slot) (H : Heap) (locs : List Loc), am_ls D.1 nL ls LS → am_R D s h H → va_Run p l e R s m args below meth c H locs (h.1 - h0.1) (am_sl h - am_sl h0) (h'.1 - h.1) (am_sl h' - am_sl h) (F0 m pc LS (st.map (am_rv D.1))) ((st.drop n).map (am_rv D.1)) (am_Qc D v h' (((st.take n).reverse.map (am_rv D.1)).toArray)) (fun a => D.1.2.2.2 ≤ a))
    (kk : am_At p l e R s m args below meth c Q D nL h0 (ls, v ++ st.drop n, h') (pc + 3)) : am_At p l e R s m args below meth c Q D nL h0 (ls, st, h) pc := by
  intro LS H locs hls hR hf T hT Y
  obtain ⟨⟨m1, m2⟩, hv, -⟩ := hS k q _ _ _ _ hq hg
  obtain ⟨r, st₀, t, T', L, g0, Y', hL, e1, e2, ⟨o1, -, o2⟩, step⟩ := hrun LS H locs hls hR T hT Y
  have hr : r = (v.map (am_rv D.1)).head? := Outcome.returned.inj o1
  subst hr
  have hal : s.vm.Alike t.vm := by rw [← e2]; exact Y'.warmed.alike
  have hR' : am_R D s h' T'.heap := by rw [e1]; exact am_R.moved hal.symm o2
  have k1 : h'.1 - h0.1 = h.1 - h0.1 + (h'.1 - h.1) := by have := hB.1; omega
  have k2 : am_sl h' - am_sl h0 = am_sl h - am_sl h0 + (am_sl h' - am_sl h) := by have := hB.2.1; omega
  have hk := kk LS T'.heap (locs ++ L) hls hR' (fun q hq => by
    rcases List.mem_append.mp hq with g | g
    · exact hf q g
    · exact hL q g)
  rw [show (ls, v ++ st.drop n, h').2.2 = h' from rfl, k1, k2] at hk
  obtain ⟨t2, a1, b1⟩ := hk T' rfl Y'
  refine ⟨t2, step t2 ?_, b1⟩
  have ev : (v.map (am_rv D.1)).head?.toList ++ (st.drop n).map (am_rv D.1) = (v ++ st.drop n).map (am_rv D.1) := by
    rw [List.map_append]
    congr 1
    rcases v with _ | ⟨a, _ | ⟨b, w⟩⟩
    · rfl
    · rfl
    · simp at hv
  rw [ev]
  exact a1
theorem am_okm.code {q : am_M} {n : Nat} (h : am_okm q n) : Cond.code q.2.1 q.2.2.1 q.2.2.2.1 q.2.2.2.2.1 ∈ lw_tbl := h.1
theorem am_params {y : MethodName} {n : Nat} (h : (parseMethodDescriptor y.desc).map (fun d => d.parameters.length) = some n) : ∀ sig, parseMethodDescriptor y.desc = some sig → n = sig.parameters.length := by
  intro sig hs
  rw [hs] at h
  exact (Option.some.inj h).symm
/-- the room and the words of a call -/
theorem am_callB {q : am_M} {n d mc ms : Nat} (X : am_Fx p R s m args meth c cc nL own ini D) (hd1 : d + 1 ≤ R.frames) (hd2 : 100 * d + 100 ≤ R.locals) (hok : am_okm q n) :
    (am_rm d mc ms).cells = mc ∧ (am_rm d mc ms).slots = ms ∧ (am_rm d mc ms).frames + 1 ≤ R.frames ∧ 8 + (q.2.2.2.1 + 11) + (am_rm d mc ms).locals ≤ R.locals ∧ (∀ w ∈ (Cond.code q.2.1 q.2.2.1 q.2.2.2.1 q.2.2.2.2.1 :: lw_good), ∀ (a' : Array Value) (U : State), s.WarmedH U.vm → w.before a' U = true) ∧ Cond.code q.2.1 q.2.2.1 q.2.2.2.1 q.2.2.2.2.1 ∈ (Cond.code q.2.1 q.2.2.1 q.2.2.2.1 q.2.2.2.2.1 :: lw_good) ∧
    (Cond.code q.2.1 q.2.2.1 q.2.2.2.1 q.2.2.2.2.1).before args s = true ∧ (Cond.initialized q.2.1.cls).before args s = true ∧ (q.2.1.cls ≠ "java/lang/invoke/MethodHandle" ∧ q.2.1.cls ≠ "java/lang/invoke/VarHandle") ∧ (∀ sig, parseMethodDescriptor q.2.1.desc = some sig → n = sig.parameters.length) := by
  obtain ⟨h1, h2, h3, h4, h5⟩ := hok
  refine ⟨rfl, rfl, hd1, ?_, pay_in X.2.2.2.2.1 (am_goodIn h1 rfl), List.mem_cons_self, X.w h1 rfl, X.w h2 rfl, h3, am_params h4⟩
  show 8 + (q.2.2.2.1 + 11) + 100 * d ≤ R.locals
  omega
theorem am_pre (X : am_Fx p R s m args meth c cc nL own ini D) {as : List am_V} {h : am_H} {H : Heap} (hR : am_R D s h H) : ∀ U : State, U.heap = H → s.WarmedH U.vm → am_Pc D as h (as.map (am_rv D.1)).toArray U :=
  fun U hU hW => ⟨rfl, by rw [hU]; exact am_R.moved hW.alike hR, X.2.2.2.2.2.1.warm hW⟩
theorem at_invV (X : am_Fx p R s m args meth c cc nL own ini D) {G : am_G} {tb : Nat → Option am_M} {i k n c0 d pc : Nat} (hS : am_Snd l D tb d G) (hd1 : d + 1 ≤ R.frames) (hd2 : 100 * d + 100 ≤ R.locals)
    (hok : ∃ q, tb k = some q ∧ c0 < 13 ∧ q.2.1.cls = (am_q c0).1 ∧ am_okm q (n - 1) ∧ 1 ≤ n ∧ Cond.methodLink own i q.2.1 ∈ lw_tbl ∧ Cond.instanceMethod q.2.1 ∈ lw_tbl ∧ Cond.selects (am_q c0).1 q.2.1 q.2.1 ∈ lw_tbl)
    {x y : am_S} (hB : am_B R h0 x.2.2) (hB' : am_B R h0 y.2.2) (hd : decode cc pc = .ok (.invokevirtual i, 3)) (hev : am_inv G true k n c0 x = some y) (kk : am_At p l e R s m args below meth c Q D nL h0 y (pc + 3)) : am_At p l e R s m args below meth c Q D nL h0 x pc := by
  obtain ⟨q, hq, hc0, hcls, hokm, hn1, hlk, hin, hsel⟩ := hok
  obtain ⟨ls, st, h⟩ := x
  obtain ⟨i1, i2, i3, v, h', hg, rfl⟩ := am_inv_eq hev
  have i3 : am_rc c0 h (st.take n).reverse = true := i3 rfl
  have i1 : n ≤ st.length := i1
  have hB : am_B R h0 h := hB
  have hB' : am_B R h0 h' := hB'
  have hg : G k (st.take n).reverse h = some (v, h') := hg
  have kk : am_At p l e R s m args below meth c Q D nL h0 (ls, v ++ st.drop n, h') (pc + 3) := kk
  obtain ⟨⟨m1, m2⟩, -, hM⟩ := hS k q _ _ _ _ hq hg
  refine at_call X hS hq hg hB hB' (fun LS H locs hls hR => ?_) kk
  rcases hrev : (st.take n).reverse with _ | ⟨a, as⟩
  · rw [hrev] at i3; cases i3
  · rw [hrev] at i3 hM
    rcases a with a | (_ | a) | a | a <;> try cases i3
    have ht : (h.2 a).1 = c0 := of_decide_eq_true i3
    obtain ⟨-, -, r, q1, q2, q3, -⟩ := hR.obj hc0 ht
    obtain ⟨-, hfc, -⟩ := X.2.2.2.2.2.1.1.1 c0 _ (tb_q c0 hc0).1
    have hst : st = as.reverse ++ vR a :: st.drop n := by
      have := congrArg List.reverse hrev
      rw [List.reverse_reverse, List.reverse_cons] at this
      have e := List.take_append_drop n st
      rw [this] at e
      simpa using e.symm
    have hlen : as.length = n - 1 := by
      have := congrArg List.length hrev
      rw [List.length_reverse, List.length_take] at this
      simp at this
      omega
    obtain ⟨b1, b2, b3, b4, b5, b6, b7, b8, b9, b10⟩ := am_callB (mc := h'.1 - h.1) (ms := am_sl h' - am_sl h) X hd1 hd2 hokm
    have hstk : (F0 m pc LS (st.map (am_rv D.1))).stack = (as.map (am_rv D.1)).reverse ++ .ref (am_rho D.1 a) :: (st.drop n).map (am_rv D.1) := by
      show st.map (am_rv D.1) = _
      exact (congrArg (List.map (am_rv D.1)) hst).trans (by rw [List.map_append, List.map_cons, List.map_reverse]; rfl)
    refine va_runV (As := as.map (am_rv D.1)) (C := (am_q c0).1) (bytes := q.2.2.1) (maxL := q.2.2.2.1) (ret := q.2.2.2.2.1) (n := n - 1) ⟨X.1, X.2.1, X.2.2.1, X.2.2.2.1, X.2.2.2.2.1⟩ hM ⟨⟨b1, b2, b3, b4, b5, b6, b7, b8, b9, b10, X.w hlk rfl⟩, X.w hin rfl, X.w hsel rfl⟩ ⟨am_Pc.blind, ⟨r, q1, by rw [q3]; rfl, by rw [q2]; exact hfc⟩, am_pre X hR⟩ rfl (by rw [List.length_map]; exact hlen) hls.2.1.1 hstk (lv_room (by rw [am_cats_eq]; exact i2)) hd ⟨?_, ?_⟩
    · have := hB'.2.2.1; have := hB.1; omega
    · have := hB'.2.2.2; have := hB.2.1; omega
theorem at_invS (X : am_Fx p R s m args meth c cc nL own ini D) {G : am_G} {tb : Nat → Option am_M} {i k n c0 d pc : Nat} (hS : am_Snd l D tb d G) (hd1 : d + 1 ≤ R.frames) (hd2 : 100 * d + 100 ≤ R.locals)
    (hok : ∃ q, tb k = some q ∧ am_okm q n ∧ am_lk own i q.2.1 ∧ Cond.static q.2.1 ∈ lw_tbl)
    {x y : am_S} (hB : am_B R h0 x.2.2) (hB' : am_B R h0 y.2.2) (hd : decode cc pc = .ok (.invokestatic i, 3)) (hev : am_inv G false k n c0 x = some y) (kk : am_At p l e R s m args below meth c Q D nL h0 y (pc + 3)) : am_At p l e R s m args below meth c Q D nL h0 x pc := by
  obtain ⟨q, hq, hokm, hlk, hsta⟩ := hok
  obtain ⟨ls, st, h⟩ := x
  obtain ⟨i1, i2, -, v, h', hg, rfl⟩ := am_inv_eq hev
  have i1 : n ≤ st.length := i1
  have hB : am_B R h0 h := hB
  have hB' : am_B R h0 h' := hB'
  have hg : G k (st.take n).reverse h = some (v, h') := hg
  have kk : am_At p l e R s m args below meth c Q D nL h0 (ls, v ++ st.drop n, h') (pc + 3) := kk
  obtain ⟨⟨m1, m2⟩, -, hM⟩ := hS k q _ _ _ _ hq hg
  refine at_call X hS hq hg hB hB' (fun LS H locs hls hR => ?_) kk
  obtain ⟨b1, b2, b3, b4, b5, b6, b7, b8, b9, b10⟩ := am_callB (mc := h'.1 - h.1) (ms := am_sl h' - am_sl h) X hd1 hd2 hokm
  have hstk : (F0 m pc LS (st.map (am_rv D.1))).stack = ((st.take n).reverse.map (am_rv D.1)).reverse ++ (st.drop n).map (am_rv D.1) := by
    show st.map (am_rv D.1) = _
    rw [List.map_reverse, List.reverse_reverse, ← List.map_append, List.take_append_drop]
  have hlen : ((st.take n).reverse.map (am_rv D.1)).length = n := by
    rw [List.length_map, List.length_reverse, List.length_take]; omega
  have hroom : h.1 - h0.1 + (h'.1 - h.1) ≤ R.cells ∧ am_sl h - am_sl h0 + (am_sl h' - am_sl h) ≤ R.slots := by
    have := hB'.2.2.1; have := hB.1; have := hB'.2.2.2; have := hB.2.1
    exact ⟨by omega, by omega⟩
  rcases hlk with hlk | ⟨host, hlk⟩
  · exact va_runS (bytes := q.2.2.1) (maxL := q.2.2.2.1) (ret := q.2.2.2.2.1) (n := n) ⟨X.1, X.2.1, X.2.2.1, X.2.2.2.1, X.2.2.2.2.1⟩ hM ⟨⟨b1, b2, b3, b4, b5, b6, b7, b8, b9, b10, X.w hlk rfl⟩, X.w hsta rfl⟩ ⟨am_Pc.blind, am_pre X hR⟩ rfl hlen hls.2.1.1 hstk (lv_room (by rw [am_cats_eq]; exact i2)) hd hroom
  · exact va_runSN (bytes := q.2.2.1) (maxL := q.2.2.2.1) (ret := q.2.2.2.2.1) (n := n) (host := host) ⟨X.1, X.2.1, X.2.2.1, X.2.2.2.1, X.2.2.2.2.1⟩ hM ⟨⟨⟨b1, b2, b3, b4, b5, b6⟩, b7, b8, b9, b10, va_Nw.use rfl (X.2.2.2.2.2.1.2.2 _ hlk rfl)⟩, X.w hsta rfl, trivial⟩ ⟨am_Pc.blind, am_pre X hR⟩ rfl hlen hls.2.1.1 hstk (lv_room (by rw [am_cats_eq]; exact i2)) hd hroom
theorem at_invI (X : am_Fx p R s m args meth c cc nL own ini D) {G : am_G} {tb : Nat → Option am_M} {i k n c0 d pc : Nat} (hS : am_Snd l D tb d G) (hd1 : d + 1 ≤ R.frames) (hd2 : 100 * d + 100 ≤ R.locals)
    (hok : ∃ q, tb k = some q ∧ am_okm q (n - 1) ∧ 1 ≤ n ∧ am_lk own i q.2.1 ∧ Cond.instanceMethod q.2.1 ∈ lw_tbl ∧ q.2.1.name = "<init>" ∧ q.2.2.2.2.1 = none)
    {x y : am_S} (hB : am_B R h0 x.2.2) (hB' : am_B R h0 y.2.2) (hd : decode cc pc = .ok (.invokespecial i, 3)) (hev : am_inv G true k n c0 x = some y) (kk : am_At p l e R s m args below meth c Q D nL h0 y (pc + 3)) : am_At p l e R s m args below meth c Q D nL h0 x pc := by
  obtain ⟨q, hq, hokm, hn1, hlk, hin, hnm, hret⟩ := hok
  obtain ⟨ls, st, h⟩ := x
  obtain ⟨i1, i2, i3, v, h', hg, rfl⟩ := am_inv_eq hev
  have i3 : am_rc c0 h (st.take n).reverse = true := i3 rfl
  have i1 : n ≤ st.length := i1
  have hB : am_B R h0 h := hB
  have hB' : am_B R h0 h' := hB'
  have hg : G k (st.take n).reverse h = some (v, h') := hg
  have kk : am_At p l e R s m args below meth c Q D nL h0 (ls, v ++ st.drop n, h') (pc + 3) := kk
  obtain ⟨⟨m1, m2⟩, -, hM⟩ := hS k q _ _ _ _ hq hg
  refine at_call X hS hq hg hB hB' (fun LS H locs hls hR => ?_) kk
  rcases hrev : (st.take n).reverse with _ | ⟨a, as⟩
  · rw [hrev] at i3; cases i3
  · rw [hrev] at i3 hM
    rcases a with a | (_ | a) | a | a <;> try cases i3
    have hst : st = as.reverse ++ vR a :: st.drop n := by
      have := congrArg List.reverse hrev
      rw [List.reverse_reverse, List.reverse_cons] at this
      have e := List.take_append_drop n st
      rw [this] at e
      simpa using e.symm
    have hlen : (as.map (am_rv D.1)).length = n - 1 := by
      have := congrArg List.length hrev
      rw [List.length_reverse, List.length_take] at this
      simp at this
      rw [List.length_map]
      omega
    obtain ⟨b1, b2, b3, b4, b5, b6, b7, b8, b9, b10⟩ := am_callB (mc := h'.1 - h.1) (ms := am_sl h' - am_sl h) X hd1 hd2 hokm
    rw [hret] at hM b5 b6 b7
    have hstk : (F0 m pc LS (st.map (am_rv D.1))).stack = (as.map (am_rv D.1)).reverse ++ .ref (am_rho D.1 a) :: (st.drop n).map (am_rv D.1) := by
      show st.map (am_rv D.1) = _
      exact (congrArg (List.map (am_rv D.1)) hst).trans (by rw [List.map_append, List.map_cons, List.map_reverse]; rfl)
    have hroom : h.1 - h0.1 + (h'.1 - h.1) ≤ R.cells ∧ am_sl h - am_sl h0 + (am_sl h' - am_sl h) ≤ R.slots := by
      have := hB'.2.2.1; have := hB.1; have := hB'.2.2.2; have := hB.2.1
      exact ⟨by omega, by omega⟩
    rcases hlk with hlk | ⟨host, hlk⟩
    · exact va_runI (As := as.map (am_rv D.1)) (bytes := q.2.2.1) (maxL := q.2.2.2.1) (n := n - 1) ⟨X.1, X.2.1, X.2.2.1, X.2.2.2.1, X.2.2.2.2.1⟩ hM ⟨⟨b1, b2, b3, b4, b5, b6, b7, b8, b9, b10, X.w hlk rfl⟩, hnm, X.w hin rfl⟩ ⟨am_Pc.blind, am_pre X hR⟩ rfl hlen hls.2.1.1 hstk (lv_room (by rw [am_cats_eq]; exact i2)) hd hroom
    · exact va_runIN (As := as.map (am_rv D.1)) (bytes := q.2.2.1) (maxL := q.2.2.2.1) (n := n - 1) (host := host) ⟨X.1, X.2.1, X.2.2.1, X.2.2.2.1, X.2.2.2.2.1⟩ hM ⟨⟨⟨b1, b2, b3, b4, b5, b6⟩, b7, b8, b9, b10, va_Nw.use rfl (X.2.2.2.2.2.1.2.2 _ hlk rfl)⟩, hnm, X.w hin rfl⟩ ⟨am_Pc.blind, am_pre X hR⟩ rfl hlen hls.2.1.1 hstk (lv_room (by rw [am_cats_eq]; exact i2)) hd hroom
end CALL
