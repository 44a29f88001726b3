/-! One step of the abstract machine is one of the machine: rows of references, lengths, what is made, arraycopy. -/
section HEAP2
variable {p : Program} {l : Launch} {e : Env} {R : Room} {s : State} {m : MethodId} {args : Array Value} {below : List Frame} {meth : Method} {c : Code} {Q : State → Prop} {cc : ByteArray} {nL : Nat} {own : String} {ini : Bool} {D : am_D} {h0 : am_H}
theorem am_assign (vm : Vm) (c : ClassId) : vm.assignable c c = true := by
  show vm.assignableAux (255 + 1) c c = true
  unfold Vm.assignableAux
  simp
/-- what a row of references takes: the cell's own number is that of the row's component -/
theorem am_el_cls (hK : am_K D s) {h : am_H} {H : Heap} (hR : am_R D s h H) {t v : Nat} (h1 : 22 ≤ t) (h2 : t ≤ 25) (hv : (h.2 v).1 = am_el t) : ∃ (kA kC : Class) (comp : ClassId) (cv : Cell), s.vm.classes[D.2.2.2 t]? = some kA ∧ kA.kind = .array comp (am_at t) ∧ H[am_rho D.1 v]? = some cv ∧ cv.cls = comp ∧ (∀ q, cv.vm ≠ .statics q) ∧ s.vm.classes[comp]? = some kC := by
  obtain ⟨-, kA, comp, k1, k2, k3⟩ := hK.2.1 t (by omega) h2
  have k3 := k3 h1
  by_cases h22 : t = 22
  · subst h22
    obtain ⟨g1, kI, ci, g2, g3, -⟩ := hK.2.1 20 (by omega) (by omega)
    have hc : comp = D.2.2.2 20 := Option.some.inj (k3.symm.trans g1)
    subst hc
    obtain ⟨-, -, q1, -⟩ := hR.arr (t := 20) (by omega) (by omega) hv
    exact ⟨kA, kI, _, _, k1, k2, q1, rfl, fun q w => (by cases w), g2⟩
  · have hel : am_el t < 13 ∧ (am_q (am_el t)).1 = am_cn t := by
      rcases (show t = 23 ∨ t = 24 ∨ t = 25 by omega) with rfl | rfl | rfl <;> exact ⟨by decide, rfl⟩
    obtain ⟨-, -, r, q1, q2, q3, -⟩ := hR.obj hel.1 hv
    obtain ⟨-, hfc, kC, hkC, -⟩ := hK.1.1 (am_el t) _ (tb_q _ hel.1).1
    rw [hel.2] at hfc
    have hc : comp = D.2.1 (am_el t) := Option.some.inj (k3.symm.trans hfc)
    subst hc
    exact ⟨kA, kC, _, r, k1, k2, q1, q2, fun q w => (by rw [q3] at w; cases w), hkC⟩
theorem at_aast (X : am_Fx p R s m args meth c cc nL own ini D) {G : am_G} {z : Nat × Nat × Nat} {pc : Nat} {x y : am_S} (hd : decode cc pc = .ok (.aastore, 1)) (hev : am_I1 G (.aastore, z) x = some y) (kk : am_At p l e R s m args below meth c Q D nL h0 y (pc + 1)) : am_At p l e R s m args below meth c Q D nL h0 x pc := by
  obtain ⟨ls, st, h⟩ := x
  rcases st with _ | ⟨v | (_ | v) | v | v, _ | ⟨i | i, _ | ⟨a | (_ | a) | a | a, st⟩⟩⟩ <;> simp only [am_I1] at hev <;> try cases hev
  by_cases hc : 22 ≤ (h.2 a).1 ∧ (h.2 a).1 ≤ 25 ∧ (h.2 v).1 = am_el (h.2 a).1 ∧ 0 ≤ i ∧ i < (h.2 a).2.1 ∧ (h.2 a).2.1 ≤ 100000
  · simp only [if_pos hc] at hev
    cases hev
    obtain ⟨t1, t2, t3, h1, h2, h3⟩ := hc
    intro LS H locs hls hR hf
    have hR : am_R D s h H := hR
    have hn := i32_nat h1 (show i ≤ 2147483647 by omega)
    obtain ⟨g3, -, q1, -⟩ := hR.arr (by omega) t2 rfl
    obtain ⟨kA, kC, comp, cv, w1, w2, w3, w4, w5, w6⟩ := am_el_cls X.2.2.2.2.2.1 hR t1 t2 t3
    have hin := i32_idx h1 h2 h3
    refine W.aast X.1 X.2.1 q1 (fun q w => by cases w) (fun w => by cases w) w1 w2 (am_at_ref t1 t2) w6 ⟨fun w => hin (Or.inl w), by rw [arrV_size]; exact Nat.not_le.mp fun w => hin (Or.inr w)⟩ w3 w5 (by rw [w4]; exact w6) (by rw [w4]; exact am_assign _ _) rfl rfl hd fun H' e1 e2 e3 => ?_
    rw [hn] at e1 ⊢
    exact am_store_at hls g3 (hR.store (by omega) t2 rfl (v := vR v) (fun q => by omega) (by omega) e1 e2 e3) hf kk
  · simp only [if_neg hc] at hev
    cases hev
theorem at_alen (X : am_Fx p R s m args meth c cc nL own ini D) {G : am_G} {z : Nat × Nat × Nat} {pc : Nat} {x y : am_S} (hd : decode cc pc = .ok (.arraylength, 1)) (hev : am_I1 G (.arraylength, z) x = some y) (kk : am_At p l e R s m args below meth c Q D nL h0 y (pc + 1)) : am_At p l e R s m args below meth c Q D nL h0 x pc := by
  obtain ⟨ls, st, h⟩ := x
  rcases st with _ | ⟨a | (_ | a) | a | a, st⟩ <;> simp only [am_I1] at hev <;> try cases hev
  by_cases hc : (h.2 a).1 = 20 ∨ (h.2 a).1 = 30
  · simp only [if_pos hc] at hev
    cases hev
    intro LS H locs hls hR hf
    have hR : am_R D s h H := hR
    rcases hc with ht | ht
    · obtain ⟨-, -, q1, -⟩ := hR.arr (t := 20) (by omega) (by omega) ht
      exact W.alen (n := Int32.ofInt (h.2 a).2.1) X.1 X.2.1 q1 ((X.2.2.2.2.2.1.2.1 20 (by omega) (by omega)).of _ _) (by rw [arrV_size]; rfl) rfl rfl hd (kk LS H locs hls hR hf)
    · obtain ⟨-, r, q1, q2⟩ := hR.2.2.2.2.1 a (by omega)
      rcases q2 with ⟨q3, -⟩ | ⟨q3, q4, -⟩ | ⟨-, q3, q4, q5, q6⟩
      · omega
      · omega
      · exact W.alen (n := Int32.ofInt (h.2 a).2.1) X.1 X.2.1 q1 q3 (by rw [q5.2]; rfl) rfl rfl hd (kk LS H locs hls hR hf)
  · simp only [if_neg hc] at hev
    cases hev
/-- behind what is made -/
theorem am_new_at {h : am_H} {H' : Heap} {locs : List Loc} {x : am_C} {LS : Array Slot} {ls st : List am_V} {pc n : Nat} (hB : am_B R h0 h) (hn : x.2.1 = n) (hls : am_ls D.1 nL ls LS) (hR : am_R D s (am_new h x) H') (hf : ∀ q ∈ locs, D.1.2.2.2 ≤ q.base)
    (kk : am_At p l e R s m args below meth c Q D nL h0 (ls, vR h.1 :: st, am_new h x) pc) {a : Nat} (ha : am_rho D.1 h.1 = a) : W p l e R s m args below meth c H' locs (h.1 - h0.1 + 1) (am_sl h - am_sl h0 + n) Q (F0 m pc LS (.ref a :: st.map (am_rv D.1))) := by
  have := kk LS H' locs hls hR hf
  have e1 : (am_new h x).1 - h0.1 = h.1 - h0.1 + 1 := by show h.1 + 1 - h0.1 = _; have := hB.1; omega
  have e2 : am_sl (am_new h x) - am_sl h0 = am_sl h - am_sl h0 + n := by rw [am_sl_new, hn]; have := hB.2.1; omega
  rw [show (ls, vR h.1 :: st, am_new h x).2.2 = am_new h x from rfl, e1, e2] at this
  rw [← ha]
  exact this
theorem am_B.room {h : am_H} {x : am_C} (hB : am_B R h0 h) (hB' : am_B R h0 (am_new h x)) : h.1 - h0.1 + 1 ≤ R.cells ∧ am_sl h - am_sl h0 + x.2.1 ≤ R.slots := by
  obtain ⟨h1, h2, -, -⟩ := hB
  obtain ⟨-, -, h3, h4⟩ := hB'
  rw [am_sl_new] at h4
  have h3 : h.1 + 1 - h0.1 ≤ R.cells := h3
  exact ⟨by omega, by omega⟩
theorem am_rho_size {h : am_H} {H : Heap} (hR : am_R D s h H) : am_rho D.1 h.1 = H.size := by
  rw [am_rho_ge hR.1]
  have := hR.2.1
  have := hR.1
  omega
theorem at_newa (X : am_Fx p R s m args meth c cc nL own ini D) {G : am_G} {t : ArrayType} {k j z pc : Nat} (hl : (t = .int ∧ k = 20) ∨ (t = .boolean ∧ k = 21)) {x y : am_S} (hB : am_B R h0 x.2.2) (hB' : am_B R h0 y.2.2) (hd : decode cc pc = .ok (.newarray t, 2)) (hev : am_I1 G (.newarray t, k, j, z) x = some y) (kk : am_At p l e R s m args below meth c Q D nL h0 y (pc + 2)) : am_At p l e R s m args below meth c Q D nL h0 x pc := by
  obtain ⟨ls, st, h⟩ := x
  rcases st with _ | ⟨n | n, st⟩ <;> simp only [am_I1] at hev <;> try cases hev
  by_cases hc : 0 ≤ n ∧ n ≤ 100000
  · simp only [if_pos hc] at hev
    cases hev
    intro LS H locs hls hR hf
    have hR : am_R D s h H := hR
    have hB : am_B R h0 h := hB
    have hn := i32_nat hc.1 (show n ≤ 2147483647 by omega)
    have h0' : ¬ Int32.ofInt n < 0 := by rw [i32_0, i32_lt ⟨by omega, by omega⟩ inR_0]; omega
    obtain ⟨r1, r2⟩ := hB.room hB'
    have hk : 20 ≤ k ∧ k ≤ 25 ∧ newarray.typeOf t = am_at k ∧ (Cond.arrayClass (newarray.typeOf t)).before args s = true ∧ defaultValue (newarray.typeOf t) = .int 0 ∧ componentBytes (newarray.typeOf t) ≤ 4 := by
      rcases hl with ⟨rfl, rfl⟩ | ⟨rfl, rfl⟩
      · exact ⟨by omega, by omega, rfl, X.w tb_ai rfl, rfl, by decide⟩
      · exact ⟨by omega, by omega, rfl, X.w tb_ab rfl, rfl, by decide⟩
    refine W.newa (n := Int32.ofInt n) X.1 X.2.1 hk.2.2.2.1 rfl hd rfl h0' (by rw [hn]; have := Nat.mul_le_mul (show n.toNat ≤ 100000 by omega) hk.2.2.2.2.2; omega) r1 (by rw [hn]; exact r2) fun cA kA comp f1 f2 f3 => ?_
    have hcA : cA = D.2.2.2 k := by
      have g := (X.2.2.2.2.2.1.2.1 k hk.1 hk.2.1).1
      rw [← hk.2.2.1] at g
      exact Option.some.inj (f1.symm.trans g)
    subst hcA
    rw [hn]
    refine am_new_at hB rfl hls (hR.new (r := arrV (D.2.2.2 k) n.toNat (fun _ => .int 0)) (by show k ≠ 99; omega) (Or.inr (Or.inl ⟨hk.1, hk.2.1, rfl, fun _ _ _ => ⟨0, rfl⟩⟩)) ?_ ?_ ?_) hf kk (am_rho_size hR)
    · rw [hk.2.2.2.2.1, Array.getElem?_push_size, ← arrV_new]
    · rw [Array.size_push]
    · exact fun q hq => by rw [Array.getElem?_push, if_neg (Nat.ne_of_lt hq)]
  · simp only [if_neg hc] at hev
    cases hev
theorem at_anew (X : am_Fx p R s m args meth c cc nL own ini D) {G : am_G} {i k j z pc : Nat} (hl : 23 ≤ k ∧ k ≤ 25 ∧ Cond.classLink own i (am_cn k) ∈ lw_tbl) {x y : am_S} (hB : am_B R h0 x.2.2) (hB' : am_B R h0 y.2.2) (hd : decode cc pc = .ok (.anewarray i, 3)) (hev : am_I1 G (.anewarray i, k, j, z) x = some y) (kk : am_At p l e R s m args below meth c Q D nL h0 y (pc + 3)) : am_At p l e R s m args below meth c Q D nL h0 x pc := by
  obtain ⟨ls, st, h⟩ := x
  rcases st with _ | ⟨n | n, st⟩ <;> simp only [am_I1] at hev <;> try cases hev
  by_cases hc : 0 ≤ n ∧ n ≤ 100000
  · simp only [if_pos hc] at hev
    cases hev
    intro LS H locs hls hR hf
    have hR : am_R D s h H := hR
    have hB : am_B R h0 h := hB
    have hn := i32_nat hc.1 (show n ≤ 2147483647 by omega)
    have h0' : ¬ Int32.ofInt n < 0 := by rw [i32_0, i32_lt ⟨by omega, by omega⟩ inR_0]; omega
    obtain ⟨r1, r2⟩ := hB.room hB'
    have hat : am_at k = .object (am_cn k) := by
      rcases (show k = 23 ∨ k = 24 ∨ k = 25 by omega) with rfl | rfl | rfl <;> rfl
    refine W.anew (n := Int32.ofInt n) X.1 X.2.1 X.2.2.2.1 (X.w hl.2.2 rfl) (X.2.2.2.2.2.1.2.2 _ (tb_ao k hl.1 hl.2.1) rfl) rfl hd rfl h0' (by rw [hn]; omega) r1 (by rw [hn]; exact r2) fun cA kA comp f1 f2 f3 f4 => ?_
    have hcA : cA = D.2.2.2 k := by
      have g := (X.2.2.2.2.2.1.2.1 k (by omega) hl.2.1).1
      rw [hat] at g
      exact Option.some.inj (f1.symm.trans g)
    subst hcA
    rw [hn]
    refine am_new_at hB rfl hls (hR.new (r := arrV (D.2.2.2 k) n.toNat (fun _ => .null)) (by show k ≠ 99; omega) (Or.inr (Or.inl ⟨by show 20 ≤ k; omega, hl.2.1, rfl, fun w => by have w : k = 20 := w; omega⟩)) ?_ ?_ ?_) hf kk (am_rho_size hR)
    · rw [Array.getElem?_push_size, ← arrV_new]
    · rw [Array.size_push]
    · exact fun q hq => by rw [Array.getElem?_push, if_neg (Nat.ne_of_lt hq)]
  · simp only [if_neg hc] at hev
    cases hev
theorem am_def {ty : FieldType} (h : am_fk ty ≠ 9) : defaultValue ty = am_rv D.1 (defV ty) := by
  cases ty <;> first | rfl | exact absurd rfl h
theorem am_fks : ∀ c, c < 13 → ∀ k, k < am_n c → am_fk (am_ty c k) ≠ 9 := by decide +kernel
theorem at_new (X : am_Fx p R s m args meth c cc nL own ini D) {G : am_G} {i k j z pc : Nat} (hl : k < 13 ∧ Cond.classLink own i (am_q k).1 ∈ lw_tbl) {x y : am_S} (hB : am_B R h0 x.2.2) (hB' : am_B R h0 y.2.2) (hd : decode cc pc = .ok (.new i, 3)) (hev : am_I1 G (.new i, k, j, z) x = some y) (kk : am_At p l e R s m args below meth c Q D nL h0 y (pc + 3)) : am_At p l e R s m args below meth c Q D nL h0 x pc := by
  obtain ⟨ls, st, h⟩ := x
  simp only [am_I1] at hev
  cases hev
  intro LS H locs hls hR hf
  have hR : am_R D s h H := hR
  have hB : am_B R h0 h := hB
  obtain ⟨r1, r2⟩ := hB.room hB'
  have hKn := X.2.2.2.2.2.1.1.1 k _ (tb_q k hl.1).1
  rw [(tb_q k hl.1).2] at hKn
  refine W.newcK (n := am_n k) X.1 X.2.1 X.2.2.2.1 (X.w hl.2 rfl) (X.w (tb_inst k hl.1) rfl) (X.w (tb_ini k hl.1) rfl) rfl hd r1 r2 hKn.2.1 rfl fun H1 kC hkC e1 z1 o1 => ?_
  obtain ⟨cell, b1, b2, b3, b4⟩ := u_born (am_ty k) X.2.2.2.2.1 (tb_layg hl.1) hKn hkC e1 (tb_ty k hl.1)
  exact am_new_at hB rfl hls (hR.new (r := cell) (by show k ≠ 99; have := hl.1; omega) (Or.inl ⟨hl.1, b2, b3, rfl, fun j hj => (b4 j hj).trans (congrArg some (am_def (am_fks k hl.1 j hj)))⟩) b1 z1 o1) hf kk (am_rho_size hR)
theorem at_oini (X : am_Fx p R s m args meth c cc nL own ini D) {G : am_G} {i j z pc : Nat} (hl : Cond.methodLink own i Lib.objectInit ∈ lw_tbl) {x y : am_S} (hd : decode cc pc = .ok (.invokespecial i, 3)) (hev : am_I1 G (.invokespecial i, 998, j, z) x = some y) (kk : am_At p l e R s m args below meth c Q D nL h0 y (pc + 3)) : am_At p l e R s m args below meth c Q D nL h0 x pc := by
  obtain ⟨ls, st, h⟩ := x
  rcases st with _ | ⟨a | (_ | a) | a | a, st⟩ <;> simp only [am_I1, if_true] at hev <;> try cases hev
  by_cases hc : am_cats st ≤ 8
  · simp only [if_pos hc] at hev
    cases hev
    intro LS H locs hls hR hf
    exact W.objInit X.1 X.2.1 X.2.2.2.1 (X.w hl rfl) (X.w tb_oi rfl) (X.w tb_oc rfl) rfl (by rw [X.2.2.1]; exact hls.2.1.1) rfl hd X.2.2.2.2.2.2.1 (by show 2 * 0 + _ + 12 ≤ _; rw [am_cats_eq]; have := X.2.2.2.2.2.2.2.1; omega) (kk LS H locs hls hR hf)
  · simp only [if_neg hc] at hev
    cases hev
theorem at_copy (X : am_Fx p R s m args meth c cc nL own ini D) {i pc : Nat} (hl : Cond.methodLink own i arraycopyName ∈ lw_tbl) {x y : am_S} (hd : decode cc pc = .ok (.invokestatic i, 3)) (hev : am_copy x = some y) (kk : am_At p l e R s m args below meth c Q D nL h0 y (pc + 3)) : am_At p l e R s m args below meth c Q D nL h0 x pc := by
  obtain ⟨ls, st, h⟩ := x
  rcases st with _ | ⟨n | n, _ | ⟨dp | dp, _ | ⟨d | (_ | d) | d | d, _ | ⟨sp | sp, _ | ⟨a | (_ | a) | a | a, st⟩⟩⟩⟩⟩ <;> simp only [am_copy] at hev <;> try cases hev
  by_cases hc : (h.2 a).1 = 20 ∧ (h.2 d).1 = 20 ∧ 0 ≤ sp ∧ 0 ≤ dp ∧ 0 ≤ n ∧ sp + n ≤ (h.2 a).2.1 ∧ dp + n ≤ (h.2 d).2.1 ∧ (h.2 a).2.1 ≤ 100000 ∧ (h.2 d).2.1 ≤ 100000 ∧ am_cats st ≤ 8
  · simp only [if_pos hc] at hev
    cases hev
    obtain ⟨ta, td, c1, c2, c3, c4, c5, c6, c7, c8⟩ := hc
    intro LS H locs hls hR hf
    have hR : am_R D s h H := hR
    have n1 := i32_nat c1 (show sp ≤ 2147483647 by omega)
    have n2 := i32_nat c2 (show dp ≤ 2147483647 by omega)
    have n3 := i32_nat c3 (show n ≤ 2147483647 by omega)
    have i1 : (Int32.ofInt sp).toInt = sp := i32_of ⟨by omega, by omega⟩
    have i2 : (Int32.ofInt dp).toInt = dp := i32_of ⟨by omega, by omega⟩
    have i3 : (Int32.ofInt n).toInt = n := i32_of ⟨by omega, by omega⟩
    obtain ⟨a3, al, qa, va⟩ := hR.arr (t := 20) (by omega) (by omega) ta
    obtain ⟨d3, dl, qd, vd⟩ := hR.arr (t := 20) (by omega) (by omega) td
    obtain ⟨-, kI, ci, k1, k2, -⟩ := X.2.2.2.2.2.1.2.1 20 (by omega) (by omega)
    have neg : ∀ v : Int, 0 ≤ v → v ≤ 100000 → ¬ Int32.ofInt v < 0 := fun v w1 w2 => by rw [i32_0, i32_lt ⟨by omega, by omega⟩ inR_0]; omega
    intro T hT Y
    obtain ⟨vm', Y', step⟩ := Y.arraycopy X.1 X.2.2.2.1 (X.w hl rfl) (X.w tb_cn rfl) (X.w tb_cs rfl) (X.w tb_ci rfl) (src := am_rho D.1 a) (dst := am_rho D.1 d) (cs := arrV (D.2.2.2 20) (h.2 a).2.1 (fun j => am_rv D.1 ((h.2 a).2.2 j))) (cd := arrV (D.2.2.2 20) (h.2 d).2.1 (fun j => am_rv D.1 ((h.2 d).2.2 j))) (srcPos := Int32.ofInt sp) (destPos := Int32.ofInt dp) (n := Int32.ofInt n) (by rw [hT]; exact qa) (by rw [hT]; exact qd)
      (fun _ w => by cases w) (fun _ w => by cases w) (fun w => by cases w) (fun w => by cases w) k1 k1 k2 k2 (by decide) (neg sp c1 (by omega)) (neg dp c2 (by omega)) (neg n c3 (by omega))
      (by rw [i1, i3, arrV_size]; omega) (by rw [i2, i3, arrV_size]; omega)
      (fun vm₁ _ j hj => by
        rw [n3] at hj
        have e : (arrV (D.2.2.2 20) (h.2 a).2.1 (fun j => am_rv D.1 ((h.2 a).2.2 j))).slots.getD ((Int32.ofInt sp).toNatClampNeg + j) .null = am_rv D.1 ((h.2 a).2.2 (sp.toNat + j)) := by
          rw [n1, Array.getD_eq_getD_getElem?, arrV_read _ _ (by omega)]
          rfl
        obtain ⟨w, hw⟩ := va rfl (sp.toNat + j) (by omega)
        rw [e, hw]
        exact ⟨rfl, trivial⟩)
      (g := F0 m pc LS (.int (Int32.ofInt n) :: .int (Int32.ofInt dp) :: .ref (am_rho D.1 d) :: .int (Int32.ofInt sp) :: .ref (am_rho D.1 a) :: st.map (am_rv D.1))) rfl (by rw [X.2.2.1]; exact hls.2.1.1) (rest := st.map (am_rv D.1)) rfl (by rw [X.2.1]; exact hd) X.2.2.2.2.2.2.1 (by show 2 * 0 + _ + _ ≤ _; rw [am_cats_eq]; have := X.2.2.2.2.2.2.2.1; show 2 * 0 + _ + (5 + 2 + 11) ≤ _; omega)
    have e1 : copied (arrV (D.2.2.2 20) (h.2 a).2.1 (fun j => am_rv D.1 ((h.2 a).2.2 j))) (arrV (D.2.2.2 20) (h.2 d).2.1 (fun j => am_rv D.1 ((h.2 d).2.2 j))) (Int32.ofInt sp) (Int32.ofInt dp) (Int32.ofInt n) = arrV (D.2.2.2 20) (h.2 d).2.1 (fun j => am_rv D.1 (am_cpy (h.2 a).2.2 (h.2 d).2.2 sp.toNat dp.toNat n.toNat j)) := by
      have := va_copied (fun z => am_rv D.1 z) (D.2.2.2 20) (D.2.2.2 20) (n0 := (h.2 a).2.1) (n1 := (h.2 d).2.1) (sp := sp.toNat) (dp := dp.toNat) (n := n.toNat) (h.2 a).2.2 (h.2 d).2.2 (by omega)
      rw [← n1, ← n2, ← n3] at this
      rw [← n1, ← n2, ← n3]
      exact this
    rw [e1] at Y' step
    have hlt : am_rho D.1 d < H.size := (Array.getElem?_eq_some_iff.mp qd).1
    generalize hH1 : H.setIfInBounds (am_rho D.1 d) (arrV (D.2.2.2 20) (h.2 d).2.1 (fun j => am_rv D.1 (am_cpy (h.2 a).2.2 (h.2 d).2.2 sp.toNat dp.toNat n.toNat j))) = H1
    have hR' : am_R D s (am_put h d (20, (h.2 d).2.1, am_cpy (h.2 a).2.2 (h.2 d).2.2 sp.toNat dp.toNat n.toNat)) H1 := by
      refine hR.put d3 dl (r := arrV (D.2.2.2 20) (h.2 d).2.1 (fun j => am_rv D.1 (am_cpy (h.2 a).2.2 (h.2 d).2.2 sp.toNat dp.toNat n.toNat j))) (by show (20 : Nat) ≠ 99; decide) (Or.inr (Or.inl ⟨by show 20 ≤ 20; omega, by show 20 ≤ 25; omega, rfl, fun _ j hj => ?_⟩)) ?_ ?_ ?_
      · show ∃ v : Int, am_cpy _ _ _ _ _ j = vI v
        unfold am_cpy
        split
        · exact va rfl _ (by omega)
        · exact vd rfl _ hj
      · rw [← hH1]; simp [Array.getElem?_setIfInBounds, hlt]
      · rw [← hH1]; simp
      · intro q hq
        rw [← hH1]; simp [Array.getElem?_setIfInBounds, Ne.symm hq]
    have hk := kk LS H1 (locs ++ ((arrV (D.2.2.2 20) (h.2 a).2.1 (fun j => am_rv D.1 ((h.2 a).2.2 j))).stretch (Int32.ofInt sp).toNatClampNeg (Int32.ofInt n).toNatClampNeg).zipIdx.map fun q => ⟨am_rho D.1 d, (Int32.ofInt dp).toNatClampNeg + q.2⟩) hls hR' (fun q hq => by
      rcases List.mem_append.mp hq with g | g
      · exact hf q g
      · obtain ⟨w, -, hw⟩ := List.mem_map.mp g
        rw [← hw]; show D.1.2.2.2 ≤ am_rho D.1 d; rw [am_rho_ge d3]; omega)
    rw [show am_sl (ls, st, am_put h d (20, (h.2 d).2.1, am_cpy (h.2 a).2.2 (h.2 d).2.2 sp.toNat dp.toNat n.toNat)).2.2 = am_sl h from am_sl_put rfl] at hk
    obtain ⟨t, a1, b1⟩ := hk _ (show ((T.setVm vm').setCell (am_rho D.1 d) _).heap = H1 by rw [← hH1, ← hT]; rfl) Y'
    exact ⟨t, step t a1, b1⟩
  · simp only [if_neg hc] at hev
    cases hev
end HEAP2
