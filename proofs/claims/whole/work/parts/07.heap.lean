/-! One step of the abstract machine is one of the machine: fields, rows, what is made. -/
def am_B (R : Room) (h0 h : am_H) : Prop := h0.1 ≤ h.1 ∧ am_sl h0 ≤ am_sl h ∧ h.1 - h0.1 ≤ R.cells ∧ am_sl h - am_sl h0 ≤ R.slots
theorem lay_good {C : String} {T : u_T} {k : Nat} : goodWord (u_lay C T k) = true := by
  unfold u_lay
  split <;> rfl
theorem tb_layg {c : Nat} (hc : c < 13) : ∀ w ∈ u_ws (am_q c).1 (am_q c).2.1 (am_n c), w ∈ lw_good := by
  intro w hw
  refine lw_good_of (tb_lay c hc w hw) ?_
  obtain ⟨k, -, rfl⟩ := List.mem_map.mp hw
  exact lay_good
section HEAP
variable {p : Program} {l : Launch} {e : Env} {R : Room} {s : State} {m : MethodId} {args : Array Value} {below : List Frame} {meth : Method} {c : Code} {Q : State → Prop} {cc : ByteArray} {nL : Nat} {own : String} {ini : Bool} {D : am_D} {h0 : am_H}
theorem am_Fx.w (X : am_Fx p R s m args meth c cc nL own ini D) {w : Cond} (h : w ∈ lw_tbl) (hg : goodWord w = true) : w.before args s = true := X.2.2.2.2.1 _ (lw_good_of h hg)
/-- an object: its cell -/
theorem am_R.obj {h : am_H} {H : Heap} (hR : am_R D s h H) {a k : Nat} (hk : k < 13) (ht : (h.2 a).1 = k) : 3 ≤ a ∧ a < h.1 ∧ ∃ r : Cell, H[am_rho D.1 a]? = some r ∧ r.cls = D.2.1 k ∧ r.vm = .none ∧ (h.2 a).2.1 = am_n k ∧ ∀ j, j < am_n k → r.slots[D.2.2.1 k j]? = some (am_rv D.1 ((h.2 a).2.2 j)) := by
  have h3 := hR.ge (k := a) (by omega) (by omega)
  obtain ⟨hl, r, q1, q2⟩ := hR.2.2.2.2.1 a (by omega)
  subst ht
  rcases q2 with ⟨-, q3, q4, q5, q6⟩ | ⟨q3, -⟩ | ⟨q3, -⟩
  · exact ⟨h3, hl, r, q1, q3, q4, q5, q6⟩
  · omega
  · omega
theorem am_R.arr {h : am_H} {H : Heap} (hR : am_R D s h H) {a t : Nat} (h20 : 20 ≤ t) (h25 : t ≤ 25) (ht : (h.2 a).1 = t) : 3 ≤ a ∧ a < h.1 ∧ H[am_rho D.1 a]? = some (arrV (D.2.2.2 t) (h.2 a).2.1 (fun j => am_rv D.1 ((h.2 a).2.2 j))) ∧ (t = 20 → ∀ j, j < (h.2 a).2.1 → ∃ v : Int, (h.2 a).2.2 j = vI v) := by
  have h3 := hR.ge (k := a) (by omega) (by omega)
  obtain ⟨hl, r, q1, q2⟩ := hR.2.2.2.2.1 a (by omega)
  subst ht
  rcases q2 with ⟨q3, -⟩ | ⟨-, -, q3, q4⟩ | ⟨q3, -⟩
  · omega
  · exact ⟨h3, hl, by rw [← q3]; exact q1, q4⟩
  · omega
theorem am_KA.of {t : Nat} {cA : ClassId} (h : am_KA s t cA) (n : Nat) (f : Nat → Value) : s.isArrayOf (arrV cA n f) (am_at t) := by
  obtain ⟨-, kA, comp, h2, h3, -⟩ := h
  exact ⟨fun k q => (by cases q), kA, h2, comp, h3⟩
theorem at_get (X : am_Fx p R s m args meth c cc nL own ini D) {G : am_G} {i k j z pc : Nat} (hl : am_fl own i k j) {x y : am_S} (hd : decode cc pc = .ok (.getfield i, 3)) (hev : am_I1 G (.getfield i, k, j, z) x = some y) (kk : am_At p l e R s m args below meth c Q D nL h0 y (pc + 3)) : am_At p l e R s m args below meth c Q D nL h0 x pc := by
  obtain ⟨hc, hj, hw⟩ := hl
  obtain ⟨ls, st, h⟩ := x
  rcases st with _ | ⟨v | (_ | a) | v | v, st⟩ <;> simp only [am_I1] at hev <;> try cases hev
  by_cases ht : (h.2 a).1 = k
  · simp only [if_pos ht] at hev
    cases hev
    intro LS H locs hls hR hf
    obtain ⟨-, -, r, q1, q2, q3, q4, q5⟩ := hR.obj hc ht
    obtain ⟨hS, hfc, kC, hkC, hkind⟩ := X.2.2.2.2.2.1.1.1 k _ (tb_q k hc).1
    rw [(tb_q k hc).2] at hS
    obtain ⟨cf, kf, fi, f, hi, hsl⟩ := hS j hj
    have hst := (u_facts hfc hkC (u_lays X.2.2.2.2.1 (tb_layg hc) hj) hi).1
    exact W.getf (v := am_rv D.1 ((h.2 a).2.2 j)) X.1 X.2.1 X.2.2.2.1 (X.w hw rfl) hi hst q1 (by rw [q3]; exact fun q => by cases q) (by rw [hsl]; exact q5 j hj) rfl rfl hd (kk LS H locs hls hR hf)
  · simp only [if_neg ht] at hev
    cases hev
theorem am_fit_ok {ty : FieldType} {v : am_V} (h : am_fit (am_fk ty) v = true) : narrow ty (am_rv D.1 v) = am_rv D.1 v ∧ fits ty (am_rv D.1 v) = true := by
  cases ty <;> rcases v with x | (_ | x) | x | x <;> simp only [am_fk, am_fit] at h <;> first | (cases h; done) | exact ⟨rfl, rfl⟩ | skip
  all_goals
    rcases of_decide_eq_true h with rfl | rfl <;> exact ⟨rfl, rfl⟩
theorem at_put (X : am_Fx p R s m args meth c cc nL own ini D) {G : am_G} {i k j z pc : Nat} (hl : am_fl own i k j) (hfk : am_fk (am_ty k j) = z) (hfin : ((am_q k).2.1 j).2.2.2 = false ∨ (ini = true ∧ ((am_q k).2.1 j).2.2.2 = true ∧ ((am_q k).2.1 j).1 = own)) {x y : am_S} (hd : decode cc pc = .ok (.putfield i, 3)) (hev : am_I1 G (.putfield i, k, j, z) x = some y) (kk : am_At p l e R s m args below meth c Q D nL h0 y (pc + 3)) : am_At p l e R s m args below meth c Q D nL h0 x pc := by
  obtain ⟨hc, hj, hw⟩ := hl
  obtain ⟨ls, st, h⟩ := x
  rcases st with _ | ⟨v, _ | ⟨a | (_ | a) | a | a, st⟩⟩ <;> simp only [am_I1] at hev <;> try cases hev
  by_cases ht : (h.2 a).1 = k ∧ am_fit z v = true
  · simp only [if_pos ht] at hev
    cases hev
    intro LS H locs hls hR hf
    obtain ⟨h3, hlt, r, q1, q2, q3, q4, q5⟩ := hR.obj hc ht.1
    have hap := va_apart (own := own) X.2.2.2.2.1 (tb_layg hc) (am_ty k) (tb_ty k hc) (tb_nm k hc) X.2.2.2.2.2.1.1 (by rw [(tb_q k hc).1, ← (tb_q k hc).2])
    obtain ⟨hS, hfc, kC, hkC, hkind⟩ := X.2.2.2.2.2.1.1.1 k _ (tb_q k hc).1
    rw [(tb_q k hc).2] at hS
    obtain ⟨cf, kf, fi, f, hi, hsl⟩ := hS j hj
    have hst := (u_facts hfc hkC (u_lays X.2.2.2.2.1 (tb_layg hc) hj) hi).1
    have hfit := am_fit_ok (D := D) (ty := am_ty k j) (v := v) (by rw [hfk]; exact ht.2)
    have hlay := X.2.2.2.2.1 _ (tb_layg hc _ (u_in_lay hj))
    unfold u_lay at hlay
    have hdone : ∀ H' : Heap, H'[am_rho D.1 a]? = some (r.setSlot f.slot (am_rv D.1 v)) → H'.size = H.size → (∀ q, q ≠ am_rho D.1 a → H'[q]? = H[q]?) → W p l e R s m args below meth c H' (locs ++ [⟨am_rho D.1 a, f.slot⟩]) (h.1 - h0.1) (am_sl h - am_sl h0) Q (F0 m (pc + 3) LS (st.map (am_rv D.1))) := by
      intro H' e1 e2 e3
      have hR' : am_R D s (am_put h a (k, (h.2 a).2.1, au (h.2 a).2.2 j v)) H' := by
        refine hR.put h3 hlt (r := r.setSlot f.slot (am_rv D.1 v)) (by show k ≠ 99; omega) (Or.inl ⟨hc, q2, q3, q4, fun i hi => ?_⟩) e1 e2 e3
        have := t_set (V := fun i => am_rv D.1 ((h.2 a).2.2 i)) q5 hap hj (am_rv D.1 v) i hi
        rw [hsl]
        rw [this]
        show some (updV _ _ _ _) = some (am_rv D.1 (au (h.2 a).2.2 j v i))
        by_cases hij : i = j
        · subst hij; rw [au_s]; simp [updV]
        · rw [au_n _ _ hij]; simp [updV, hij]
      have := kk LS H' (locs ++ [⟨am_rho D.1 a, f.slot⟩]) hls hR' (fun q hq => by
        rcases List.mem_append.mp hq with g | g
        · exact hf q g
        · rw [List.mem_singleton.mp g]; show D.1.2.2.2 ≤ am_rho D.1 a; rw [am_rho_ge h3]; omega)
      rw [show am_sl (ls, st, am_put h a (k, (h.2 a).2.1, au (h.2 a).2.2 j v)).2.2 = am_sl h from am_sl_put rfl] at this
      exact this
    rcases hfin with hfin | ⟨hi1, hi2, hi3⟩
    · rw [if_neg (by rw [hfin]; decide)] at hlay
      have h6 := u_store hfc hkC hkind hlay hi (tb_ty k hc j hj) hfit.1 hfit.2
      exact W.putK X.1 X.2.1 (f := f) ⟨X.2.2.2.1, X.w hw rfl, ⟨_, _, _, hi⟩, hst⟩ (by rw [q2]; exact h6) q1 q3 (by rw [hsl]; exact k2_hasslot (q5 j hj)) rfl rfl hd hdone
    · rw [if_pos hi2] at hlay
      have hcf : m.cls = cf := by
        obtain ⟨_, _, c', _, _, _, -, -, hf', -, -, -, hown2, -⟩ := Cond.laysFinal_spec hlay
        have e1 : c' = cf := by have := hi.symm.trans hf'; simp at this; exact this.1.symm
        rw [hi3] at hown2
        rw [← e1]; exact Option.some.inj (X.2.2.2.1.symm.trans hown2)
      have h6 := u_fits hfc hkC hkind (Or.inr hlay) hi (tb_ty k hc j hj) hfit.1 hfit.2
      exact W.putFinK X.1 X.2.1 X.2.2.2.1 (X.w hw rfl) hi hst hcf (X.2.2.2.2.2.2.2.2 hi1) (by rw [q2]; exact h6) q1 q3 (by rw [hsl]; exact k2_hasslot (q5 j hj)) rfl rfl hd hdone
  · simp only [if_neg ht] at hev
    cases hev
theorem at_gets (X : am_Fx p R s m args meth c cc nL own ini D) {G : am_G} {i k j z pc : Nat} (hl : (k = 1 ∧ Cond.fieldLink own i "WeylWords$Operator" "X_AT" "[I" ∈ lw_tbl) ∨ (k = 2 ∧ Cond.fieldLink own i "WeylWords$Operator" "D_AT" "[I" ∈ lw_tbl)) {x y : am_S} (hd : decode cc pc = .ok (.getstatic i, 3)) (hev : am_I1 G (.getstatic i, k, j, z) x = some y) (kk : am_At p l e R s m args below meth c Q D nL h0 y (pc + 3)) : am_At p l e R s m args below meth c Q D nL h0 x pc := by
  simp only [am_I1] at hev
  cases hev
  intro LS H locs hls hR hf
  rcases hl with ⟨rfl, hw⟩ | ⟨rfl, hw⟩
  · obtain ⟨cf, kf, fi, f, a, cell, g1, g2, g3, g4, g5, g6, g7, g8⟩ := hR.2.2.2.2.2.1
    exact W.gets X.1 X.2.1 X.2.2.2.1 (X.w hw rfl) g1 g2 g3 g4 g5 (fun q => by rw [q] at g6; cases g6) g7 rfl hd (kk LS H locs hls hR hf)
  · obtain ⟨cf, kf, fi, f, a, cell, g1, g2, g3, g4, g5, g6, g7, g8⟩ := hR.2.2.2.2.2.2
    exact W.gets X.1 X.2.1 X.2.2.2.1 (X.w hw rfl) g1 g2 g3 g4 g5 (fun q => by rw [q] at g6; cases g6) g7 rfl hd (kk LS H locs hls hR hf)
theorem am_aload_eq {t : Nat → Bool} {x y : am_S} (hev : am_aload t x = some y) : ∃ ls st h i a, x = (ls, vI i :: vR a :: st, h) ∧ t (h.2 a).1 = true ∧ 0 ≤ i ∧ i < (h.2 a).2.1 ∧ (h.2 a).2.1 ≤ 100000 ∧ y = (ls, (h.2 a).2.2 i.toNat :: st, h) := by
  obtain ⟨ls, st, h⟩ := x
  rcases st with _ | ⟨i | i, _ | ⟨a | (_ | a) | a | a, st⟩⟩ <;> simp only [am_aload] at hev <;> try cases hev
  by_cases hc : t (h.2 a).1 = true ∧ 0 ≤ i ∧ i < (h.2 a).2.1 ∧ (h.2 a).2.1 ≤ 100000
  · simp only [if_pos hc] at hev
    cases hev
    exact ⟨ls, st, h, i, a, rfl, hc.1, hc.2.1, hc.2.2.1, hc.2.2.2, rfl⟩
  · simp only [if_neg hc] at hev
    cases hev
theorem at_iald (X : am_Fx p R s m args meth c cc nL own ini D) {pc : Nat} {x y : am_S} (hd : decode cc pc = .ok (.iaload, 1)) (hev : am_aload (fun t => t == 20 || t == 30) x = some y) (kk : am_At p l e R s m args below meth c Q D nL h0 y (pc + 1)) : am_At p l e R s m args below meth c Q D nL h0 x pc := by
  obtain ⟨ls, st, h, i, a, rfl, ht, h1, h2, h3, rfl⟩ := am_aload_eq hev
  intro LS H locs hls hR hf
  have hR : am_R D s h H := hR
  have hn := i32_nat h1 (show i ≤ 2147483647 by omega)
  have ht : (h.2 a).1 = 20 ∨ (h.2 a).1 = 30 := by simpa using ht
  rcases ht with ht | ht
  · obtain ⟨-, -, q1, -⟩ := hR.arr (t := 20) (by omega) (by omega) ht
    refine W.iald (v := am_rv D.1 ((h.2 a).2.2 i.toNat)) X.1 X.2.1 q1 ((X.2.2.2.2.2.1.2.1 20 (by omega) (by omega)).of _ _) (fun q => by cases q) (by rw [arrV_size]; exact i32_idx h1 h2 h3) (by rw [hn, arrV_read _ _ (by omega)]) rfl rfl hd (kk LS H locs hls hR hf)
  · obtain ⟨-, r, q1, q2⟩ := hR.2.2.2.2.1 a (by omega)
    rcases q2 with ⟨q3, -⟩ | ⟨q3, q4, -⟩ | ⟨-, q3, q4, q5, q6⟩
    · omega
    · omega
    · exact W.iald (v := am_rv D.1 ((h.2 a).2.2 i.toNat)) X.1 X.2.1 q1 q3 q4 (fun w => i32_idx h1 h2 h3 (by rcases w with w | w; exact Or.inl w; exact Or.inr (Nat.le_trans q5.1 w))) (by rw [hn]; exact q6 _ (by omega)) rfl rfl hd (kk LS H locs hls hR hf)
theorem at_bald (X : am_Fx p R s m args meth c cc nL own ini D) {pc : Nat} {x y : am_S} (hd : decode cc pc = .ok (.baload, 1)) (hev : am_aload (fun t => t == 21) x = some y) (kk : am_At p l e R s m args below meth c Q D nL h0 y (pc + 1)) : am_At p l e R s m args below meth c Q D nL h0 x pc := by
  obtain ⟨ls, st, h, i, a, rfl, ht, h1, h2, h3, rfl⟩ := am_aload_eq hev
  intro LS H locs hls hR hf
  have hR : am_R D s h H := hR
  have hn := i32_nat h1 (show i ≤ 2147483647 by omega)
  have ht : (h.2 a).1 = 21 := by simpa using ht
  obtain ⟨-, -, q1, -⟩ := hR.arr (t := 21) (by omega) (by omega) ht
  refine W.zald (v := am_rv D.1 ((h.2 a).2.2 i.toNat)) X.1 X.2.1 q1 ((X.2.2.2.2.2.1.2.1 21 (by omega) (by omega)).of _ _) (fun q => by cases q) (by rw [arrV_size]; exact i32_idx h1 h2 h3) (by rw [hn, arrV_read _ _ (by omega)]) rfl rfl hd (kk LS H locs hls hR hf)
theorem am_at_ref {t : Nat} (h1 : 22 ≤ t) (h2 : t ≤ 25) : (am_at t).isReference = true := by
  rcases (show t = 22 ∨ t = 23 ∨ t = 24 ∨ t = 25 by omega) with rfl | rfl | rfl | rfl <;> rfl
theorem at_aald (X : am_Fx p R s m args meth c cc nL own ini D) {pc : Nat} {x y : am_S} (hd : decode cc pc = .ok (.aaload, 1)) (hev : am_aload (fun t => decide (22 ≤ t ∧ t ≤ 25)) x = some y) (kk : am_At p l e R s m args below meth c Q D nL h0 y (pc + 1)) : am_At p l e R s m args below meth c Q D nL h0 x pc := by
  obtain ⟨ls, st, h, i, a, rfl, ht, h1, h2, h3, rfl⟩ := am_aload_eq hev
  intro LS H locs hls hR hf
  have hR : am_R D s h H := hR
  have hn := i32_nat h1 (show i ≤ 2147483647 by omega)
  have ht : 22 ≤ (h.2 a).1 ∧ (h.2 a).1 ≤ 25 := of_decide_eq_true ht
  obtain ⟨-, -, q1, -⟩ := hR.arr (by omega) ht.2 rfl
  refine W.aald (v := am_rv D.1 ((h.2 a).2.2 i.toNat)) X.1 X.2.1 q1 ((X.2.2.2.2.2.1.2.1 _ (by omega) ht.2).of _ _) (am_at_ref ht.1 ht.2) (fun q => by cases q) (by rw [arrV_size]; exact i32_idx h1 h2 h3) (by rw [hn, arrV_read _ _ (by omega)]) rfl rfl hd (kk LS H locs hls hR hf)
/-- behind a store into a row -/
theorem am_R.store {h : am_H} {H H' : Heap} (hR : am_R D s h H) {a t i : Nat} (h20 : 20 ≤ t) (h25 : t ≤ 25) (ht : (h.2 a).1 = t) {v : am_V} (hv : t = 20 → ∃ z : Int, v = vI z) (hi : i < (h.2 a).2.1)
    (e1 : H'[am_rho D.1 a]? = some ((arrV (D.2.2.2 t) (h.2 a).2.1 (fun j => am_rv D.1 ((h.2 a).2.2 j))).setSlot i (am_rv D.1 v))) (e2 : H'.size = H.size) (e3 : ∀ q, q ≠ am_rho D.1 a → H'[q]? = H[q]?) : am_R D s (am_put h a (t, (h.2 a).2.1, au (h.2 a).2.2 i v)) H' := by
  obtain ⟨h3, hl, q1, q2⟩ := hR.arr h20 h25 ht
  refine hR.put h3 hl (by show t ≠ 99; omega) (Or.inr (Or.inl ⟨h20, h25, ?_, fun h j hj => ?_⟩)) e1 e2 e3
  · rw [arrV_store]
    congr 1
    funext j
    show updV _ _ _ _ = am_rv D.1 (au (h.2 a).2.2 i v j)
    by_cases hij : j = i
    · subst hij; rw [au_s]; simp [updV]
    · rw [au_n _ _ hij]; simp [updV, hij]
  · have h : t = 20 := h
    show ∃ z : Int, au (_) i v j = vI z
    by_cases hij : j = i
    · subst hij; rw [au_s]; exact hv h
    · rw [au_n _ _ hij]; exact q2 h j hj
theorem am_store_at {h : am_H} {H' : Heap} {locs : List Loc} {a t i : Nat} {v : am_V} {LS : Array Slot} {ls st : List am_V} {pc : Nat} (hls : am_ls D.1 nL ls LS) (h3 : 3 ≤ a) (hR : am_R D s (am_put h a (t, (h.2 a).2.1, au (h.2 a).2.2 i v)) H') (hf : ∀ q ∈ locs, D.1.2.2.2 ≤ q.base)
    (kk : am_At p l e R s m args below meth c Q D nL h0 (ls, st, am_put h a (t, (h.2 a).2.1, au (h.2 a).2.2 i v)) pc) : W p l e R s m args below meth c H' (locs ++ [⟨am_rho D.1 a, i⟩]) (h.1 - h0.1) (am_sl h - am_sl h0) Q (F0 m pc LS (st.map (am_rv D.1))) := by
  have := kk LS H' (locs ++ [⟨am_rho D.1 a, i⟩]) hls hR (fun q hq => by
    rcases List.mem_append.mp hq with g | g
    · exact hf q g
    · rw [List.mem_singleton.mp g]; show D.1.2.2.2 ≤ am_rho D.1 a; rw [am_rho_ge h3]; omega)
  rw [show am_sl (ls, st, am_put h a (t, (h.2 a).2.1, au (h.2 a).2.2 i v)).2.2 = am_sl h from am_sl_put rfl] at this
  exact this
theorem at_iast (X : am_Fx p R s m args meth c cc nL own ini D) {G : am_G} {z : Nat × Nat × Nat} {pc : Nat} {x y : am_S} (hd : decode cc pc = .ok (.iastore, 1)) (hev : am_I1 G (.iastore, z) x = some y) (kk : am_At p l e R s m args below meth c Q D nL h0 y (pc + 1)) : am_At p l e R s m args below meth c Q D nL h0 x pc := by
  obtain ⟨ls, st, h⟩ := x
  rcases st with _ | ⟨v | v, _ | ⟨i | i, _ | ⟨a | (_ | a) | a | a, st⟩⟩⟩ <;> simp only [am_I1] at hev <;> try cases hev
  by_cases hc : (h.2 a).1 = 20 ∧ 0 ≤ i ∧ i < (h.2 a).2.1 ∧ (h.2 a).2.1 ≤ 100000
  · simp only [if_pos hc] at hev
    cases hev
    obtain ⟨ht, h1, h2, h3⟩ := hc
    intro LS H locs hls hR hf
    have hR : am_R D s h H := hR
    have hn := i32_nat h1 (show i ≤ 2147483647 by omega)
    obtain ⟨g3, -, q1, -⟩ := hR.arr (t := 20) (by omega) (by omega) ht
    refine W.iast X.1 X.2.1 q1 ((X.2.2.2.2.2.1.2.1 20 (by omega) (by omega)).of _ _) (fun q => by cases q) (by rw [arrV_size]; exact i32_idx h1 h2 h3) rfl rfl hd fun H' e1 e2 e3 => ?_
    rw [hn] at e1 ⊢
    exact am_store_at hls g3 (hR.store (by omega) (by omega) ht (v := vI v) (fun _ => ⟨v, rfl⟩) (by omega) e1 e2 e3) hf kk
  · simp only [if_neg hc] at hev
    cases hev
theorem at_bast (X : am_Fx p R s m args meth c cc nL own ini D) {G : am_G} {z : Nat × Nat × Nat} {pc : Nat} {x y : am_S} (hd : decode cc pc = .ok (.bastore, 1)) (hev : am_I1 G (.bastore, z) x = some y) (kk : am_At p l e R s m args below meth c Q D nL h0 y (pc + 1)) : am_At p l e R s m args below meth c Q D nL h0 x pc := by
  obtain ⟨ls, st, h⟩ := x
  rcases st with _ | ⟨v | v, _ | ⟨i | i, _ | ⟨a | (_ | a) | a | a, st⟩⟩⟩ <;> simp only [am_I1] at hev <;> try cases hev
  by_cases hc : (h.2 a).1 = 21 ∧ 0 ≤ i ∧ i < (h.2 a).2.1 ∧ (h.2 a).2.1 ≤ 100000 ∧ (v = 0 ∨ v = 1)
  · simp only [if_pos hc] at hev
    cases hev
    obtain ⟨ht, h1, h2, h3, h4⟩ := hc
    intro LS H locs hls hR hf
    have hR : am_R D s h H := hR
    have hn := i32_nat h1 (show i ≤ 2147483647 by omega)
    obtain ⟨g3, -, q1, -⟩ := hR.arr (t := 21) (by omega) (by omega) ht
    refine W.zast X.1 X.2.1 q1 ((X.2.2.2.2.2.1.2.1 21 (by omega) (by omega)).of _ _) (fun q => by cases q) (by rw [arrV_size]; exact i32_idx h1 h2 h3) rfl rfl hd fun H' e1 e2 e3 => ?_
    rw [show narrow .boolean (.int (Int32.ofInt v)) = am_rv D.1 (vI v) by rcases h4 with rfl | rfl <;> rfl, hn] at e1
    rw [hn]
    exact am_store_at hls g3 (hR.store (by omega) (by omega) ht (v := vI v) (fun q => by omega) (by omega) e1 e2 e3) hf kk
  · simp only [if_neg hc] at hev
    cases hev
end HEAP
