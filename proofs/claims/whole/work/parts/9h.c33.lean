/-! The class: absorb. Written by wip/whole/gen_9h.py. -/
/-- kept, waiting, rows, leads, settled pairs -/
abbrev C6 : Type := Nat × Nat × (Nat → Nat → Int) × (Nat → Nat) × (Nat → Nat) × (Nat → Int)
abbrev CsS (I : Nat → Nat → Int) (R : Nat → Nat → Option Nat) (ρ : Nat → Nat) (o : Int) (s : C6) : Prop := Cst I R ρ o s.1 s.2.1 s.2.2.1 s.2.2.2.1 s.2.2.2.2.1 s.2.2.2.2.2
def dmP (g : Nat) (s : C6) : C6 := (s.1 - 1, s.2.1 + 1, fun k => s.2.2.1 (sgi g s.1 k), fun k => s.2.2.2.1 (sgi g s.1 k), fun k => s.2.2.2.2.1 (sgi g s.1 k), sgs s.2.2.2.2.2 g s.1)
def adP (i j : Nat) (s : C6) : C6 := (s.1 + 1, s.2.1 - 1, fun k => s.2.2.1 (tai (s.1 - plc s.2.2.2.1 s.1 i) s.1 k), fun k => if k = s.1 - plc s.2.2.2.1 s.1 i then i else s.2.2.2.1 (tai (s.1 - plc s.2.2.2.1 s.1 i) s.1 k), fun k => if k = s.1 - plc s.2.2.2.1 s.1 i then j else s.2.2.2.2.1 (tai (s.1 - plc s.2.2.2.1 s.1 i) s.1 k), tas s.2.2.2.2.2 (s.1 - plc s.2.2.2.1 s.1 i) s.1)
/-- the kept rows that a lead divides wait again, from the last on -/
def dsL (i j : Nat) : Nat → C6 → C6
  | 0, s => s
  | k + 1, s => dsL i j k (if i ≤ s.2.2.2.1 k ∧ j ≤ s.2.2.2.2.1 k then dmP k s else s)
/-- the rest of the first waiting row by the kept ones -/
def abR (o : Int) (s : C6) : Nat → Int := rdC o (fun k => pl (s.2.2.2.1 k) (s.2.2.2.2.1 k)) s.1 s.2.2.1 (s.2.2.1 s.1)
/-- its lead brought to 1 -/
def abM (o : Int) (f : Nat → Int) : Nat → Int := fun k => f k * inv (f (lw o f)) % 10007
def abP (o : Int) (s : C6) : C6 := if led o (abR o s) < 0 then (s.1, s.2.1 - 1, fun k => au s.2.2.1 s.1 (abR o s) (swp s.1 (s.1 + s.2.1 - 1) k), s.2.2.2) else adP (xw (lw o (abR o s))) (dw (lw o (abR o s))) (dsL (xw (lw o (abR o s))) (dw (lw o (abR o s))) s.1 (s.1, s.2.1, au s.2.2.1 s.1 (abM o (abR o s)), s.2.2.2))
theorem dsL_n (i j k : Nat) (s : C6) : (dsL i j k s).1 + (dsL i j k s).2.1 = s.1 + s.2.1 ∨ s.1 < k := by
  induction k generalizing s with
  | zero => exact Or.inl rfl
  | succ k ih =>
    by_cases h : s.1 < k + 1
    · exact Or.inr h
    · left
      show (dsL i j k (if i ≤ s.2.2.2.1 k ∧ j ≤ s.2.2.2.2.1 k then dmP k s else s)).1 + (dsL i j k (if i ≤ s.2.2.2.1 k ∧ j ≤ s.2.2.2.2.1 k then dmP k s else s)).2.1 = _
      split
      · rcases ih (dmP k s) with e | e
        · rw [e]
          show s.1 - 1 + (s.2.1 + 1) = _
          omega
        · have : s.1 - 1 < k := e
          omega
      · rcases ih s with e | e
        · exact e
        · omega
set_option maxRecDepth 10000 in
theorem st3_dis {d L : Nat} {I : Nat → Nat → Int} {R : Nat → Nat → Option Nat} {u : Int64} (hF : FixR R) {ρ : Nat → Nat} {o : Int} {s : C6} (hC : CsS I R ρ o s) {a w i j k : Nat} (hk : k < s.1) (hω : 1 ≤ s.2.1) (hij : i + j ≤ 12) : ∃ J R' ρ', am_ev (am_run am_tb (d + 2)) wX3_absorb_178 ([vR 165, vR a, vI (w : Nat), vI (i : Nat), vI (j : Nat), vI ((k + 1 : Nat) - 1 : Int)], [], LH L I R u) = some (178 + 2, [vR 165, vR a, vI (w : Nat), vI (i : Nat), vI (j : Nat), vI ((k : Nat) - 1 : Int)], [], LH L J R' u) ∧ CsS J R' ρ' o (if i ≤ s.2.2.2.1 k ∧ j ≤ s.2.2.2.2.1 k then dmP k s else s) ∧ Fcm I J ∧ ∀ x, x ≠ 167 → R' x = R x := by
  have hn := hC.2.2.2.2.1
  have h12 := (hC.2.2.2.2.2.2.1 k hk).2.2
  rw [show (((k + 1 : Nat) : Nat) : Int) - 1 = ((k : Nat) : Int) by omega]
  by_cases c1 : s.2.2.2.1 k < i
  · rw [if_neg (by omega)]
    refine ⟨I, R, ρ, ?_, hC, Fcm_r I, fun _ _ => rfl⟩
    unfold wX3_absorb_178
    apply t_Q
    · apply t_B
      · refine x_iload rfl ?_
        exact rfl
      exact t_if_lt_f (by omega)
    apply t_Q
    · apply t_S
      refine x_iload_n rfl ?_
      refine x_aload_n rfl ?_
      refine x_gr tg_165 rfl (fx_165_5 hF) ?_
      refine x_iload rfl ?_
      refine x_ialdv (Or.inl tg_168) (ln_168 L) (by omega) (show _ = ((s.2.2.2.1 k : Nat) : Int) from (hC.2.2.2.2.2.2.1 k (by omega)).1) ?_
      exact rfl
    apply t_Q
    · apply t_K
      apply t_Qs
      apply t_B
      · exact rfl
      exact t_ic_gt_t (by omega)
    apply t_B
    · refine x_iinc rfl rfl ?_
      exact rfl
    exact t_goeq (s3 (by rw [show ((k : Nat) : Int) + -1 = ((k : Nat) : Int) - 1 by omega]; rfl) rfl)
  by_cases c2 : s.2.2.2.2.1 k < j
  · rw [if_neg (by omega)]
    refine ⟨I, R, ρ, ?_, hC, Fcm_r I, fun _ _ => rfl⟩
    unfold wX3_absorb_178
    apply t_Q
    · apply t_B
      · refine x_iload rfl ?_
        exact rfl
      exact t_if_lt_f (by omega)
    apply t_Q
    · apply t_S
      refine x_iload_n rfl ?_
      refine x_aload_n rfl ?_
      refine x_gr tg_165 rfl (fx_165_5 hF) ?_
      refine x_iload rfl ?_
      refine x_ialdv (Or.inl tg_168) (ln_168 L) (by omega) (show _ = ((s.2.2.2.1 k : Nat) : Int) from (hC.2.2.2.2.2.2.1 k (by omega)).1) ?_
      exact rfl
    apply t_Q
    · apply t_K
      apply t_Q
      · apply t_B
        · exact rfl
        exact t_ic_gt_f (by omega)
      apply t_Qs
      apply t_B
      · refine x_iload rfl ?_
        refine x_aload_n rfl ?_
        refine x_gr tg_165 rfl (fx_165_6 hF) ?_
        refine x_iload rfl ?_
        refine x_ialdv (Or.inl tg_169) (ln_169 L) (by omega) (show _ = ((s.2.2.2.2.1 k : Nat) : Int) from (hC.2.2.2.2.2.2.1 k (by omega)).2.1) ?_
        exact rfl
      exact t_ic_gt_t (by omega)
    apply t_B
    · refine x_iinc rfl rfl ?_
      exact rfl
    exact t_goeq (s3 (by rw [show ((k : Nat) : Int) + -1 = ((k : Nat) : Int) - 1 by omega]; rfl) rfl)
  · rw [if_pos (by omega)]
    obtain ⟨J, R', hd, hC2, hF2, hR2⟩ := s3_dismiss (d := d) (L := L) (u := u) hF hC hk hω
    refine ⟨J, R', _, ?_, hC2, hF2, hR2⟩
    unfold wX3_absorb_178
    apply t_Q
    · apply t_B
      · refine x_iload rfl ?_
        exact rfl
      exact t_if_lt_f (by omega)
    apply t_Q
    · apply t_S
      refine x_iload_n rfl ?_
      refine x_aload_n rfl ?_
      refine x_gr tg_165 rfl (fx_165_5 hF) ?_
      refine x_iload rfl ?_
      refine x_ialdv (Or.inl tg_168) (ln_168 L) (by omega) (show _ = ((s.2.2.2.1 k : Nat) : Int) from (hC.2.2.2.2.2.2.1 k (by omega)).1) ?_
      exact rfl
    apply t_Q
    · apply t_Ks
      · apply t_Q
        · apply t_B
          · exact rfl
          exact t_ic_gt_f (by omega)
        apply t_Q
        · apply t_B
          · refine x_iload rfl ?_
            refine x_aload_n rfl ?_
            refine x_gr tg_165 rfl (fx_165_6 hF) ?_
            refine x_iload rfl ?_
            refine x_ialdv (Or.inl tg_169) (ln_169 L) (by omega) (show _ = ((s.2.2.2.2.1 k : Nat) : Int) from (hC.2.2.2.2.2.2.1 k (by omega)).2.1) ?_
            exact rfl
          exact t_ic_gt_f (by omega)
        apply t_S
        refine x_aload_n rfl ?_
        refine x_iload rfl ?_
        refine x_V2v tg_165 (Nat.le_of_ble_eq_true rfl) (hd) ?_
        exact rfl
      · decide
    apply t_B
    · refine x_iinc rfl rfl ?_
      exact rfl
    exact t_goeq (s3 (by rw [show ((k : Nat) : Int) + -1 = ((k : Nat) : Int) - 1 by omega]; rfl) rfl)
set_option maxRecDepth 10000 in
theorem lp3_dis {d L : Nat} {u : Int64} {o : Int} {a w i j : Nat} (hij : i + j ≤ 12) (k : Nat) : ∀ (I : Nat → Nat → Int) (R : Nat → Nat → Option Nat) (ρ : Nat → Nat) (s : C6) (n : Nat), k < n → FixR R → CsS I R ρ o s → k ≤ s.1 → 1 ≤ s.2.1 → ∃ J R' ρ', am_lp (am_ev (am_run am_tb (d + 2)) wX3_absorb_178) 178 n ([vR 165, vR a, vI (w : Nat), vI (i : Nat), vI (j : Nat), vI ((k : Nat) - 1 : Int)], [], LH L I R u) = some (220, [vR 165, vR a, vI (w : Nat), vI (i : Nat), vI (j : Nat), vI ((0 : Nat) - 1 : Int)], [], LH L J R' u) ∧ CsS J R' ρ' o (dsL i j k s) ∧ Fcm I J ∧ FixR R' ∧ ∀ x, x ≠ 167 → R' x = R x := by
  induction k with
  | zero =>
    intro I R ρ s n hn hF hC hk hω
    obtain ⟨m, rfl⟩ : ∃ m, n = m + 1 := ⟨n - 1, by omega⟩
    refine ⟨I, R, ρ, ?_, hC, Fcm_r I, hF, fun _ _ => rfl⟩
    show (am_ev (am_run am_tb (d + 2)) wX3_absorb_178 _).bind (fun r => if r.1 = 178 + 2 then am_lp (am_ev (am_run am_tb (d + 2)) wX3_absorb_178) 178 m r.2 else some r) = _
    have key : am_ev (am_run am_tb (d + 2)) wX3_absorb_178 ([vR 165, vR a, vI (w : Nat), vI (i : Nat), vI (j : Nat), vI ((0 : Nat) - 1 : Int)], [], LH L I R u) = some (220, [vR 165, vR a, vI (w : Nat), vI (i : Nat), vI (j : Nat), vI ((0 : Nat) - 1 : Int)], [], LH L I R u) := by
      unfold wX3_absorb_178
      apply t_Qs
      apply t_B
      · refine x_iload rfl ?_
        exact rfl
      exact t_if_lt_t (by omega)
    rw [key]
    rfl
  | succ k ih =>
    intro I R ρ s n hn hF hC hk hω
    obtain ⟨m, rfl⟩ : ∃ m, n = m + 1 := ⟨n - 1, by omega⟩
    obtain ⟨J, R', ρ', hst, hC2, hF2, hR2⟩ := st3_dis (d := d) (L := L) (u := u) hF hC (a := a) (w := w) (i := i) (j := j) (k := k) (by omega) hω hij
    have hFR : FixR R' := FixR_m hF (fun x _ h _ => hR2 x h)
    obtain ⟨J2, R2, ρ2, hl, hC3, hF3, hFR3, hR3⟩ := ih J R' ρ' (if i ≤ s.2.2.2.1 k ∧ j ≤ s.2.2.2.2.1 k then dmP k s else s) m (by omega) hFR hC2 (by
      split
      · show k ≤ s.1 - 1; omega
      · omega) (by
      split
      · show 1 ≤ s.2.1 + 1; omega
      · exact hω)
    refine ⟨J2, R2, ρ2, ?_, hC3, Fcm_t hF2 hF3, hFR3, fun x hx => (hR3 x hx).trans (hR2 x hx)⟩
    show (am_ev (am_run am_tb (d + 2)) wX3_absorb_178 _).bind (fun r => if r.1 = 178 + 2 then am_lp (am_ev (am_run am_tb (d + 2)) wX3_absorb_178) 178 m r.2 else some r) = _
    rw [hst]
    exact hl
theorem Cst_r {I : Nat → Nat → Int} {R : Nat → Nat → Option Nat} {ρ : Nat → Nat} {o : Int} {s : C6} (hC : CsS I R ρ o s) {k : Nat} (hk : k < s.1 + s.2.1) : Rsc I (224 + 2 * ρ k) := fun j hj => by
  rw [(hC.2.2.2.2.2.1 k hk).2 j hj]
  exact (hC.2.2.2.2.2.1 k hk).1.1 j (by omega)
theorem Cst_e {I : Nat → Nat → Int} {R : Nat → Nat → Option Nat} {ρ : Nat → Nat} {o : Int} {s : C6} (hC : CsS I R ρ o s) {k : Nat} (hk : k < s.1 + s.2.1) : ∀ j, j < 496 → cl I (224 + 2 * ρ k) j = s.2.2.1 k j := cl_a2 (hC.2.2.2.2.2.1 k hk).2 (hC.2.2.2.2.2.1 k hk).1.2
set_option maxRecDepth 10000 in
theorem lp3_take {d L : Nat} {I : Nat → Nat → Int} {R : Nat → Nat → Option Nat} {u : Int64} (hF : FixR R) (hB : Tbc I) {ρ : Nat → Nat} {o : Int} (h0 : o = 0 ∨ o = 1) {s : C6} (hC : CsS I R ρ o s) (hK : ∀ k, k < s.1 → led o (s.2.2.1 k) = (pl (s.2.2.2.1 k) (s.2.2.2.2.1 k) : Nat)) {I1 : Nat → Nat → Int} (h1 : ∀ x, x < 159 ∨ 164 < x → I1 x = I x) (hD0 : Dvc I1 R o 0 (fun m => 223 + 2 * ρ m) (fun m => pl (s.2.2.2.1 m) (s.2.2.2.2.1 m))) : ∃ y, am_lp (am_ev (am_run am_tb (d + 4)) wX3_absorb_43) 43 am_F ([vR 165, vR (223 + 2 * ρ s.1), vI (0 : Nat), vU, vU, vU], [], LH L I1 R u) = some y ∧ ∃ J R', y = (72, [vR 165, vR (223 + 2 * ρ s.1), vI (s.1 : Nat), vU, vU, vU], [], LH L J R' u) ∧ Dvc J R' o s.1 (fun m => 223 + 2 * ρ m) (fun m => pl (s.2.2.2.1 m) (s.2.2.2.2.1 m)) ∧ (∀ x, x < 159 ∨ 164 < x → J x = I x) ∧ ∀ x, x ≠ 160 → R' x = R x := by
  have hn := hC.2.2.2.2.1
  have hP := hC.1
  refine lp_inv (fun k y => ∃ J R', y = ([vR 165, vR (223 + 2 * ρ s.1), vI (k : Nat), vU, vU, vU], [], LH L J R' u) ∧ Dvc J R' o k (fun m => 223 + 2 * ρ m) (fun m => pl (s.2.2.2.1 m) (s.2.2.2.2.1 m)) ∧ (∀ x, x < 159 ∨ 164 < x → J x = I x) ∧ ∀ x, x ≠ 160 → R' x = R x) _ s.1 ⟨I1, R, rfl, hD0, h1, fun _ _ => rfl⟩ (ltF (by omega)) (fun k y hk hy => ?_) (fun y hy => ?_)
  · obtain ⟨J, R', e0, hD, j1, j2⟩ := hy
    subst e0
    have hF2 : FixR R' := FixR_m hF (fun a h _ _ => j2 a h)
    have hB2 : Tbc J := Tbc_o hB (fun a ha => j1 a (by unfold Nt at ha; omega))
    have rk := hP.1 k (by omega)
    have ec : J (224 + 2 * ρ k) = I (224 + 2 * ρ k) := j1 _ (by omega)
    have e24 : 223 + 2 * ρ k + 1 = 224 + 2 * ρ k := by omega
    obtain ⟨J2, R2, htk, hD2, t1, t2⟩ := s4_take (d := d) (L := L) (u := u) (I := J) hF2 hB2 h0 hD (by omega) (a := 223 + 2 * ρ k) (w := pl (s.2.2.2.1 k) (s.2.2.2.2.1 k)) (by rw [e24]; exact op_cm hF2 rk.2) (by omega) (by rw [e24]; exact fun j hj => by rw [ec]; exact Cst_r hC (by omega) j hj) (by rw [e24, cl_o ec, led_c (Cst_e hC (by omega))]; exact hK k hk)
    refine ⟨([vR 165, vR (223 + 2 * ρ s.1), vI (k + 1 : Nat), vU, vU, vU], [], LH L J2 R2 u), ?_, J2, R2, rfl, ?_, fun x hx => (t1 x hx).trans (j1 x hx), fun x hx => (t2 x hx).trans (j2 x hx)⟩
    · have hrk : R' 167 k = some (223 + 2 * ρ k) := by rw [j2 167 (by decide)]; exact rk.1
      have h8 : J 165 8 = (s.1 : Int) := by rw [j1 165 (by omega)]; exact hC.2.1
      unfold wX3_absorb_43
      apply t_Q
      · apply t_B
        · refine x_iload_n rfl ?_
          refine x_aload_n rfl ?_
          refine x_giv tg_165 rfl (show _ = (s.1 : Int) from h8) ?_
          exact rfl
        exact t_ic_ge_f (by omega)
      apply t_B
      · refine x_aload_n rfl ?_
        refine x_gr tg_165 rfl (fx_165_1 hF2) ?_
        refine x_aload_n rfl ?_
        refine x_gr tg_165 rfl (fx_165_4 hF2) ?_
        refine x_iload_n rfl ?_
        refine x_aald (by rw [tg_167]; decide) (ln_167 L) (by omega) hrk ?_
        refine x_V2v tg_159 (Nat.le_of_ble_eq_true rfl) (htk) ?_
        refine x_iinc rfl rfl ?_
        exact rfl
      exact t_goeq rfl
    · refine Dvc_c hD2 (fun m hm => ?_) (fun m hm => ?_)
      · by_cases e : m = k
        · rw [e, au_s]
        · rw [au_n _ _ e]
      · by_cases e : m = k
        · rw [e, au_s]
        · rw [au_n _ _ e]
  · obtain ⟨J, R', e0, h⟩ := hy
    subst e0
    have h8 : J 165 8 = (s.1 : Int) := by rw [h.2.1 165 (by omega)]; exact hC.2.1
    refine ⟨(72, [vR 165, vR (223 + 2 * ρ s.1), vI (s.1 : Nat), vU, vU, vU], [], LH L J R' u), ?_, by show ¬ 72 = 43 + 2; decide, J, R', rfl, h⟩
    unfold wX3_absorb_43
    apply t_Qs
    apply t_B
    · refine x_iload_n rfl ?_
      refine x_aload_n rfl ?_
      refine x_giv tg_165 rfl (show _ = (s.1 : Int) from h8) ?_
      exact rfl
    exact t_ic_ge_t (by omega)
