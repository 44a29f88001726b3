/-! The class: taking in. Written by wip/whole/gen_9g.py. -/
/-- rows and numbers up to κ move one place up, t of them -/
def amvI (I : Nat → Nat → Int) (κ t : Nat) : Nat → Nat → Int := fun a j => if (a = 168 ∨ a = 169 ∨ a = 170) ∧ κ < j + t ∧ j ≤ κ then I a (j - 1) else I a j
def amvR (R : Nat → Nat → Option Nat) (κ t : Nat) : Nat → Nat → Option Nat := fun a j => if a = 167 ∧ κ < j + t ∧ j ≤ κ then R a (j - 1) else R a j
theorem amvI_o {I : Nat → Nat → Int} {κ t a : Nat} (h : a ≠ 168 ∧ a ≠ 169 ∧ a ≠ 170) : amvI I κ t a = I a := by
  funext j
  exact if_neg (by omega)
theorem amvI_n {I : Nat → Nat → Int} {κ t a j : Nat} (h : j + t ≤ κ) : amvI I κ t a j = I a j := if_neg (by omega)
theorem amvR_o {R : Nat → Nat → Option Nat} {κ t a : Nat} (h : a ≠ 167) : amvR R κ t a = R a := by
  funext j
  exact if_neg (by omega)
theorem amvR_n {R : Nat → Nat → Option Nat} {κ t j : Nat} (h : j + t ≤ κ) : amvR R κ t 167 j = R 167 j := if_neg (by omega)
theorem amvR_s {R : Nat → Nat → Option Nat} {κ t b : Nat} {i : Int} (ht : t < κ) (hi : i = ((κ - t : Nat) : Int)) (h : R 167 (κ - t - 1) = some b) : au (amvR R κ t) 167 (au (amvR R κ t 167) i.toNat (some b)) = amvR R κ (t + 1) := by
  subst hi
  funext a j
  rw [Int.toNat_natCast]
  by_cases e : a = 167
  · subst e
    rw [au_s]
    unfold amvR
    by_cases e2 : j = κ - t
    · rw [e2, au_s, if_pos (by omega)]; exact h.symm
    · rw [au_n _ _ e2]
      by_cases e3 : κ < j + t ∧ j ≤ κ
      · rw [if_pos ⟨rfl, e3⟩, if_pos (by omega)]
      · rw [if_neg (by omega), if_neg (by omega)]
  · rw [au_n _ _ e]
    unfold amvR
    rw [if_neg (by omega), if_neg (by omega)]
theorem amvI_s {I : Nat → Nat → Int} {κ t : Nat} {i : Int} (ht : t < κ) (hi : i = ((κ - t : Nat) : Int)) : au (au (au (amvI I κ t) 168 (au (amvI I κ t 168) i.toNat (I 168 (κ - t - 1)))) 169 (au ((au (amvI I κ t) 168 (au (amvI I κ t 168) i.toNat (I 168 (κ - t - 1)))) 169) i.toNat (I 169 (κ - t - 1)))) 170 (au ((au (au (amvI I κ t) 168 (au (amvI I κ t 168) i.toNat (I 168 (κ - t - 1)))) 169 (au ((au (amvI I κ t) 168 (au (amvI I κ t 168) i.toNat (I 168 (κ - t - 1)))) 169) i.toNat (I 169 (κ - t - 1)))) 170) i.toNat (I 170 (κ - t - 1))) = amvI I κ (t + 1) := by
  subst hi
  rw [Int.toNat_natCast]
  have key : ∀ a, (a = 168 ∨ a = 169 ∨ a = 170) → au (amvI I κ t a) (κ - t) (I a (κ - t - 1)) = amvI I κ (t + 1) a := fun a ha => by
    funext j
    unfold amvI
    by_cases e2 : j = κ - t
    · rw [e2, au_s, if_pos ⟨ha, by omega⟩]
    · rw [au_n _ _ e2]
      by_cases e3 : κ < j + t ∧ j ≤ κ
      · rw [if_pos ⟨ha, e3⟩, if_pos ⟨ha, by omega⟩]
      · rw [if_neg (by omega), if_neg (by omega)]
  funext a
  by_cases e0 : a = 170
  · subst e0
    rw [au_s, au_n _ _ (by decide), au_n _ _ (by decide)]
    exact key 170 (by decide)
  · rw [au_n _ _ e0]
    by_cases e1 : a = 169
    · subst e1
      rw [au_s, au_n _ _ (by decide)]
      exact key 169 (by decide)
    · rw [au_n _ _ e1]
      by_cases e2 : a = 168
      · subst e2
        rw [au_s]
        exact key 168 (by decide)
      · rw [au_n _ _ e2]
        funext j
        unfold amvI
        rw [if_neg (by omega), if_neg (by omega)]
def tai (p κ k : Nat) : Nat := if k < p then k else if k = p then κ else if k ≤ κ then k - 1 else k
theorem tai_b {p κ k : Nat} (hp : p ≤ κ) (hκ : κ < 6) (hk : k < 6) : tai p κ k < 6 := by
  unfold tai
  (repeat' split) <;> omega
theorem tai_i {p κ k l : Nat} (hp : p ≤ κ) (h : tai p κ k = tai p κ l) : k = l := by
  unfold tai at h
  (repeat' split at h) <;> omega
/-- which pairs are settled behind it -/
def tas (st : Nat → Int) (p κ : Nat) : Nat → Int := fun k => if k = p ∨ k + 1 = p then 0 else if p < k ∧ k ≤ κ then st (k - 1) else st k
/-- where it belongs -/
def plc (lx : Nat → Nat) (κ i : Nat) : Nat := fnd (fun t => decide (¬ lx (κ - 1 - t) < i)) κ
theorem plc_le (lx : Nat → Nat) (κ i : Nat) : plc lx κ i ≤ κ := fnd_le _ _
theorem plc_no {lx : Nat → Nat} {κ i t : Nat} (h : t < plc lx κ i) : lx (κ - 1 - t) < i := Decidable.not_not.mp (of_decide_eq_false (fnd_no (p := fun t => decide (¬ lx (κ - 1 - t) < i)) h))
theorem plc_yes {lx : Nat → Nat} {κ i : Nat} (h : plc lx κ i < κ) : ¬ lx (κ - 1 - plc lx κ i) < i := of_decide_eq_true (fnd_yes (p := fun t => decide (¬ lx (κ - 1 - t) < i)) h)
set_option maxRecDepth 10000 in
theorem lp3_adm {d L : Nat} {I : Nat → Nat → Int} {R : Nat → Nat → Option Nat} {u : Int64} (hF : FixR R) {ρ : Nat → Nat} {o : Int} {κ ω : Nat} {F : Nat → Nat → Int} {lx ld : Nat → Nat} {st : Nat → Int} (hC : Cst I R ρ o κ ω F lx ld st) {i j : Nat} (hij : i + j ≤ 12) (hκ : κ < 6) : am_lp (am_ev (am_run am_tb d) wX3_admit_16) 16 am_F ([vR 165, vI (i : Nat), vI (j : Nat), vR (223 + 2 * ρ κ), vI ((κ - 0 : Nat) : Int)], [], LH L I R u) = some (106, [vR 165, vI (i : Nat), vI (j : Nat), vR (223 + 2 * ρ κ), vI ((κ - plc lx κ i : Nat) : Int)], [], LH L (amvI I κ (plc lx κ i)) (amvR R κ (plc lx κ i)) u) := by
  have e0 : amvI I κ 0 = I := by funext a j; exact if_neg (by omega)
  have e1 : amvR R κ 0 = R := by funext a j; exact if_neg (by omega)
  have hle := plc_le lx κ i
  refine lp_up0 (fun t => ([vR 165, vI (i : Nat), vI (j : Nat), vR (223 + 2 * ρ κ), vI ((κ - t : Nat) : Int)], [], LH L (amvI I κ t) (amvR R κ t) u)) (plc lx κ i) (by rw [e0, e1]) (ltF (by omega)) (by show ¬ 106 = 16 + 2; decide) (fun t ht => ?_) ?_
  · have hno := plc_no ht
    rw [show κ - 1 - t = κ - t - 1 by omega] at hno
    have hl12 := (hC.2.2.2.2.2.2.1 (κ - t - 1) (by omega)).2.2
    have hFt : FixR (amvR R κ t) := FixR_m hF (fun a _ h _ => amvR_o h)
    have hFs : FixR (amvR R κ (t + 1)) := FixR_m hF (fun a _ h _ => amvR_o h)
    have hb01 : I 170 (κ - t - 1) = 0 ∨ I 170 (κ - t - 1) = 1 := by
      have := hC.2.2.2.2.2.2.2 (κ - t - 1) (by omega)
      rw [this.1]; exact this.2
    have hrn : amvR R κ t 167 (κ - t - 1) = some (223 + 2 * ρ (κ - t - 1)) := by rw [amvR_n (by omega)]; exact (hC.1.1 (κ - t - 1) (by omega)).1
    unfold wX3_admit_16
    apply t_Q
    · apply t_B
      · refine x_iload rfl ?_
        exact rfl
      exact t_if_le_f (by omega)
    apply t_Q
    · apply t_B
      · refine x_aload_n rfl ?_
        refine x_gr tg_165 rfl (fx_165_5 hFt) ?_
        refine x_iload rfl ?_
        refine x_iconst ?_
        refine x_isub ?_
        rw [show ((κ - t : Nat) : Int) - 1 = ((κ - t - 1 : Nat) : Int) by omega]
        refine x_ialdv (Or.inl tg_168) (ln_168 L) (by omega) (show _ = ((lx (κ - t - 1) : Nat) : Int) from (amvI_n (by omega)).trans (hC.2.2.2.2.2.2.1 (κ - t - 1) (by omega)).1) ?_
        refine x_iload_n rfl ?_
        exact rfl
      exact t_ic_ge_f (by omega)
    apply t_B
    · refine x_aload_n rfl ?_
      refine x_gr tg_165 rfl (fx_165_4 hFt) ?_
      refine x_iload rfl ?_
      refine x_aload_n rfl ?_
      refine x_gr tg_165 rfl (fx_165_4 hFt) ?_
      refine x_iload rfl ?_
      refine x_iconst ?_
      refine x_isub ?_
      rw [show ((κ - t : Nat) : Int) - 1 = ((κ - t - 1 : Nat) : Int) by omega]
      refine x_aald (by rw [tg_167]; decide) (ln_167 L) (by omega) hrn ?_
      refine x_aast tg_167 ⟨by decide, by decide, (op_cm hF (hC.1.1 (κ - t - 1) (by omega)).2).1⟩ (ln_167 L) (by omega) ?_
      rw [amvR_s (κ := κ) (t := t) (by omega) rfl (hC.1.1 (κ - t - 1) (by omega)).1]
      refine x_aload_n rfl ?_
      refine x_gr tg_165 rfl (fx_165_5 hFs) ?_
      refine x_iload rfl ?_
      refine x_aload_n rfl ?_
      refine x_gr tg_165 rfl (fx_165_5 hFs) ?_
      refine x_iload rfl ?_
      refine x_iconst ?_
      refine x_isub ?_
      rw [show ((κ - t : Nat) : Int) - 1 = ((κ - t - 1 : Nat) : Int) by omega]
      refine x_ialdv (Or.inl tg_168) (ln_168 L) (by omega) (show _ = I 168 (κ - t - 1) from amvI_n (by omega)) ?_
      refine x_iast tg_168 (ln_168 L) (by omega) ?_
      refine x_aload_n rfl ?_
      refine x_gr tg_165 rfl (fx_165_6 hFs) ?_
      refine x_iload rfl ?_
      refine x_aload_n rfl ?_
      refine x_gr tg_165 rfl (fx_165_6 hFs) ?_
      refine x_iload rfl ?_
      refine x_iconst ?_
      refine x_isub ?_
      rw [show ((κ - t : Nat) : Int) - 1 = ((κ - t - 1 : Nat) : Int) by omega]
      refine x_ialdv (Or.inl tg_169) (ln_169 L) (by omega) (show _ = I 169 (κ - t - 1) from (congrFun (au_n _ _ (by decide)) _).trans (amvI_n (by omega))) ?_
      refine x_iast tg_169 (ln_169 L) (by omega) ?_
      refine x_aload_n rfl ?_
      refine x_gr tg_165 rfl (fx_165_7 hFs) ?_
      refine x_iload rfl ?_
      refine x_aload_n rfl ?_
      refine x_gr tg_165 rfl (fx_165_7 hFs) ?_
      refine x_iload rfl ?_
      refine x_iconst ?_
      refine x_isub ?_
      rw [show ((κ - t : Nat) : Int) - 1 = ((κ - t - 1 : Nat) : Int) by omega]
      refine x_baldv tg_170 (ln_170 L) (by omega) (show _ = I 170 (κ - t - 1) from (congrFun ((au_n _ _ (by decide)).trans (au_n _ _ (by decide))) _).trans (amvI_n (by omega))) ?_
      refine x_bast tg_170 (ln_170 L) (by omega) hb01 ?_
      refine x_iinc rfl rfl ?_
      exact rfl
    exact t_goeq (s3 (by rw [show ((κ - t : Nat) : Int) + -1 = ((κ - (t + 1) : Nat) : Int) by omega]; rfl) (amvI_s (by omega) rfl))
  · by_cases e : plc lx κ i = κ
    · rw [e]
      unfold wX3_admit_16
      apply t_Qs
      apply t_B
      · refine x_iload rfl ?_
        exact rfl
      exact t_if_le_t (by omega)
    · have hyes := plc_yes (lx := lx) (κ := κ) (i := i) (by omega)
      generalize plc lx κ i = t at *
      rw [show κ - 1 - t = κ - t - 1 by omega] at hyes
      have hl12 := (hC.2.2.2.2.2.2.1 (κ - t - 1) (by omega)).2.2
      have hFt : FixR (amvR R κ t) := FixR_m hF (fun a _ h _ => amvR_o h)
      unfold wX3_admit_16
      apply t_Q
      · apply t_B
        · refine x_iload rfl ?_
          exact rfl
        exact t_if_le_f (by omega)
      apply t_Qs
      apply t_B
      · refine x_aload_n rfl ?_
        refine x_gr tg_165 rfl (fx_165_5 hFt) ?_
        refine x_iload rfl ?_
        refine x_iconst ?_
        refine x_isub ?_
        rw [show ((κ - t : Nat) : Int) - 1 = ((κ - t - 1 : Nat) : Int) by omega]
        refine x_ialdv (Or.inl tg_168) (ln_168 L) (by omega) (show _ = ((lx (κ - t - 1) : Nat) : Int) from (amvI_n (by omega)).trans (hC.2.2.2.2.2.2.1 (κ - t - 1) (by omega)).1) ?_
        refine x_iload_n rfl ?_
        exact rfl
      exact t_ic_ge_t (by omega)
set_option maxRecDepth 10000 in
theorem s3_admit {d L : Nat} {I : Nat → Nat → Int} {R : Nat → Nat → Option Nat} {u : Int64} (hF : FixR R) {ρ : Nat → Nat} {o : Int} {κ ω : Nat} {F : Nat → Nat → Int} {lx ld : Nat → Nat} {st : Nat → Int} (hC : Cst I R ρ o κ ω F lx ld st) {i j : Nat} (hij : i + j ≤ 12) (hω : 1 ≤ ω) : ∃ J R' p, am_run am_tb (d + 2) 30 [vR 165, vI (i : Nat), vI (j : Nat)] (LH L I R u) = some ([], LH L J R' u) ∧ p = κ - plc lx κ i ∧ (p ≤ κ ∧ (0 < p → i ≤ lx (p - 1)) ∧ ∀ k, p ≤ k → k < κ → lx k < i) ∧ Cst J R' (fun k => ρ (tai p κ k)) o (κ + 1) (ω - 1) (fun k => F (tai p κ k)) (fun k => if k = p then i else lx (tai p κ k)) (fun k => if k = p then j else ld (tai p κ k)) (tas st p κ) ∧ Fcm I J ∧ ∀ x, x ≠ 167 → R' x = R x := by
  obtain ⟨hP, c8, c9, c10, c6, cF, cl_, cs⟩ := id hC
  have hκ : κ < 6 := by omega
  have hl := lp3_adm (d := d + 1) (L := L) (u := u) hF hC hij hκ
  have hle := plc_le lx κ i
  have hno : ∀ t, t < plc lx κ i → lx (κ - 1 - t) < i := fun t ht => plc_no ht
  have hyes : plc lx κ i < κ → ¬ lx (κ - 1 - plc lx κ i) < i := fun h => plc_yes h
  generalize plc lx κ i = T at *
  obtain ⟨p, hp⟩ : ∃ p, p = κ - T := ⟨_, rfl⟩
  rw [← hp] at hl
  have hFt : FixR (amvR R κ T) := FixR_m hF (fun a _ h _ => amvR_o h)
  have rk0 := hP.1 κ (by omega)
  obtain ⟨R2, hR2⟩ : ∃ R2, R2 = au (amvR R κ T) 167 (au (amvR R κ T 167) p (some (223 + 2 * ρ κ))) := ⟨_, rfl⟩
  have hF2 : FixR R2 := by rw [hR2]; exact FixR_m hFt (fun a _ h _ => au_n _ _ h)
  obtain ⟨J0, hJ0⟩ : ∃ J0, J0 = amvI I κ T := ⟨_, rfl⟩
  have j165 : J0 165 = I 165 := by rw [hJ0, amvI_o (by decide)]
  obtain ⟨J1, hJ1⟩ : ∃ J1, J1 = au J0 168 (au (J0 168) p (i : Nat)) := ⟨_, rfl⟩
  obtain ⟨J2, hJ2⟩ : ∃ J2, J2 = au J1 169 (au (J1 169) p (j : Nat)) := ⟨_, rfl⟩
  have j2_165 : J2 165 = I 165 := by rw [hJ2, au_n _ _ (by decide), hJ1, au_n _ _ (by decide), j165]
  obtain ⟨J3, hJ3⟩ : ∃ J3, J3 = au J2 165 (au (J2 165) 8 ((κ : Int) + 1)) := ⟨_, rfl⟩
  obtain ⟨J4, hJ4⟩ : ∃ J4, J4 = au J3 165 (au (J3 165) 9 ((ω : Int) - 1)) := ⟨_, rfl⟩
  have hu1 := s3_unsettle (d := d) (L := L) (I := J4) (u := u) hF2 (k := (p : Int)) (by omega)
  rw [if_pos (by omega), Int.toNat_natCast] at hu1
  obtain ⟨J5, hJ5⟩ : ∃ J5, J5 = au J4 170 (au (J4 170) p 0) := ⟨_, rfl⟩
  rw [← hJ5] at hu1
  have hu2 := s3_unsettle (d := d) (L := L) (I := J5) (u := u) hF2 (k := (p : Int) - 1) (by omega)
  obtain ⟨J6, hJ6⟩ : ∃ J6, J6 = (if 0 ≤ (p : Int) - 1 then au J5 170 (au (J5 170) ((p : Int) - 1).toNat 0) else J5) := ⟨_, rfl⟩
  rw [← hJ6] at hu2
  have f6 : ∀ a, a ≠ 170 → J6 a = J4 a := fun a ha => by
    rw [hJ6]
    split
    · rw [au_n _ _ ha, hJ5, au_n _ _ ha]
    · rw [hJ5, au_n _ _ ha]
  have f4 : ∀ a, a ≠ 165 → J4 a = J2 a := fun a ha => by rw [hJ4, au_n _ _ ha, hJ3, au_n _ _ ha]
  have f2 : ∀ a, a ≠ 168 → a ≠ 169 → J2 a = J0 a := fun a h8 h9 => by rw [hJ2, au_n _ _ h9, hJ1, au_n _ _ h8]
  have f0 : ∀ a, a ≠ 168 ∧ a ≠ 169 ∧ a ≠ 170 → J0 a = I a := fun a ha => by rw [hJ0, amvI_o ha]
  have j4_8 : J4 165 8 = (κ : Int) + 1 := by rw [hJ4, au_s, au_n _ _ (by decide), hJ3, au_s, au_s]
  have j4_9 : J4 165 9 = (ω : Int) - 1 := by rw [hJ4, au_s, au_s]
  have j4_10 : J4 165 10 = o := by rw [hJ4, au_s, au_n _ _ (by decide), hJ3, au_s, au_n _ _ (by decide), j2_165]; exact c10
  refine ⟨J6, R2, p, ?_, hp, ⟨by omega, fun h => ?_, fun k h1 h2 => ?_⟩, ⟨⟨fun k hk => ?_, fun k l hk hl h => ?_⟩, ?_, ?_, ?_, by omega, fun k hk => ?_, fun k hk => ?_, fun k hk => ?_⟩, ?_, fun x hx => ?_⟩
  · refine run_of tb_X3_admit (Nat.le_of_ble_eq_true rfl) ?_
    show ∃ ls', am_ev (am_run am_tb (d + 1)) tX3_admit ([vR 165, vI (i : Nat), vI (j : Nat), vU, vU], [], LH L I R u) = _
    rw [← hJ0] at hl
    apply Exists.intro
    unfold tX3_admit
    apply t_Q
    · apply t_S
      refine x_aload_n rfl ?_
      refine x_gr tg_165 rfl (fx_165_4 hF) ?_
      refine x_aload_n rfl ?_
      refine x_giv tg_165 rfl (show _ = (κ : Int) from c8) ?_
      refine x_aald (by rw [tg_167]; decide) (ln_167 L) (by omega) (rk0.1 : R 167 κ = some (223 + 2 * ρ κ)) ?_
      refine x_astore_n rfl ?_
      refine x_aload_n rfl ?_
      refine x_giv tg_165 rfl (show _ = (κ : Int) from c8) ?_
      refine x_istore rfl ?_
      exact rfl
    apply t_Q
    · apply t_K
      apply t_W
      exact hl
    apply t_B
    · refine x_aload_n rfl ?_
      refine x_gr tg_165 rfl (fx_165_4 hFt) ?_
      refine x_iload rfl ?_
      refine x_aload_n rfl ?_
      refine x_aast tg_167 ⟨by decide, by decide, (op_cm hF rk0.2).1⟩ (ln_167 L) (by omega) ?_
      rw [Int.toNat_natCast, ← hR2]
      refine x_aload_n rfl ?_
      refine x_gr tg_165 rfl (fx_165_5 hF2) ?_
      refine x_iload rfl ?_
      refine x_iload_n rfl ?_
      refine x_iast tg_168 (ln_168 L) (by omega) ?_
      rw [Int.toNat_natCast, ← hJ1]
      refine x_aload_n rfl ?_
      refine x_gr tg_165 rfl (fx_165_6 hF2) ?_
      refine x_iload rfl ?_
      refine x_iload_n rfl ?_
      refine x_iast tg_169 (ln_169 L) (by omega) ?_
      rw [Int.toNat_natCast, ← hJ2]
      refine x_aload_n rfl ?_
      refine x_dup rfl ?_
      refine x_giv tg_165 rfl (show _ = (κ : Int) by rw [j2_165]; exact c8) ?_
      refine x_iconst ?_
      refine x_iadd ?_
      refine x_pi tg_165 rfl rfl ?_
      rw [← hJ3]
      refine x_aload_n rfl ?_
      refine x_dup rfl ?_
      refine x_giv tg_165 rfl (show _ = (ω : Int) by rw [hJ3, au_s, au_n _ _ (by decide), j2_165]; exact c9) ?_
      refine x_iconst ?_
      refine x_isub ?_
      refine x_pi tg_165 rfl rfl ?_
      rw [← hJ4]
      refine x_aload_n rfl ?_
      refine x_iload rfl ?_
      refine x_V2v tg_165 (Nat.le_of_ble_eq_true rfl) (hu1) ?_
      refine x_aload_n rfl ?_
      refine x_iload rfl ?_
      refine x_iconst ?_
      refine x_isub ?_
      refine x_V2v tg_165 (Nat.le_of_ble_eq_true rfl) (hu2) ?_
      exact rfl
    exact rfl
  · have := hyes (by omega)
    rw [show p - 1 = κ - 1 - T by omega]
    omega
  · have := hno (κ - 1 - k) (by omega)
    rw [show κ - 1 - (κ - 1 - k) = k by omega] at this
    exact this
  · refine ⟨?_, (hP.1 _ (tai_b (by omega) hκ hk)).2⟩
    show R2 167 k = some (223 + 2 * ρ (tai p κ k))
    rw [hR2, au_s]
    unfold tai
    by_cases e : k = p
    · rw [e, au_s, if_neg (by omega), if_pos rfl]
    · rw [au_n _ _ e]
      unfold amvR
      by_cases e1 : k < p
      · rw [if_pos e1, if_neg (by omega)]; exact (hP.1 k hk).1
      · rw [if_neg e1, if_neg e]
        by_cases e2 : k ≤ κ
        · rw [if_pos e2, if_pos (by omega)]; exact (hP.1 (k - 1) (by omega)).1
        · rw [if_neg e2, if_neg (by omega)]; exact (hP.1 k hk).1
  · exact tai_i (by omega) (hP.2 _ _ (tai_b (by omega) hκ hk) (tai_b (by omega) hκ hl) h)
  · rw [f6 165 (by decide), j4_8]; rfl
  · rw [f6 165 (by decide), j4_9]; omega
  · rw [f6 165 (by decide), j4_10]
  · have hs : tai p κ k < κ + ω := by
      unfold tai
      (repeat' split) <;> omega
    have hs6 := (hP.1 (tai p κ k) (by omega)).2
    refine ⟨(cF _ hs).1, fun m hm => ?_⟩
    show J6 (224 + 2 * ρ (tai p κ k)) m = _
    rw [f6 _ (by omega), f4 _ (by omega), f2 _ (by omega) (by omega), f0 _ (by omega)]
    exact (cF _ hs).2 m hm
  · have h8 : J6 168 k = if k = p then (i : Int) else I 168 (tai p κ k) := by
      rw [f6 168 (by decide), f4 168 (by decide), hJ2, au_n _ _ (by decide), hJ1, au_s]
      by_cases e : k = p
      · rw [if_pos e, e, au_s]
      · rw [if_neg e, au_n _ _ e, hJ0]
        unfold amvI tai
        by_cases e1 : k < p
        · rw [if_pos e1, if_neg (by omega)]
        · rw [if_neg e1, if_neg e, if_pos (by omega), if_pos (by omega)]
    have h9 : J6 169 k = if k = p then (j : Int) else I 169 (tai p κ k) := by
      rw [f6 169 (by decide), f4 169 (by decide), hJ2, au_s]
      by_cases e : k = p
      · rw [if_pos e, e, au_s]
      · rw [if_neg e, au_n _ _ e, hJ1, au_n _ _ (by decide), hJ0]
        unfold amvI tai
        by_cases e1 : k < p
        · rw [if_pos e1, if_neg (by omega)]
        · rw [if_neg e1, if_neg e, if_pos (by omega), if_pos (by omega)]
    rw [h8, h9]
    show _ = (((if k = p then i else lx (tai p κ k) : Nat)) : Int) ∧ _ = (((if k = p then j else ld (tai p κ k) : Nat)) : Int) ∧ (if k = p then i else lx (tai p κ k)) + (if k = p then j else ld (tai p κ k)) ≤ 12
    by_cases e : k = p
    · rw [if_pos e, if_pos e, if_pos e, if_pos e]; exact ⟨rfl, rfl, hij⟩
    · have hs : tai p κ k < κ := by
        unfold tai
        (repeat' split) <;> omega
      rw [if_neg e, if_neg e, if_neg e, if_neg e]
      exact cl_ _ hs
  · have h4 : J4 170 k = if p < k ∧ k ≤ κ then I 170 (k - 1) else I 170 k := by
      rw [f4 170 (by decide), f2 170 (by decide) (by decide), hJ0]
      unfold amvI
      by_cases e : p < k ∧ k ≤ κ
      · rw [if_pos e, if_pos (by omega)]
      · rw [if_neg e, if_neg (by omega)]
    have h5 : J5 170 k = if k = p then 0 else J4 170 k := by
      rw [hJ5, au_s, au_i]
    have h6 : J6 170 k = tas st p κ k := by
      unfold tas
      by_cases e0 : k + 1 = p
      · rw [if_pos (Or.inr e0), hJ6, if_pos (by omega), au_s, show ((p : Int) - 1).toNat = k by omega, au_s]
      · have e6 : J6 170 k = J5 170 k := by
          rw [hJ6]
          split
          · rw [au_s, au_n _ _ (by omega)]
          · rfl
        rw [e6, h5]
        by_cases e1 : k = p
        · rw [if_pos e1, if_pos (Or.inl e1)]
        · rw [if_neg e1, if_neg (by omega), h4]
          split
          · exact (cs (k - 1) (by omega)).1
          · exact (cs k hk).1
    refine ⟨h6, ?_⟩
    unfold tas
    split
    · exact Or.inl rfl
    · split
      · exact (cs (k - 1) (by omega)).2
      · exact (cs k hk).2
  · refine ⟨fun a ha => ?_, ?_⟩
    · rw [f6 a (by omega), f4 a (by omega), f2 a (by omega) (by omega), f0 a (by omega)]
    · rw [f6 165 (by decide), hJ4, au_s, au_n _ _ (by decide), hJ3, au_s, au_n _ _ (by decide), j2_165]
  · rw [hR2, au_n _ _ hx, amvR_o hx]
