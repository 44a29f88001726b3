/-! The reference's reader: takesFigures. Written by wip/whole/gen_67.py. -/
def skb (T : Nat → Int) (b p : Nat) : Nat := p + fnd (fun m => decide (¬ T (p + m) = 32)) (b - p)
theorem skb_le {T : Nat → Int} {b p : Nat} (h : p ≤ b) : p ≤ skb T b p ∧ skb T b p ≤ b := by
  have := fnd_le (fun m => decide (¬ T (p + m) = 32)) (b - p)
  unfold skb
  omega
def dgc (T : Nat → Int) (b p : Nat) : Nat := fnd (fun m => decide (¬ (48 ≤ T (p + m) ∧ T (p + m) ≤ 57))) (b - p)
theorem dgc_le (T : Nat → Int) (b p : Nat) : dgc T b p ≤ b - p := fnd_le _ _
theorem dgc_no {T : Nat → Int} {b p k : Nat} (h : k < dgc T b p) : 48 ≤ T (p + k) ∧ T (p + k) ≤ 57 := Decidable.not_not.mp (of_decide_eq_false (fnd_no (p := fun m => decide (¬ (48 ≤ T (p + m) ∧ T (p + m) ≤ 57))) h))
theorem dgc_yes {T : Nat → Int} {b p : Nat} (h : dgc T b p < b - p) : ¬ (48 ≤ T (p + dgc T b p) ∧ T (p + dgc T b p) ≤ 57) := of_decide_eq_true (fnd_yes (p := fun m => decide (¬ (48 ≤ T (p + m) ∧ T (p + m) ≤ 57))) h)
def fgv (T : Nat → Int) (p : Nat) : Nat → Int
  | 0 => 0
  | k + 1 => 10 * fgv T p k + T (p + k) - 48
def tnp : Nat → Int
  | 0 => 1
  | k + 1 => 10 * tnp k
theorem fgv_b {T : Nat → Int} {b p k : Nat} (h : k ≤ dgc T b p) : 0 ≤ fgv T p k ∧ fgv T p k < tnp k := by
  induction k with
  | zero => exact ⟨Int.le_refl 0, by show (0 : Int) < 1; decide⟩
  | succ k ih =>
    have i := ih (by omega)
    have j := dgc_no (show k < dgc T b p by omega)
    show 0 ≤ 10 * fgv T p k + T (p + k) - 48 ∧ 10 * fgv T p k + T (p + k) - 48 < 10 * tnp k
    omega
theorem tnp_4 {k : Nat} (h : k ≤ 4) : tnp k ≤ 10000 := by
  have : k = 0 ∨ k = 1 ∨ k = 2 ∨ k = 3 ∨ k = 4 := by omega
  rcases this with e | e | e | e | e <;> (subst e; decide)
def fgI (I : Nat → Nat → Int) (p k : Nat) : Nat → Nat → Int := au I 301 (au (au (I 301) 27 (fgv (I 305) p k)) 18 ((p + k : Nat) : Int))
theorem fgI_0 {I : Nat → Nat → Int} {p : Nat} (hp : I 301 18 = (p : Nat)) : au I 301 (au (I 301) 27 0) = fgI I p 0 := by
  unfold fgI
  refine au_c ?_
  funext j
  show _ = (if j = 18 then ((p + 0 : Nat) : Int) else au (I 301) 27 0 j)
  by_cases e : j = 18
  · rw [if_pos e, e]; exact hp
  · rw [if_neg e]
theorem fgI_s {I : Nat → Nat → Int} {p k : Nat} {v w : Int} (hv : v = fgv (I 305) p (k + 1)) (hw : w = ((p + (k + 1) : Nat) : Int)) : au (au (fgI I p k) 301 (au (fgI I p k 301) 27 v)) 301 (au (au (fgI I p k) 301 (au (fgI I p k 301) 27 v) 301) 18 w) = fgI I p (k + 1) := by
  unfold fgI
  subst hv hw
  funext a j
  simp only [au2, au_i, ↓reduceIte]
  by_cases ea : a = 301
  · subst ea
    simp only [↓reduceIte]
    (repeat' split) <;> first | rfl | omega
  · simp only [if_neg ea]
set_option maxRecDepth 10000 in
theorem lp_figs_l {d L : Nat} {I : Nat → Nat → Int} {R : Nat → Nat → Option Nat} {u : Int64} (hF : FixR R) {p b : Nat} (hp : I 301 18 = (p : Nat)) (hb : I 301 5 = (b : Nat)) (hb2 : b ≤ 120) (hpb : p ≤ b) (ht : ∀ j, j < b → 0 ≤ I 305 j ∧ I 305 j ≤ 127) {m : Nat} (hm : m ≤ 4) (hc : m < dgc (I 305) b p) : am_lp (am_ev (am_run am_tb (d + 2)) wX12_takesFigures_10) 10 am_F ([vR 301, vI m, vI p], [], LH L (fgI I p 0) R u) = some (1, [vR 301, vI m, vI p], [vI 0], LH L (au (fgI I p m) 301 (au (fgI I p m 301) 19 ((p + m : Nat) : Int))) R u) := by
  refine lp_up0 (fun k => ([vR 301, vI m, vI p], [], LH L (fgI I p k) R u)) m rfl (ltF (by omega)) (by show ¬ 1 = 10 + 2; decide) (fun k hk => ?_) ?_
  · have hd := dgc_no (show k < dgc (I 305) b p by omega)
    have hle := dgc_le (I 305) b p
    unfold wX12_takesFigures_10
    apply t_Q
    · apply t_B
      · refine x_aload_n rfl ?_
        refine x_bipush ?_
        refine x_bipush ?_
        refine x_V3i tg_301 (Nat.le_of_ble_eq_true rfl) (ret_t (show p + (k) < b ∧ 48 ≤ I 305 (p + (k)) ∧ I 305 (p + (k)) ≤ 57 from by omega) (s_isAt (d := d) (I := fgI I p (k)) (p := p + (k)) (b := b) hF rfl hb hb2 (by omega) ht (by omega) (by omega))) ?_
        exact rfl
      exact t_if_eq_f (by omega)
    apply t_Q
    · apply t_S
      refine x_aload_n rfl ?_
      refine x_giv tg_301 rfl (show _ = ((p + (k) : Nat) : Int) from rfl) ?_
      refine x_iload_n rfl ?_
      refine x_iload_n rfl ?_
      refine x_iadd ?_
      exact rfl
    apply t_Q
    · apply t_K
      apply t_Qs
      apply t_B
      · exact rfl
      exact t_ic_ne_t (by omega)
    apply t_B
    · refine x_aload_n rfl ?_
      refine x_bipush ?_
      refine x_aload_n rfl ?_
      refine x_giv tg_301 rfl (show _ = fgv (I 305) p (k) from rfl) ?_
      refine x_imul ?_
      refine x_aload_n rfl ?_
      refine x_gr tg_301 rfl (fx_301_4 hF) ?_
      refine x_aload_n rfl ?_
      refine x_giv tg_301 rfl (show _ = ((p + (k) : Nat) : Int) from rfl) ?_
      refine x_ialdv (Or.inl tg_305) (ln_305 L) (by omega) (show _ = I 305 (p + (k)) from rfl) ?_
      refine x_iadd ?_
      refine x_bipush ?_
      refine x_isub ?_
      refine x_pi tg_301 rfl rfl ?_
      refine x_aload_n rfl ?_
      refine x_dup rfl ?_
      refine x_giv tg_301 rfl (show _ = ((p + (k) : Nat) : Int) from rfl) ?_
      refine x_iconst ?_
      refine x_iadd ?_
      refine x_pi tg_301 rfl rfl ?_
      exact rfl
    exact t_goeq (s3 rfl (fgI_s rfl (by omega)))
  · have hd := dgc_no hc
    have hle := dgc_le (I 305) b p
    unfold wX12_takesFigures_10
    apply t_Q
    · apply t_B
      · refine x_aload_n rfl ?_
        refine x_bipush ?_
        refine x_bipush ?_
        refine x_V3i tg_301 (Nat.le_of_ble_eq_true rfl) (ret_t (show p + (m) < b ∧ 48 ≤ I 305 (p + (m)) ∧ I 305 (p + (m)) ≤ 57 from by omega) (s_isAt (d := d) (I := fgI I p (m)) (p := p + (m)) (b := b) hF rfl hb hb2 (by omega) ht (by omega) (by omega))) ?_
        exact rfl
      exact t_if_eq_f (by omega)
    apply t_Q
    · apply t_S
      refine x_aload_n rfl ?_
      refine x_giv tg_301 rfl (show _ = ((p + (m) : Nat) : Int) from rfl) ?_
      refine x_iload_n rfl ?_
      refine x_iload_n rfl ?_
      refine x_iadd ?_
      exact rfl
    apply t_Qs
    apply t_Ks
    · apply t_Q
      · apply t_B
        · exact rfl
        exact t_ic_ne_f (by omega)
      apply t_B
      · refine x_aload_n rfl ?_
        refine x_aload_n rfl ?_
        refine x_giv tg_301 rfl (show _ = ((p + (m) : Nat) : Int) from rfl) ?_
        refine x_V2i tg_301 (Nat.le_of_ble_eq_true rfl) (s_fails (d := d + 1) hF) ?_
        exact rfl
      exact t_ireq (Or.inr (Or.inl rfl)) rfl rfl
    · decide
set_option maxRecDepth 10000 in
theorem lp_figs_e {d L : Nat} {I : Nat → Nat → Int} {R : Nat → Nat → Option Nat} {u : Int64} (hF : FixR R) {p b : Nat} (hp : I 301 18 = (p : Nat)) (hb : I 301 5 = (b : Nat)) (hb2 : b ≤ 120) (hpb : p ≤ b) (ht : ∀ j, j < b → 0 ≤ I 305 j ∧ I 305 j ≤ 127) {m : Nat} (hm : m ≤ 4) (hc : dgc (I 305) b p ≤ m) : am_lp (am_ev (am_run am_tb (d + 2)) wX12_takesFigures_10) 10 am_F ([vR 301, vI m, vI p], [], LH L (fgI I p 0) R u) = some (79, [vR 301, vI m, vI p], [], LH L (fgI I p (dgc (I 305) b p)) R u) := by
  refine lp_up0 (fun k => ([vR 301, vI m, vI p], [], LH L (fgI I p k) R u)) (dgc (I 305) b p) rfl (ltF (by omega)) (by show ¬ 79 = 10 + 2; decide) (fun k hk => ?_) ?_
  · have hd := dgc_no (show k < dgc (I 305) b p by omega)
    have hle := dgc_le (I 305) b p
    unfold wX12_takesFigures_10
    apply t_Q
    · apply t_B
      · refine x_aload_n rfl ?_
        refine x_bipush ?_
        refine x_bipush ?_
        refine x_V3i tg_301 (Nat.le_of_ble_eq_true rfl) (ret_t (show p + (k) < b ∧ 48 ≤ I 305 (p + (k)) ∧ I 305 (p + (k)) ≤ 57 from by omega) (s_isAt (d := d) (I := fgI I p (k)) (p := p + (k)) (b := b) hF rfl hb hb2 (by omega) ht (by omega) (by omega))) ?_
        exact rfl
      exact t_if_eq_f (by omega)
    apply t_Q
    · apply t_S
      refine x_aload_n rfl ?_
      refine x_giv tg_301 rfl (show _ = ((p + (k) : Nat) : Int) from rfl) ?_
      refine x_iload_n rfl ?_
      refine x_iload_n rfl ?_
      refine x_iadd ?_
      exact rfl
    apply t_Q
    · apply t_K
      apply t_Qs
      apply t_B
      · exact rfl
      exact t_ic_ne_t (by omega)
    apply t_B
    · refine x_aload_n rfl ?_
      refine x_bipush ?_
      refine x_aload_n rfl ?_
      refine x_giv tg_301 rfl (show _ = fgv (I 305) p (k) from rfl) ?_
      refine x_imul ?_
      refine x_aload_n rfl ?_
      refine x_gr tg_301 rfl (fx_301_4 hF) ?_
      refine x_aload_n rfl ?_
      refine x_giv tg_301 rfl (show _ = ((p + (k) : Nat) : Int) from rfl) ?_
      refine x_ialdv (Or.inl tg_305) (ln_305 L) (by omega) (show _ = I 305 (p + (k)) from rfl) ?_
      refine x_iadd ?_
      refine x_bipush ?_
      refine x_isub ?_
      refine x_pi tg_301 rfl rfl ?_
      refine x_aload_n rfl ?_
      refine x_dup rfl ?_
      refine x_giv tg_301 rfl (show _ = ((p + (k) : Nat) : Int) from rfl) ?_
      refine x_iconst ?_
      refine x_iadd ?_
      refine x_pi tg_301 rfl rfl ?_
      exact rfl
    exact t_goeq (s3 rfl (fgI_s rfl (by omega)))
  · have hle := dgc_le (I 305) b p
    have hno : ¬ (p + dgc (I 305) b p < b ∧ 48 ≤ I 305 (p + dgc (I 305) b p) ∧ I 305 (p + dgc (I 305) b p) ≤ 57) := fun z => dgc_yes (T := I 305) (b := b) (p := p) (by omega) z.2
    unfold wX12_takesFigures_10
    apply t_Qs
    apply t_B
    · refine x_aload_n rfl ?_
      refine x_bipush ?_
      refine x_bipush ?_
      refine x_V3i tg_301 (Nat.le_of_ble_eq_true rfl) (ret_f (show ¬ (p + (dgc (I 305) b p) < b ∧ 48 ≤ I 305 (p + (dgc (I 305) b p)) ∧ I 305 (p + (dgc (I 305) b p)) ≤ 57) from hno) (s_isAt (d := d) (I := fgI I p (dgc (I 305) b p)) (p := p + (dgc (I 305) b p)) (b := b) hF rfl hb hb2 (by omega) ht (by omega) (by omega))) ?_
      exact rfl
    exact t_if_eq_t (by omega)
set_option maxRecDepth 10000 in
theorem s_figs_l {d L : Nat} {I : Nat → Nat → Int} {R : Nat → Nat → Option Nat} {u : Int64} (hF : FixR R) {p b : Nat} (hp : I 301 18 = (p : Nat)) (hb : I 301 5 = (b : Nat)) (hb2 : b ≤ 120) (hpb : p ≤ b) (ht : ∀ j, j < b → 0 ≤ I 305 j ∧ I 305 j ≤ 127) {m : Nat} (hm : m ≤ 4) (hc : m < dgc (I 305) b p) : am_run am_tb (d + 3) 213 [vR 301, vI m] (LH L I R u) = some ([vI 0], LH L (au (fgI I p m) 301 (au (fgI I p m 301) 19 ((p + m : Nat) : Int))) R u) := by
  refine run_of tb_X12_takesFigures (Nat.le_of_ble_eq_true rfl) ?_
  show ∃ ls', am_ev (am_run am_tb (d + 2)) tX12_takesFigures ([vR 301, vI m, vU], [], (LH L I R u)) = some (1, ls', [vI 0], LH L (au (fgI I p m) 301 (au (fgI I p m 301) 19 ((p + m : Nat) : Int))) R u)
  apply Exists.intro
  unfold tX12_takesFigures
  apply t_Q
  · apply t_S
    refine x_aload_n rfl ?_
    refine x_giv tg_301 rfl (show _ = ((p : Nat) : Int) from hp) ?_
    refine x_istore_n rfl ?_
    refine x_aload_n rfl ?_
    refine x_iconst ?_
    refine x_pi tg_301 rfl rfl ?_
    rw [fgI_0 hp]
    exact rfl
  apply t_Qs
  apply t_Ks
  · apply t_W
    exact lp_figs_l (d := d) hF hp hb hb2 hpb ht hm hc
  · decide
set_option maxRecDepth 10000 in
theorem s_figs_n {d L : Nat} {I : Nat → Nat → Int} {R : Nat → Nat → Option Nat} {u : Int64} (hF : FixR R) {p b : Nat} (hp : I 301 18 = (p : Nat)) (hb : I 301 5 = (b : Nat)) (hb2 : b ≤ 120) (hpb : p ≤ b) (ht : ∀ j, j < b → 0 ≤ I 305 j ∧ I 305 j ≤ 127) {m : Nat} (hm : m ≤ 4) (hc : dgc (I 305) b p = 0) : am_run am_tb (d + 3) 213 [vR 301, vI m] (LH L I R u) = some ([vI 0], LH L (au (fgI I p 0) 301 (au (fgI I p 0 301) 19 ((p : Nat) : Int))) R u) := by
  refine run_of tb_X12_takesFigures (Nat.le_of_ble_eq_true rfl) ?_
  show ∃ ls', am_ev (am_run am_tb (d + 2)) tX12_takesFigures ([vR 301, vI m, vU], [], (LH L I R u)) = some (1, ls', [vI 0], LH L (au (fgI I p 0) 301 (au (fgI I p 0 301) 19 ((p : Nat) : Int))) R u)
  have hl := lp_figs_e (d := d) (L := L) (u := u) hF hp hb hb2 hpb ht hm (by omega)
  rw [hc] at hl
  apply Exists.intro
  unfold tX12_takesFigures
  apply t_Q
  · apply t_S
    refine x_aload_n rfl ?_
    refine x_giv tg_301 rfl (show _ = ((p : Nat) : Int) from hp) ?_
    refine x_istore_n rfl ?_
    refine x_aload_n rfl ?_
    refine x_iconst ?_
    refine x_pi tg_301 rfl rfl ?_
    rw [fgI_0 hp]
    exact rfl
  apply t_Q
  · apply t_K
    apply t_W
    exact hl
  apply t_Q
  · apply t_S
    refine x_aload_n rfl ?_
    refine x_giv tg_301 rfl (show _ = ((p + (0) : Nat) : Int) from rfl) ?_
    refine x_iload_n rfl ?_
    exact rfl
  apply t_Q
  · apply t_Ks
    · apply t_Q
      · apply t_K
        apply t_Qs
        apply t_Ks
        · apply t_Q
          · apply t_B
            · exact rfl
            exact t_ic_gt_f (by omega)
          apply t_B
          · refine x_aload_n rfl ?_
            refine x_aload_n rfl ?_
            refine x_giv tg_301 rfl (show _ = ((p + (0) : Nat) : Int) from rfl) ?_
            refine x_V2i tg_301 (Nat.le_of_ble_eq_true rfl) (s_fails (d := d + 1) hF) ?_
            exact rfl
          exact t_if_eq_t (by omega)
        · decide
      apply t_S
      refine x_iconst ?_
      exact rfl
    · decide
  apply t_B
  · exact rfl
  exact t_ireq (Or.inr (Or.inl rfl)) rfl rfl
set_option maxRecDepth 10000 in
theorem s_figs_k {d L : Nat} {I : Nat → Nat → Int} {R : Nat → Nat → Option Nat} {u : Int64} (hF : FixR R) {p b : Nat} (hp : I 301 18 = (p : Nat)) (hb : I 301 5 = (b : Nat)) (hb2 : b ≤ 120) (hpb : p ≤ b) (ht : ∀ j, j < b → 0 ≤ I 305 j ∧ I 305 j ≤ 127) {m : Nat} (hm : m ≤ 4) (hc : 0 < dgc (I 305) b p ∧ dgc (I 305) b p ≤ m) : am_run am_tb (d + 3) 213 [vR 301, vI m] (LH L I R u) = some ([vI 1], LH L (fgI I p (dgc (I 305) b p)) R u) := by
  refine run_of tb_X12_takesFigures (Nat.le_of_ble_eq_true rfl) ?_
  show ∃ ls', am_ev (am_run am_tb (d + 2)) tX12_takesFigures ([vR 301, vI m, vU], [], (LH L I R u)) = some (1, ls', [vI 1], LH L (fgI I p (dgc (I 305) b p)) R u)
  have hle := dgc_le (I 305) b p
  apply Exists.intro
  unfold tX12_takesFigures
  apply t_Q
  · apply t_S
    refine x_aload_n rfl ?_
    refine x_giv tg_301 rfl (show _ = ((p : Nat) : Int) from hp) ?_
    refine x_istore_n rfl ?_
    refine x_aload_n rfl ?_
    refine x_iconst ?_
    refine x_pi tg_301 rfl rfl ?_
    rw [fgI_0 hp]
    exact rfl
  apply t_Q
  · apply t_K
    apply t_W
    exact lp_figs_e (d := d) hF hp hb hb2 hpb ht hm hc.2
  apply t_Q
  · apply t_S
    refine x_aload_n rfl ?_
    refine x_giv tg_301 rfl (show _ = ((p + (dgc (I 305) b p) : Nat) : Int) from rfl) ?_
    refine x_iload_n rfl ?_
    exact rfl
  apply t_Q
  · apply t_K
    apply t_Qs
    apply t_Ks
    · apply t_Q
      · apply t_K
        apply t_Qs
        apply t_B
        · exact rfl
        exact t_ic_gt_t (by omega)
      apply t_B
      · refine x_iconst ?_
        exact rfl
      exact t_goto
    · decide
  apply t_B
  · exact rfl
  exact t_ireq (Or.inr (Or.inr rfl)) rfl rfl
