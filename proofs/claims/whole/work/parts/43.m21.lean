/-! The reference: writesLetter; leaves of the reader. Written by wip/whole/gen_43.py. -/
def ltr (c n : Int) : List Int := c :: (if 1 < n then 94 :: num n else [])
set_option maxRecDepth 10000 in
theorem s_writesLetter {d L : Nat} {I : Nat → Nat → Int} {R : Nat → Nat → Option Nat} {u : Int64} (hF : FixR R) {c n : Int} (hn : 0 ≤ n ∧ n < 10000) {l : List Int} (hl : l.length + 6 ≤ 1500) : am_run am_tb (d + 3) 222 [vR 301, vI c, vI n] (LH L (wrs I l) R u) = some ([], LH L (wrs I (l ++ ltr c n)) R u) := by
  refine run_of tb_X12_writesLetter (Nat.le_of_ble_eq_true rfl) ?_
  show ∃ ls', am_ev (am_run am_tb (d + 2)) tX12_writesLetter ([vR 301, vI c, vI n], [], (LH L (wrs I l) R u)) = some (1, ls', [], LH L (wrs I (l ++ ltr c n)) R u)
  have h1 : (l ++ [c]).length = l.length + 1 := by rw [List.length_append]; rfl
  have h2 : (l ++ [c] ++ [94]).length = l.length + 2 := by rw [List.length_append, h1]; rfl
  by_cases cc : 1 < n
  · apply Exists.intro
    unfold tX12_writesLetter
    apply t_Q
    · apply t_S
      refine x_aload_n rfl ?_
      refine x_iload_n rfl ?_
      refine x_V2v tg_301 (Nat.le_of_ble_eq_true rfl) (s_writes (d := d + 1) hF (by omega)) ?_
      refine x_iload_n rfl ?_
      refine x_iconst ?_
      exact rfl
    apply t_Q
    · apply t_Ks
      · apply t_Q
        · apply t_B
          · exact rfl
          exact t_ic_le_f (by omega)
        apply t_S
        refine x_aload_n rfl ?_
        refine x_bipush ?_
        refine x_V2v tg_301 (Nat.le_of_ble_eq_true rfl) (s_writes (d := d + 1) hF (by omega)) ?_
        refine x_aload_n rfl ?_
        refine x_iload_n rfl ?_
        refine x_V2v tg_301 (Nat.le_of_ble_eq_true rfl) (s_writesNumber (d := d) hF hn (by omega)) ?_
        exact rfl
      · decide
    apply t_B
    · exact rfl
    exact t_vreq (LH_c (by unfold ltr; rw [if_pos cc]; simp only [List.append_assoc, List.cons_append, List.nil_append]))
  apply Exists.intro
  unfold tX12_writesLetter
  apply t_Q
  · apply t_S
    refine x_aload_n rfl ?_
    refine x_iload_n rfl ?_
    refine x_V2v tg_301 (Nat.le_of_ble_eq_true rfl) (s_writes (d := d + 1) hF (by omega)) ?_
    refine x_iload_n rfl ?_
    refine x_iconst ?_
    exact rfl
  apply t_Q
  · apply t_K
    apply t_Qs
    apply t_B
    · exact rfl
    exact t_ic_le_t (by omega)
  apply t_B
  · exact rfl
  exact t_vreq (LH_c (by unfold ltr; rw [if_neg cc]))
set_option maxRecDepth 10000 in
theorem s_isAt {d L : Nat} {I : Nat → Nat → Int} {R : Nat → Nat → Option Nat} {u : Int64} (hF : FixR R) {p b : Nat} (hp : I 301 18 = p) (hb : I 301 5 = b) (hb2 : b ≤ 120) (hp2 : p ≤ b) (ht : ∀ j, j < b → 0 ≤ I 305 j ∧ I 305 j ≤ 127) {lo hi : Int} (h1 : inR lo) (h2 : inR hi) : am_run am_tb (d + 2) 207 [vR 301, vI lo, vI hi] (LH L I R u) = some ([vI (if p < b ∧ lo ≤ I 305 p ∧ I 305 p ≤ hi then 1 else 0)], LH L I R u) := by
  refine run_of tb_X12_isAt (Nat.le_of_ble_eq_true rfl) ?_
  show ∃ ls', am_ev (am_run am_tb (d + 1)) tX12_isAt ([vR 301, vI lo, vI hi], [], (LH L I R u)) = some (1, ls', [vI (if p < b ∧ lo ≤ I 305 p ∧ I 305 p ≤ hi then 1 else 0)], LH L I R u)
  by_cases c1 : p < b
  · have hv := ht p c1
    by_cases c2 : lo ≤ I 305 p ∧ I 305 p ≤ hi
    · apply Exists.intro
      unfold tX12_isAt
      apply t_Q
      · apply t_S
        refine x_aload_n rfl ?_
        refine x_giv tg_301 rfl hp ?_
        refine x_aload_n rfl ?_
        refine x_giv tg_301 rfl hb ?_
        exact rfl
      apply t_Q
      · apply t_K
        apply t_Qs
        apply t_Ks
        · apply t_Q
          · apply t_B
            · exact rfl
            exact t_ic_ge_f (by omega)
          apply t_Q
          · apply t_B
            · refine x_aload_n rfl ?_
              refine x_gr tg_301 rfl (fx_301_4 hF) ?_
              refine x_aload_n rfl ?_
              refine x_giv tg_301 rfl hp ?_
              refine x_ialdv (Or.inl tg_305) (ln_305 L) (by omega) (show _ = I 305 p from rfl) ?_
              refine x_iload_n rfl ?_
              refine x_iload_n rfl ?_
              refine x_S3i (by decide) (Nat.le_of_ble_eq_true rfl) (ret_t c2 (s_in (d := d) (by omega) h1 h2)) ?_
              exact rfl
            exact t_if_eq_f (by omega)
          apply t_B
          · refine x_iconst ?_
            exact rfl
          exact t_goto
        · decide
      apply t_B
      · exact rfl
      exact t_ireq (Or.inr (Or.inr rfl)) (by rw [if_pos (⟨c1, c2⟩)]) rfl
    apply Exists.intro
    unfold tX12_isAt
    apply t_Q
    · apply t_S
      refine x_aload_n rfl ?_
      refine x_giv tg_301 rfl hp ?_
      refine x_aload_n rfl ?_
      refine x_giv tg_301 rfl hb ?_
      exact rfl
    apply t_Q
    · apply t_Ks
      · apply t_Q
        · apply t_K
          apply t_Q
          · apply t_B
            · exact rfl
            exact t_ic_ge_f (by omega)
          apply t_Qs
          apply t_B
          · refine x_aload_n rfl ?_
            refine x_gr tg_301 rfl (fx_301_4 hF) ?_
            refine x_aload_n rfl ?_
            refine x_giv tg_301 rfl hp ?_
            refine x_ialdv (Or.inl tg_305) (ln_305 L) (by omega) (show _ = I 305 p from rfl) ?_
            refine x_iload_n rfl ?_
            refine x_iload_n rfl ?_
            refine x_S3i (by decide) (Nat.le_of_ble_eq_true rfl) (ret_f c2 (s_in (d := d) (by omega) h1 h2)) ?_
            exact rfl
          exact t_if_eq_t (by omega)
        apply t_S
        refine x_iconst ?_
        exact rfl
      · decide
    apply t_B
    · exact rfl
    exact t_ireq (Or.inr (Or.inl rfl)) (by rw [if_neg (fun q => c2 q.2)]) rfl
  apply Exists.intro
  unfold tX12_isAt
  apply t_Q
  · apply t_S
    refine x_aload_n rfl ?_
    refine x_giv tg_301 rfl hp ?_
    refine x_aload_n rfl ?_
    refine x_giv tg_301 rfl hb ?_
    exact rfl
  apply t_Q
  · apply t_Ks
    · apply t_Q
      · apply t_K
        apply t_Qs
        apply t_B
        · exact rfl
        exact t_ic_ge_t (by omega)
      apply t_S
      refine x_iconst ?_
      exact rfl
    · decide
  apply t_B
  · exact rfl
  exact t_ireq (Or.inr (Or.inl rfl)) (by rw [if_neg (fun q => c1 q.1)]) rfl
set_option maxRecDepth 10000 in
theorem s_fails {d L : Nat} {I : Nat → Nat → Int} {R : Nat → Nat → Option Nat} {u : Int64} (hF : FixR R) {v : Int} : am_run am_tb (d + 1) 209 [vR 301, vI v] (LH L I R u) = some ([vI 0], LH L (au I 301 (au (I 301) 19 v)) R u) := by
  refine run_of tb_X12_fails (Nat.le_of_ble_eq_true rfl) ?_
  show ∃ ls', am_ev (am_run am_tb (d + 0)) tX12_fails ([vR 301, vI v], [], (LH L I R u)) = some (1, ls', [vI 0], LH L (au I 301 (au (I 301) 19 v)) R u)
  apply Exists.intro
  unfold tX12_fails
  apply t_B
  · refine x_aload_n rfl ?_
    refine x_iload_n rfl ?_
    refine x_pi tg_301 rfl rfl ?_
    refine x_iconst ?_
    exact rfl
  exact t_ireq (Or.inr (Or.inl rfl)) rfl rfl
def nbl (I : Nat → Nat → Int) (p b : Nat) : Nat := fnd (fun m => decide (¬ I 305 (p + m) = 32)) (b - p)
theorem nbl_le (I : Nat → Nat → Int) (p b : Nat) : nbl I p b ≤ b - p := fnd_le _ _
theorem nbl_no {I : Nat → Nat → Int} {p b k : Nat} (h : k < nbl I p b) : I 305 (p + k) = 32 := Decidable.not_not.mp (of_decide_eq_false (fnd_no (p := fun m => decide (¬ I 305 (p + m) = 32)) h))
theorem nbl_yes {I : Nat → Nat → Int} {p b : Nat} (h : nbl I p b < b - p) : ¬ I 305 (p + nbl I p b) = 32 := of_decide_eq_true (fnd_yes (p := fun m => decide (¬ I 305 (p + m) = 32)) h)
def spI (I : Nat → Nat → Int) (p : Nat) : Nat → Nat → Int := au I 301 (au (I 301) 18 (p : Nat))
set_option maxRecDepth 10000 in
theorem lp_blanks {d L : Nat} {I : Nat → Nat → Int} {R : Nat → Nat → Option Nat} {u : Int64} (hF : FixR R) {p b : Nat} (hp : I 301 18 = p) (hb : I 301 5 = b) (hb2 : b ≤ 120) (hp2 : p ≤ b) (ht : ∀ j, j < b → 0 ≤ I 305 j ∧ I 305 j ≤ 127) : am_lp (am_ev (am_run am_tb (d + 2)) wX12_blanks_0) 0 am_F ([vR 301], [], LH L I R u) = some (26, [vR 301], [], LH L (spI I (p + nbl I p b)) R u) := by
  have hle := nbl_le I p b
  refine lp_up0 (fun k => ([vR 301], [], LH L (spI I (p + k)) R u)) (nbl I p b) (s3 rfl (by
    unfold spI
    rw [Nat.add_zero, ← hp, au_id, au_id])) (ltF (by omega)) (by show ¬ 26 = 0 + 2; decide) (fun k hk => ?_) ?_
  · have hz := nbl_no hk
    unfold wX12_blanks_0
    apply t_Q
    · apply t_B
      · refine x_aload_n rfl ?_
        refine x_bipush ?_
        refine x_bipush ?_
        refine x_V3i tg_301 (Nat.le_of_ble_eq_true rfl) (ret_t (show p + k < b ∧ 32 ≤ (spI I (p + k)) 305 (p + k) ∧ (spI I (p + k)) 305 (p + k) ≤ 32 from by show p + k < b ∧ 32 ≤ I 305 (p + k) ∧ I 305 (p + k) ≤ 32; omega) (s_isAt (d := d) (I := spI I (p + k)) (p := p + k) (b := b) hF rfl hb hb2 (by omega) ht (by omega) (by omega))) ?_
        exact rfl
      exact t_if_eq_f (by omega)
    apply t_B
    · refine x_aload_n rfl ?_
      refine x_dup rfl ?_
      refine x_giv tg_301 rfl (show _ = ((p + k : Nat) : Int) from rfl) ?_
      refine x_iconst ?_
      refine x_iadd ?_
      refine x_pi tg_301 rfl rfl ?_
      exact rfl
    exact t_goeq (s3 rfl (by unfold spI; rw [au_au, au_s, au_au]; rfl))
  · by_cases c : nbl I p b < b - p
    · have hz := nbl_yes c
      unfold wX12_blanks_0
      apply t_Qs
      apply t_B
      · refine x_aload_n rfl ?_
        refine x_bipush ?_
        refine x_bipush ?_
        refine x_V3i tg_301 (Nat.le_of_ble_eq_true rfl) (ret_f (show ¬ (p + nbl I p b < b ∧ 32 ≤ (spI I (p + nbl I p b)) 305 (p + nbl I p b) ∧ (spI I (p + nbl I p b)) 305 (p + nbl I p b) ≤ 32) from by show ¬ (p + nbl I p b < b ∧ 32 ≤ I 305 (p + nbl I p b) ∧ I 305 (p + nbl I p b) ≤ 32); omega) (s_isAt (d := d) (I := spI I (p + nbl I p b)) (p := p + nbl I p b) (b := b) hF rfl hb hb2 (by omega) ht (by omega) (by omega))) ?_
        exact rfl
      exact t_if_eq_t (by omega)
    · unfold wX12_blanks_0
      apply t_Qs
      apply t_B
      · refine x_aload_n rfl ?_
        refine x_bipush ?_
        refine x_bipush ?_
        refine x_V3i tg_301 (Nat.le_of_ble_eq_true rfl) (ret_f (show ¬ (p + nbl I p b < b ∧ _) from fun q => by have := q.1; omega) (s_isAt (d := d) (I := spI I (p + nbl I p b)) (p := p + nbl I p b) (b := b) hF rfl hb hb2 (by omega) ht (by omega) (by omega))) ?_
        exact rfl
      exact t_if_eq_t (by omega)
set_option maxRecDepth 10000 in
theorem s_blanks {d L : Nat} {I : Nat → Nat → Int} {R : Nat → Nat → Option Nat} {u : Int64} (hF : FixR R) {p b : Nat} (hp : I 301 18 = p) (hb : I 301 5 = b) (hb2 : b ≤ 120) (hp2 : p ≤ b) (ht : ∀ j, j < b → 0 ≤ I 305 j ∧ I 305 j ≤ 127) : am_run am_tb (d + 3) 208 [vR 301] (LH L I R u) = some ([], LH L (spI I (p + nbl I p b)) R u) := by
  refine run_of tb_X12_blanks (Nat.le_of_ble_eq_true rfl) ?_
  show ∃ ls', am_ev (am_run am_tb (d + 2)) tX12_blanks ([vR 301], [], (LH L I R u)) = some (1, ls', [], LH L (spI I (p + nbl I p b)) R u)
  apply Exists.intro
  unfold tX12_blanks
  apply t_Q
  · apply t_K
    apply t_W
    exact lp_blanks (d := d) hF hp hb hb2 hp2 ht
  apply t_B
  · exact rfl
  exact rfl
