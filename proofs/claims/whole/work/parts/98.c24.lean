/-! The class: the text, its fault. Written by wip/whole/gen_98.py. -/
/-- the byte at a position; -1: there is none -/
def bt (T : Nat → Int) (b p : Nat) : Int := if p < b then T p else -1
/-- the class's text -/
def Txc (I : Nat → Nat → Int) (b : Nat) : Prop := I 108 1 = (b : Nat) ∧ b ≤ 120 ∧ ∀ j, j < b → 0 ≤ I 109 j ∧ I 109 j ≤ 127
theorem bt_b {I : Nat → Nat → Int} {b : Nat} (h : Txc I b) (p : Nat) : -1 ≤ bt (I 109) b p ∧ bt (I 109) b p ≤ 127 := by
  unfold bt
  split
  · have := h.2.2 p (by omega); omega
  · omega
/-- with its two numbers -/
def tx (I : Nat → Nat → Int) (m o : Nat) : Nat → Nat → Int := au I 108 (au (au (I 108) 2 (m : Nat)) 3 (o : Nat))
theorem tx_o {I : Nat → Nat → Int} {m o a : Nat} (h : a ≠ 108) : tx I m o a = I a := au_n _ _ h
theorem tx_1 {I : Nat → Nat → Int} {m o : Nat} : tx I m o 108 1 = I 108 1 := by unfold tx; rw [au_s, au_n _ _ (by decide), au_n _ _ (by decide)]
theorem tx_2 {I : Nat → Nat → Int} {m o : Nat} : tx I m o 108 2 = (m : Nat) := by unfold tx; rw [au_s, au_n _ _ (by decide), au_s]
theorem tx_3 {I : Nat → Nat → Int} {m o : Nat} : tx I m o 108 3 = (o : Nat) := by unfold tx; rw [au_s, au_s]
theorem tx_w2 {I : Nat → Nat → Int} {m o m' : Nat} {v : Int} (hv : v = (m' : Nat)) : au (tx I m o) 108 (au (tx I m o 108) 2 v) = tx I m' o := by
  subst hv
  unfold tx
  rw [au_au, au_s]
  refine au_c ?_
  funext j
  rw [au_i, au_i, au_i, au_i, au_i]
  by_cases e2 : j = 2
  · rw [if_pos e2, if_neg (by omega), if_pos e2]
  · by_cases e3 : j = 3
    · rw [if_neg e2, if_pos e3, if_pos e3]
    · rw [if_neg e2, if_neg e3, if_neg e2, if_neg e3, if_neg e2]
theorem tx_w3 {I : Nat → Nat → Int} {m o o' : Nat} {v : Int} (hv : v = (o' : Nat)) : au (tx I m o) 108 (au (tx I m o 108) 3 v) = tx I m o' := by
  subst hv
  unfold tx
  rw [au_au, au_s]
  refine au_c ?_
  funext j
  by_cases e3 : j = 3
  · rw [e3, au_s, au_s]
  · rw [au_n _ _ e3, au_n _ _ e3, au_n _ _ e3]
theorem tx_C {I : Nat → Nat → Int} {b m o : Nat} (h : Txc I b) : Txc (tx I m o) b := ⟨by rw [tx_1]; exact h.1, h.2.1, by rw [tx_o (by decide)]; exact h.2.2⟩
set_option maxRecDepth 10000 in
theorem s9_byteAt {d L : Nat} {I : Nat → Nat → Int} {R : Nat → Nat → Option Nat} {u : Int64} (hF : FixR R) {b : Nat} (hx : Txc I b) {p : Nat} (hp : p ≤ 10000) : am_run am_tb (d + 1) 77 [vR 108, vI p] (LH L I R u) = some ([vI (bt (I 109) b p)], LH L I R u) := by
  refine run_of tb_X9_byteAt (Nat.le_of_ble_eq_true rfl) ?_
  show ∃ ls', am_ev (am_run am_tb (d + 0)) tX9_byteAt ([vR 108, vI p], [], (LH L I R u)) = some (1, ls', [vI (bt (I 109) b p)], LH L I R u)
  have hb := hx.2.1
  have hbt := bt_b hx p
  by_cases c : p < b
  · rw [show bt (I 109) b p = I 109 p from if_pos c]
    have h2 := hx.2.2 p c
    apply Exists.intro
    unfold tX9_byteAt
    apply t_Q
    · apply t_S
      refine x_iload_n rfl ?_
      exact rfl
    apply t_Q
    · apply t_K
      apply t_Qs
      apply t_Ks
      · apply t_Q
        · apply t_B
          · exact rfl
          exact t_if_lt_f (by omega)
        apply t_Q
        · apply t_B
          · refine x_iload_n rfl ?_
            refine x_aload_n rfl ?_
            refine x_giv tg_108 rfl (show _ = (b : Int) from hx.1) ?_
            exact rfl
          exact t_ic_ge_f (by omega)
        apply t_Q
        · apply t_B
          · refine x_iload_n rfl ?_
            refine x_bipush ?_
            exact rfl
          exact t_ic_ge_f (by omega)
        apply t_B
        · refine x_aload_n rfl ?_
          refine x_gr tg_108 rfl (fx_108_0 hF) ?_
          refine x_iload_n rfl ?_
          refine x_ialdv (Or.inl tg_109) (ln_109 L) (by omega) (show _ = I 109 p from congrArg (I 109) (Int.toNat_natCast p)) ?_
          exact rfl
        exact t_goto
      · decide
    apply t_B
    · exact rfl
    exact t_ireq (Or.inl rfl) rfl rfl
  · rw [show bt (I 109) b p = -1 from if_neg c]
    apply Exists.intro
    unfold tX9_byteAt
    apply t_Q
    · apply t_S
      refine x_iload_n rfl ?_
      exact rfl
    apply t_Q
    · apply t_Ks
      · apply t_Q
        · apply t_K
          apply t_Q
          · apply t_B
            · exact rfl
            exact t_if_lt_f (by omega)
          apply t_Qs
          apply t_B
          · refine x_iload_n rfl ?_
            refine x_aload_n rfl ?_
            refine x_giv tg_108 rfl (show _ = (b : Int) from hx.1) ?_
            exact rfl
          exact t_ic_ge_t (by omega)
        apply t_S
        refine x_iconst ?_
        exact rfl
      · decide
    apply t_B
    · exact rfl
    exact t_ireq (Or.inl rfl) rfl rfl
set_option maxRecDepth 10000 in
theorem s9_isDigit {d L : Nat} {I : Nat → Nat → Int} {R : Nat → Nat → Option Nat} {u : Int64} (hF : FixR R) {b : Nat} (hx : Txc I b) {p : Nat} (hp : p ≤ 10000) : am_run am_tb (d + 2) 78 [vR 108, vI p] (LH L I R u) = some ([vI (if 48 ≤ bt (I 109) b (p) ∧ bt (I 109) b (p) ≤ 57 then 1 else 0)], LH L I R u) := by
  refine run_of tb_X9_isDigit (Nat.le_of_ble_eq_true rfl) ?_
  show ∃ ls', am_ev (am_run am_tb (d + 1)) tX9_isDigit ([vR 108, vI p, vU], [], (LH L I R u)) = some (1, ls', [vI (if 48 ≤ bt (I 109) b (p) ∧ bt (I 109) b (p) ≤ 57 then 1 else 0)], LH L I R u)
  have hbt := bt_b hx p
  by_cases c1 : bt (I 109) b p < 48
  · rw [if_neg (by omega)]
    apply Exists.intro
    unfold tX9_isDigit
    apply t_Q
    · apply t_S
      refine x_aload_n rfl ?_
      refine x_iload_n rfl ?_
      refine x_V2i tg_108 (Nat.le_of_ble_eq_true rfl) (s9_byteAt (d := d) hF hx hp) ?_
      refine x_istore_n rfl ?_
      refine x_iload_n rfl ?_
      refine x_bipush ?_
      exact rfl
    apply t_Q
    · apply t_Ks
      · apply t_Q
        · apply t_K
          apply t_Qs
          apply t_B
          · exact rfl
          exact t_ic_lt_t (by omega)
        apply t_S
        refine x_iconst ?_
        exact rfl
      · decide
    apply t_B
    · exact rfl
    exact t_ireq (Or.inr (by first | exact Or.inl rfl | exact Or.inr rfl)) rfl rfl
  by_cases c2 : 57 < bt (I 109) b p
  · rw [if_neg (by omega)]
    apply Exists.intro
    unfold tX9_isDigit
    apply t_Q
    · apply t_S
      refine x_aload_n rfl ?_
      refine x_iload_n rfl ?_
      refine x_V2i tg_108 (Nat.le_of_ble_eq_true rfl) (s9_byteAt (d := d) hF hx hp) ?_
      refine x_istore_n rfl ?_
      refine x_iload_n rfl ?_
      refine x_bipush ?_
      exact rfl
    apply t_Q
    · apply t_Ks
      · apply t_Q
        · apply t_K
          apply t_Q
          · apply t_B
            · exact rfl
            exact t_ic_lt_f (by omega)
          apply t_Qs
          apply t_B
          · refine x_iload_n rfl ?_
            refine x_bipush ?_
            exact rfl
          exact t_ic_gt_t (by omega)
        apply t_S
        refine x_iconst ?_
        exact rfl
      · decide
    apply t_B
    · exact rfl
    exact t_ireq (Or.inr (by first | exact Or.inl rfl | exact Or.inr rfl)) rfl rfl
  · rw [if_pos (by omega)]
    apply Exists.intro
    unfold tX9_isDigit
    apply t_Q
    · apply t_S
      refine x_aload_n rfl ?_
      refine x_iload_n rfl ?_
      refine x_V2i tg_108 (Nat.le_of_ble_eq_true rfl) (s9_byteAt (d := d) hF hx hp) ?_
      refine x_istore_n rfl ?_
      refine x_iload_n rfl ?_
      refine x_bipush ?_
      exact rfl
    apply t_Q
    · apply t_K
      apply t_Qs
      apply t_Ks
      · apply t_Q
        · apply t_B
          · exact rfl
          exact t_ic_lt_f (by omega)
        apply t_Q
        · apply t_B
          · refine x_iload_n rfl ?_
            refine x_bipush ?_
            exact rfl
          exact t_ic_gt_f (by omega)
        apply t_B
        · refine x_iconst ?_
          exact rfl
        exact t_goto
      · decide
    apply t_B
    · exact rfl
    exact t_ireq (Or.inr (by first | exact Or.inl rfl | exact Or.inr rfl)) rfl rfl
/-- how many figures, n at most -/
def cdg (T : Nat → Int) (b n p : Nat) : Nat := fnd (fun k => decide (¬ (48 ≤ bt T b (p + k) ∧ bt T b (p + k) ≤ 57))) n
theorem cdg_le (T : Nat → Int) (b n p : Nat) : cdg T b n p ≤ n := fnd_le _ _
theorem cdg_no {T : Nat → Int} {b n p k : Nat} (h : k < cdg T b n p) : 48 ≤ bt T b (p + k) ∧ bt T b (p + k) ≤ 57 := Decidable.not_not.mp (of_decide_eq_false (fnd_no (p := fun k => decide (¬ (48 ≤ bt T b (p + k) ∧ bt T b (p + k) ≤ 57))) h))
theorem cdg_yes {T : Nat → Int} {b n p : Nat} (h : cdg T b n p < n) : ¬ (48 ≤ bt T b (p + cdg T b n p) ∧ bt T b (p + cdg T b n p) ≤ 57) := of_decide_eq_true (fnd_yes (p := fun k => decide (¬ (48 ≤ bt T b (p + k) ∧ bt T b (p + k) ≤ 57))) h)
theorem bt_t {T : Nat → Int} {b p : Nat} (h : 0 ≤ bt T b p) : p < b ∧ bt T b p = T p := by
  unfold bt at h ⊢
  by_cases c : p < b
  · rw [if_pos c]; exact ⟨c, rfl⟩
  · rw [if_neg c] at h; omega
set_option maxRecDepth 10000 in
theorem lp9_cd {d L : Nat} {I : Nat → Nat → Int} {R : Nat → Nat → Option Nat} {u : Int64} (hF : FixR R) {b : Nat} (hx : Txc I b) {p n : Nat} (hp : p + n ≤ 9000) : am_lp (am_ev (am_run am_tb (d + 2)) wX9_countDigits_2) 2 am_F ([vR 108, vI p, vI n, vI 0], [], LH L I R u) = some (25, [vR 108, vI p, vI n, vI (cdg (I 109) b n p : Nat)], [], LH L I R u) := by
  have hle := cdg_le (I 109) b n p
  refine lp_up0 (fun k => ([vR 108, vI p, vI n, vI k], [], LH L I R u)) (cdg (I 109) b n p) rfl (ltF (by omega)) (by show ¬ 25 = 2 + 2; decide) (fun k hk => ?_) ?_
  · have c := cdg_no hk
    unfold wX9_countDigits_2
    apply t_Q
    · apply t_B
      · refine x_iload_n rfl ?_
        refine x_iload_n rfl ?_
        exact rfl
      exact t_ic_ge_f (by omega)
    apply t_Q
    · apply t_B
      · refine x_aload_n rfl ?_
        refine x_iload_n rfl ?_
        refine x_iload_n rfl ?_
        refine x_iadd ?_
        rw [show (p : Int) + (k : Int) = ((p + k : Nat) : Int) by omega]
        refine x_V2i tg_108 (Nat.le_of_ble_eq_true rfl) (ret_t c (s9_isDigit (d := d) hF hx (p := p + k) (by omega))) ?_
        exact rfl
      exact t_if_eq_f (by omega)
    apply t_B
    · refine x_iinc rfl rfl ?_
      exact rfl
    exact t_goeq rfl
  · by_cases e : cdg (I 109) b n p = n
    · rw [e]
      unfold wX9_countDigits_2
      apply t_Qs
      apply t_B
      · refine x_iload_n rfl ?_
        refine x_iload_n rfl ?_
        exact rfl
      exact t_ic_ge_t (by omega)
    · have c := cdg_yes (T := I 109) (b := b) (n := n) (p := p) (by omega)
      generalize cdg (I 109) b n p = z at *
      unfold wX9_countDigits_2
      apply t_Q
      · apply t_B
        · refine x_iload_n rfl ?_
          refine x_iload_n rfl ?_
          exact rfl
        exact t_ic_ge_f (by omega)
      apply t_Qs
      apply t_B
      · refine x_aload_n rfl ?_
        refine x_iload_n rfl ?_
        refine x_iload_n rfl ?_
        refine x_iadd ?_
        rw [show (p : Int) + (z : Int) = ((p + z : Nat) : Int) by omega]
        refine x_V2i tg_108 (Nat.le_of_ble_eq_true rfl) (ret_f c (s9_isDigit (d := d) hF hx (p := p + z) (by omega))) ?_
        exact rfl
      exact t_if_eq_t (by omega)
set_option maxRecDepth 10000 in
theorem s9_countDigits {d L : Nat} {I : Nat → Nat → Int} {R : Nat → Nat → Option Nat} {u : Int64} (hF : FixR R) {b : Nat} (hx : Txc I b) {p n : Nat} (hp : p + n ≤ 9000) : am_run am_tb (d + 3) 84 [vR 108, vI p, vI n] (LH L I R u) = some ([vI (cdg (I 109) b n p : Nat)], LH L I R u) := by
  refine run_of tb_X9_countDigits (Nat.le_of_ble_eq_true rfl) ?_
  show ∃ ls', am_ev (am_run am_tb (d + 2)) tX9_countDigits ([vR 108, vI p, vI n, vU], [], (LH L I R u)) = some (1, ls', [vI (cdg (I 109) b n p : Nat)], LH L I R u)
  have hle := cdg_le (I 109) b n p
  apply Exists.intro
  unfold tX9_countDigits
  apply t_Q
  · apply t_S
    refine x_iconst ?_
    refine x_istore_n rfl ?_
    exact rfl
  apply t_Q
  · apply t_K
    apply t_W
    exact lp9_cd (d := d) hF hx hp
  apply t_B
  · refine x_iload_n rfl ?_
    exact rfl
  exact t_ireq (Or.inl rfl) rfl rfl
theorem fgc_b {T : Nat → Int} {b n p k : Nat} (h : k ≤ cdg T b n p) : 0 ≤ fgv T p k ∧ fgv T p k < tnp k := by
  induction k with
  | zero => show (0 : Int) ≤ 0 ∧ (0 : Int) < 1; decide
  | succ k ih =>
    have i := ih (by omega)
    have c := cdg_no (T := T) (b := b) (n := n) (p := p) (k := k) (by omega)
    have t := bt_t (T := T) (b := b) (p := p + k) (by omega)
    rw [t.2] at c
    show 0 ≤ 10 * fgv T p k + T (p + k) - 48 ∧ 10 * fgv T p k + T (p + k) - 48 < 10 * tnp k
    omega
theorem tnp_5 {k : Nat} (h : k ≤ 5) : tnp k ≤ 100000 := by
  rcases (show k = 0 ∨ k = 1 ∨ k = 2 ∨ k = 3 ∨ k = 4 ∨ k = 5 by omega) with e | e | e | e | e | e <;> subst e <;> decide
set_option maxRecDepth 10000 in
theorem lp9_vo {d L : Nat} {I : Nat → Nat → Int} {R : Nat → Nat → Option Nat} {u : Int64} (hF : FixR R) {b : Nat} (hx : Txc I b) {p n m : Nat} (hp : p ≤ 9000) (hn : n ≤ cdg (I 109) b m p) (hn5 : n ≤ 5) : am_lp (am_ev (am_run am_tb (d + 1)) wX9_valueOf_5) 5 am_F ([vR 108, vI p, vI n, vI (fgv (I 109) p 0), vI 0], [], LH L I R u) = some (36, [vR 108, vI p, vI n, vI (fgv (I 109) p n), vI n], [], LH L I R u) := by
  refine lp_up0 (fun k => ([vR 108, vI p, vI n, vI (fgv (I 109) p k), vI k], [], LH L I R u)) n rfl (ltF (by omega)) (by show ¬ 36 = 5 + 2; decide) (fun k hk => ?_) ?_
  · have c := cdg_no (T := I 109) (b := b) (n := m) (p := p) (k := k) (by omega)
    have t := bt_t (T := I 109) (b := b) (p := p + k) (by omega)
    have f1 := fgc_b (T := I 109) (b := b) (n := m) (p := p) (k := k) (by omega)
    have f2 := tnp_5 (k := k) (by omega)
    have hby := s9_byteAt (d := d) (L := L) (u := u) hF hx (p := p + k) (by omega)
    rw [t.2] at hby c
    unfold wX9_valueOf_5
    apply t_Q
    · apply t_B
      · refine x_iload rfl ?_
        refine x_iload_n rfl ?_
        exact rfl
      exact t_ic_ge_f (by omega)
    apply t_B
    · refine x_iload_n rfl ?_
      refine x_bipush ?_
      refine x_imul ?_
      refine x_aload_n rfl ?_
      refine x_iload_n rfl ?_
      refine x_iload rfl ?_
      refine x_iadd ?_
      rw [show (p : Int) + (k : Int) = ((p + k : Nat) : Int) by omega]
      refine x_V2i tg_108 (Nat.le_of_ble_eq_true rfl) (hby) ?_
      refine x_bipush ?_
      refine x_isub ?_
      refine x_iadd ?_
      refine x_istore_n rfl ?_
      refine x_iinc rfl rfl ?_
      exact rfl
    exact t_goeq (s3 (by show _ = [vR 108, vI p, vI n, vI (10 * fgv (I 109) p k + I 109 (p + k) - 48), vI ((k + 1 : Nat) : Int)]; rw [show fgv (I 109) p k * 10 + (I 109 (p + k) - 48) = 10 * fgv (I 109) p k + I 109 (p + k) - 48 by omega]; rfl) rfl)
  · unfold wX9_valueOf_5
    apply t_Qs
    apply t_B
    · refine x_iload rfl ?_
      refine x_iload_n rfl ?_
      exact rfl
    exact t_ic_ge_t (by omega)
set_option maxRecDepth 10000 in
theorem s9_valueOf {d L : Nat} {I : Nat → Nat → Int} {R : Nat → Nat → Option Nat} {u : Int64} (hF : FixR R) {b : Nat} (hx : Txc I b) {p n m : Nat} (hp : p ≤ 9000) (hn : n ≤ cdg (I 109) b m p) (hn5 : n ≤ 5) : am_run am_tb (d + 2) 85 [vR 108, vI p, vI n] (LH L I R u) = some ([vI (fgv (I 109) p n)], LH L I R u) := by
  refine run_of tb_X9_valueOf (Nat.le_of_ble_eq_true rfl) ?_
  show ∃ ls', am_ev (am_run am_tb (d + 1)) tX9_valueOf ([vR 108, vI p, vI n, vU, vU], [], (LH L I R u)) = some (1, ls', [vI (fgv (I 109) p n)], LH L I R u)
  have f1 := fgc_b (T := I 109) (b := b) (n := m) (p := p) (k := n) hn
  have f2 := tnp_5 (k := n) hn5
  apply Exists.intro
  unfold tX9_valueOf
  apply t_Q
  · apply t_S
    refine x_iconst ?_
    refine x_istore_n rfl ?_
    refine x_iconst ?_
    refine x_istore rfl ?_
    exact rfl
  apply t_Q
  · apply t_K
    apply t_W
    exact lp9_vo (d := d) hF hx hp hn hn5
  apply t_B
  · refine x_iload_n rfl ?_
    exact rfl
  exact t_ireq (Or.inl rfl) rfl rfl
/-- what stands at a position: where it goes on (or -1 less the fault), the mode, how many are open -/
def poR (T : Nat → Int) (b p m o : Nat) : Int × Nat × Nat := if bt T b p = 40 then (if 8 ≤ o then (-1 - (p : Int), m, o) else ((p : Int) + 1, 0, o + 1)) else if bt T b p = 120 ∨ bt T b p = 100 then ((p : Int) + 1, 2, o) else if cdg T b 5 p = 0 then (-1 - (p : Int), m, o) else if cdg T b 5 p = 5 then (-1 - ((p : Int) + 4), m, o) else ((p : Int) + (cdg T b 5 p : Nat), 2, o)
def peR (T : Nat → Int) (b p m o : Nat) : Int × Nat × Nat := if cdg T b 3 p = 0 then (-1 - (p : Int), m, o) else if cdg T b 3 p = 3 then (-1 - ((p : Int) + 2), m, o) else if 12 < fgv T p (cdg T b 3 p) then (-1 - (p : Int), m, o) else ((p : Int) + (cdg T b 3 p : Nat), 4, o)
def plR (T : Nat → Int) (b p m o : Nat) : Int × Nat × Nat := if bt T b p = 94 ∧ m = 2 then ((p : Int) + 1, 3, o) else if bt T b p = 43 ∨ bt T b p = 45 ∨ bt T b p = 42 then ((p : Int) + 1, 1, o) else if bt T b p = 41 ∧ 0 < o then ((p : Int) + 1, 2, o - 1) else (-1 - (p : Int), m, o)
def psR (T : Nat → Int) (b p m o : Nat) : Int × Nat × Nat := if m = 0 then (if bt T b p = 45 then ((p : Int) + 1, 1, o) else poR T b p m o) else if m = 1 then poR T b p m o else if m = 3 then peR T b p m o else plR T b p m o
set_option maxRecDepth 10000 in
theorem s9_passOperand {d L : Nat} {I : Nat → Nat → Int} {R : Nat → Nat → Option Nat} {u : Int64} (hF : FixR R) {b : Nat} (hx : Txc I b) {p m o : Nat} (hp : p ≤ 200) (ho : o ≤ 8) : am_run am_tb (d + 4) 81 [vR 108, vI p] (LH L (tx I m o) R u) = some ([vI (poR (I 109) b p m o).1], LH L (tx I (poR (I 109) b p m o).2.1 (poR (I 109) b p m o).2.2) R u) := by
  refine run_of tb_X9_passOperand (Nat.le_of_ble_eq_true rfl) ?_
  show ∃ ls', am_ev (am_run am_tb (d + 3)) tX9_passOperand ([vR 108, vI p, vU, vU], [], (LH L (tx I m o) R u)) = some (1, ls', [vI (poR (I 109) b p m o).1], LH L (tx I (poR (I 109) b p m o).2.1 (poR (I 109) b p m o).2.2) R u)
  have hbt := bt_b hx p
  have hby := s9_byteAt (d := d + 2) (L := L) (u := u) hF (tx_C (m := m) (o := o) hx) (p := p) (by omega)
  have hcd := s9_countDigits (d := d) (L := L) (u := u) hF (tx_C (m := m) (o := o) hx) (p := p) (n := 5) (by omega)
  rw [tx_o (by decide)] at hby hcd
  have hle := cdg_le (I 109) b 5 p
  by_cases c1 : bt (I 109) b p = 40
  · by_cases c2 : 8 ≤ o
    · rw [show poR (I 109) b p m o = (-1 - (p : Int), m, o) by unfold poR; rw [if_pos c1, if_pos c2]]
      apply Exists.intro
      unfold tX9_passOperand
      apply t_Q
      · apply t_S
        refine x_aload_n rfl ?_
        refine x_iload_n rfl ?_
        refine x_V2i tg_108 (Nat.le_of_ble_eq_true rfl) (hby) ?_
        refine x_istore_n rfl ?_
        refine x_iload_n rfl ?_
        refine x_bipush ?_
        exact rfl
      apply t_Qs
      apply t_Ks
      · apply t_Q
        · apply t_B
          · exact rfl
          exact t_ic_ne_f (by omega)
        apply t_Q
        · apply t_S
          refine x_aload_n rfl ?_
          refine x_giv tg_108 rfl (show _ = (o : Int) from tx_3) ?_
          refine x_bipush ?_
          exact rfl
        apply t_Qs
        apply t_Ks
        · apply t_Q
          · apply t_B
            · exact rfl
            exact t_ic_lt_f (by omega)
          apply t_B
          · refine x_iconst ?_
            refine x_iload_n rfl ?_
            refine x_isub ?_
            exact rfl
          exact t_ireq (Or.inl rfl) rfl rfl
        · decide
      · decide
    · rw [show poR (I 109) b p m o = ((p : Int) + 1, 0, o + 1) by unfold poR; rw [if_pos c1, if_neg c2]]
      apply Exists.intro
      unfold tX9_passOperand
      apply t_Q
      · apply t_S
        refine x_aload_n rfl ?_
        refine x_iload_n rfl ?_
        refine x_V2i tg_108 (Nat.le_of_ble_eq_true rfl) (hby) ?_
        refine x_istore_n rfl ?_
        refine x_iload_n rfl ?_
        refine x_bipush ?_
        exact rfl
      apply t_Qs
      apply t_Ks
      · apply t_Q
        · apply t_B
          · exact rfl
          exact t_ic_ne_f (by omega)
        apply t_Q
        · apply t_S
          refine x_aload_n rfl ?_
          refine x_giv tg_108 rfl (show _ = (o : Int) from tx_3) ?_
          refine x_bipush ?_
          exact rfl
        apply t_Q
        · apply t_K
          apply t_Qs
          apply t_B
          · exact rfl
          exact t_ic_lt_t (by omega)
        apply t_B
        · refine x_aload_n rfl ?_
          refine x_dup rfl ?_
          refine x_giv tg_108 rfl (show _ = (o : Int) from tx_3) ?_
          refine x_iconst ?_
          refine x_iadd ?_
          refine x_pi tg_108 rfl rfl ?_
          rw [tx_w3 (o' := o + 1) (by omega)]
          refine x_aload_n rfl ?_
          refine x_iconst ?_
          refine x_pi tg_108 rfl rfl ?_
          rw [tx_w2 (m' := 0) (v := 0) rfl]
          refine x_iload_n rfl ?_
          refine x_iconst ?_
          refine x_iadd ?_
          exact rfl
        exact t_ireq (Or.inl rfl) rfl rfl
      · decide
  by_cases c2 : bt (I 109) b p = 120 ∨ bt (I 109) b p = 100
  · rw [show poR (I 109) b p m o = ((p : Int) + 1, 2, o) by unfold poR; rw [if_neg c1, if_pos c2]]
    by_cases c3 : bt (I 109) b p = 120
    · apply Exists.intro
      unfold tX9_passOperand
      apply t_Q
      · apply t_S
        refine x_aload_n rfl ?_
        refine x_iload_n rfl ?_
        refine x_V2i tg_108 (Nat.le_of_ble_eq_true rfl) (hby) ?_
        refine x_istore_n rfl ?_
        refine x_iload_n rfl ?_
        refine x_bipush ?_
        exact rfl
      apply t_Q
      · apply t_K
        apply t_Qs
        apply t_B
        · exact rfl
        exact t_ic_ne_t (by omega)
      apply t_Q
      · apply t_S
        refine x_iload_n rfl ?_
        refine x_bipush ?_
        exact rfl
      apply t_Qs
      apply t_Ks
      · apply t_Q
        · apply t_K
          apply t_Qs
          apply t_B
          · exact rfl
          exact t_ic_eq_t (by omega)
        apply t_B
        · refine x_aload_n rfl ?_
          refine x_iconst ?_
          refine x_pi tg_108 rfl rfl ?_
          rw [tx_w2 (m' := 2) (v := 2) rfl]
          refine x_iload_n rfl ?_
          refine x_iconst ?_
          refine x_iadd ?_
          exact rfl
        exact t_ireq (Or.inl rfl) rfl rfl
      · decide
    · apply Exists.intro
      unfold tX9_passOperand
      apply t_Q
      · apply t_S
        refine x_aload_n rfl ?_
        refine x_iload_n rfl ?_
        refine x_V2i tg_108 (Nat.le_of_ble_eq_true rfl) (hby) ?_
        refine x_istore_n rfl ?_
        refine x_iload_n rfl ?_
        refine x_bipush ?_
        exact rfl
      apply t_Q
      · apply t_K
        apply t_Qs
        apply t_B
        · exact rfl
        exact t_ic_ne_t (by omega)
      apply t_Q
      · apply t_S
        refine x_iload_n rfl ?_
        refine x_bipush ?_
        exact rfl
      apply t_Qs
      apply t_Ks
      · apply t_Q
        · apply t_Ks
          · apply t_Q
            · apply t_B
              · exact rfl
              exact t_ic_eq_f (by omega)
            apply t_B
            · refine x_iload_n rfl ?_
              refine x_bipush ?_
              exact rfl
            exact t_ic_ne_f (by omega)
          · decide
        apply t_B
        · refine x_aload_n rfl ?_
          refine x_iconst ?_
          refine x_pi tg_108 rfl rfl ?_
          rw [tx_w2 (m' := 2) (v := 2) rfl]
          refine x_iload_n rfl ?_
          refine x_iconst ?_
          refine x_iadd ?_
          exact rfl
        exact t_ireq (Or.inl rfl) rfl rfl
      · decide
  by_cases c3 : cdg (I 109) b 5 p = 0
  · rw [show poR (I 109) b p m o = (-1 - (p : Int), m, o) by unfold poR; rw [if_neg c1, if_neg c2, if_pos c3]]
    apply Exists.intro
    unfold tX9_passOperand
    apply t_Q
    · apply t_S
      refine x_aload_n rfl ?_
      refine x_iload_n rfl ?_
      refine x_V2i tg_108 (Nat.le_of_ble_eq_true rfl) (hby) ?_
      refine x_istore_n rfl ?_
      refine x_iload_n rfl ?_
      refine x_bipush ?_
      exact rfl
    apply t_Q
    · apply t_K
      apply t_Qs
      apply t_B
      · exact rfl
      exact t_ic_ne_t (by omega)
    apply t_Q
    · apply t_S
      refine x_iload_n rfl ?_
      refine x_bipush ?_
      exact rfl
    apply t_Q
    · apply t_K
      apply t_Qs
      apply t_Ks
      · apply t_Q
        · apply t_B
          · exact rfl
          exact t_ic_eq_f (by omega)
        apply t_B
        · refine x_iload_n rfl ?_
          refine x_bipush ?_
          exact rfl
        exact t_ic_ne_t (by omega)
      · decide
    apply t_Q
    · apply t_S
      refine x_aload_n rfl ?_
      refine x_iload_n rfl ?_
      refine x_iconst ?_
      refine x_V3i tg_108 (Nat.le_of_ble_eq_true rfl) (hcd) ?_
      refine x_istore_n rfl ?_
      refine x_iload_n rfl ?_
      exact rfl
    apply t_Qs
    apply t_Ks
    · apply t_Q
      · apply t_B
        · exact rfl
        exact t_if_ne_f (by omega)
      apply t_B
      · refine x_iconst ?_
        refine x_iload_n rfl ?_
        refine x_isub ?_
        exact rfl
      exact t_ireq (Or.inl rfl) rfl rfl
    · decide
  by_cases c4 : cdg (I 109) b 5 p = 5
  · rw [show poR (I 109) b p m o = (-1 - ((p : Int) + 4), m, o) by unfold poR; rw [if_neg c1, if_neg c2, if_neg c3, if_pos c4]]
    apply Exists.intro
    unfold tX9_passOperand
    apply t_Q
    · apply t_S
      refine x_aload_n rfl ?_
      refine x_iload_n rfl ?_
      refine x_V2i tg_108 (Nat.le_of_ble_eq_true rfl) (hby) ?_
      refine x_istore_n rfl ?_
      refine x_iload_n rfl ?_
      refine x_bipush ?_
      exact rfl
    apply t_Q
    · apply t_K
      apply t_Qs
      apply t_B
      · exact rfl
      exact t_ic_ne_t (by omega)
    apply t_Q
    · apply t_S
      refine x_iload_n rfl ?_
      refine x_bipush ?_
      exact rfl
    apply t_Q
    · apply t_K
      apply t_Qs
      apply t_Ks
      · apply t_Q
        · apply t_B
          · exact rfl
          exact t_ic_eq_f (by omega)
        apply t_B
        · refine x_iload_n rfl ?_
          refine x_bipush ?_
          exact rfl
        exact t_ic_ne_t (by omega)
      · decide
    apply t_Q
    · apply t_S
      refine x_aload_n rfl ?_
      refine x_iload_n rfl ?_
      refine x_iconst ?_
      refine x_V3i tg_108 (Nat.le_of_ble_eq_true rfl) (hcd) ?_
      refine x_istore_n rfl ?_
      refine x_iload_n rfl ?_
      exact rfl
    apply t_Q
    · apply t_K
      apply t_Qs
      apply t_B
      · exact rfl
      exact t_if_ne_t (by omega)
    apply t_Q
    · apply t_S
      refine x_iload_n rfl ?_
      refine x_iconst ?_
      exact rfl
    apply t_Qs
    apply t_Ks
    · apply t_Q
      · apply t_B
        · exact rfl
        exact t_ic_ne_f (by omega)
      apply t_B
      · refine x_iconst ?_
        refine x_iload_n rfl ?_
        refine x_iconst ?_
        refine x_iadd ?_
        refine x_isub ?_
        exact rfl
      exact t_ireq (Or.inl rfl) rfl rfl
    · decide
  · rw [show poR (I 109) b p m o = ((p : Int) + (cdg (I 109) b 5 p : Nat), 2, o) by unfold poR; rw [if_neg c1, if_neg c2, if_neg c3, if_neg c4]]
    apply Exists.intro
    unfold tX9_passOperand
    apply t_Q
    · apply t_S
      refine x_aload_n rfl ?_
      refine x_iload_n rfl ?_
      refine x_V2i tg_108 (Nat.le_of_ble_eq_true rfl) (hby) ?_
      refine x_istore_n rfl ?_
      refine x_iload_n rfl ?_
      refine x_bipush ?_
      exact rfl
    apply t_Q
    · apply t_K
      apply t_Qs
      apply t_B
      · exact rfl
      exact t_ic_ne_t (by omega)
    apply t_Q
    · apply t_S
      refine x_iload_n rfl ?_
      refine x_bipush ?_
      exact rfl
    apply t_Q
    · apply t_K
      apply t_Qs
      apply t_Ks
      · apply t_Q
        · apply t_B
          · exact rfl
          exact t_ic_eq_f (by omega)
        apply t_B
        · refine x_iload_n rfl ?_
          refine x_bipush ?_
          exact rfl
        exact t_ic_ne_t (by omega)
      · decide
    apply t_Q
    · apply t_S
      refine x_aload_n rfl ?_
      refine x_iload_n rfl ?_
      refine x_iconst ?_
      refine x_V3i tg_108 (Nat.le_of_ble_eq_true rfl) (hcd) ?_
      refine x_istore_n rfl ?_
      refine x_iload_n rfl ?_
      exact rfl
    apply t_Q
    · apply t_K
      apply t_Qs
      apply t_B
      · exact rfl
      exact t_if_ne_t (by omega)
    apply t_Q
    · apply t_S
      refine x_iload_n rfl ?_
      refine x_iconst ?_
      exact rfl
    apply t_Q
    · apply t_K
      apply t_Qs
      apply t_B
      · exact rfl
      exact t_ic_ne_t (by omega)
    apply t_B
    · refine x_aload_n rfl ?_
      refine x_iconst ?_
      refine x_pi tg_108 rfl rfl ?_
      rw [tx_w2 (m' := 2) (v := 2) rfl]
      refine x_iload_n rfl ?_
      refine x_iload_n rfl ?_
      refine x_iadd ?_
      exact rfl
    exact t_ireq (Or.inl rfl) rfl rfl
set_option maxRecDepth 10000 in
theorem s9_passExponent {d L : Nat} {I : Nat → Nat → Int} {R : Nat → Nat → Option Nat} {u : Int64} (hF : FixR R) {b : Nat} (hx : Txc I b) {p m o : Nat} (hp : p ≤ 200) (ho : o ≤ 8) : am_run am_tb (d + 4) 82 [vR 108, vI p] (LH L (tx I m o) R u) = some ([vI (peR (I 109) b p m o).1], LH L (tx I (peR (I 109) b p m o).2.1 (peR (I 109) b p m o).2.2) R u) := by
  refine run_of tb_X9_passExponent (Nat.le_of_ble_eq_true rfl) ?_
  show ∃ ls', am_ev (am_run am_tb (d + 3)) tX9_passExponent ([vR 108, vI p, vU], [], (LH L (tx I m o) R u)) = some (1, ls', [vI (peR (I 109) b p m o).1], LH L (tx I (peR (I 109) b p m o).2.1 (peR (I 109) b p m o).2.2) R u)
  have hcd := s9_countDigits (d := d) (L := L) (u := u) hF (tx_C (m := m) (o := o) hx) (p := p) (n := 3) (by omega)
  rw [tx_o (by decide)] at hcd
  have hle := cdg_le (I 109) b 3 p
  by_cases c3 : cdg (I 109) b 3 p = 0
  · rw [show peR (I 109) b p m o = (-1 - (p : Int), m, o) by unfold peR; rw [if_pos c3]]
    apply Exists.intro
    unfold tX9_passExponent
    apply t_Q
    · apply t_S
      refine x_aload_n rfl ?_
      refine x_iload_n rfl ?_
      refine x_iconst ?_
      refine x_V3i tg_108 (Nat.le_of_ble_eq_true rfl) (hcd) ?_
      refine x_istore_n rfl ?_
      refine x_iload_n rfl ?_
      exact rfl
    apply t_Qs
    apply t_Ks
    · apply t_Q
      · apply t_B
        · exact rfl
        exact t_if_ne_f (by omega)
      apply t_B
      · refine x_iconst ?_
        refine x_iload_n rfl ?_
        refine x_isub ?_
        exact rfl
      exact t_ireq (Or.inl rfl) rfl rfl
    · decide
  by_cases c4 : cdg (I 109) b 3 p = 3
  · rw [show peR (I 109) b p m o = (-1 - ((p : Int) + 2), m, o) by unfold peR; rw [if_neg c3, if_pos c4]]
    apply Exists.intro
    unfold tX9_passExponent
    apply t_Q
    · apply t_S
      refine x_aload_n rfl ?_
      refine x_iload_n rfl ?_
      refine x_iconst ?_
      refine x_V3i tg_108 (Nat.le_of_ble_eq_true rfl) (hcd) ?_
      refine x_istore_n rfl ?_
      refine x_iload_n rfl ?_
      exact rfl
    apply t_Q
    · apply t_K
      apply t_Qs
      apply t_B
      · exact rfl
      exact t_if_ne_t (by omega)
    apply t_Q
    · apply t_S
      refine x_iload_n rfl ?_
      refine x_iconst ?_
      exact rfl
    apply t_Qs
    apply t_Ks
    · apply t_Q
      · apply t_B
        · exact rfl
        exact t_ic_ne_f (by omega)
      apply t_B
      · refine x_iconst ?_
        refine x_iload_n rfl ?_
        refine x_iconst ?_
        refine x_iadd ?_
        refine x_isub ?_
        exact rfl
      exact t_ireq (Or.inl rfl) rfl rfl
    · decide
  have hvo := s9_valueOf (d := d + 1) (L := L) (u := u) hF (tx_C (m := m) (o := o) hx) (p := p) (n := cdg (I 109) b 3 p) (m := 3) (by omega) (by rw [tx_o (by decide)]; exact Nat.le_refl _) (by omega)
  rw [tx_o (by decide)] at hvo
  have f1 := fgc_b (T := I 109) (b := b) (n := 3) (p := p) (k := cdg (I 109) b 3 p) (Nat.le_refl _)
  have f2 := tnp_5 (k := cdg (I 109) b 3 p) (by omega)
  by_cases c5 : 12 < fgv (I 109) p (cdg (I 109) b 3 p)
  · rw [show peR (I 109) b p m o = (-1 - (p : Int), m, o) by unfold peR; rw [if_neg c3, if_neg c4, if_pos c5]]
    apply Exists.intro
    unfold tX9_passExponent
    apply t_Q
    · apply t_S
      refine x_aload_n rfl ?_
      refine x_iload_n rfl ?_
      refine x_iconst ?_
      refine x_V3i tg_108 (Nat.le_of_ble_eq_true rfl) (hcd) ?_
      refine x_istore_n rfl ?_
      refine x_iload_n rfl ?_
      exact rfl
    apply t_Q
    · apply t_K
      apply t_Qs
      apply t_B
      · exact rfl
      exact t_if_ne_t (by omega)
    apply t_Q
    · apply t_S
      refine x_iload_n rfl ?_
      refine x_iconst ?_
      exact rfl
    apply t_Q
    · apply t_K
      apply t_Qs
      apply t_B
      · exact rfl
      exact t_ic_ne_t (by omega)
    apply t_Q
    · apply t_S
      refine x_aload_n rfl ?_
      refine x_iload_n rfl ?_
      refine x_iload_n rfl ?_
      refine x_V3i tg_108 (Nat.le_of_ble_eq_true rfl) (hvo) ?_
      refine x_bipush ?_
      exact rfl
    apply t_Qs
    apply t_Ks
    · apply t_Q
      · apply t_B
        · exact rfl
        exact t_ic_le_f (by omega)
      apply t_B
      · refine x_iconst ?_
        refine x_iload_n rfl ?_
        refine x_isub ?_
        exact rfl
      exact t_ireq (Or.inl rfl) rfl rfl
    · decide
  · rw [show peR (I 109) b p m o = ((p : Int) + (cdg (I 109) b 3 p : Nat), 4, o) by unfold peR; rw [if_neg c3, if_neg c4, if_neg c5]]
    apply Exists.intro
    unfold tX9_passExponent
    apply t_Q
    · apply t_S
      refine x_aload_n rfl ?_
      refine x_iload_n rfl ?_
      refine x_iconst ?_
      refine x_V3i tg_108 (Nat.le_of_ble_eq_true rfl) (hcd) ?_
      refine x_istore_n rfl ?_
      refine x_iload_n rfl ?_
      exact rfl
    apply t_Q
    · apply t_K
      apply t_Qs
      apply t_B
      · exact rfl
      exact t_if_ne_t (by omega)
    apply t_Q
    · apply t_S
      refine x_iload_n rfl ?_
      refine x_iconst ?_
      exact rfl
    apply t_Q
    · apply t_K
      apply t_Qs
      apply t_B
      · exact rfl
      exact t_ic_ne_t (by omega)
    apply t_Q
    · apply t_S
      refine x_aload_n rfl ?_
      refine x_iload_n rfl ?_
      refine x_iload_n rfl ?_
      refine x_V3i tg_108 (Nat.le_of_ble_eq_true rfl) (hvo) ?_
      refine x_bipush ?_
      exact rfl
    apply t_Q
    · apply t_K
      apply t_Qs
      apply t_B
      · exact rfl
      exact t_ic_le_t (by omega)
    apply t_B
    · refine x_aload_n rfl ?_
      refine x_iconst ?_
      refine x_pi tg_108 rfl rfl ?_
      rw [tx_w2 (m' := 4) (v := 4) rfl]
      refine x_iload_n rfl ?_
      refine x_iload_n rfl ?_
      refine x_iadd ?_
      exact rfl
    exact t_ireq (Or.inl rfl) rfl rfl
set_option maxRecDepth 10000 in
theorem s9_passLink {d L : Nat} {I : Nat → Nat → Int} {R : Nat → Nat → Option Nat} {u : Int64} (hF : FixR R) {b : Nat} (hx : Txc I b) {p m o : Nat} (hp : p ≤ 200) (ho : o ≤ 8) (hm : m ≤ 4) : am_run am_tb (d + 2) 83 [vR 108, vI p] (LH L (tx I m o) R u) = some ([vI (plR (I 109) b p m o).1], LH L (tx I (plR (I 109) b p m o).2.1 (plR (I 109) b p m o).2.2) R u) := by
  refine run_of tb_X9_passLink (Nat.le_of_ble_eq_true rfl) ?_
  show ∃ ls', am_ev (am_run am_tb (d + 1)) tX9_passLink ([vR 108, vI p, vU], [], (LH L (tx I m o) R u)) = some (1, ls', [vI (plR (I 109) b p m o).1], LH L (tx I (plR (I 109) b p m o).2.1 (plR (I 109) b p m o).2.2) R u)
  have hbt := bt_b hx p
  have hby := s9_byteAt (d := d) (L := L) (u := u) hF (tx_C (m := m) (o := o) hx) (p := p) (by omega)
  rw [tx_o (by decide)] at hby
  by_cases c1 : bt (I 109) b p = 94
  · by_cases c2 : m = 2
    · rw [show plR (I 109) b p m o = ((p : Int) + 1, 3, o) by unfold plR; rw [if_pos ⟨c1, c2⟩]]
      apply Exists.intro
      unfold tX9_passLink
      apply t_Q
      · apply t_S
        refine x_aload_n rfl ?_
        refine x_iload_n rfl ?_
        refine x_V2i tg_108 (Nat.le_of_ble_eq_true rfl) (hby) ?_
        refine x_istore_n rfl ?_
        refine x_iload_n rfl ?_
        refine x_bipush ?_
        exact rfl
      apply t_Q
      · apply t_K
        apply t_Qs
        apply t_Ks
        · apply t_Q
          · apply t_B
            · exact rfl
            exact t_ic_ne_f (by omega)
          apply t_Q
          · apply t_B
            · refine x_aload_n rfl ?_
              refine x_giv tg_108 rfl tx_2 ?_
              refine x_iconst ?_
              exact rfl
            exact t_ic_ne_f (by omega)
          apply t_B
          · refine x_aload_n rfl ?_
            refine x_iconst ?_
            refine x_pi tg_108 rfl rfl ?_
            rw [tx_w2 (m' := 3) (v := 3) rfl]
            exact rfl
          exact t_goto
        · decide
      apply t_B
      · refine x_iload_n rfl ?_
        refine x_iconst ?_
        refine x_iadd ?_
        exact rfl
      exact t_ireq (Or.inl rfl) rfl rfl
    · rw [show plR (I 109) b p m o = (-1 - (p : Int), m, o) by unfold plR; rw [if_neg (fun z => c2 z.2), if_neg (by omega), if_neg (by omega)]]
      apply Exists.intro
      unfold tX9_passLink
      apply t_Q
      · apply t_S
        refine x_aload_n rfl ?_
        refine x_iload_n rfl ?_
        refine x_V2i tg_108 (Nat.le_of_ble_eq_true rfl) (hby) ?_
        refine x_istore_n rfl ?_
        refine x_iload_n rfl ?_
        refine x_bipush ?_
        exact rfl
      apply t_Qs
      apply t_Ks
      · apply t_Q
        · apply t_K
          apply t_Q
          · apply t_B
            · exact rfl
            exact t_ic_ne_f (by omega)
          apply t_Qs
          apply t_B
          · refine x_aload_n rfl ?_
            refine x_giv tg_108 rfl tx_2 ?_
            refine x_iconst ?_
            exact rfl
          exact t_ic_ne_t (by omega)
        apply t_Q
        · apply t_S
          refine x_iload_n rfl ?_
          refine x_bipush ?_
          exact rfl
        apply t_Q
        · apply t_K
          apply t_Qs
          apply t_Ks
          · apply t_Q
            · apply t_B
              · exact rfl
              exact t_ic_eq_f (by omega)
            apply t_Q
            · apply t_B
              · refine x_iload_n rfl ?_
                refine x_bipush ?_
                exact rfl
              exact t_ic_eq_f (by omega)
            apply t_B
            · refine x_iload_n rfl ?_
              refine x_bipush ?_
              exact rfl
            exact t_ic_ne_t (by omega)
          · decide
        apply t_Q
        · apply t_S
          refine x_iload_n rfl ?_
          refine x_bipush ?_
          exact rfl
        apply t_Q
        · apply t_K
          apply t_Qs
          apply t_B
          · exact rfl
          exact t_ic_ne_t (by omega)
        apply t_B
        · refine x_iconst ?_
          refine x_iload_n rfl ?_
          refine x_isub ?_
          exact rfl
        exact t_ireq (Or.inl rfl) rfl rfl
      · decide
  have n1 : ¬ (bt (I 109) b p = 94 ∧ m = 2) := fun z => c1 z.1
  by_cases c2 : bt (I 109) b p = 43 ∨ bt (I 109) b p = 45 ∨ bt (I 109) b p = 42
  · rw [show plR (I 109) b p m o = ((p : Int) + 1, 1, o) by unfold plR; rw [if_neg n1, if_pos c2]]
    by_cases c3 : bt (I 109) b p = 43
    · apply Exists.intro
      unfold tX9_passLink
      apply t_Q
      · apply t_S
        refine x_aload_n rfl ?_
        refine x_iload_n rfl ?_
        refine x_V2i tg_108 (Nat.le_of_ble_eq_true rfl) (hby) ?_
        refine x_istore_n rfl ?_
        refine x_iload_n rfl ?_
        refine x_bipush ?_
        exact rfl
      apply t_Q
      · apply t_K
        apply t_Q
        · apply t_K
          apply t_Qs
          apply t_B
          · exact rfl
          exact t_ic_ne_t (by omega)
        apply t_Q
        · apply t_S
          refine x_iload_n rfl ?_
          refine x_bipush ?_
          exact rfl
        apply t_Qs
        apply t_Ks
        · apply t_Q
          · apply t_K
            apply t_Qs
            apply t_B
            · exact rfl
            exact t_ic_eq_t (by omega)
          apply t_B
          · refine x_aload_n rfl ?_
            refine x_iconst ?_
            refine x_pi tg_108 rfl rfl ?_
            rw [tx_w2 (m' := 1) (v := 1) rfl]
            exact rfl
          exact t_goto
        · decide
      apply t_B
      · refine x_iload_n rfl ?_
        refine x_iconst ?_
        refine x_iadd ?_
        exact rfl
      exact t_ireq (Or.inl rfl) rfl rfl
    by_cases c4 : bt (I 109) b p = 45
    · apply Exists.intro
      unfold tX9_passLink
      apply t_Q
      · apply t_S
        refine x_aload_n rfl ?_
        refine x_iload_n rfl ?_
        refine x_V2i tg_108 (Nat.le_of_ble_eq_true rfl) (hby) ?_
        refine x_istore_n rfl ?_
        refine x_iload_n rfl ?_
        refine x_bipush ?_
        exact rfl
      apply t_Q
      · apply t_K
        apply t_Q
        · apply t_K
          apply t_Qs
          apply t_B
          · exact rfl
          exact t_ic_ne_t (by omega)
        apply t_Q
        · apply t_S
          refine x_iload_n rfl ?_
          refine x_bipush ?_
          exact rfl
        apply t_Qs
        apply t_Ks
        · apply t_Q
          · apply t_K
            apply t_Q
            · apply t_B
              · exact rfl
              exact t_ic_eq_f (by omega)
            apply t_Qs
            apply t_B
            · refine x_iload_n rfl ?_
              refine x_bipush ?_
              exact rfl
            exact t_ic_eq_t (by omega)
          apply t_B
          · refine x_aload_n rfl ?_
            refine x_iconst ?_
            refine x_pi tg_108 rfl rfl ?_
            rw [tx_w2 (m' := 1) (v := 1) rfl]
            exact rfl
          exact t_goto
        · decide
      apply t_B
      · refine x_iload_n rfl ?_
        refine x_iconst ?_
        refine x_iadd ?_
        exact rfl
      exact t_ireq (Or.inl rfl) rfl rfl
    · apply Exists.intro
      unfold tX9_passLink
      apply t_Q
      · apply t_S
        refine x_aload_n rfl ?_
        refine x_iload_n rfl ?_
        refine x_V2i tg_108 (Nat.le_of_ble_eq_true rfl) (hby) ?_
        refine x_istore_n rfl ?_
        refine x_iload_n rfl ?_
        refine x_bipush ?_
        exact rfl
      apply t_Q
      · apply t_K
        apply t_Q
        · apply t_K
          apply t_Qs
          apply t_B
          · exact rfl
          exact t_ic_ne_t (by omega)
        apply t_Q
        · apply t_S
          refine x_iload_n rfl ?_
          refine x_bipush ?_
          exact rfl
        apply t_Qs
        apply t_Ks
        · apply t_Q
          · apply t_Ks
            · apply t_Q
              · apply t_B
                · exact rfl
                exact t_ic_eq_f (by omega)
              apply t_Q
              · apply t_B
                · refine x_iload_n rfl ?_
                  refine x_bipush ?_
                  exact rfl
                exact t_ic_eq_f (by omega)
              apply t_B
              · refine x_iload_n rfl ?_
                refine x_bipush ?_
                exact rfl
              exact t_ic_ne_f (by omega)
            · decide
          apply t_B
          · refine x_aload_n rfl ?_
            refine x_iconst ?_
            refine x_pi tg_108 rfl rfl ?_
            rw [tx_w2 (m' := 1) (v := 1) rfl]
            exact rfl
          exact t_goto
        · decide
      apply t_B
      · refine x_iload_n rfl ?_
        refine x_iconst ?_
        refine x_iadd ?_
        exact rfl
      exact t_ireq (Or.inl rfl) rfl rfl
  by_cases c3 : bt (I 109) b p = 41
  · by_cases c4 : 0 < o
    · rw [show plR (I 109) b p m o = ((p : Int) + 1, 2, o - 1) by unfold plR; rw [if_neg n1, if_neg c2, if_pos ⟨c3, c4⟩]]
      apply Exists.intro
      unfold tX9_passLink
      apply t_Q
      · apply t_S
        refine x_aload_n rfl ?_
        refine x_iload_n rfl ?_
        refine x_V2i tg_108 (Nat.le_of_ble_eq_true rfl) (hby) ?_
        refine x_istore_n rfl ?_
        refine x_iload_n rfl ?_
        refine x_bipush ?_
        exact rfl
      apply t_Q
      · apply t_K
        apply t_Q
        · apply t_K
          apply t_Qs
          apply t_B
          · exact rfl
          exact t_ic_ne_t (by omega)
        apply t_Q
        · apply t_S
          refine x_iload_n rfl ?_
          refine x_bipush ?_
          exact rfl
        apply t_Q
        · apply t_K
          apply t_Qs
          apply t_Ks
          · apply t_Q
            · apply t_B
              · exact rfl
              exact t_ic_eq_f (by omega)
            apply t_Q
            · apply t_B
              · refine x_iload_n rfl ?_
                refine x_bipush ?_
                exact rfl
              exact t_ic_eq_f (by omega)
            apply t_B
            · refine x_iload_n rfl ?_
              refine x_bipush ?_
              exact rfl
            exact t_ic_ne_t (by omega)
          · decide
        apply t_Q
        · apply t_S
          refine x_iload_n rfl ?_
          refine x_bipush ?_
          exact rfl
        apply t_Qs
        apply t_Ks
        · apply t_Q
          · apply t_B
            · exact rfl
            exact t_ic_ne_f (by omega)
          apply t_Q
          · apply t_B
            · refine x_aload_n rfl ?_
              refine x_giv tg_108 rfl (show _ = (o : Int) from tx_3) ?_
              exact rfl
            exact t_if_le_f (by omega)
          apply t_B
          · refine x_aload_n rfl ?_
            refine x_dup rfl ?_
            refine x_giv tg_108 rfl (show _ = (o : Int) from tx_3) ?_
            refine x_iconst ?_
            refine x_isub ?_
            refine x_pi tg_108 rfl rfl ?_
            rw [tx_w3 (o' := o - 1) (by omega)]
            refine x_aload_n rfl ?_
            refine x_iconst ?_
            refine x_pi tg_108 rfl rfl ?_
            rw [tx_w2 (m' := 2) (v := 2) rfl]
            exact rfl
          exact t_goto
        · decide
      apply t_B
      · refine x_iload_n rfl ?_
        refine x_iconst ?_
        refine x_iadd ?_
        exact rfl
      exact t_ireq (Or.inl rfl) rfl rfl
    · rw [show plR (I 109) b p m o = (-1 - (p : Int), m, o) by unfold plR; rw [if_neg n1, if_neg c2, if_neg (fun z => c4 z.2)]]
      apply Exists.intro
      unfold tX9_passLink
      apply t_Q
      · apply t_S
        refine x_aload_n rfl ?_
        refine x_iload_n rfl ?_
        refine x_V2i tg_108 (Nat.le_of_ble_eq_true rfl) (hby) ?_
        refine x_istore_n rfl ?_
        refine x_iload_n rfl ?_
        refine x_bipush ?_
        exact rfl
      apply t_Qs
      apply t_Ks
      · apply t_Q
        · apply t_K
          apply t_Qs
          apply t_B
          · exact rfl
          exact t_ic_ne_t (by omega)
        apply t_Q
        · apply t_S
          refine x_iload_n rfl ?_
          refine x_bipush ?_
          exact rfl
        apply t_Q
        · apply t_K
          apply t_Qs
          apply t_Ks
          · apply t_Q
            · apply t_B
              · exact rfl
              exact t_ic_eq_f (by omega)
            apply t_Q
            · apply t_B
              · refine x_iload_n rfl ?_
                refine x_bipush ?_
                exact rfl
              exact t_ic_eq_f (by omega)
            apply t_B
            · refine x_iload_n rfl ?_
              refine x_bipush ?_
              exact rfl
            exact t_ic_ne_t (by omega)
          · decide
        apply t_Q
        · apply t_S
          refine x_iload_n rfl ?_
          refine x_bipush ?_
          exact rfl
        apply t_Q
        · apply t_K
          apply t_Q
          · apply t_B
            · exact rfl
            exact t_ic_ne_f (by omega)
          apply t_Qs
          apply t_B
          · refine x_aload_n rfl ?_
            refine x_giv tg_108 rfl (show _ = (o : Int) from tx_3) ?_
            exact rfl
          exact t_if_le_t (by omega)
        apply t_B
        · refine x_iconst ?_
          refine x_iload_n rfl ?_
          refine x_isub ?_
          exact rfl
        exact t_ireq (Or.inl rfl) rfl rfl
      · decide
  · rw [show plR (I 109) b p m o = (-1 - (p : Int), m, o) by unfold plR; rw [if_neg n1, if_neg c2, if_neg (fun z => c3 z.1)]]
    apply Exists.intro
    unfold tX9_passLink
    apply t_Q
    · apply t_S
      refine x_aload_n rfl ?_
      refine x_iload_n rfl ?_
      refine x_V2i tg_108 (Nat.le_of_ble_eq_true rfl) (hby) ?_
      refine x_istore_n rfl ?_
      refine x_iload_n rfl ?_
      refine x_bipush ?_
      exact rfl
    apply t_Qs
    apply t_Ks
    · apply t_Q
      · apply t_K
        apply t_Qs
        apply t_B
        · exact rfl
        exact t_ic_ne_t (by omega)
      apply t_Q
      · apply t_S
        refine x_iload_n rfl ?_
        refine x_bipush ?_
        exact rfl
      apply t_Q
      · apply t_K
        apply t_Qs
        apply t_Ks
        · apply t_Q
          · apply t_B
            · exact rfl
            exact t_ic_eq_f (by omega)
          apply t_Q
          · apply t_B
            · refine x_iload_n rfl ?_
              refine x_bipush ?_
              exact rfl
            exact t_ic_eq_f (by omega)
          apply t_B
          · refine x_iload_n rfl ?_
            refine x_bipush ?_
            exact rfl
          exact t_ic_ne_t (by omega)
        · decide
      apply t_Q
      · apply t_S
        refine x_iload_n rfl ?_
        refine x_bipush ?_
        exact rfl
      apply t_Q
      · apply t_K
        apply t_Qs
        apply t_B
        · exact rfl
        exact t_ic_ne_t (by omega)
      apply t_B
      · refine x_iconst ?_
        refine x_iload_n rfl ?_
        refine x_isub ?_
        exact rfl
      exact t_ireq (Or.inl rfl) rfl rfl
    · decide
set_option maxRecDepth 10000 in
theorem s9_pass {d L : Nat} {I : Nat → Nat → Int} {R : Nat → Nat → Option Nat} {u : Int64} (hF : FixR R) {b : Nat} (hx : Txc I b) {p m o : Nat} (hp : p ≤ 200) (ho : o ≤ 8) (hm : m ≤ 4) : am_run am_tb (d + 5) 80 [vR 108, vI p] (LH L (tx I m o) R u) = some ([vI (psR (I 109) b p m o).1], LH L (tx I (psR (I 109) b p m o).2.1 (psR (I 109) b p m o).2.2) R u) := by
  refine run_of tb_X9_pass (Nat.le_of_ble_eq_true rfl) ?_
  show ∃ ls', am_ev (am_run am_tb (d + 4)) tX9_pass ([vR 108, vI p], [], (LH L (tx I m o) R u)) = some (1, ls', [vI (psR (I 109) b p m o).1], LH L (tx I (psR (I 109) b p m o).2.1 (psR (I 109) b p m o).2.2) R u)
  have hbt := bt_b hx p
  have hby := s9_byteAt (d := d + 3) (L := L) (u := u) hF (tx_C (m := m) (o := o) hx) (p := p) (by omega)
  rw [tx_o (by decide)] at hby
  have hpo := s9_passOperand (d := d) (L := L) (u := u) (m := m) hF hx hp ho
  have hpe := s9_passExponent (d := d) (L := L) (u := u) (m := m) hF hx hp ho
  have hpl := s9_passLink (d := d + 2) (L := L) (u := u) (m := m) hF hx hp ho hm
  by_cases c0 : m = 0
  · subst c0
    by_cases c1 : bt (I 109) b p = 45
    · rw [show psR (I 109) b p 0 o = ((p : Int) + 1, 1, o) by unfold psR; rw [if_pos rfl, if_pos c1]]
      apply Exists.intro
      unfold tX9_pass
      apply t_Q
      · apply t_S
        refine x_aload_n rfl ?_
        refine x_giv tg_108 rfl tx_2 ?_
        exact rfl
      apply t_Qs
      apply t_Ks
      · apply t_Qs
        apply t_Ks
        · apply t_Qs
          apply t_Ks
          · apply t_Q
            · apply t_K
              apply t_B
              · exact rfl
              exact t_swi (by omega) rfl
            apply t_Q
            · apply t_S
              refine x_aload_n rfl ?_
              refine x_iload_n rfl ?_
              refine x_V2i tg_108 (Nat.le_of_ble_eq_true rfl) (hby) ?_
              refine x_bipush ?_
              exact rfl
            apply t_Qs
            apply t_Ks
            · apply t_Q
              · apply t_B
                · exact rfl
                exact t_ic_ne_f (by omega)
              apply t_B
              · refine x_aload_n rfl ?_
                refine x_iconst ?_
                refine x_pi tg_108 rfl rfl ?_
                rw [tx_w2 (m' := 1) (v := 1) rfl]
                refine x_iload_n rfl ?_
                refine x_iconst ?_
                refine x_iadd ?_
                exact rfl
              exact t_ireq (Or.inl rfl) rfl rfl
            · decide
          · decide
        · decide
      · decide
    · rw [show psR (I 109) b p 0 o = poR (I 109) b p 0 o by unfold psR; rw [if_pos rfl, if_neg c1]]
      apply Exists.intro
      unfold tX9_pass
      apply t_Q
      · apply t_S
        refine x_aload_n rfl ?_
        refine x_giv tg_108 rfl tx_2 ?_
        exact rfl
      apply t_Qs
      apply t_Ks
      · apply t_Qs
        apply t_Ks
        · apply t_Qs
          apply t_Ks
          · apply t_Q
            · apply t_K
              apply t_B
              · exact rfl
              exact t_swi (by omega) rfl
            apply t_Q
            · apply t_S
              refine x_aload_n rfl ?_
              refine x_iload_n rfl ?_
              refine x_V2i tg_108 (Nat.le_of_ble_eq_true rfl) (hby) ?_
              refine x_bipush ?_
              exact rfl
            apply t_Q
            · apply t_K
              apply t_Qs
              apply t_B
              · exact rfl
              exact t_ic_ne_t (by omega)
            apply t_B
            · refine x_aload_n rfl ?_
              refine x_iload_n rfl ?_
              refine x_V2i tg_108 (Nat.le_of_ble_eq_true rfl) (hpo) ?_
              exact rfl
            exact t_ireq (Or.inl rfl) rfl rfl
          · decide
        · decide
      · decide
  by_cases c1 : m = 1
  · subst c1
    rw [show psR (I 109) b p 1 o = poR (I 109) b p 1 o from rfl]
    apply Exists.intro
    unfold tX9_pass
    apply t_Q
    · apply t_S
      refine x_aload_n rfl ?_
      refine x_giv tg_108 rfl tx_2 ?_
      exact rfl
    apply t_Qs
    apply t_Ks
    · apply t_Qs
      apply t_Ks
      · apply t_Q
        · apply t_K
          apply t_Qs
          apply t_Ks
          · apply t_B
            · exact rfl
            exact t_swi (by omega) rfl
          · decide
        apply t_B
        · refine x_aload_n rfl ?_
          refine x_iload_n rfl ?_
          refine x_V2i tg_108 (Nat.le_of_ble_eq_true rfl) (hpo) ?_
          exact rfl
        exact t_ireq (Or.inl rfl) rfl rfl
      · decide
    · decide
  by_cases c3 : m = 3
  · subst c3
    rw [show psR (I 109) b p 3 o = peR (I 109) b p 3 o from rfl]
    apply Exists.intro
    unfold tX9_pass
    apply t_Q
    · apply t_S
      refine x_aload_n rfl ?_
      refine x_giv tg_108 rfl tx_2 ?_
      exact rfl
    apply t_Qs
    apply t_Ks
    · apply t_Q
      · apply t_K
        apply t_Qs
        apply t_Ks
        · apply t_Qs
          apply t_Ks
          · apply t_B
            · exact rfl
            exact t_swi (by omega) rfl
          · decide
        · decide
      apply t_B
      · refine x_aload_n rfl ?_
        refine x_iload_n rfl ?_
        refine x_V2i tg_108 (Nat.le_of_ble_eq_true rfl) (hpe) ?_
        exact rfl
      exact t_ireq (Or.inl rfl) rfl rfl
    · decide
  rw [show psR (I 109) b p m o = plR (I 109) b p m o by unfold psR; rw [if_neg c0, if_neg c1, if_neg c3]]
  by_cases c2 : m = 2
  · subst c2
    apply Exists.intro
    unfold tX9_pass
    apply t_Q
    · apply t_S
      refine x_aload_n rfl ?_
      refine x_giv tg_108 rfl tx_2 ?_
      exact rfl
    apply t_Q
    · apply t_K
      apply t_Qs
      apply t_Ks
      · apply t_Qs
        apply t_Ks
        · apply t_Qs
          apply t_Ks
          · apply t_B
            · exact rfl
            exact t_swi (by omega) rfl
          · decide
        · decide
      · decide
    apply t_B
    · refine x_aload_n rfl ?_
      refine x_iload_n rfl ?_
      refine x_V2i tg_108 (Nat.le_of_ble_eq_true rfl) (hpl) ?_
      exact rfl
    exact t_ireq (Or.inl rfl) rfl rfl
  · skip
    apply Exists.intro
    unfold tX9_pass
    apply t_Q
    · apply t_S
      refine x_aload_n rfl ?_
      refine x_giv tg_108 rfl tx_2 ?_
      exact rfl
    apply t_Q
    · apply t_K
      apply t_Qs
      apply t_Ks
      · apply t_Qs
        apply t_Ks
        · apply t_Qs
          apply t_Ks
          · apply t_B
            · exact rfl
            exact t_swo (by omega)
          · decide
        · decide
      · decide
    apply t_B
    · refine x_aload_n rfl ?_
      refine x_iload_n rfl ?_
      refine x_V2i tg_108 (Nat.le_of_ble_eq_true rfl) (hpl) ?_
      exact rfl
    exact t_ireq (Or.inl rfl) rfl rfl
