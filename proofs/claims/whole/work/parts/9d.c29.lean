/-! The class: readExpression, evaluate, reads. Written by wip/whole/gen_9d.py. -/
set_option maxRecDepth 10000 in
theorem s7_expr0 {d L : Nat} {R : Nat → Nat → Option Nat} {u : Int64} {T : Nat → Int} {b : Nat} {ev : Nat → rdO} (he : ∀ q, ev q = none) : RdE (d + 8) L u R T b 9 ev := by
  intro I p hp hx h9 hB ha
  rw [isS_n (he p)]
  refine ⟨I, ?_, Fre_r _ _, fun f q z => by rw [he p] at z; cases z⟩
  refine run_of tb_X7_readExpression (Nat.le_of_ble_eq_true rfl) ?_
  show ∃ ls', am_ev (am_run am_tb (d + 7)) tX7_readExpression ([vR 254, vI 9, vU, vU, vU], [], LH L I R u) = _
  apply Exists.intro
  unfold tX7_readExpression
  apply t_Q
  · apply t_S
    refine x_iload_n rfl ?_
    refine x_bipush ?_
    exact rfl
  apply t_Qs
  apply t_Ks
  · apply t_Q
    · apply t_B
      · exact rfl
      exact t_ic_le_f (by omega)
    apply t_B
    · refine x_iconst ?_
      exact rfl
    exact t_ireq (Or.inr (by first | exact Or.inl rfl | exact Or.inr rfl)) rfl rfl
  · decide
set_option maxRecDepth 10000 in
theorem s7_expr {d L : Nat} {R : Nat → Nat → Option Nat} {u : Int64} {T : Nat → Int} {b e : Nat} (hF : FixR R) (he : e ≤ 8) {ev ev2 : Nat → rdO} (hE : RdE (d + 8) L u R T b (e + 1) ev) (hE0 : e = 8 → ∀ q, ev q = none) (h2 : ∀ p, ev2 p = if bt T b (skb T b p) = 45 then exC T b ev 120 10006 (fun _ => 0) (skb T b p + 1) else exC T b ev 120 1 (fun _ => 0) (skb T b p)) : RdE (d + 11) L u R T b e ev2 := by
  intro I p hp hx h9 hB ha
  subst h9
  rw [h2 p]
  have hb := hx.2.1
  have hms := skb_max (T := I 109) (b := b) (p := p)
  have hbt := bt_b hx (skb (I 109) b p)
  have hz := s6_makeZero (d := d + 8) (L := L) (u := u) (I := I) (op_to hF (k := e) (by omega))
  have hF0 : Fre e I (stc I (262 + 4 * e) (fun _ => 0)) := Fre_s (Fre_r _ _) (by omega)
  have hZ6 : stc I (262 + 4 * e) (fun _ => 0) 254 6 = (p : Nat) := by rw [stc_o (by omega)]; exact ha
  have hZc : ∀ j, j < 91 → stc I (262 + 4 * e) (fun _ => 0) (262 + 4 * e) j = 0 := fun j hj => stc_s hj
  generalize stc I (262 + 4 * e) (fun _ => 0) = Z at *
  have hZ9 : Z 109 = I 109 := Fre_9 hF0
  have hpk := s7_peek (d := d + 8) (L := L) (u := u) hF (Fre_C hF0 hx) (p := p) (by omega) hZ6
  rw [hZ9] at hpk
  by_cases c : bt (I 109) b (skb (I 109) b p) = 45
  · rw [if_pos c]
    have hlt := (bt_t (T := I 109) (b := b) (p := skb (I 109) b p) (by omega)).1
    have hF1 : Fre e I (atI Z (skb (I 109) b p + 1)) := Fre_a hF0
    obtain ⟨r, hl, J, ls, h1, h3, h4⟩ := lp7_expr (d := d) (L := L) (u := u) (I := atI Z (skb (I 109) b p + 1)) hF (Fre_C hF1 hx) (Fre_B hF1 hB) (p := skb (I 109) b p + 1) he (by omega) atI_6 (ev := ev) (by rw [Fre_9 hF1]; exact hE) hE0 (sg0 := 10006) (Or.inr rfl) (fun j hj => by rw [atI_o (by omega)]; exact hZc j hj)
    rw [Fre_9 hF1] at h3 h4
    generalize exC (I 109) b ev 120 10006 (fun _ => 0) (skb (I 109) b p + 1) = o at *
    refine ⟨J, ?_, Fre_t hF1 h1, h3⟩
    refine run_of tb_X7_readExpression (Nat.le_of_ble_eq_true rfl) ?_
    show ∃ ls', am_ev (am_run am_tb (d + 10)) tX7_readExpression ([vR 254, vI (e : Nat), vU, vU, vU], [], LH L I R u) = _
    rcases h4 with er | ⟨er, e1⟩
    · subst er
      apply Exists.intro
      unfold tX7_readExpression
      apply t_Q
      · apply t_S
        refine x_iload_n rfl ?_
        refine x_bipush ?_
        exact rfl
      apply t_Q
      · apply t_K
        apply t_Qs
        apply t_B
        · exact rfl
        exact t_ic_le_t (by omega)
      apply t_Q
      · apply t_S
        refine x_aload_n rfl ?_
        refine x_gr tg_254 rfl (fx_254_2 hF) ?_
        refine x_iload_n rfl ?_
        refine x_aald (by rw [tg_255]; decide) (ln_255 L) (by omega) (fx_to hF (k := e) (by omega) : R 255 e = some (261 + 4 * e)) ?_
        refine x_V1v (op_to hF (k := e) (by omega)).1 (Nat.le_of_ble_eq_true rfl) (hz) ?_
        refine x_aload_n rfl ?_
        refine x_V1i tg_254 (Nat.le_of_ble_eq_true rfl) (hpk) ?_
        refine x_bipush ?_
        exact rfl
      apply t_Q
      · apply t_K
        apply t_Qs
        apply t_Ks
        · apply t_Q
          · apply t_B
            · exact rfl
            exact t_ic_ne_f (by omega)
          apply t_B
          · refine x_sipush ?_
            exact rfl
          exact t_goto
        · decide
      apply t_Q
      · apply t_S
        refine x_istore_n rfl ?_
        refine x_iload_n rfl ?_
        refine x_iconst ?_
        exact rfl
      apply t_Q
      · apply t_Ks
        · apply t_Q
          · apply t_B
            · exact rfl
            exact t_ic_eq_f (by omega)
          apply t_S
          refine x_aload_n rfl ?_
          refine x_dup rfl ?_
          refine x_giv tg_254 rfl (show _ = ((skb (I 109) b p : Nat) : Int) from atI_6) ?_
          refine x_iconst ?_
          refine x_iadd ?_
          refine x_pi tg_254 rfl rfl ?_
          rw [atI_w (q := skb (I 109) b p + 1) (by omega)]
          exact rfl
        · decide
      apply t_Q
      · apply t_S
        refine x_iconst ?_
        refine x_istore_n rfl ?_
        exact rfl
      apply t_Qs
      apply t_Ks
      · apply t_W
        exact hl
      · decide
    · subst er
      rw [e1]
      apply Exists.intro
      unfold tX7_readExpression
      apply t_Q
      · apply t_S
        refine x_iload_n rfl ?_
        refine x_bipush ?_
        exact rfl
      apply t_Q
      · apply t_K
        apply t_Qs
        apply t_B
        · exact rfl
        exact t_ic_le_t (by omega)
      apply t_Q
      · apply t_S
        refine x_aload_n rfl ?_
        refine x_gr tg_254 rfl (fx_254_2 hF) ?_
        refine x_iload_n rfl ?_
        refine x_aald (by rw [tg_255]; decide) (ln_255 L) (by omega) (fx_to hF (k := e) (by omega) : R 255 e = some (261 + 4 * e)) ?_
        refine x_V1v (op_to hF (k := e) (by omega)).1 (Nat.le_of_ble_eq_true rfl) (hz) ?_
        refine x_aload_n rfl ?_
        refine x_V1i tg_254 (Nat.le_of_ble_eq_true rfl) (hpk) ?_
        refine x_bipush ?_
        exact rfl
      apply t_Q
      · apply t_K
        apply t_Qs
        apply t_Ks
        · apply t_Q
          · apply t_B
            · exact rfl
            exact t_ic_ne_f (by omega)
          apply t_B
          · refine x_sipush ?_
            exact rfl
          exact t_goto
        · decide
      apply t_Q
      · apply t_S
        refine x_istore_n rfl ?_
        refine x_iload_n rfl ?_
        refine x_iconst ?_
        exact rfl
      apply t_Q
      · apply t_Ks
        · apply t_Q
          · apply t_B
            · exact rfl
            exact t_ic_eq_f (by omega)
          apply t_S
          refine x_aload_n rfl ?_
          refine x_dup rfl ?_
          refine x_giv tg_254 rfl (show _ = ((skb (I 109) b p : Nat) : Int) from atI_6) ?_
          refine x_iconst ?_
          refine x_iadd ?_
          refine x_pi tg_254 rfl rfl ?_
          rw [atI_w (q := skb (I 109) b p + 1) (by omega)]
          exact rfl
        · decide
      apply t_Q
      · apply t_S
        refine x_iconst ?_
        refine x_istore_n rfl ?_
        exact rfl
      apply t_Q
      · apply t_K
        apply t_W
        exact hl
      apply t_B
      · refine x_iconst ?_
        exact rfl
      exact t_ireq (Or.inr (by first | exact Or.inl rfl | exact Or.inr rfl)) rfl rfl
  · rw [if_neg c]
    have hF1 : Fre e I (atI Z (skb (I 109) b p)) := Fre_a hF0
    obtain ⟨r, hl, J, ls, h1, h3, h4⟩ := lp7_expr (d := d) (L := L) (u := u) (I := atI Z (skb (I 109) b p)) hF (Fre_C hF1 hx) (Fre_B hF1 hB) (p := skb (I 109) b p) he (by omega) atI_6 (ev := ev) (by rw [Fre_9 hF1]; exact hE) hE0 (sg0 := 1) (Or.inl rfl) (fun j hj => by rw [atI_o (by omega)]; exact hZc j hj)
    rw [Fre_9 hF1] at h3 h4
    generalize exC (I 109) b ev 120 1 (fun _ => 0) (skb (I 109) b p) = o at *
    refine ⟨J, ?_, Fre_t hF1 h1, h3⟩
    refine run_of tb_X7_readExpression (Nat.le_of_ble_eq_true rfl) ?_
    show ∃ ls', am_ev (am_run am_tb (d + 10)) tX7_readExpression ([vR 254, vI (e : Nat), vU, vU, vU], [], LH L I R u) = _
    rcases h4 with er | ⟨er, e1⟩
    · subst er
      apply Exists.intro
      unfold tX7_readExpression
      apply t_Q
      · apply t_S
        refine x_iload_n rfl ?_
        refine x_bipush ?_
        exact rfl
      apply t_Q
      · apply t_K
        apply t_Qs
        apply t_B
        · exact rfl
        exact t_ic_le_t (by omega)
      apply t_Q
      · apply t_S
        refine x_aload_n rfl ?_
        refine x_gr tg_254 rfl (fx_254_2 hF) ?_
        refine x_iload_n rfl ?_
        refine x_aald (by rw [tg_255]; decide) (ln_255 L) (by omega) (fx_to hF (k := e) (by omega) : R 255 e = some (261 + 4 * e)) ?_
        refine x_V1v (op_to hF (k := e) (by omega)).1 (Nat.le_of_ble_eq_true rfl) (hz) ?_
        refine x_aload_n rfl ?_
        refine x_V1i tg_254 (Nat.le_of_ble_eq_true rfl) (hpk) ?_
        refine x_bipush ?_
        exact rfl
      apply t_Q
      · apply t_Ks
        · apply t_Q
          · apply t_K
            apply t_Qs
            apply t_B
            · exact rfl
            exact t_ic_ne_t (by omega)
          apply t_S
          refine x_iconst ?_
          exact rfl
        · decide
      apply t_Q
      · apply t_S
        refine x_istore_n rfl ?_
        refine x_iload_n rfl ?_
        refine x_iconst ?_
        exact rfl
      apply t_Q
      · apply t_K
        apply t_Qs
        apply t_B
        · exact rfl
        exact t_ic_eq_t (by omega)
      apply t_Q
      · apply t_S
        refine x_iconst ?_
        refine x_istore_n rfl ?_
        exact rfl
      apply t_Qs
      apply t_Ks
      · apply t_W
        exact hl
      · decide
    · subst er
      rw [e1]
      apply Exists.intro
      unfold tX7_readExpression
      apply t_Q
      · apply t_S
        refine x_iload_n rfl ?_
        refine x_bipush ?_
        exact rfl
      apply t_Q
      · apply t_K
        apply t_Qs
        apply t_B
        · exact rfl
        exact t_ic_le_t (by omega)
      apply t_Q
      · apply t_S
        refine x_aload_n rfl ?_
        refine x_gr tg_254 rfl (fx_254_2 hF) ?_
        refine x_iload_n rfl ?_
        refine x_aald (by rw [tg_255]; decide) (ln_255 L) (by omega) (fx_to hF (k := e) (by omega) : R 255 e = some (261 + 4 * e)) ?_
        refine x_V1v (op_to hF (k := e) (by omega)).1 (Nat.le_of_ble_eq_true rfl) (hz) ?_
        refine x_aload_n rfl ?_
        refine x_V1i tg_254 (Nat.le_of_ble_eq_true rfl) (hpk) ?_
        refine x_bipush ?_
        exact rfl
      apply t_Q
      · apply t_Ks
        · apply t_Q
          · apply t_K
            apply t_Qs
            apply t_B
            · exact rfl
            exact t_ic_ne_t (by omega)
          apply t_S
          refine x_iconst ?_
          exact rfl
        · decide
      apply t_Q
      · apply t_S
        refine x_istore_n rfl ?_
        refine x_iload_n rfl ?_
        refine x_iconst ?_
        exact rfl
      apply t_Q
      · apply t_K
        apply t_Qs
        apply t_B
        · exact rfl
        exact t_ic_eq_t (by omega)
      apply t_Q
      · apply t_S
        refine x_iconst ?_
        refine x_istore_n rfl ?_
        exact rfl
      apply t_Q
      · apply t_K
        apply t_W
        exact hl
      apply t_B
      · refine x_iconst ?_
        exact rfl
      exact t_ireq (Or.inr (by first | exact Or.inl rfl | exact Or.inr rfl)) rfl rfl
theorem s7_all {L : Nat} {R : Nat → Nat → Option Nat} {u : Int64} {T : Nat → Int} {b : Nat} (hF : FixR R) (k : Nat) (hk : k ≤ 9) : ∀ d, RdE (d + 3 * k + 8) L u R T b (9 - k) (evE T b k) := by
  induction k with
  | zero => intro d; exact s7_expr0 (fun _ => rfl)
  | succ k ih =>
    intro d
    have h := ih (by omega) d
    have key := s7_expr (d := d + 3 * k) (L := L) (u := u) (T := T) (b := b) (e := 9 - (k + 1)) hF (by omega) (ev := evE T b k) (ev2 := evE T b (k + 1)) (by rw [show 9 - (k + 1) + 1 = 9 - k by omega]; exact h) (fun e q => by rw [show k = 0 by omega]; rfl) (fun _ => rfl)
    rw [show d + 3 * (k + 1) + 8 = d + 3 * k + 11 by omega]
    exact key
set_option maxRecDepth 10000 in
theorem s7_evaluate {d L : Nat} {I : Nat → Nat → Int} {R : Nat → Nat → Option Nat} {u : Int64} (hF : FixR R) {b : Nat} (hx : Txc I b) (hB : Tbc I) : ∃ J, am_run am_tb (d + 36) 67 [vR 254, vR 299] (LH L I R u) = some ([vI (if (evE (I 109) b 9 0).isSome then 1 else 0)], LH L J R u) ∧ (∀ a, ¬ (a = 158 ∨ (254 ≤ a ∧ a ≤ 296) ∨ a = 300) → J a = I a) ∧ ∀ t q, evE (I 109) b 9 0 = some (t, q) → Gv t ∧ ∀ j, j < 91 → J 300 j = t j := by
  have hrd := s7_all (L := L) (u := u) (T := I 109) (b := b) hF 9 (by omega) d (atI I 0) 0 (by omega) (atI_C hx) (atI_o (by decide)) (Tbc_o hB (fun a ha => atI_o (by unfold Nt at ha; omega))) atI_6
  obtain ⟨K, hex, hFK, hdK⟩ := hrd
  have hK : ∀ a, ¬ (a = 158 ∨ (254 ≤ a ∧ a ≤ 296) ∨ a = 300) → K a = I a := fun a ha => by rw [hFK a (by omega), atI_o (by omega)]
  cases hev : evE (I 109) b 9 0 with
  | none =>
    rw [isS_n hev] at hex
    refine ⟨K, ?_, hK, fun t q z => by cases z⟩
    refine run_of tb_X7_evaluate (Nat.le_of_ble_eq_true rfl) ?_
    show ∃ ls', am_ev (am_run am_tb (d + 35)) tX7_evaluate ([vR 254, vR 299], [], LH L I R u) = _
    apply Exists.intro
    unfold tX7_evaluate
    apply t_Q
    · apply t_S
      refine x_aload_n rfl ?_
      refine x_iconst ?_
      refine x_pi tg_254 rfl rfl ?_
      rw [atI_x (q := 0) (by omega)]
      refine x_aload_n rfl ?_
      refine x_iconst ?_
      refine x_V2i tg_254 (Nat.le_of_ble_eq_true rfl) (hex) ?_
      exact rfl
    apply t_Qs
    apply t_Ks
    · apply t_Q
      · apply t_B
        · exact rfl
        exact t_if_ne_f (by omega)
      apply t_B
      · refine x_iconst ?_
        exact rfl
      exact t_ireq (Or.inr (by first | exact Or.inl rfl | exact Or.inr rfl)) rfl rfl
    · decide
  | some x =>
    obtain ⟨t, q⟩ := x
    rw [isS_s hev] at hex
    obtain ⟨k1, k2, k3, k4⟩ := hdK t q hev
    have hcp := s6_copyFrom (d := d + 34) (L := L) (u := u) (I := K) (op_299 hF) (op_to hF (k := 0) (by omega))
    refine ⟨stc K 300 (K (262 + 4 * 0)), ?_, fun a ha => by rw [stc_o (by omega)]; exact hK a ha, fun t' q' z => ?_⟩
    · refine run_of tb_X7_evaluate (Nat.le_of_ble_eq_true rfl) ?_
      show ∃ ls', am_ev (am_run am_tb (d + 35)) tX7_evaluate ([vR 254, vR 299], [], LH L I R u) = _
      apply Exists.intro
      unfold tX7_evaluate
      apply t_Q
      · apply t_S
        refine x_aload_n rfl ?_
        refine x_iconst ?_
        refine x_pi tg_254 rfl rfl ?_
        rw [atI_x (q := 0) (by omega)]
        refine x_aload_n rfl ?_
        refine x_iconst ?_
        refine x_V2i tg_254 (Nat.le_of_ble_eq_true rfl) (hex) ?_
        exact rfl
      apply t_Q
      · apply t_K
        apply t_Qs
        apply t_B
        · exact rfl
        exact t_if_ne_t (by omega)
      apply t_B
      · refine x_aload_n rfl ?_
        refine x_aload_n rfl ?_
        refine x_gr tg_254 rfl (fx_254_2 hF) ?_
        refine x_iconst ?_
        refine x_aald (by rw [tg_255]; decide) (ln_255 L) (by omega) (fx_255_0 hF) ?_
        refine x_V2v tg_299 (Nat.le_of_ble_eq_true rfl) (hcp) ?_
        refine x_iconst ?_
        exact rfl
      exact t_ireq (Or.inr (by first | exact Or.inl rfl | exact Or.inr rfl)) rfl rfl
    · cases z
      exact ⟨k3, fun j hj => by rw [stc_s hj]; exact k4 j hj⟩
theorem Fc_tx {I : Nat → Nat → Int} {m o : Nat} : Fc I (tx I m o) := ⟨fun a _ h _ => tx_o h, tx_1, by rw [tx_o (by decide)]⟩
theorem Fc_rd {I J K : Nat → Nat → Int} (h : Fc I J) (hK : ∀ a, ¬ (a = 158 ∨ (254 ≤ a ∧ a ≤ 296) ∨ a = 300) → K a = J a) : Fc I K := Fc_t h (Fc_n (fun a ha => hK a (by unfold Sca at ha; omega)))
set_option maxRecDepth 10000 in
theorem s11_reads_no {d L : Nat} {I : Nat → Nat → Int} {R : Nat → Nat → Option Nat} {u : Int64} (hF : FixR R) (hB : Tbc I) {b : Nat} (hx : Txc I b) {s : Nat} (hs : s < 6) {q : Nat} (hq : flG (I 109) b (b + 1) 0 0 0 = (q : Nat)) (hq2 : q ≤ 200) : ∃ J, am_run am_tb (d + 38) 114 [vR 3, vI s] (LH L I R u) = some ([vI (-30000 - (q : Int))], LH L J R u) ∧ Fc I J := by
  obtain ⟨m, o, hfl⟩ := s9_fault (d := d + 31) (L := L) (u := u) hF hx
  rw [hq] at hfl
  refine ⟨tx I m o, ?_, Fc_tx⟩
  refine run_of tb_X11_reads (Nat.le_of_ble_eq_true rfl) ?_
  show ∃ ls', am_ev (am_run am_tb (d + 37)) tX11_reads ([vR 3, vI s, vU], [], LH L I R u) = _
  apply Exists.intro
  unfold tX11_reads
  apply t_Q
  · apply t_S
    refine x_iload_n rfl ?_
    refine x_S1i (by decide) (Nat.le_of_ble_eq_true rfl) (ret_t (show 0 ≤ (s : Int) ∧ (s : Int) < 6 by omega) (s11_isOperator (d := d + 36) (by omega))) ?_
    exact rfl
  apply t_Q
  · apply t_K
    apply t_Qs
    apply t_B
    · exact rfl
    exact t_if_ne_t (by omega)
  apply t_Q
  · apply t_S
    refine x_aload_n rfl ?_
    refine x_gr tg_3 rfl (fx_3_2 hF) ?_
    refine x_V1i tg_108 (Nat.le_of_ble_eq_true rfl) (hfl) ?_
    refine x_istore_n rfl ?_
    refine x_iload_n rfl ?_
    exact rfl
  apply t_Qs
  apply t_Ks
  · apply t_Q
    · apply t_B
      · exact rfl
      exact t_if_lt_f (by omega)
    apply t_B
    · refine x_sipush ?_
      refine x_iload_n rfl ?_
      refine x_isub ?_
      exact rfl
    exact t_ireq (Or.inl rfl) rfl rfl
  · decide
set_option maxRecDepth 10000 in
theorem s11_reads_full {d L : Nat} {I : Nat → Nat → Int} {R : Nat → Nat → Option Nat} {u : Int64} (hF : FixR R) (hB : Tbc I) {b : Nat} (hx : Txc I b) {s : Nat} (hs : s < 6) (hq : flG (I 109) b (b + 1) 0 0 0 = -1) (hev : evE (I 109) b 9 0 = none) : ∃ J, am_run am_tb (d + 38) 114 [vR 3, vI s] (LH L I R u) = some ([vI (-20004)], LH L (rc J 2) R u) ∧ Fc I J := by
  obtain ⟨m, o, hfl⟩ := s9_fault (d := d + 31) (L := L) (u := u) hF hx
  rw [hq] at hfl
  have h9 : tx I m o 109 = I 109 := tx_o (by decide)
  obtain ⟨J, hv, hJ, hr⟩ := s7_evaluate (d := d + 1) (L := L) (u := u) (I := tx I m o) hF (tx_C hx) (Tbc_o hB (fun a ha => tx_o (by unfold Nt at ha; omega)))
  rw [h9, isS_n hev] at hv
  refine ⟨J, ?_, Fc_rd Fc_tx hJ⟩
  refine run_of tb_X11_reads (Nat.le_of_ble_eq_true rfl) ?_
  show ∃ ls', am_ev (am_run am_tb (d + 37)) tX11_reads ([vR 3, vI s, vU], [], LH L I R u) = _
  apply Exists.intro
  unfold tX11_reads
  apply t_Q
  · apply t_S
    refine x_iload_n rfl ?_
    refine x_S1i (by decide) (Nat.le_of_ble_eq_true rfl) (ret_t (show 0 ≤ (s : Int) ∧ (s : Int) < 6 by omega) (s11_isOperator (d := d + 36) (by omega))) ?_
    exact rfl
  apply t_Q
  · apply t_K
    apply t_Qs
    apply t_B
    · exact rfl
    exact t_if_ne_t (by omega)
  apply t_Q
  · apply t_S
    refine x_aload_n rfl ?_
    refine x_gr tg_3 rfl (fx_3_2 hF) ?_
    refine x_V1i tg_108 (Nat.le_of_ble_eq_true rfl) (hfl) ?_
    refine x_istore_n rfl ?_
    refine x_iload_n rfl ?_
    exact rfl
  apply t_Q
  · apply t_K
    apply t_Qs
    apply t_B
    · exact rfl
    exact t_if_lt_t (by omega)
  apply t_Q
  · apply t_S
    refine x_aload_n rfl ?_
    refine x_gr tg_3 rfl (fx_3_7 hF) ?_
    refine x_aload_n rfl ?_
    refine x_gr tg_3 rfl (fx_3_9 hF) ?_
    refine x_V2i tg_254 (Nat.le_of_ble_eq_true rfl) (hv) ?_
    exact rfl
  apply t_Qs
  apply t_Ks
  · apply t_Q
    · apply t_B
      · exact rfl
      exact t_if_ne_f (by omega)
    apply t_B
    · refine x_aload_n rfl ?_
      refine x_V1i tg_3 (Nat.le_of_ble_eq_true rfl) (s11_full (d := d + 36) hF) ?_
      exact rfl
    exact t_ireq (Or.inl rfl) rfl rfl
  · decide
set_option maxRecDepth 10000 in
theorem s11_reads_ok {d L : Nat} {I : Nat → Nat → Int} {R : Nat → Nat → Option Nat} {u : Int64} (hF : FixR R) (hB : Tbc I) {b : Nat} (hx : Txc I b) {s : Nat} (hs : s < 6) {t n : Nat} (hH : Hi I t n) (hq : flG (I 109) b (b + 1) 0 0 0 = -1) {y : Nat → Int} {p : Nat} (hev : evE (I 109) b 9 0 = some (y, p)) : ∃ J, am_run am_tb (d + 38) 114 [vR 3, vI s] (LH L I R u) = some ([vI (cnt y 496 : Nat)], LH L J R u) ∧ Cw I J t n (sopS (snow I 4) s y) := by
  obtain ⟨m, o, hfl⟩ := s9_fault (d := d + 31) (L := L) (u := u) hF hx
  rw [hq] at hfl
  have h9 : tx I m o 109 = I 109 := tx_o (by decide)
  obtain ⟨K, hv, hK, hr⟩ := s7_evaluate (d := d + 1) (L := L) (u := u) (I := tx I m o) hF (tx_C hx) (Tbc_o hB (fun a ha => tx_o (by unfold Nt at ha; omega)))
  rw [h9] at hv hr
  rw [isS_s hev] at hv
  obtain ⟨hg, hc⟩ := hr y p hev
  obtain ⟨J, hrp, hC⟩ := s11_rep (d := d + 33) (L := L) (u := u) hF (Fc_rd Fc_tx hK) hH hs hg.1 hg.2 hc
  refine ⟨J, ?_, hC⟩
  refine run_of tb_X11_reads (Nat.le_of_ble_eq_true rfl) ?_
  show ∃ ls', am_ev (am_run am_tb (d + 37)) tX11_reads ([vR 3, vI s, vU], [], LH L I R u) = _
  apply Exists.intro
  unfold tX11_reads
  apply t_Q
  · apply t_S
    refine x_iload_n rfl ?_
    refine x_S1i (by decide) (Nat.le_of_ble_eq_true rfl) (ret_t (show 0 ≤ (s : Int) ∧ (s : Int) < 6 by omega) (s11_isOperator (d := d + 36) (by omega))) ?_
    exact rfl
  apply t_Q
  · apply t_K
    apply t_Qs
    apply t_B
    · exact rfl
    exact t_if_ne_t (by omega)
  apply t_Q
  · apply t_S
    refine x_aload_n rfl ?_
    refine x_gr tg_3 rfl (fx_3_2 hF) ?_
    refine x_V1i tg_108 (Nat.le_of_ble_eq_true rfl) (hfl) ?_
    refine x_istore_n rfl ?_
    refine x_iload_n rfl ?_
    exact rfl
  apply t_Q
  · apply t_K
    apply t_Qs
    apply t_B
    · exact rfl
    exact t_if_lt_t (by omega)
  apply t_Q
  · apply t_S
    refine x_aload_n rfl ?_
    refine x_gr tg_3 rfl (fx_3_7 hF) ?_
    refine x_aload_n rfl ?_
    refine x_gr tg_3 rfl (fx_3_9 hF) ?_
    refine x_V2i tg_254 (Nat.le_of_ble_eq_true rfl) (hv) ?_
    exact rfl
  apply t_Q
  · apply t_K
    apply t_Qs
    apply t_B
    · exact rfl
    exact t_if_ne_t (by omega)
  apply t_B
  · refine x_aload_n rfl ?_
    refine x_iload_n rfl ?_
    refine x_V2i tg_3 (Nat.le_of_ble_eq_true rfl) (hrp) ?_
    exact rfl
  exact t_ireq (Or.inl rfl) rfl rfl
