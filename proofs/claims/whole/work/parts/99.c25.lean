/-! The class: the fault of a text. Written by wip/whole/gen_99.py. -/
def stp (T : Nat → Int) (b p m o : Nat) : Int × Nat × Nat := if bt T b p = 32 then ((p : Int) + 1, m, o) else psR T b p m o
/-- the fault, -1: there is none -/
def flG (T : Nat → Int) (b : Nat) : Nat → Nat → Nat → Nat → Int
  | 0, _, _, _ => -2
  | n + 1, p, m, o => if p < b then (if (stp T b p m o).1 < 0 then -1 - (stp T b p m o).1 else flG T b n (stp T b p m o).1.toNat (stp T b p m o).2.1 (stp T b p m o).2.2) else (if (m = 2 ∨ m = 4) ∧ o = 0 then (-1 : Int) else ((b : Nat) : Int))
theorem cdg_b {T : Nat → Int} {b n p : Nat} (h : p < b) : p + cdg T b n p ≤ b := by
  refine Nat.not_lt.mp fun q => ?_
  have c := cdg_no (T := T) (b := b) (n := n) (p := p) (k := b - p) (by omega)
  have := bt_t (T := T) (b := b) (p := p + (b - p)) (by omega)
  omega
theorem stp_ok {T : Nat → Int} {b p m o : Nat} (hb : b ≤ 120) (hp : p < b) (hm : m ≤ 4) (ho : o ≤ 8) : (0 ≤ (stp T b p m o).1 → (p : Int) < (stp T b p m o).1 ∧ (stp T b p m o).1 ≤ (b : Nat)) ∧ -200 ≤ (stp T b p m o).1 ∧ (stp T b p m o).2.1 ≤ 4 ∧ (stp T b p m o).2.2 ≤ 8 := by
  have d5 := cdg_b (T := T) (n := 5) hp
  have d3 := cdg_b (T := T) (n := 3) hp
  have l5 := cdg_le T b 5 p
  have l3 := cdg_le T b 3 p
  have hpo : ∀ m, m ≤ 4 → (0 ≤ (poR T b p m o).1 → (p : Int) < (poR T b p m o).1 ∧ (poR T b p m o).1 ≤ (b : Nat)) ∧ -200 ≤ (poR T b p m o).1 ∧ (poR T b p m o).2.1 ≤ 4 ∧ (poR T b p m o).2.2 ≤ 8 := fun m hm => by
    unfold poR
    split
    · split
      · exact ⟨fun h => by have h : 0 ≤ -1 - (p : Int) := h; omega, by show -200 ≤ -1 - (p : Int); omega, hm, ho⟩
      · exact ⟨fun h => by show (p : Int) < (p : Int) + 1 ∧ (p : Int) + 1 ≤ (b : Nat); omega, by show -200 ≤ (p : Int) + 1; omega, by show 0 ≤ 4; omega, by show o + 1 ≤ 8; omega⟩
    · split
      · exact ⟨fun h => by show (p : Int) < (p : Int) + 1 ∧ (p : Int) + 1 ≤ (b : Nat); omega, by show -200 ≤ (p : Int) + 1; omega, by show 2 ≤ 4; omega, ho⟩
      · split
        · exact ⟨fun h => by have h : 0 ≤ -1 - (p : Int) := h; omega, by show -200 ≤ -1 - (p : Int); omega, hm, ho⟩
        · split
          · exact ⟨fun h => by have h : 0 ≤ -1 - ((p : Int) + 4) := h; omega, by show -200 ≤ -1 - ((p : Int) + 4); omega, hm, ho⟩
          · exact ⟨fun h => by show (p : Int) < (p : Int) + (cdg T b 5 p : Nat) ∧ (p : Int) + (cdg T b 5 p : Nat) ≤ (b : Nat); omega, by show -200 ≤ (p : Int) + (cdg T b 5 p : Nat); omega, by show 2 ≤ 4; omega, ho⟩
  have hpe : (0 ≤ (peR T b p m o).1 → (p : Int) < (peR T b p m o).1 ∧ (peR T b p m o).1 ≤ (b : Nat)) ∧ -200 ≤ (peR T b p m o).1 ∧ (peR T b p m o).2.1 ≤ 4 ∧ (peR T b p m o).2.2 ≤ 8 := by
    unfold peR
    split
    · exact ⟨fun h => by have h : 0 ≤ -1 - (p : Int) := h; omega, by show -200 ≤ -1 - (p : Int); omega, hm, ho⟩
    · split
      · exact ⟨fun h => by have h : 0 ≤ -1 - ((p : Int) + 2) := h; omega, by show -200 ≤ -1 - ((p : Int) + 2); omega, hm, ho⟩
      · split
        · exact ⟨fun h => by have h : 0 ≤ -1 - (p : Int) := h; omega, by show -200 ≤ -1 - (p : Int); omega, hm, ho⟩
        · exact ⟨fun h => by show (p : Int) < (p : Int) + (cdg T b 3 p : Nat) ∧ (p : Int) + (cdg T b 3 p : Nat) ≤ (b : Nat); omega, by show -200 ≤ (p : Int) + (cdg T b 3 p : Nat); omega, by show 4 ≤ 4; omega, ho⟩
  have hpl : (0 ≤ (plR T b p m o).1 → (p : Int) < (plR T b p m o).1 ∧ (plR T b p m o).1 ≤ (b : Nat)) ∧ -200 ≤ (plR T b p m o).1 ∧ (plR T b p m o).2.1 ≤ 4 ∧ (plR T b p m o).2.2 ≤ 8 := by
    have one : (p : Int) < (p : Int) + 1 ∧ (p : Int) + 1 ≤ (b : Nat) := by omega
    unfold plR
    split
    · exact ⟨fun h => one, by show -200 ≤ (p : Int) + 1; omega, by show 3 ≤ 4; omega, ho⟩
    · split
      · exact ⟨fun h => one, by show -200 ≤ (p : Int) + 1; omega, by show 1 ≤ 4; omega, ho⟩
      · split
        · exact ⟨fun h => one, by show -200 ≤ (p : Int) + 1; omega, by show 2 ≤ 4; omega, by show o - 1 ≤ 8; omega⟩
        · exact ⟨fun h => by have h : 0 ≤ -1 - (p : Int) := h; omega, by show -200 ≤ -1 - (p : Int); omega, hm, ho⟩
  unfold stp
  split
  · exact ⟨fun h => by show (p : Int) < (p : Int) + 1 ∧ (p : Int) + 1 ≤ (b : Nat); omega, by show -200 ≤ (p : Int) + 1; omega, hm, ho⟩
  · unfold psR
    split
    · split
      · exact ⟨fun h => by show (p : Int) < (p : Int) + 1 ∧ (p : Int) + 1 ≤ (b : Nat); omega, by show -200 ≤ (p : Int) + 1; omega, by show 1 ≤ 4; omega, ho⟩
      · exact hpo m hm
    · split
      · exact hpo m hm
      · split
        · exact hpe
        · exact hpl
theorem tx_00 {I : Nat → Nat → Int} : au (au I 108 (au (I 108) 2 0)) 108 (au (au I 108 (au (I 108) 2 0) 108) 3 0) = tx I 0 0 := by
  unfold tx
  rw [au_au, au_s]
  rfl
set_option maxRecDepth 10000 in
theorem lp9_fault {d L : Nat} {I : Nat → Nat → Int} {R : Nat → Nat → Option Nat} {u : Int64} (hF : FixR R) {b : Nat} (hx : Txc I b) : ∃ r, am_lp (am_ev (am_run am_tb (d + 5)) wX9_fault_14) 14 am_F ([vR 108, vI 0, vI 0, vU], [], LH L (tx I 0 0) R u) = some r ∧ ((∃ ls m o, r = (1, ls, [vI (flG (I 109) b (b + 1) 0 0 0)], LH L (tx I m o) R u) ∧ m ≤ 4 ∧ o ≤ 8) ∨ ∃ (p k : Nat) (l3 : am_V) (m o : Nat), r = (68, [vR 108, vI (p : Nat), vI (k : Nat), l3], [], LH L (tx I m o) R u) ∧ m ≤ 4 ∧ o ≤ 8 ∧ flG (I 109) b (b + 1) 0 0 0 = if (m = 2 ∨ m = 4) ∧ o = 0 then (-1 : Int) else ((b : Nat) : Int)) := by
  have hb := hx.2.1
  refine lp_meas (fun N y => ∃ (p k m o n : Nat) (l3 : am_V), N = b - p ∧ p ≤ b ∧ k ≤ p ∧ m ≤ 4 ∧ o ≤ 8 ∧ y = ([vR 108, vI (p : Nat), vI (k : Nat), l3], [], LH L (tx I m o) R u) ∧ b - p < n ∧ flG (I 109) b n p m o = flG (I 109) b (b + 1) 0 0 0) _ (fun N y hy => ?_) am_F b _ (ltF (by omega)) ⟨0, 0, 0, 0, b + 1, vU, rfl, by omega, by omega, by omega, by omega, rfl, by omega, rfl⟩
  obtain ⟨p, k, m, o, n, l3, eN, hp, hk, hm, ho, ey, hn, hfl⟩ := hy
  subst ey
  generalize flG (I 109) b (b + 1) 0 0 0 = r at *
  obtain ⟨n', rfl⟩ : ∃ n', n = n' + 1 := ⟨n - 1, by omega⟩
  by_cases cp : p < b
  · have hst := stp_ok (T := I 109) hb cp hm ho
    have hfl2 : (if (stp (I 109) b p m o).1 < 0 then -1 - (stp (I 109) b p m o).1 else flG (I 109) b n' (stp (I 109) b p m o).1.toNat (stp (I 109) b p m o).2.1 (stp (I 109) b p m o).2.2) = r := by
      rw [← hfl]
      show _ = if p < b then _ else _
      rw [if_pos cp]
    have hbt := bt_b hx p
    have hby := s9_byteAt (d := d + 4) (L := L) (u := u) hF (tx_C (m := m) (o := o) hx) (p := p) (by omega)
    rw [tx_o (by decide)] at hby
    by_cases c32 : bt (I 109) b p = 32
    · have es : stp (I 109) b p m o = ((p : Int) + 1, m, o) := if_pos c32
      rw [es] at hfl2
      refine ⟨(14 + 2, [vR 108, vI ((p : Int) + 1), vI ((k + 1 : Nat) : Int), vI ((p : Int) + 1)], [], LH L (tx I m o) R u), ?_, Or.inl ⟨rfl, b - (p + 1), by omega, p + 1, k + 1, m, o, n', _, rfl, by omega, by omega, hm, ho, rfl, by omega, ?_⟩⟩
      · unfold wX9_fault_14
        apply t_Q
        · apply t_B
          · refine x_iload_n rfl ?_
            refine x_bipush ?_
            exact rfl
          exact t_ic_ge_f (by omega)
        apply t_Q
        · apply t_B
          · refine x_iload_n rfl ?_
            refine x_aload_n rfl ?_
            refine x_giv tg_108 rfl (show _ = (b : Int) from tx_1.trans hx.1) ?_
            exact rfl
          exact t_ic_ge_f (by omega)
        apply t_Q
        · apply t_S
          refine x_aload_n rfl ?_
          refine x_iload_n rfl ?_
          refine x_V2i tg_108 (Nat.le_of_ble_eq_true rfl) (hby) ?_
          refine x_bipush ?_
          exact rfl
        apply t_Q
        · apply t_K
          apply t_Qs
          apply t_Ks
          · apply t_Q
            · apply t_B
              · exact rfl
              exact t_ic_ne_f (by omega)
            apply t_B
            · refine x_iload_n rfl ?_
              refine x_iconst ?_
              refine x_iadd ?_
              exact rfl
            exact t_goto
          · decide
        apply t_Q
        · apply t_S
          refine x_istore_n rfl ?_
          refine x_iload_n rfl ?_
          exact rfl
        apply t_Q
        · apply t_K
          apply t_Qs
          apply t_B
          · exact rfl
          exact t_if_ge_t (by omega)
        apply t_B
        · refine x_iload_n rfl ?_
          refine x_istore_n rfl ?_
          refine x_iinc rfl rfl ?_
          exact rfl
        exact t_goeq rfl
      · rw [if_neg (show ¬ ((p : Int) + 1 < 0) by omega)] at hfl2
        exact hfl2
    · have es : stp (I 109) b p m o = psR (I 109) b p m o := if_neg c32
      rw [es] at hfl2 hst
      have hps := s9_pass (d := d) (L := L) (u := u) hF hx (p := p) (m := m) (o := o) (by omega) ho hm
      generalize psR (I 109) b p m o = z at *
      by_cases cn : z.1 < 0
      · rw [if_pos cn] at hfl2
        refine ⟨(1, [vR 108, vI (p : Nat), vI (k : Nat), vI z.1], [vI r], LH L (tx I z.2.1 z.2.2) R u), ?_, Or.inr ⟨by show ¬ 1 = 14 + 2; decide, Or.inl ⟨_, _, _, rfl, hst.2.2.1, hst.2.2.2⟩⟩⟩
        unfold wX9_fault_14
        apply t_Q
        · apply t_B
          · refine x_iload_n rfl ?_
            refine x_bipush ?_
            exact rfl
          exact t_ic_ge_f (by omega)
        apply t_Q
        · apply t_B
          · refine x_iload_n rfl ?_
            refine x_aload_n rfl ?_
            refine x_giv tg_108 rfl (show _ = (b : Int) from tx_1.trans hx.1) ?_
            exact rfl
          exact t_ic_ge_f (by omega)
        apply t_Q
        · apply t_S
          refine x_aload_n rfl ?_
          refine x_iload_n rfl ?_
          refine x_V2i tg_108 (Nat.le_of_ble_eq_true rfl) (hby) ?_
          refine x_bipush ?_
          exact rfl
        apply t_Q
        · apply t_Ks
          · apply t_Q
            · apply t_K
              apply t_Qs
              apply t_B
              · exact rfl
              exact t_ic_ne_t (by omega)
            apply t_S
            refine x_aload_n rfl ?_
            refine x_iload_n rfl ?_
            refine x_V2i tg_108 (Nat.le_of_ble_eq_true rfl) (hps) ?_
            exact rfl
          · decide
        apply t_Q
        · apply t_S
          refine x_istore_n rfl ?_
          refine x_iload_n rfl ?_
          exact rfl
        apply t_Qs
        apply t_Ks
        · apply t_Q
          · apply t_B
            · exact rfl
            exact t_if_ge_f (by omega)
          apply t_B
          · refine x_iconst ?_
            refine x_iload_n rfl ?_
            refine x_isub ?_
            exact rfl
          exact t_ireq (Or.inl rfl) (by omega) rfl
        · decide
      · rw [if_neg cn] at hfl2
        have h1 := hst.1 (by omega)
        refine ⟨(14 + 2, [vR 108, vI z.1, vI ((k + 1 : Nat) : Int), vI z.1], [], LH L (tx I z.2.1 z.2.2) R u), ?_, Or.inl ⟨rfl, b - z.1.toNat, by omega, z.1.toNat, k + 1, z.2.1, z.2.2, n', _, rfl, by omega, by omega, hst.2.2.1, hst.2.2.2, s3 (by rw [Int.toNat_of_nonneg (by omega)]) rfl, by omega, hfl2⟩⟩
        unfold wX9_fault_14
        apply t_Q
        · apply t_B
          · refine x_iload_n rfl ?_
            refine x_bipush ?_
            exact rfl
          exact t_ic_ge_f (by omega)
        apply t_Q
        · apply t_B
          · refine x_iload_n rfl ?_
            refine x_aload_n rfl ?_
            refine x_giv tg_108 rfl (show _ = (b : Int) from tx_1.trans hx.1) ?_
            exact rfl
          exact t_ic_ge_f (by omega)
        apply t_Q
        · apply t_S
          refine x_aload_n rfl ?_
          refine x_iload_n rfl ?_
          refine x_V2i tg_108 (Nat.le_of_ble_eq_true rfl) (hby) ?_
          refine x_bipush ?_
          exact rfl
        apply t_Q
        · apply t_Ks
          · apply t_Q
            · apply t_K
              apply t_Qs
              apply t_B
              · exact rfl
              exact t_ic_ne_t (by omega)
            apply t_S
            refine x_aload_n rfl ?_
            refine x_iload_n rfl ?_
            refine x_V2i tg_108 (Nat.le_of_ble_eq_true rfl) (hps) ?_
            exact rfl
          · decide
        apply t_Q
        · apply t_S
          refine x_istore_n rfl ?_
          refine x_iload_n rfl ?_
          exact rfl
        apply t_Q
        · apply t_K
          apply t_Qs
          apply t_B
          · exact rfl
          exact t_if_ge_t (by omega)
        apply t_B
        · refine x_iload_n rfl ?_
          refine x_istore_n rfl ?_
          refine x_iinc rfl rfl ?_
          exact rfl
        exact t_goeq rfl
  · have hfl2 : r = if (m = 2 ∨ m = 4) ∧ o = 0 then (-1 : Int) else ((b : Nat) : Int) := by
      rw [← hfl]
      show (if p < b then _ else _) = _
      rw [if_neg cp]
    refine ⟨(68, [vR 108, vI (p : Nat), vI (k : Nat), l3], [], LH L (tx I m o) R u), ?_, Or.inr ⟨by show ¬ 68 = 14 + 2; decide, Or.inr ⟨p, k, l3, m, o, rfl, hm, ho, hfl2⟩⟩⟩
    by_cases ck : 120 ≤ k
    · unfold wX9_fault_14
      apply t_Qs
      apply t_B
      · refine x_iload_n rfl ?_
        refine x_bipush ?_
        exact rfl
      exact t_ic_ge_t (by omega)
    · unfold wX9_fault_14
      apply t_Q
      · apply t_B
        · refine x_iload_n rfl ?_
          refine x_bipush ?_
          exact rfl
        exact t_ic_ge_f (by omega)
      apply t_Qs
      apply t_B
      · refine x_iload_n rfl ?_
        refine x_aload_n rfl ?_
        refine x_giv tg_108 rfl (show _ = (b : Int) from tx_1.trans hx.1) ?_
        exact rfl
      exact t_ic_ge_t (by omega)
set_option maxRecDepth 10000 in
theorem s9_fault {d L : Nat} {I : Nat → Nat → Int} {R : Nat → Nat → Option Nat} {u : Int64} (hF : FixR R) {b : Nat} (hx : Txc I b) : ∃ m o, am_run am_tb (d + 6) 79 [vR 108] (LH L I R u) = some ([vI (flG (I 109) b (b + 1) 0 0 0)], LH L (tx I m o) R u) := by
  have hb := hx.2.1
  obtain ⟨r, hl, h⟩ := lp9_fault (d := d) (L := L) (u := u) hF hx
  generalize flG (I 109) b (b + 1) 0 0 0 = q at *
  rcases h with ⟨ls, m, o, er, hm, ho⟩ | ⟨p, k, l3, m, o, er, hm, ho, hq⟩
  · subst er
    refine ⟨m, o, ?_⟩
    refine run_of tb_X9_fault (Nat.le_of_ble_eq_true rfl) ?_
    show ∃ ls', am_ev (am_run am_tb (d + 5)) tX9_fault ([vR 108, vU, vU, vU], [], LH L I R u) = _
    apply Exists.intro
    unfold tX9_fault
    apply t_Q
    · apply t_S
      refine x_aload_n rfl ?_
      refine x_iconst ?_
      refine x_pi tg_108 rfl rfl ?_
      refine x_aload_n rfl ?_
      refine x_iconst ?_
      refine x_pi tg_108 rfl rfl ?_
      rw [tx_00]
      refine x_iconst ?_
      refine x_istore_n rfl ?_
      refine x_iconst ?_
      refine x_istore_n rfl ?_
      exact rfl
    apply t_Qs
    apply t_Ks
    · apply t_W
      exact hl
    · decide
  · subst er
    refine ⟨m, o, ?_⟩
    refine run_of tb_X9_fault (Nat.le_of_ble_eq_true rfl) ?_
    show ∃ ls', am_ev (am_run am_tb (d + 5)) tX9_fault ([vR 108, vU, vU, vU], [], LH L I R u) = _
    by_cases c0 : o = 0
    · by_cases c2 : m = 2
      · rw [if_pos ⟨Or.inl c2, c0⟩] at hq
        subst hq
        apply Exists.intro
        unfold tX9_fault
        apply t_Q
        · apply t_S
          refine x_aload_n rfl ?_
          refine x_iconst ?_
          refine x_pi tg_108 rfl rfl ?_
          refine x_aload_n rfl ?_
          refine x_iconst ?_
          refine x_pi tg_108 rfl rfl ?_
          rw [tx_00]
          refine x_iconst ?_
          refine x_istore_n rfl ?_
          refine x_iconst ?_
          refine x_istore_n rfl ?_
          exact rfl
        apply t_Q
        · apply t_K
          apply t_W
          exact hl
        apply t_Q
        · apply t_S
          refine x_aload_n rfl ?_
          refine x_giv tg_108 rfl tx_2 ?_
          refine x_iconst ?_
          exact rfl
        apply t_Q
        · apply t_K
          apply t_Qs
          apply t_Ks
          · apply t_Q
            · apply t_K
              apply t_Qs
              apply t_B
              · exact rfl
              exact t_ic_eq_t (by omega)
            apply t_Q
            · apply t_B
              · refine x_aload_n rfl ?_
                refine x_giv tg_108 rfl tx_3 ?_
                exact rfl
              exact t_if_ne_f (by omega)
            apply t_B
            · refine x_iconst ?_
              exact rfl
            exact t_goto
          · decide
        apply t_Q
        · apply t_S
          refine x_istore_n rfl ?_
          refine x_iload_n rfl ?_
          exact rfl
        apply t_Q
        · apply t_K
          apply t_Qs
          apply t_Ks
          · apply t_Q
            · apply t_B
              · exact rfl
              exact t_if_eq_f (by omega)
            apply t_B
            · refine x_iconst ?_
              exact rfl
            exact t_goto
          · decide
        apply t_B
        · exact rfl
        exact t_ireq (Or.inl rfl) rfl rfl
      · by_cases c4 : m = 4
        · rw [if_pos ⟨Or.inr c4, c0⟩] at hq
          subst hq
          apply Exists.intro
          unfold tX9_fault
          apply t_Q
          · apply t_S
            refine x_aload_n rfl ?_
            refine x_iconst ?_
            refine x_pi tg_108 rfl rfl ?_
            refine x_aload_n rfl ?_
            refine x_iconst ?_
            refine x_pi tg_108 rfl rfl ?_
            rw [tx_00]
            refine x_iconst ?_
            refine x_istore_n rfl ?_
            refine x_iconst ?_
            refine x_istore_n rfl ?_
            exact rfl
          apply t_Q
          · apply t_K
            apply t_W
            exact hl
          apply t_Q
          · apply t_S
            refine x_aload_n rfl ?_
            refine x_giv tg_108 rfl tx_2 ?_
            refine x_iconst ?_
            exact rfl
          apply t_Q
          · apply t_K
            apply t_Qs
            apply t_Ks
            · apply t_Q
              · apply t_Ks
                · apply t_Q
                  · apply t_B
                    · exact rfl
                    exact t_ic_eq_f (by omega)
                  apply t_B
                  · refine x_aload_n rfl ?_
                    refine x_giv tg_108 rfl tx_2 ?_
                    refine x_iconst ?_
                    exact rfl
                  exact t_ic_ne_f (by omega)
                · decide
              apply t_Q
              · apply t_B
                · refine x_aload_n rfl ?_
                  refine x_giv tg_108 rfl tx_3 ?_
                  exact rfl
                exact t_if_ne_f (by omega)
              apply t_B
              · refine x_iconst ?_
                exact rfl
              exact t_goto
            · decide
          apply t_Q
          · apply t_S
            refine x_istore_n rfl ?_
            refine x_iload_n rfl ?_
            exact rfl
          apply t_Q
          · apply t_K
            apply t_Qs
            apply t_Ks
            · apply t_Q
              · apply t_B
                · exact rfl
                exact t_if_eq_f (by omega)
              apply t_B
              · refine x_iconst ?_
                exact rfl
              exact t_goto
            · decide
          apply t_B
          · exact rfl
          exact t_ireq (Or.inl rfl) rfl rfl
        · rw [if_neg (by omega)] at hq
          subst hq
          apply Exists.intro
          unfold tX9_fault
          apply t_Q
          · apply t_S
            refine x_aload_n rfl ?_
            refine x_iconst ?_
            refine x_pi tg_108 rfl rfl ?_
            refine x_aload_n rfl ?_
            refine x_iconst ?_
            refine x_pi tg_108 rfl rfl ?_
            rw [tx_00]
            refine x_iconst ?_
            refine x_istore_n rfl ?_
            refine x_iconst ?_
            refine x_istore_n rfl ?_
            exact rfl
          apply t_Q
          · apply t_K
            apply t_W
            exact hl
          apply t_Q
          · apply t_S
            refine x_aload_n rfl ?_
            refine x_giv tg_108 rfl tx_2 ?_
            refine x_iconst ?_
            exact rfl
          apply t_Q
          · apply t_Ks
            · apply t_Q
              · apply t_K
                apply t_Qs
                apply t_Ks
                · apply t_Q
                  · apply t_B
                    · exact rfl
                    exact t_ic_eq_f (by omega)
                  apply t_B
                  · refine x_aload_n rfl ?_
                    refine x_giv tg_108 rfl tx_2 ?_
                    refine x_iconst ?_
                    exact rfl
                  exact t_ic_ne_t (by omega)
                · decide
              apply t_S
              refine x_iconst ?_
              exact rfl
            · decide
          apply t_Q
          · apply t_S
            refine x_istore_n rfl ?_
            refine x_iload_n rfl ?_
            exact rfl
          apply t_Q
          · apply t_Ks
            · apply t_Q
              · apply t_K
                apply t_Qs
                apply t_B
                · exact rfl
                exact t_if_eq_t (by omega)
              apply t_S
              refine x_aload_n rfl ?_
              refine x_giv tg_108 rfl (show _ = (b : Int) from tx_1.trans hx.1) ?_
              exact rfl
            · decide
          apply t_B
          · exact rfl
          exact t_ireq (Or.inl rfl) rfl rfl
    · rw [if_neg (fun z => c0 z.2)] at hq
      subst hq
      by_cases c2 : m = 2
      · apply Exists.intro
        unfold tX9_fault
        apply t_Q
        · apply t_S
          refine x_aload_n rfl ?_
          refine x_iconst ?_
          refine x_pi tg_108 rfl rfl ?_
          refine x_aload_n rfl ?_
          refine x_iconst ?_
          refine x_pi tg_108 rfl rfl ?_
          rw [tx_00]
          refine x_iconst ?_
          refine x_istore_n rfl ?_
          refine x_iconst ?_
          refine x_istore_n rfl ?_
          exact rfl
        apply t_Q
        · apply t_K
          apply t_W
          exact hl
        apply t_Q
        · apply t_S
          refine x_aload_n rfl ?_
          refine x_giv tg_108 rfl tx_2 ?_
          refine x_iconst ?_
          exact rfl
        apply t_Q
        · apply t_Ks
          · apply t_Q
            · apply t_K
              apply t_Q
              · apply t_K
                apply t_Qs
                apply t_B
                · exact rfl
                exact t_ic_eq_t (by omega)
              apply t_Qs
              apply t_B
              · refine x_aload_n rfl ?_
                refine x_giv tg_108 rfl tx_3 ?_
                exact rfl
              exact t_if_ne_t (by omega)
            apply t_S
            refine x_iconst ?_
            exact rfl
          · decide
        apply t_Q
        · apply t_S
          refine x_istore_n rfl ?_
          refine x_iload_n rfl ?_
          exact rfl
        apply t_Q
        · apply t_Ks
          · apply t_Q
            · apply t_K
              apply t_Qs
              apply t_B
              · exact rfl
              exact t_if_eq_t (by omega)
            apply t_S
            refine x_aload_n rfl ?_
            refine x_giv tg_108 rfl (show _ = (b : Int) from tx_1.trans hx.1) ?_
            exact rfl
          · decide
        apply t_B
        · exact rfl
        exact t_ireq (Or.inl rfl) rfl rfl
      by_cases c4 : m = 4
      · apply Exists.intro
        unfold tX9_fault
        apply t_Q
        · apply t_S
          refine x_aload_n rfl ?_
          refine x_iconst ?_
          refine x_pi tg_108 rfl rfl ?_
          refine x_aload_n rfl ?_
          refine x_iconst ?_
          refine x_pi tg_108 rfl rfl ?_
          rw [tx_00]
          refine x_iconst ?_
          refine x_istore_n rfl ?_
          refine x_iconst ?_
          refine x_istore_n rfl ?_
          exact rfl
        apply t_Q
        · apply t_K
          apply t_W
          exact hl
        apply t_Q
        · apply t_S
          refine x_aload_n rfl ?_
          refine x_giv tg_108 rfl tx_2 ?_
          refine x_iconst ?_
          exact rfl
        apply t_Q
        · apply t_Ks
          · apply t_Q
            · apply t_K
              apply t_Q
              · apply t_Ks
                · apply t_Q
                  · apply t_B
                    · exact rfl
                    exact t_ic_eq_f (by omega)
                  apply t_B
                  · refine x_aload_n rfl ?_
                    refine x_giv tg_108 rfl tx_2 ?_
                    refine x_iconst ?_
                    exact rfl
                  exact t_ic_ne_f (by omega)
                · decide
              apply t_Qs
              apply t_B
              · refine x_aload_n rfl ?_
                refine x_giv tg_108 rfl tx_3 ?_
                exact rfl
              exact t_if_ne_t (by omega)
            apply t_S
            refine x_iconst ?_
            exact rfl
          · decide
        apply t_Q
        · apply t_S
          refine x_istore_n rfl ?_
          refine x_iload_n rfl ?_
          exact rfl
        apply t_Q
        · apply t_Ks
          · apply t_Q
            · apply t_K
              apply t_Qs
              apply t_B
              · exact rfl
              exact t_if_eq_t (by omega)
            apply t_S
            refine x_aload_n rfl ?_
            refine x_giv tg_108 rfl (show _ = (b : Int) from tx_1.trans hx.1) ?_
            exact rfl
          · decide
        apply t_B
        · exact rfl
        exact t_ireq (Or.inl rfl) rfl rfl
      · apply Exists.intro
        unfold tX9_fault
        apply t_Q
        · apply t_S
          refine x_aload_n rfl ?_
          refine x_iconst ?_
          refine x_pi tg_108 rfl rfl ?_
          refine x_aload_n rfl ?_
          refine x_iconst ?_
          refine x_pi tg_108 rfl rfl ?_
          rw [tx_00]
          refine x_iconst ?_
          refine x_istore_n rfl ?_
          refine x_iconst ?_
          refine x_istore_n rfl ?_
          exact rfl
        apply t_Q
        · apply t_K
          apply t_W
          exact hl
        apply t_Q
        · apply t_S
          refine x_aload_n rfl ?_
          refine x_giv tg_108 rfl tx_2 ?_
          refine x_iconst ?_
          exact rfl
        apply t_Q
        · apply t_Ks
          · apply t_Q
            · apply t_K
              apply t_Qs
              apply t_Ks
              · apply t_Q
                · apply t_B
                  · exact rfl
                  exact t_ic_eq_f (by omega)
                apply t_B
                · refine x_aload_n rfl ?_
                  refine x_giv tg_108 rfl tx_2 ?_
                  refine x_iconst ?_
                  exact rfl
                exact t_ic_ne_t (by omega)
              · decide
            apply t_S
            refine x_iconst ?_
            exact rfl
          · decide
        apply t_Q
        · apply t_S
          refine x_istore_n rfl ?_
          refine x_iload_n rfl ?_
          exact rfl
        apply t_Q
        · apply t_Ks
          · apply t_Q
            · apply t_K
              apply t_Qs
              apply t_B
              · exact rfl
              exact t_if_eq_t (by omega)
            apply t_S
            refine x_aload_n rfl ?_
            refine x_giv tg_108 rfl (show _ = (b : Int) from tx_1.trans hx.1) ?_
            exact rfl
          · decide
        apply t_B
        · exact rfl
        exact t_ireq (Or.inl rfl) rfl rfl
