/-! The class: told, digest, type, clear, back. Written by wip/whole/gen_87.py. -/
def tofc (I : Nat → Nat → Int) (w : Int) : Int := if w < 3 then I 3 (10 + w.toNat) else if w = 3 then I 108 1 else if w = 4 then I 4 2 else I 21 2
set_option maxRecDepth 10000 in
theorem s11_told_ok {d L : Nat} {I : Nat → Nat → Int} {R : Nat → Nat → Option Nat} {u : Int64} (hF : FixR R) {w : Int} (hw : 0 ≤ w ∧ w ≤ 5) : am_run am_tb (d + 1) 117 [vR 3, vI w] (LH L I R u) = some ([vI (tofc I w)], LH L I R u) := by
  refine run_of tb_X11_told (Nat.le_of_ble_eq_true rfl) ?_
  show ∃ ls', am_ev (am_run am_tb (d + 0)) tX11_told ([vR 3, vI w], [], (LH L I R u)) = some (1, ls', [vI (tofc I w)], LH L I R u)
  rcases (show w = 0 ∨ w = 1 ∨ w = 2 ∨ w = 3 ∨ w = 4 ∨ w = 5 by omega) with rfl | rfl | rfl | rfl | rfl | rfl
  · apply Exists.intro
    unfold tX11_told
    apply t_Q
    · apply t_S
      refine x_iload_n rfl ?_
      exact rfl
    apply t_Qs
    apply t_Ks
    · apply t_Qs
      apply t_Ks
      · apply t_Qs
        apply t_Ks
        · apply t_Qs
          apply t_Ks
          · apply t_Qs
            apply t_Ks
            · apply t_Qs
              apply t_Ks
              · apply t_Q
                · apply t_K
                  apply t_B
                  · exact rfl
                  exact t_swi (by omega) rfl
                apply t_B
                · refine x_aload_n rfl ?_
                  refine x_gi tg_3 rfl ?_
                  exact rfl
                exact t_ireq (Or.inl rfl) rfl rfl
              · decide
            · decide
          · decide
        · decide
      · decide
    · decide
  · apply Exists.intro
    unfold tX11_told
    apply t_Q
    · apply t_S
      refine x_iload_n rfl ?_
      exact rfl
    apply t_Qs
    apply t_Ks
    · apply t_Qs
      apply t_Ks
      · apply t_Qs
        apply t_Ks
        · apply t_Qs
          apply t_Ks
          · apply t_Qs
            apply t_Ks
            · apply t_Q
              · apply t_K
                apply t_Qs
                apply t_Ks
                · apply t_B
                  · exact rfl
                  exact t_swi (by omega) rfl
                · decide
              apply t_B
              · refine x_aload_n rfl ?_
                refine x_gi tg_3 rfl ?_
                exact rfl
              exact t_ireq (Or.inl rfl) rfl rfl
            · decide
          · decide
        · decide
      · decide
    · decide
  · apply Exists.intro
    unfold tX11_told
    apply t_Q
    · apply t_S
      refine x_iload_n rfl ?_
      exact rfl
    apply t_Qs
    apply t_Ks
    · apply t_Qs
      apply t_Ks
      · apply t_Qs
        apply t_Ks
        · apply t_Qs
          apply t_Ks
          · apply t_Q
            · apply t_K
              apply t_Qs
              apply t_Ks
              · apply t_Qs
                apply t_Ks
                · apply t_B
                  · exact rfl
                  exact t_swi (by omega) rfl
                · decide
              · decide
            apply t_B
            · refine x_aload_n rfl ?_
              refine x_gi tg_3 rfl ?_
              exact rfl
            exact t_ireq (Or.inl rfl) rfl rfl
          · decide
        · decide
      · decide
    · decide
  · apply Exists.intro
    unfold tX11_told
    apply t_Q
    · apply t_S
      refine x_iload_n rfl ?_
      exact rfl
    apply t_Qs
    apply t_Ks
    · apply t_Qs
      apply t_Ks
      · apply t_Qs
        apply t_Ks
        · apply t_Q
          · apply t_K
            apply t_Qs
            apply t_Ks
            · apply t_Qs
              apply t_Ks
              · apply t_Qs
                apply t_Ks
                · apply t_B
                  · exact rfl
                  exact t_swi (by omega) rfl
                · decide
              · decide
            · decide
          apply t_B
          · refine x_aload_n rfl ?_
            refine x_gr tg_3 rfl (fx_3_2 hF) ?_
            refine x_gi tg_108 rfl ?_
            exact rfl
          exact t_ireq (Or.inl rfl) rfl rfl
        · decide
      · decide
    · decide
  · apply Exists.intro
    unfold tX11_told
    apply t_Q
    · apply t_S
      refine x_iload_n rfl ?_
      exact rfl
    apply t_Qs
    apply t_Ks
    · apply t_Qs
      apply t_Ks
      · apply t_Q
        · apply t_K
          apply t_Qs
          apply t_Ks
          · apply t_Qs
            apply t_Ks
            · apply t_Qs
              apply t_Ks
              · apply t_Qs
                apply t_Ks
                · apply t_B
                  · exact rfl
                  exact t_swi (by omega) rfl
                · decide
              · decide
            · decide
          · decide
        apply t_B
        · refine x_aload_n rfl ?_
          refine x_gr tg_3 rfl (fx_3_0 hF) ?_
          refine x_gi tg_4 rfl ?_
          exact rfl
        exact t_ireq (Or.inl rfl) rfl rfl
      · decide
    · decide
  · apply Exists.intro
    unfold tX11_told
    apply t_Q
    · apply t_S
      refine x_iload_n rfl ?_
      exact rfl
    apply t_Qs
    apply t_Ks
    · apply t_Q
      · apply t_K
        apply t_Qs
        apply t_Ks
        · apply t_Qs
          apply t_Ks
          · apply t_Qs
            apply t_Ks
            · apply t_Qs
              apply t_Ks
              · apply t_Qs
                apply t_Ks
                · apply t_B
                  · exact rfl
                  exact t_swi (by omega) rfl
                · decide
              · decide
            · decide
          · decide
        · decide
      apply t_B
      · refine x_aload_n rfl ?_
        refine x_gr tg_3 rfl (fx_3_1 hF) ?_
        refine x_gi tg_21 rfl ?_
        exact rfl
      exact t_ireq (Or.inl rfl) rfl rfl
    · decide
set_option maxRecDepth 10000 in
theorem lp11_mixed {d L : Nat} {I : Nat → Nat → Int} {R : Nat → Nat → Option Nat} {u : Int64} {c n : Nat} (hc : Arx c n) (hr : ∀ j, j < n → 0 ≤ I c j ∧ I c j < 10007) {v : Int64} : ∃ r, am_lp (am_ev (am_run am_tb (d + 1)) wX11_mixed_13) 13 am_F ([vL v, vU, vR c, vL (hsF (fun k => tl (I c k)) v 0), vU, vR c, vI n, vI 0, vU], [], LH L I R u) = some r ∧ ∃ l8, r = (48, [vL v, vU, vR c, vL (hsF (fun k => tl (I c k)) v n), vU, vR c, vI n, vI n, l8], [], LH L I R u) := by
  have hn := hc.2.2
  refine lp_inv (fun k y => ∃ l8, y = ([vL v, vU, vR c, vL (hsF (fun k => tl (I c k)) v k), vU, vR c, vI n, vI k, l8], [], LH L I R u)) _ n ⟨_, rfl⟩ (ltF (by omega)) (fun k y hk hp => ?_) (fun y hp => ?_)
  · obtain ⟨l8, e0⟩ := hp
    subst e0
    have h1 := hr k hk
    have h2 := tl_b h1
    refine inv_e1 (ls := fun l8 => [vL v, vU, vR c, vL (hsF (fun k => tl (I c k)) v (k + 1)), vU, vR c, vI n, vI ((k + 1 : Nat) : Int), l8]) (h := LH L I R u) ?_ (fun _ => ⟨_, rfl⟩)
    apply Exists.intro
    unfold wX11_mixed_13
    apply t_Q
    · apply t_B
      · refine x_iload rfl ?_
        refine x_iload rfl ?_
        exact rfl
      exact t_ic_ge_f (by omega)
    apply t_B
    · refine x_aload rfl ?_
      refine x_iload rfl ?_
      refine x_ialdv (Or.inl hc.1) (hc.2.1 L) (by omega) (show _ = I c k from congrArg (I c) (Int.toNat_natCast k)) ?_
      refine x_istore rfl ?_
      refine x_ldc2_w ?_
      refine x_lload_n rfl ?_
      refine x_lmul ?_
      refine x_iload rfl ?_
      refine x_S1i (by decide) (Nat.le_of_ble_eq_true rfl) (s1_balanced (d := d) (by omega)) ?_
      refine x_i2l (by omega) ?_
      refine x_ladd ?_
      refine x_lstore_n rfl ?_
      refine x_iinc rfl rfl ?_
      exact rfl
    exact t_goeq rfl
  · obtain ⟨l8, e0⟩ := hp
    subst e0
    refine ⟨(48, [vL v, vU, vR c, vL (hsF (fun k => tl (I c k)) v n), vU, vR c, vI n, vI n, l8], [], LH L I R u), ?_, by show ¬ 48 = 13 + 2; decide, ⟨l8, rfl⟩⟩
    unfold wX11_mixed_13
    apply t_Qs
    apply t_B
    · refine x_iload rfl ?_
      refine x_iload rfl ?_
      exact rfl
    exact t_ic_ge_t (by omega)
set_option maxRecDepth 10000 in
theorem s11_mixed {d L : Nat} {I : Nat → Nat → Int} {R : Nat → Nat → Option Nat} {u : Int64} {c n : Nat} (hc : Arx c n) (hr : ∀ j, j < n → 0 ≤ I c j ∧ I c j < 10007) {v : Int64} : am_run am_tb (d + 2) 119 [vL v, vR c] (LH L I R u) = some ([vL (hsF (fun k => tl (I c k)) v n)], LH L I R u) := by
  refine run_of tb_X11_mixed (Nat.le_of_ble_eq_true rfl) ?_
  show ∃ ls', am_ev (am_run am_tb (d + 1)) tX11_mixed ([vL v, vU, vR c, vU, vU, vU, vU, vU, vU], [], (LH L I R u)) = some (1, ls', [vL (hsF (fun k => tl (I c k)) v n)], LH L I R u)
  obtain ⟨r, hl, l8, er⟩ := lp11_mixed (d := d) (L := L) (u := u) (R := R) hc hr (v := v)
  subst er
  apply Exists.intro
  unfold tX11_mixed
  apply t_Q
  · apply t_S
    refine x_lload_n rfl ?_
    refine x_lstore_n rfl ?_
    refine x_aload_n rfl ?_
    refine x_astore rfl ?_
    refine x_aload rfl ?_
    refine x_alen (Or.inl hc.1) ?_
    rw [hc.2.1 L]
    refine x_istore rfl ?_
    refine x_iconst ?_
    refine x_istore rfl ?_
    exact rfl
  apply t_Q
  · apply t_K
    apply t_W
    exact hl
  apply t_B
  · refine x_lload_n rfl ?_
    exact rfl
  exact rfl
def dgC (I : Nat → Nat → Int) (v : Int64) : Nat → Int64
  | 0 => v
  | s + 1 => hsF (fun k => tl (I (10 + 2 * s) k)) (hsF (fun k => abt (I 4 2) (opc I s) k) (dgC I v s) 9) 91
def dgP (I : Nat → Nat → Int) (v : Int64) : Nat → Int64
  | 0 => v
  | s + 1 => hsF (fun k => tl (I (7 + s) k)) (dgP I v s) 31
def digc (I : Nat → Nat → Int) : Int64 := dgP I (dgC I (hsF (fun k => tofc I k) (Int64.ofNat 2339) 6) 6) 2
set_option maxRecDepth 10000 in
theorem lp11_dig1 {d L : Nat} {I : Nat → Nat → Int} {R : Nat → Nat → Option Nat} {u : Int64} (hF : FixR R) (hB : Tbc I) (hS : Sn I) (ht : ∀ k : Nat, k < 6 → inR (tofc I k)) : am_lp (am_ev (am_run am_tb (d + 1)) wX11_digest_6) 6 am_F ([vR 3, vL (hsF (fun k => tofc I k) (Int64.ofNat 2339) 0), vU, vI 0, vU, vU], [], LH L I R u) = some (32, [vR 3, vL (hsF (fun k => tofc I k) (Int64.ofNat 2339) 6), vU, vI 6, vU, vU], [], LH L I R u) := by
  refine lp_up0 (fun k => ([vR 3, vL (hsF (fun k => tofc I k) (Int64.ofNat 2339) k), vU, vI k, vU, vU], [], LH L I R u)) 6 rfl (ltF (by omega)) (by show ¬ 32 = 6 + 2; decide) (fun k hk => ?_) ?_
  · have h1 := ht k hk
    unfold wX11_digest_6
    apply t_Q
    · apply t_B
      · refine x_iload_n rfl ?_
        refine x_iconst ?_
        exact rfl
      exact t_ic_gt_f (by omega)
    apply t_B
    · refine x_ldc2_w ?_
      refine x_lload_n rfl ?_
      refine x_lmul ?_
      refine x_aload_n rfl ?_
      refine x_iload_n rfl ?_
      refine x_V2i tg_3 (Nat.le_of_ble_eq_true rfl) (s11_told_ok (d := d) hF (w := k) (by omega)) ?_
      refine x_i2l (by omega) ?_
      refine x_ladd ?_
      refine x_lstore_n rfl ?_
      refine x_iinc rfl rfl ?_
      exact rfl
    exact t_goeq rfl
  · unfold wX11_digest_6
    apply t_Qs
    apply t_B
    · refine x_iload_n rfl ?_
      refine x_iconst ?_
      exact rfl
    exact t_ic_gt_t (by omega)
set_option maxRecDepth 10000 in
theorem lp11_dig2 {d L : Nat} {I : Nat → Nat → Int} {R : Nat → Nat → Option Nat} {u : Int64} (hF : FixR R) (hB : Tbc I) (hS : Sn I) {s : Nat} (hs : s < 6) {v : Int64} : am_lp (am_ev (am_run am_tb (d + 4)) wX11_digest_52) 52 am_F ([vR 3, vL (hsF (fun k => abt (I 4 2) (opc I s) k) v 0), vU, vI s, vR (9 + 2 * s), vI 0], [], LH L I R u) = some (89, [vR 3, vL (hsF (fun k => abt (I 4 2) (opc I s) k) v 9), vU, vI s, vR (9 + 2 * s), vI 9], [], LH L I R u) := by
  refine lp_up0 (fun k => ([vR 3, vL (hsF (fun k => abt (I 4 2) (opc I s) k) v k), vU, vI s, vR (9 + 2 * s), vI k], [], LH L I R u)) 9 rfl (ltF (by omega)) (by show ¬ 89 = 52 + 2; decide) (fun k hk => ?_) ?_
  · have h1 := abt_b (o := I 4 2) (f := opc I s) (what := k) (fun j _ => opc_a hS hs j)
    have h0 := hS.2
    unfold wX11_digest_52
    apply t_Q
    · apply t_B
      · refine x_iload rfl ?_
        refine x_bipush ?_
        exact rfl
      exact t_ic_gt_f (by omega)
    apply t_B
    · refine x_ldc2_w ?_
      refine x_lload_n rfl ?_
      refine x_lmul ?_
      refine x_aload rfl ?_
      refine x_iload rfl ?_
      refine x_aload_n rfl ?_
      refine x_gr tg_3 rfl (fx_3_0 hF) ?_
      refine x_gi tg_4 rfl ?_
      refine x_V3i (op_st hF hs).1 (Nat.le_of_ble_eq_true rfl) (s6_property (d := d) hB.1 (op_st hF hs) (Sn_op hS hs) h0 (q := k) (by omega)) ?_
      refine x_i2l (show inR (abt (I 4 2) (opc I s) k) by omega) ?_
      refine x_ladd ?_
      refine x_lstore_n rfl ?_
      refine x_iinc rfl rfl ?_
      exact rfl
    exact t_goeq rfl
  · unfold wX11_digest_52
    apply t_Qs
    apply t_B
    · refine x_iload rfl ?_
      refine x_bipush ?_
      exact rfl
    exact t_ic_gt_t (by omega)
theorem op_Arx {R : Nat → Nat → Option Nat} (hF : FixR R) {s : Nat} (hs : s < 6) : Arx (10 + 2 * s) 91 := Opx_A (op_st hF hs)
set_option maxRecDepth 10000 in
theorem lp11_dig3 {d L : Nat} {I : Nat → Nat → Int} {R : Nat → Nat → Option Nat} {u : Int64} (hF : FixR R) (hB : Tbc I) (hS : Sn I) {v : Int64} : ∃ r, am_lp (am_ev (am_run am_tb (d + 4)) wX11_digest_32) 32 am_F ([vR 3, vL (dgC I v 0), vU, vI 0, vU, vU], [], LH L I R u) = some r ∧ ∃ l4 l5, r = (105, [vR 3, vL (dgC I v 6), vU, vI 6, l4, l5], [], LH L I R u) := by
  refine lp_inv (fun s y => ∃ l4 l5, y = ([vR 3, vL (dgC I v s), vU, vI s, l4, l5], [], LH L I R u)) _ 6 ⟨_, _, rfl⟩ (ltF (by omega)) (fun s y hs hp => ?_) (fun y hp => ?_)
  · obtain ⟨l4, l5, e0⟩ := hp
    subst e0
    have hl := lp11_dig2 (d := d) (L := L) (u := u) hF hB hS hs (v := dgC I v s)
    have hm := s11_mixed (d := d + 2) (L := L) (u := u) (R := R) (op_Arx hF hs) (Sn_op hS hs) (v := hsF (fun k => abt (I 4 2) (opc I s) k) (dgC I v s) 9)
    refine inv_e2 (ls := fun l4 l5 => [vR 3, vL (dgC I v (s + 1)), vU, vI ((s + 1 : Nat) : Int), l4, l5]) (h := LH L I R u) ?_ (fun _ _ => ⟨_, _, rfl⟩)
    apply Exists.intro
    apply Exists.intro
    unfold wX11_digest_32
    apply t_Q
    · apply t_B
      · refine x_iload_n rfl ?_
        refine x_bipush ?_
        exact rfl
      exact t_ic_ge_f (by omega)
    apply t_Q
    · apply t_S
      refine x_aload_n rfl ?_
      refine x_gr tg_3 rfl (fx_3_0 hF) ?_
      refine x_gr tg_4 rfl (fx_4_0 hF) ?_
      refine x_iload_n rfl ?_
      refine x_aald (by rw [tg_5]; decide) (ln_5 L) (by omega) (fx_op hF hs) ?_
      refine x_astore rfl ?_
      refine x_iconst ?_
      refine x_istore rfl ?_
      exact rfl
    apply t_Q
    · apply t_K
      apply t_W
      exact hl
    apply t_B
    · refine x_lload_n rfl ?_
      refine x_aload rfl ?_
      refine x_gr (op_st hF hs).1 rfl (op_st hF hs).2.1 ?_
      refine x_S2i (by decide) (Nat.le_of_ble_eq_true rfl) (hm) ?_
      refine x_lstore_n rfl ?_
      refine x_iinc rfl rfl ?_
      exact rfl
    exact t_goeq rfl
  · obtain ⟨l4, l5, e0⟩ := hp
    subst e0
    refine ⟨(105, [vR 3, vL (dgC I v 6), vU, vI 6, l4, l5], [], LH L I R u), ?_, by show ¬ 105 = 32 + 2; decide, ⟨l4, l5, rfl⟩⟩
    unfold wX11_digest_32
    apply t_Qs
    apply t_B
    · refine x_iload_n rfl ?_
      refine x_bipush ?_
      exact rfl
    exact t_ic_ge_t (by omega)
set_option maxRecDepth 10000 in
theorem lp11_dig4 {d L : Nat} {I : Nat → Nat → Int} {R : Nat → Nat → Option Nat} {u : Int64} (hF : FixR R) (hB : Tbc I) (hS : Sn I) {v : Int64} {l4 l5 : am_V} : am_lp (am_ev (am_run am_tb (d + 2)) wX11_digest_105) 105 am_F ([vR 3, vL (dgP I v 0), vU, vI 0, l4, l5], [], LH L I R u) = some (132, [vR 3, vL (dgP I v 2), vU, vI 2, l4, l5], [], LH L I R u) := by
  refine lp_up0 (fun k => ([vR 3, vL (dgP I v k), vU, vI k, l4, l5], [], LH L I R u)) 2 rfl (ltF (by omega)) (by show ¬ 132 = 105 + 2; decide) (fun k hk => ?_) ?_
  · have hm := s11_mixed (d := d) (L := L) (u := u) (R := R) (po_st hk) (fun j hj => Sn_po hS hk hj) (v := dgP I v k)
    unfold wX11_digest_105
    apply t_Q
    · apply t_B
      · refine x_iload_n rfl ?_
        refine x_iconst ?_
        exact rfl
      exact t_ic_ge_f (by omega)
    apply t_B
    · refine x_lload_n rfl ?_
      refine x_aload_n rfl ?_
      refine x_gr tg_3 rfl (fx_3_0 hF) ?_
      refine x_gr tg_4 rfl (fx_4_1 hF) ?_
      refine x_iload_n rfl ?_
      refine x_aald (by rw [tg_6]; decide) (ln_6 L) (by omega) (fx_po hF hk) ?_
      refine x_S2i (by decide) (Nat.le_of_ble_eq_true rfl) (hm) ?_
      refine x_lstore_n rfl ?_
      refine x_iinc rfl rfl ?_
      exact rfl
    exact t_goeq rfl
  · unfold wX11_digest_105
    apply t_Qs
    apply t_B
    · refine x_iload_n rfl ?_
      refine x_iconst ?_
      exact rfl
    exact t_ic_ge_t (by omega)
set_option maxRecDepth 10000 in
theorem s11_digest {d L : Nat} {I : Nat → Nat → Int} {R : Nat → Nat → Option Nat} {u : Int64} (hF : FixR R) (hB : Tbc I) (hS : Sn I) (ht : ∀ k : Nat, k < 6 → inR (tofc I k)) : am_run am_tb (d + 5) 118 [vR 3] (LH L I R u) = some ([vL (digc I)], LH L I R u) := by
  refine run_of tb_X11_digest (Nat.le_of_ble_eq_true rfl) ?_
  show ∃ ls', am_ev (am_run am_tb (d + 4)) tX11_digest ([vR 3, vU, vU, vU, vU, vU], [], (LH L I R u)) = some (1, ls', [vL (digc I)], LH L I R u)
  have hl1 := lp11_dig1 (d := d + 3) (L := L) (u := u) hF hB hS ht
  obtain ⟨r, hl3, l4, l5, er⟩ := lp11_dig3 (d := d) (L := L) (u := u) hF hB hS (v := hsF (fun k => tofc I k) (Int64.ofNat 2339) 6)
  subst er
  have hl4 := lp11_dig4 (d := d + 2) (L := L) (u := u) hF hB hS (v := dgC I (hsF (fun k => tofc I k) (Int64.ofNat 2339) 6) 6) (l4 := l4) (l5 := l5)
  apply Exists.intro
  unfold tX11_digest
  apply t_Q
  · apply t_S
    refine x_ldc2_w ?_
    refine x_lstore_n rfl ?_
    refine x_iconst ?_
    refine x_istore_n rfl ?_
    exact rfl
  apply t_Q
  · apply t_K
    apply t_W
    exact hl1
  apply t_Q
  · apply t_S
    refine x_iconst ?_
    refine x_istore_n rfl ?_
    exact rfl
  apply t_Q
  · apply t_K
    apply t_W
    exact hl3
  apply t_Q
  · apply t_S
    refine x_iconst ?_
    refine x_istore_n rfl ?_
    exact rfl
  apply t_Q
  · apply t_K
    apply t_W
    exact hl4
  apply t_B
  · refine x_lload_n rfl ?_
    exact rfl
  exact rfl
set_option maxRecDepth 10000 in
theorem s9_append {d L : Nat} {I : Nat → Nat → Int} {R : Nat → Nat → Option Nat} {u : Int64} (hF : FixR R) {b : Nat} (hb : I 108 1 = b) (hb2 : b < 120) {c : Int} : am_run am_tb (d + 1) 76 [vR 108, vI c] (LH L I R u) = some ([], LH L (au (au I 109 (au (I 109) b c)) 108 (au (I 108) 1 ((b : Int) + 1))) R u) := by
  refine run_of tb_X9_append (Nat.le_of_ble_eq_true rfl) ?_
  show ∃ ls', am_ev (am_run am_tb (d + 0)) tX9_append ([vR 108, vI c], [], (LH L I R u)) = some (1, ls', [], LH L (au (au I 109 (au (I 109) b c)) 108 (au (I 108) 1 ((b : Int) + 1))) R u)
  apply Exists.intro
  unfold tX9_append
  apply t_Q
  · apply t_S
    refine x_aload_n rfl ?_
    refine x_giv tg_108 rfl (show _ = (b : Int) from hb) ?_
    refine x_bipush ?_
    exact rfl
  apply t_Q
  · apply t_Ks
    · apply t_Q
      · apply t_B
        · exact rfl
        exact t_ic_ge_f (by omega)
      apply t_S
      refine x_aload_n rfl ?_
      refine x_gr tg_108 rfl (fx_108_0 hF) ?_
      refine x_aload_n rfl ?_
      refine x_giv tg_108 rfl (show _ = (b : Int) from hb) ?_
      refine x_iload_n rfl ?_
      refine x_iast tg_109 (ln_109 L) (by omega) ?_
      refine x_aload_n rfl ?_
      refine x_dup rfl ?_
      refine x_giv tg_108 rfl (show _ = (b : Int) from hb) ?_
      refine x_iconst ?_
      refine x_iadd ?_
      refine x_pi tg_108 rfl rfl ?_
      exact rfl
    · decide
  apply t_B
  · exact rfl
  exact t_vreq rfl
set_option maxRecDepth 10000 in
theorem s11_type_full {d L : Nat} {I : Nat → Nat → Int} {R : Nat → Nat → Option Nat} {u : Int64} (hF : FixR R) {c : Int} (hc : 0 ≤ c ∧ c ≤ 127) (hb : I 108 1 = 120) : am_run am_tb (d + 2) 112 [vR 3, vI c] (LH L I R u) = some ([vI (-20004)], LH L (rc I 2) R u) := by
  refine run_of tb_X11_type (Nat.le_of_ble_eq_true rfl) ?_
  show ∃ ls', am_ev (am_run am_tb (d + 1)) tX11_type ([vR 3, vI c], [], (LH L I R u)) = some (1, ls', [vI (-20004)], LH L (rc I 2) R u)
  apply Exists.intro
  unfold tX11_type
  apply t_Q
  · apply t_S
    refine x_iload_n rfl ?_
    exact rfl
  apply t_Q
  · apply t_K
    apply t_Qs
    apply t_Ks
    · apply t_Q
      · apply t_B
        · exact rfl
        exact t_if_lt_f (by omega)
      apply t_B
      · refine x_iload_n rfl ?_
        refine x_bipush ?_
        exact rfl
      exact t_ic_le_t (by omega)
    · decide
  apply t_Q
  · apply t_S
    refine x_aload_n rfl ?_
    refine x_gr tg_3 rfl (fx_3_2 hF) ?_
    refine x_giv tg_108 rfl (show _ = (120 : Int) from hb) ?_
    refine x_bipush ?_
    exact rfl
  apply t_Qs
  apply t_Ks
  · apply t_Q
    · apply t_B
      · exact rfl
      exact t_ic_lt_f (by omega)
    apply t_B
    · refine x_aload_n rfl ?_
      refine x_V1i tg_3 (Nat.le_of_ble_eq_true rfl) (s11_full (d := d) hF) ?_
      exact rfl
    exact t_ireq (Or.inl rfl) rfl rfl
  · decide
set_option maxRecDepth 10000 in
theorem s11_type_ok {d L : Nat} {I : Nat → Nat → Int} {R : Nat → Nat → Option Nat} {u : Int64} (hF : FixR R) {c : Int} {b : Nat} (hc : 0 ≤ c ∧ c ≤ 127) (hb : I 108 1 = b) (hb2 : b < 120) : am_run am_tb (d + 2) 112 [vR 3, vI c] (LH L I R u) = some ([vI ((b : Int) + 1)], LH L (au (au I 109 (au (I 109) b c)) 108 (au (I 108) 1 ((b : Int) + 1))) R u) := by
  refine run_of tb_X11_type (Nat.le_of_ble_eq_true rfl) ?_
  show ∃ ls', am_ev (am_run am_tb (d + 1)) tX11_type ([vR 3, vI c], [], (LH L I R u)) = some (1, ls', [vI ((b : Int) + 1)], LH L (au (au I 109 (au (I 109) b c)) 108 (au (I 108) 1 ((b : Int) + 1))) R u)
  apply Exists.intro
  unfold tX11_type
  apply t_Q
  · apply t_S
    refine x_iload_n rfl ?_
    exact rfl
  apply t_Q
  · apply t_K
    apply t_Qs
    apply t_Ks
    · apply t_Q
      · apply t_B
        · exact rfl
        exact t_if_lt_f (by omega)
      apply t_B
      · refine x_iload_n rfl ?_
        refine x_bipush ?_
        exact rfl
      exact t_ic_le_t (by omega)
    · decide
  apply t_Q
  · apply t_S
    refine x_aload_n rfl ?_
    refine x_gr tg_3 rfl (fx_3_2 hF) ?_
    refine x_giv tg_108 rfl (show _ = (b : Int) from hb) ?_
    refine x_bipush ?_
    exact rfl
  apply t_Q
  · apply t_K
    apply t_Qs
    apply t_B
    · exact rfl
    exact t_ic_lt_t (by omega)
  apply t_B
  · refine x_aload_n rfl ?_
    refine x_gr tg_3 rfl (fx_3_2 hF) ?_
    refine x_iload_n rfl ?_
    refine x_V2v tg_108 (Nat.le_of_ble_eq_true rfl) (s9_append (d := d) hF hb hb2) ?_
    refine x_aload_n rfl ?_
    refine x_gr tg_3 rfl (fx_3_2 hF) ?_
    refine x_giv tg_108 rfl (show _ = (b : Int) + 1 from by rw [au_s, au_s]) ?_
    exact rfl
  exact t_ireq (Or.inl rfl) rfl rfl
set_option maxRecDepth 10000 in
theorem s11_clear {d L : Nat} {I : Nat → Nat → Int} {R : Nat → Nat → Option Nat} {u : Int64} (hF : FixR R) : am_run am_tb (d + 1) 113 [vR 3] (LH L I R u) = some ([vI (I 108 1)], LH L (au I 108 (au (I 108) 1 0)) R u) := by
  refine run_of tb_X11_clear (Nat.le_of_ble_eq_true rfl) ?_
  show ∃ ls', am_ev (am_run am_tb (d + 0)) tX11_clear ([vR 3, vU], [], (LH L I R u)) = some (1, ls', [vI (I 108 1)], LH L (au I 108 (au (I 108) 1 0)) R u)
  apply Exists.intro
  unfold tX11_clear
  apply t_B
  · refine x_aload_n rfl ?_
    refine x_gr tg_3 rfl (fx_3_2 hF) ?_
    refine x_gi tg_108 rfl ?_
    refine x_istore_n rfl ?_
    refine x_aload_n rfl ?_
    refine x_gr tg_3 rfl (fx_3_2 hF) ?_
    refine x_iconst ?_
    refine x_pi tg_108 rfl rfl ?_
    refine x_iload_n rfl ?_
    exact rfl
  exact t_ireq (Or.inl rfl) rfl rfl
set_option maxRecDepth 10000 in
theorem s11_back_no {d L : Nat} {I : Nat → Nat → Int} {R : Nat → Nat → Option Nat} {u : Int64} (hF : FixR R) (hn : I 21 2 = 0) : am_run am_tb (d + 2) 116 [vR 3] (LH L I R u) = some ([vI (-20003)], LH L (rc I 1) R u) := by
  refine run_of tb_X11_back (Nat.le_of_ble_eq_true rfl) ?_
  show ∃ ls', am_ev (am_run am_tb (d + 1)) tX11_back ([vR 3], [], (LH L I R u)) = some (1, ls', [vI (-20003)], LH L (rc I 1) R u)
  apply Exists.intro
  unfold tX11_back
  apply t_Q
  · apply t_S
    refine x_aload_n rfl ?_
    refine x_gr tg_3 rfl (fx_3_1 hF) ?_
    refine x_gi tg_21 rfl ?_
    exact rfl
  apply t_Qs
  apply t_Ks
  · apply t_Q
    · apply t_B
      · exact rfl
      exact t_if_ne_f (by omega)
    apply t_B
    · refine x_aload_n rfl ?_
      refine x_V1i tg_3 (Nat.le_of_ble_eq_true rfl) (s11_no (d := d) hF) ?_
      exact rfl
    exact t_ireq (Or.inl rfl) rfl rfl
  · decide
set_option maxRecDepth 10000 in
theorem s11_back_ok {d L : Nat} {I : Nat → Nat → Int} {R : Nat → Nat → Option Nat} {u : Int64} (hF : FixR R) {t n : Nat} (hH : Hi I t n) (hn0 : 0 < n) : ∃ J, am_run am_tb (d + 4) 116 [vR 3] (LH L I R u) = some ([vI ((n - 1 : Nat) : Int)], LH L J R u) ∧ (∀ j, j < 609 → snow J 4 j = snow I (23 + 17 * ((t + 4) % 5)) j) ∧ J 21 1 = ((t + 4) % 5 : Nat) ∧ J 21 2 = (n - 1 : Nat) ∧ ∀ a, ¬ (4 ≤ a ∧ a ≤ 21) → J a = I a := by
  have hn := hH.2.2.1
  have hn5 := hH.2.2.2
  obtain ⟨J, ek, k1, k2, k3, k4⟩ := s5_restore (d := d) (L := L) (u := u) hF hH.1 hH.2.1 hH.2.2.1 hH.2.2.2 hn0
  refine ⟨J, ?_, k1, k2, k3, fun a ha => k4 a (by omega) (by omega)⟩
  refine run_of tb_X11_back (Nat.le_of_ble_eq_true rfl) ?_
  show ∃ ls', am_ev (am_run am_tb (d + 3)) tX11_back ([vR 3], [], LH L I R u) = _
  apply Exists.intro
  unfold tX11_back
  apply t_Q
  · apply t_S
    refine x_aload_n rfl ?_
    refine x_gr tg_3 rfl (fx_3_1 hF) ?_
    refine x_giv tg_21 rfl (show _ = (n : Int) from hn) ?_
    exact rfl
  apply t_Q
  · apply t_K
    apply t_Qs
    apply t_B
    · exact rfl
    exact t_if_ne_t (by omega)
  apply t_B
  · refine x_aload_n rfl ?_
    refine x_gr tg_3 rfl (fx_3_1 hF) ?_
    refine x_aload_n rfl ?_
    refine x_gr tg_3 rfl (fx_3_0 hF) ?_
    refine x_V2v tg_21 (Nat.le_of_ble_eq_true rfl) (ek) ?_
    refine x_aload_n rfl ?_
    refine x_gr tg_3 rfl (fx_3_1 hF) ?_
    refine x_giv tg_21 rfl (show _ = ((n - 1 : Nat) : Int) from k3) ?_
    exact rfl
  exact t_ireq (Or.inl rfl) rfl rfl
