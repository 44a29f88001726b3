/-! The reference: digest. Written by wip/whole/gen_38.py. -/
def hs (u : Int64) (v : Int) : Int64 := Int64.ofNat 31 * u + Int64.ofInt v
def hsF (f : Nat → Int) (u : Int64) : Nat → Int64
  | 0 => u
  | k + 1 => hs (hsF f u k) (f k)
theorem tl_b {v : Int} (h : 0 ≤ v ∧ v < 10007) : -5003 ≤ tl v ∧ tl v ≤ 5003 := by
  unfold tl; split <;> omega
theorem abt_b {o : Int} {f : Nat → Int} {what : Int} (hf : resd f) : -20001 ≤ abt o f what ∧ abt o f what ≤ 10007 := by
  have c := cnt_le f 496
  have d := dgr_b f
  have g1 := grF_b (f := f) (a := 1) (b := 0) (by omega) (by omega) (Nat.le_refl 91)
  have g2 := grF_b (f := f) (a := 0) (b := 1) (by omega) (by omega) (Nat.le_refl 91)
  have g3 := grF_b (f := f) (a := -1) (b := 1) (by omega) (by omega) (Nat.le_refl 91)
  have g4 := grF_b (f := f) (a := 1) (b := -1) (by omega) (by omega) (Nat.le_refl 91)
  unfold abt
  by_cases c0 : what = 0 ∨ cnt f 496 = 0
  · rw [if_pos c0]
    split <;> omega
  · rw [if_neg c0]
    obtain ⟨w, hw, hl, _⟩ := led_some (o := o) (f := f) (cnt_zt (by omega))
    have e := hf w hw
    have t := tl_b e
    have x := xw_dw w
    have n := wn_30 hw
    have ho : -20001 ≤ ofl f (led o f).toNat what ∧ ofl f (led o f).toNat what ≤ 10007 := by
      rw [hl]
      show -20001 ≤ ofl f w what ∧ ofl f w what ≤ 10007
      unfold ofl
      split
      · omega
      · split <;> omega
    split
    · omega
    · split
      · omega
      · split
        · omega
        · split
          · omega
          · split
            · omega
            · exact ho
set_option maxRecDepth 10000 in
theorem s_mix {d L : Nat} {I : Nat → Nat → Int} {R : Nat → Nat → Option Nat} {u : Int64} {v : Int64} : am_run am_tb (d + 1) 228 [vR 301, vL v] (LH L I R u) = some ([], LH L I R (Int64.ofNat 31 * u + v)) := by
  refine run_of tb_X12_mix (Nat.le_of_ble_eq_true rfl) ?_
  show ∃ ls', am_ev (am_run am_tb (d + 0)) tX12_mix ([vR 301, vL v, vU], [], (LH L I R u)) = some (1, ls', [], LH L I R (Int64.ofNat 31 * u + v))
  apply Exists.intro
  unfold tX12_mix
  apply t_B
  · refine x_aload_n rfl ?_
    refine x_ldc2_w ?_
    refine x_aload_n rfl ?_
    refine x_gl tg_301 rfl ?_
    refine x_lmul ?_
    refine x_lload_n rfl ?_
    refine x_ladd ?_
    refine x_pl rfl rfl rfl ?_
    exact rfl
  exact rfl
set_option maxRecDepth 10000 in
theorem lp_dig1 {d L : Nat} {I : Nat → Nat → Int} {R : Nat → Nat → Option Nat} {u : Int64} (hF : FixR R) (ht : ∀ k : Nat, k < 6 → inR (tof I k)) : am_lp (am_ev (am_run am_tb (d + 1)) wX12_digest_9) 9 am_F ([vR 301, vI 0, vU], [], LH L I R u) = some (33, ([vR 301, vI 6, vU], [], LH L I R (hsF (fun k => tof I k) u 6))) := by
  skip
  refine lp_up0 (fun k => ([vR 301, vI k, vU], [], LH L I R (hsF (fun k => tof I k) u k))) (6) rfl (ltF (by first | decide | omega)) (by show ¬ 33 = 9 + 2; decide) (fun k hk => ?_) ?_
  · have hk2 := ht k hk
    unfold wX12_digest_9
    apply t_Q
    · apply t_B
      · refine x_iload_n rfl ?_
        refine x_bipush ?_
        exact rfl
      exact t_ic_ge_f (by omega)
    apply t_B
    · refine x_aload_n rfl ?_
      refine x_aload_n rfl ?_
      refine x_iload_n rfl ?_
      refine x_V2i tg_301 (Nat.le_of_ble_eq_true rfl) (s_toldOf (d := d) hF (by omega)) ?_
      refine x_i2l (by omega) ?_
      refine x_V2v tg_301 (Nat.le_of_ble_eq_true rfl) (s_mix (d := d)) ?_
      refine x_iinc rfl rfl ?_
      exact rfl
    exact t_goeq rfl
  · unfold wX12_digest_9
    apply t_Qs
    apply t_B
    · refine x_iload_n rfl ?_
      refine x_bipush ?_
      exact rfl
    exact t_ic_ge_t (by omega)
def dgG (g : Nat → Int) (f : Nat → Int) : Nat → Nat → Int
  | 0 => g
  | _ + 1 => f
theorem dgG_b {g f : Nat → Int} (hg : resd g) (hf : resd f) (k : Nat) : resd (dgG g f k) := by
  cases k with
  | zero => exact hg
  | succ k => exact hf
set_option maxRecDepth 10000 in
theorem lp_dig2 {d L : Nat} {I : Nat → Nat → Int} {R : Nat → Nat → Option Nat} {u : Int64} (hF : FixR R) (hR : Res I) (hT : Tabs I) (hN : Nr I) {o : Int} (ho : I 302 608 = o) {s : Nat} (hs : s < 6) {g : Nat → Int} (hg : resd g) {z : am_V} : am_lp (am_ev (am_run am_tb (d + 5)) wX12_digest_41) 41 am_F ([vR 301, vI s, vI 0], [], LH L (sro I 24 g) R u) = some (66, ([vR 301, vI s, vI 9], [], LH L (sro I 24 (fe I s)) R (hsF (fun k => abt o (fe I s) k) u 9))) := by
  skip
  refine lp_up0 (fun k => ([vR 301, vI s, vI k], [], LH L (sro I 24 (dgG g (fe I s) k)) R (hsF (fun k => abt o (fe I s) k) u k))) (9) rfl (ltF (by first | decide | omega)) (by show ¬ 66 = 41 + 2; decide) (fun k hk => ?_) ?_
  · have hb := abt_b (o := o) (what := (k : Int)) (fe_b hN hs)
    have ha := s_aboutOf (d := d) (L := L) (u := hsF (fun k => abt o (fe I s) k) u k) (I := sro I 24 (dgG g (fe I s) k)) hF (Res_s hR (dgG_b hg (fe_b hN hs) k)) (Tabs_s hT) (by unfold Nr; rw [sro_o (by decide)]; exact hN) (o := o) (by rw [sro_o (by decide)]; exact ho) hs (what := (k : Int)) (by omega)
    rw [fe_s, sro_sro] at ha
    unfold wX12_digest_41
    apply t_Q
    · apply t_B
      · refine x_iload_n rfl ?_
        refine x_bipush ?_
        exact rfl
      exact t_ic_ge_f (by omega)
    apply t_B
    · refine x_aload_n rfl ?_
      refine x_aload_n rfl ?_
      refine x_iload_n rfl ?_
      refine x_iload_n rfl ?_
      refine x_V3i tg_301 (Nat.le_of_ble_eq_true rfl) (ha) ?_
      refine x_i2l (by omega) ?_
      refine x_V2v tg_301 (Nat.le_of_ble_eq_true rfl) (s_mix (d := d + 4)) ?_
      refine x_iinc rfl rfl ?_
      exact rfl
    exact t_goeq rfl
  · unfold wX12_digest_41
    apply t_Qs
    apply t_B
    · refine x_iload_n rfl ?_
      refine x_bipush ?_
      exact rfl
    exact t_ic_ge_t (by omega)
set_option maxRecDepth 10000 in
theorem lp_dig3 {d L : Nat} {I : Nat → Nat → Int} {R : Nat → Nat → Option Nat} {u : Int64} (hF : FixR R) (hN : Nr I) {s : Nat} (hs : s < 6) {g : Nat → Int} : am_lp (am_ev (am_run am_tb (d + 1)) wX12_digest_66) 66 am_F ([vR 301, vI s, vI 0], [], LH L (sro I 24 g) R u) = some (99, ([vR 301, vI s, vI 91], [], LH L (sro I 24 g) R (hsF (fun k => tl (opr I s k)) u 91))) := by
  skip
  refine lp_up0 (fun k => ([vR 301, vI s, vI k], [], LH L (sro I 24 g) R (hsF (fun k => tl (opr I s k)) u k))) (91) rfl (ltF (by first | decide | omega)) (by show ¬ 99 = 66 + 2; decide) (fun k hk => ?_) ?_
  · have hv : 0 ≤ opr I s k ∧ opr I s k < 10007 := hN.1 _ (by omega)
    have hb := tl_b hv
    unfold wX12_digest_66
    apply t_Q
    · apply t_B
      · refine x_iload_n rfl ?_
        refine x_bipush ?_
        exact rfl
      exact t_ic_ge_f (by omega)
    apply t_B
    · refine x_aload_n rfl ?_
      refine x_aload_n rfl ?_
      refine x_gr tg_301 rfl (fx_301_0 hF) ?_
      refine x_bipush ?_
      refine x_iload_n rfl ?_
      refine x_imul ?_
      refine x_iload_n rfl ?_
      refine x_iadd ?_
      refine x_ialdv (Or.inl tg_302) (ln_302 L) (by omega) (show _ = opr I s k from by rw [sro_o (by decide)]; exact congrArg (I 302) (by omega)) ?_
      refine x_S1i (by decide) (Nat.le_of_ble_eq_true rfl) ((s_tell (d := d) (v := opr I s k) (by omega)).trans (show _ = some ([vI (tl (opr I s k))], _) from rfl)) ?_
      refine x_i2l (by omega) ?_
      refine x_V2v tg_301 (Nat.le_of_ble_eq_true rfl) (s_mix (d := d)) ?_
      refine x_iinc rfl rfl ?_
      exact rfl
    exact t_goeq rfl
  · unfold wX12_digest_66
    apply t_Qs
    apply t_B
    · refine x_iload_n rfl ?_
      refine x_bipush ?_
      exact rfl
    exact t_ic_ge_t (by omega)
def dl2 : Nat → am_V
  | 0 => vU
  | _ + 1 => vI 91
def dgS (I : Nat → Nat → Int) (o : Int) (u : Int64) : Nat → Int64
  | 0 => u
  | s + 1 => hsF (fun k => tl (opr I s k)) (hsF (fun k => abt o (fe I s) k) (dgS I o u s) 9) 91
def dgR (I : Nat → Nat → Int) : Nat → Nat → Int
  | 0 => gro I 24
  | s + 1 => fe I s
theorem dgR_b {I : Nat → Nat → Int} (hR : Res I) (hN : Nr I) {s : Nat} (hs : s ≤ 6) : resd (dgR I s) := by
  cases s with
  | zero => exact fun k _ => Res_g hR 24 k
  | succ s => exact fe_b hN (by omega)
set_option maxRecDepth 10000 in
theorem lp_dig4 {d L : Nat} {I : Nat → Nat → Int} {R : Nat → Nat → Option Nat} {u : Int64} (hF : FixR R) (hR : Res I) (hT : Tabs I) (hN : Nr I) {o : Int} (ho : I 302 608 = o) : am_lp (am_ev (am_run am_tb (d + 5)) wX12_digest_33) 33 am_F ([vR 301, vI 0, vU], [], LH L I R u) = some (105, ([vR 301, vI 6, vI 91], [], LH L (sro I 24 (fe I 5)) R (dgS I o u 6))) := by
  skip
  refine lp_up0 (fun k => ([vR 301, vI k, dl2 k], [], LH L (sro I 24 (dgR I k)) R (dgS I o u k))) (6) (s3 rfl (sro_id (fun j hj => rfl)).symm) (ltF (by first | decide | omega)) (by show ¬ 105 = 33 + 2; decide) (fun k hk => ?_) ?_
  · unfold wX12_digest_33
    apply t_Q
    · apply t_B
      · refine x_iload_n rfl ?_
        refine x_bipush ?_
        exact rfl
      exact t_ic_ge_f (by omega)
    apply t_Q
    · apply t_S
      refine x_iconst ?_
      refine x_istore_n rfl ?_
      exact rfl
    apply t_Q
    · apply t_K
      apply t_W
      exact lp_dig2 (d := d) hF hR hT hN ho hk (dgR_b hR hN (by omega)) (z := vU)
    apply t_Q
    · apply t_S
      refine x_iconst ?_
      refine x_istore_n rfl ?_
      exact rfl
    apply t_Q
    · apply t_K
      apply t_W
      exact lp_dig3 (d := d + 4) hF hN hk
    apply t_B
    · refine x_iinc rfl rfl ?_
      exact rfl
    exact t_goeq rfl
  · unfold wX12_digest_33
    apply t_Qs
    apply t_B
    · refine x_iload_n rfl ?_
      refine x_bipush ?_
      exact rfl
    exact t_ic_ge_t (by omega)
set_option maxRecDepth 10000 in
theorem lp_dig5 {d L : Nat} {I : Nat → Nat → Int} {R : Nat → Nat → Option Nat} {u : Int64} (hF : FixR R) (hN : Nr I) {z : am_V} : am_lp (am_ev (am_run am_tb (d + 1)) wX12_digest_105) 105 am_F ([vR 301, vI 0, z], [], LH L I R u) = some (137, ([vR 301, vI 62, z], [], LH L I R (hsF (fun k => tl (I 302 (546 + k))) u 62))) := by
  skip
  refine lp_up0 (fun k => ([vR 301, vI k, z], [], LH L I R (hsF (fun k => tl (I 302 (546 + k))) u k))) (62) rfl (ltF (by first | decide | omega)) (by show ¬ 137 = 105 + 2; decide) (fun k hk => ?_) ?_
  · have hv := hN.1 (546 + k) (by omega)
    have hb := tl_b hv
    unfold wX12_digest_105
    apply t_Q
    · apply t_B
      · refine x_iload_n rfl ?_
        refine x_bipush ?_
        exact rfl
      exact t_ic_ge_f (by omega)
    apply t_B
    · refine x_aload_n rfl ?_
      refine x_aload_n rfl ?_
      refine x_gr tg_301 rfl (fx_301_0 hF) ?_
      refine x_sipush ?_
      refine x_iload_n rfl ?_
      refine x_iadd ?_
      refine x_ialdv (Or.inl tg_302) (ln_302 L) (by omega) (show _ = I 302 (546 + k) from congrArg (I 302) (by omega)) ?_
      refine x_S1i (by decide) (Nat.le_of_ble_eq_true rfl) ((s_tell (d := d) (v := I 302 (546 + k)) (by omega)).trans (show _ = some ([vI (tl (I 302 (546 + k)))], _) from rfl)) ?_
      refine x_i2l (by omega) ?_
      refine x_V2v tg_301 (Nat.le_of_ble_eq_true rfl) (s_mix (d := d)) ?_
      refine x_iinc rfl rfl ?_
      exact rfl
    exact t_goeq rfl
  · unfold wX12_digest_105
    apply t_Qs
    apply t_B
    · refine x_iload_n rfl ?_
      refine x_bipush ?_
      exact rfl
    exact t_ic_ge_t (by omega)
def dig (I : Nat → Nat → Int) (o : Int) : Int64 := hsF (fun k => tl (I 302 (546 + k))) (dgS I o (hsF (fun k => tof I k) (Int64.ofNat 2339) 6) 6) 62
set_option maxRecDepth 10000 in
theorem s_digest {d L : Nat} {I : Nat → Nat → Int} {R : Nat → Nat → Option Nat} {u : Int64} (hF : FixR R) (hR : Res I) (hT : Tabs I) (hN : Nr I) {o : Int} (ho : I 302 608 = o) (ht : ∀ k : Nat, k < 6 → inR (tof I k)) : am_run am_tb (d + 6) 229 [vR 301] (LH L I R u) = some ([vL (dig I o)], LH L (sro I 24 (fe I 5)) R (dig I o)) := by
  refine run_of tb_X12_digest (Nat.le_of_ble_eq_true rfl) ?_
  show ∃ ls', am_ev (am_run am_tb (d + 5)) tX12_digest ([vR 301, vU, vU], [], (LH L I R u)) = some (1, ls', [vL (dig I o)], LH L (sro I 24 (fe I 5)) R (dig I o))
  apply Exists.intro
  unfold tX12_digest
  apply t_Q
  · apply t_S
    refine x_aload_n rfl ?_
    refine x_ldc2_w ?_
    refine x_pl rfl rfl rfl ?_
    refine x_iconst ?_
    refine x_istore_n rfl ?_
    exact rfl
  apply t_Q
  · apply t_K
    apply t_W
    exact lp_dig1 (d := d + 4) hF ht
  apply t_Q
  · apply t_S
    refine x_iconst ?_
    refine x_istore_n rfl ?_
    exact rfl
  apply t_Q
  · apply t_K
    apply t_W
    exact lp_dig4 (d := d) hF hR hT hN ho
  apply t_Q
  · apply t_S
    refine x_iconst ?_
    refine x_istore_n rfl ?_
    exact rfl
  apply t_Q
  · apply t_K
    apply t_W
    exact (lp_dig5 (d := d + 4) (I := sro I 24 (fe I 5)) hF (by unfold Nr; rw [sro_o (by decide)]; exact hN)).trans (by rw [sro_o (by decide)])
  apply t_B
  · refine x_aload_n rfl ?_
    refine x_gl tg_301 rfl ?_
    exact rfl
  exact rfl
