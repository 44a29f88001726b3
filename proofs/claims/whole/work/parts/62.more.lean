/-! The reference: crosses, isOneMore. Written by wip/whole/gen_62.py. -/
/-- what two rows side by side make of the least word that both leads go into -/
def crF (w v : Nat) (f g : Nat → Int) : Nat → Int := abF 0 (dw w - dw v) 10006 g (abF (xw v - xw w) 0 1 f (fun _ => 0) (wds f)) (wds g)
theorem zer_d : resd (fun _ => 0) := fun _ _ => ⟨Int.le_refl 0, by show (0 : Int) < 10007; decide⟩
theorem crF_b {w v : Nat} {f g : Nat → Int} : resd (crF w v f g) := abF_b (abF_b zer_d _) _
set_option maxRecDepth 10000 in
theorem s_crosses {d L : Nat} {I : Nat → Nat → Int} {R : Nat → Nat → Option Nat} {u : Int64} (hF : FixR R) (hR : Res I) (hT : Tabs I) {o : Int} (ho : I 302 608 = o) (h0 : o = 0 ∨ o = 1) {t y w v : Nat} (ht : t < 24) (hy : y < 24) {f g : Nat → Int} (hf : ∀ k, k < 496 → gro I t k = f k) (hg : ∀ k, k < 496 → gro I y k = g k) (hw : w < 496) (hv : v < 496) (hlw : led o f = (w : Nat)) (hlv : led o g = (v : Nat)) (hdw : dgr f = (wn w : Nat)) (hdv : dgr g = (wn v : Nat)) (hx : xw w < xw v) (hd : dw v < dw w) (h30 : xw v + dw w ≤ 30) : am_run am_tb (d + 4) 197 [vR 301, vI t, vI y] (LH L I R u) = some ([], LH L (sro I 24 (crF w v f g)) R u) := by
  refine run_of tb_X12_crosses (Nat.le_of_ble_eq_true rfl) ?_
  show ∃ ls', am_ev (am_run am_tb (d + 3)) tX12_crosses ([vR 301, vI t, vI y, vU, vU, vU, vU], [], (LH L I R u)) = some (1, ls', [], LH L (sro I 24 (crF w v f g)) R u)
  have hxw := xw_dw w
  have hxv := xw_dw v
  have hl1 := s_leadIn (d := d) (L := L) (u := u) (I := I) hF hR hT (o := o) ho h0 (row := t) (by omega)
  have hl2 := s_leadIn (d := d) (L := L) (u := u) (I := I) hF hR hT (o := o) ho h0 (row := y) (by omega)
  rw [led_c hf, hlw] at hl1
  rw [led_c hg, hlv] at hl2
  have hwp := s_wip (d := d + 2) (L := L) (u := u) (I := I) hF (row := 24) (by decide)
  have ha1 := s_addsBehind (d := d) (L := L) (u := u) (I := I) hF (p := xw v - xw w) (q := 0) (fr := t) (to := 24) (c := 1) (f := fun _ => 0) hR zer_d hT (by omega) (by rw [dgr_c hf, hdw]; omega) (by omega) (by omega) (by omega)
  rw [wds_c hf, abF_c hf (wds_496 _)] at ha1
  have ha2 := s_addsBehind (d := d) (L := L) (u := u) (I := I) hF (p := 0) (q := dw w - dw v) (fr := y) (to := 24) (c := 10006) (f := abF (xw v - xw w) 0 1 f (fun _ => 0) (wds f)) hR (abF_b zer_d _) hT (by omega) (by rw [dgr_c hg, hdv]; omega) (by omega) (by omega) (by omega)
  rw [wds_c hg, abF_c hg (wds_496 _), show abF 0 (dw w - dw v) 10006 g (abF (xw v - xw w) 0 1 f (fun _ => 0) (wds f)) (wds g) = crF w v f g from rfl] at ha2
  generalize crF w v f g = C at ha2 ⊢
  generalize abF (xw v - xw w) 0 1 f (fun _ => 0) (wds f) = A at ha1 ha2
  apply Exists.intro
  unfold tX12_crosses
  apply t_Q
  · apply t_S
    refine x_aload_n rfl ?_
    refine x_iload_n rfl ?_
    refine x_V2i tg_301 (Nat.le_of_ble_eq_true rfl) (hl1) ?_
    refine x_istore_n rfl ?_
    refine x_aload_n rfl ?_
    refine x_iload_n rfl ?_
    refine x_V2i tg_301 (Nat.le_of_ble_eq_true rfl) (hl2) ?_
    refine x_istore rfl ?_
    refine x_aload_n rfl ?_
    refine x_gr tg_301 rfl (fx_301_7 hF) ?_
    refine x_iload_n rfl ?_
    refine x_ialdv (Or.inl tg_307) (ln_307 L) (by omega) (show _ = ((xw w : Nat) : Int) from hT.1 _ hw) ?_
    refine x_aload_n rfl ?_
    refine x_gr tg_301 rfl (fx_301_7 hF) ?_
    refine x_iload rfl ?_
    refine x_ialdv (Or.inl tg_307) (ln_307 L) (by omega) (show _ = ((xw v : Nat) : Int) from hT.1 _ hv) ?_
    exact rfl
  apply t_Q
  · apply t_Ks
    · apply t_Q
      · apply t_K
        apply t_Qs
        apply t_B
        · exact rfl
        exact t_ic_le_t (by omega)
      apply t_S
      refine x_aload_n rfl ?_
      refine x_gr tg_301 rfl (fx_301_7 hF) ?_
      refine x_iload rfl ?_
      refine x_ialdv (Or.inl tg_307) (ln_307 L) (by omega) (show _ = ((xw v : Nat) : Int) from hT.1 _ hv) ?_
      exact rfl
    · decide
  apply t_Q
  · apply t_S
    refine x_istore rfl ?_
    refine x_aload_n rfl ?_
    refine x_gr tg_301 rfl (fx_301_8 hF) ?_
    refine x_iload_n rfl ?_
    refine x_ialdv (Or.inl tg_308) (ln_308 L) (by omega) (show _ = ((dw w : Nat) : Int) from hT.2.1 _ hw) ?_
    refine x_aload_n rfl ?_
    refine x_gr tg_301 rfl (fx_301_8 hF) ?_
    refine x_iload rfl ?_
    refine x_ialdv (Or.inl tg_308) (ln_308 L) (by omega) (show _ = ((dw v : Nat) : Int) from hT.2.1 _ hv) ?_
    exact rfl
  apply t_Q
  · apply t_K
    apply t_Qs
    apply t_Ks
    · apply t_Q
      · apply t_B
        · exact rfl
        exact t_ic_le_f (by omega)
      apply t_B
      · refine x_aload_n rfl ?_
        refine x_gr tg_301 rfl (fx_301_8 hF) ?_
        refine x_iload_n rfl ?_
        refine x_ialdv (Or.inl tg_308) (ln_308 L) (by omega) (show _ = ((dw w : Nat) : Int) from hT.2.1 _ hw) ?_
        exact rfl
      exact t_goto
    · decide
  apply t_B
  · refine x_istore rfl ?_
    refine x_aload_n rfl ?_
    refine x_bipush ?_
    refine x_V2v tg_301 (Nat.le_of_ble_eq_true rfl) (hwp) ?_
    refine x_aload_n rfl ?_
    refine x_iload rfl ?_
    refine x_aload_n rfl ?_
    refine x_gr tg_301 rfl (fx_301_7 hF) ?_
    refine x_iload_n rfl ?_
    refine x_ialdv (Or.inl tg_307) (ln_307 L) (by omega) (show _ = ((xw w : Nat) : Int) from hT.1 _ hw) ?_
    refine x_isub ?_
    rw [show ((xw v : Nat) : Int) - ((xw w : Nat) : Int) = ((xw v - xw w : Nat) : Int) by omega]
    refine x_iload rfl ?_
    refine x_aload_n rfl ?_
    refine x_gr tg_301 rfl (fx_301_8 hF) ?_
    refine x_iload_n rfl ?_
    refine x_ialdv (Or.inl tg_308) (ln_308 L) (by omega) (show _ = ((dw w : Nat) : Int) from hT.2.1 _ hw) ?_
    refine x_isub ?_
    rw [show ((dw w : Nat) : Int) - ((dw w : Nat) : Int) = ((0 : Nat) : Int) by omega]
    refine x_iconst ?_
    refine x_iload_n rfl ?_
    refine x_bipush ?_
    refine x_V6v tg_301 (Nat.le_of_ble_eq_true rfl) (ha1) ?_
    refine x_aload_n rfl ?_
    refine x_iload rfl ?_
    refine x_aload_n rfl ?_
    refine x_gr tg_301 rfl (fx_301_7 hF) ?_
    refine x_iload rfl ?_
    refine x_ialdv (Or.inl tg_307) (ln_307 L) (by omega) (show _ = ((xw v : Nat) : Int) from hT.1 _ hv) ?_
    refine x_isub ?_
    rw [show ((xw v : Nat) : Int) - ((xw v : Nat) : Int) = ((0 : Nat) : Int) by omega]
    refine x_iload rfl ?_
    refine x_aload_n rfl ?_
    refine x_gr tg_301 rfl (fx_301_8 hF) ?_
    refine x_iload rfl ?_
    refine x_ialdv (Or.inl tg_308) (ln_308 L) (by omega) (show _ = ((dw v : Nat) : Int) from hT.2.1 _ hv) ?_
    refine x_isub ?_
    rw [show ((dw w : Nat) : Int) - ((dw v : Nat) : Int) = ((dw w - dw v : Nat) : Int) by omega]
    refine x_sipush ?_
    refine x_iload_n rfl ?_
    refine x_bipush ?_
    refine x_V6v tg_301 (Nat.le_of_ble_eq_true rfl) (ha2) ?_
    exact rfl
  exact rfl
/-- what the rows k and k + 1 make, and its rest -/
def crG (o : Int) (G : Nat → Nat → Int) (k : Nat) : Nat → Int := crF (lw o (G k)) (lw o (G (k + 1))) (G k) (G (k + 1))
noncomputable def spG (o : Int) (n : Nat) (G : Nat → Nat → Int) (k : Nat) : Nat → Int := nfa o n G (crG o G k)
/-- leads by how many x, none of which divides the next -/
def Xs (o : Int) (n : Nat) (G : Nat → Nat → Int) : Prop := ∀ k, k + 1 < n → xw (lw o (G k)) < xw (lw o (G (k + 1))) ∧ dw (lw o (G (k + 1))) < dw (lw o (G k)) ∧ xw (lw o (G (k + 1))) + dw (lw o (G k)) ≤ 30
/-- all rows are those by which is taken off -/
def Bys (I : Nat → Nat → Int) (n : Nat) : Prop := I 301 13 = (n : Nat) ∧ ∀ j, j < n → I 312 j = (j : Nat)
set_option maxRecDepth 10000 in
theorem st_one0 {d L : Nat} {I : Nat → Nat → Int} {R : Nat → Nat → Option Nat} {u : Int64} (hF : FixR R) (hR : Res I) (hT : Tabs I) {o : Int} (ho : I 302 608 = o) (h0 : o = 0 ∨ o = 1) {n : Nat} {G : Nat → Nat → Int} (hw : Rws I n G) (hG : Gd o n G) (hX : Xs o n G) (hB : Bys I n) {k : Nat} (hk : k + 1 < n) (hz : led o (spG o n G k) < 0) : ∃ J, am_ev (am_run am_tb (d + 5)) wX12_isOneMore_14 ([vR 301, vI ((k + 1 : Nat) : Int)], [], LH L I R u) = some (16, [vR 301, vI ((k + 1 + 1 : Nat) : Int)], [], LH L J R u) ∧ Fw I J ∧ Rws J n G ∧ Bys J n := by
  have h23 := hG.1
  have hl1 := lw_ok (hG.2 k (by omega)).2
  have hl2 := lw_ok (hG.2 (k + 1) hk).2
  have hxk := hX k hk
  have hcr := s_crosses (d := d + 1) (L := L) (u := u) (I := I) hF hR hT (o := o) ho h0 (t := k) (y := k + 1) (by omega) (by omega) (hw.2 k (by omega)) (hw.2 (k + 1) hk) hl1.1 hl2.1 hl1.2.1 hl2.2.1 (dgr_led hl1.1 hl1.2.2.1 hl1.2.2.2) (dgr_led hl2.1 hl2.2.2.1 hl2.2.2.2) hxk.1 hxk.2.1 hxk.2.2
  rw [show crF (lw o (G k)) (lw o (G (k + 1))) (G k) (G (k + 1)) = crG o G k from rfl] at hcr
  have hcb : resd (crG o G k) := crF_b
  have hFc : Fw I (sro I 24 (crG o G k)) := Fw_s (Fw_r hR) hcb
  obtain ⟨J, hrs, hFJ, hJr, hJ301, hJ312, hJ25⟩ := s_restsG (d := d) (L := L) (u := u) (I := sro I 24 (crG o G k)) hF hFc.2.2.2 (Fw_T hFc hT) (o := o) ho h0 (rr := fun j => j) (b := n) hB.1 (by omega) (fun j hj => ⟨hB.2 j hj, by omega⟩) (B := G) (fun j hj v hv => (gro_n hv (by omega)).trans (hw.2 j hj v hv)) hG.2 (f := crG o G k) hcb (fun k hk => gro_s hk)
  have hFIJ := Fw_t hFc hFJ
  have hT2 := Fw_T hFIJ hT
  have hJw : Rws J n G := ⟨by rw [hJ301]; exact hw.1, fun j hj v hv => by
    rw [hJr j (by omega) (by omega) v hv, gro_n hv (by omega)]
    exact hw.2 j hj v hv⟩
  have hJB : Bys J n := ⟨by rw [hJ301]; exact hB.1, fun j hj => by rw [hJ312]; exact hB.2 j hj⟩
  have hdg := s_degreeIn (d := d + 3) (L := L) (u := u) (I := J) hF hFIJ.2.2.2 hT2 (row := 25) (by omega)
  rw [dgr_c (g := spG o n G k) hJ25] at hdg
  have hdb := dgr_b (spG o n G k)
  have hsa : resa (spG o n G k) := nfa_a hG.2 hcb

  have hdn := dgr_neg.mpr hz
  refine ⟨J, ?_, hFIJ, hJw, hJB⟩
  unfold wX12_isOneMore_14
  apply t_Q
  · apply t_B
    · refine x_iload_n rfl ?_
      refine x_aload_n rfl ?_
      refine x_giv tg_301 rfl (show _ = ((n : Nat) : Int) from hw.1) ?_
      exact rfl
    exact t_ic_ge_f (by omega)
  apply t_Q
  · apply t_S
    refine x_aload_n rfl ?_
    refine x_iload_n rfl ?_
    refine x_iconst ?_
    refine x_isub ?_
    rw [show ((k + 1 : Nat) : Int) - 1 = ((k : Nat) : Int) by omega]
    refine x_iload_n rfl ?_
    refine x_V3v tg_301 (Nat.le_of_ble_eq_true rfl) (hcr) ?_
    refine x_aload_n rfl ?_
    refine x_bipush ?_
    refine x_V2v tg_301 (Nat.le_of_ble_eq_true rfl) (hrs) ?_
    refine x_aload_n rfl ?_
    refine x_bipush ?_
    refine x_V2i tg_301 (Nat.le_of_ble_eq_true rfl) (hdg) ?_
    exact rfl
  apply t_Q
  · apply t_K
    apply t_Qs
    apply t_B
    · exact rfl
    exact t_if_lt_t (by omega)
  apply t_B
  · refine x_iinc rfl rfl ?_
    exact rfl
  exact t_goeq rfl
set_option maxRecDepth 10000 in
theorem st_one1 {d L : Nat} {I : Nat → Nat → Int} {R : Nat → Nat → Option Nat} {u : Int64} (hF : FixR R) (hR : Res I) (hT : Tabs I) {o : Int} (ho : I 302 608 = o) (h0 : o = 0 ∨ o = 1) {n : Nat} {G : Nat → Nat → Int} (hw : Rws I n G) (hG : Gd o n G) (hX : Xs o n G) (hB : Bys I n) {k : Nat} (hk : k + 1 < n) (hn22 : n ≤ 22) (hz : ¬ led o (spG o n G k) < 0) : ∃ J, am_ev (am_run am_tb (d + 5)) wX12_isOneMore_14 ([vR 301, vI ((k + 1 : Nat) : Int)], [], LH L I R u) = some (1, [vR 301, vI ((k + 1 : Nat) : Int)], [vI 1], LH L J R u) ∧ Fw I J ∧ Rws J (n + 1) (au G n (mon o (spG o n G k))) := by
  have h23 := hG.1
  have hl1 := lw_ok (hG.2 k (by omega)).2
  have hl2 := lw_ok (hG.2 (k + 1) hk).2
  have hxk := hX k hk
  have hcr := s_crosses (d := d + 1) (L := L) (u := u) (I := I) hF hR hT (o := o) ho h0 (t := k) (y := k + 1) (by omega) (by omega) (hw.2 k (by omega)) (hw.2 (k + 1) hk) hl1.1 hl2.1 hl1.2.1 hl2.2.1 (dgr_led hl1.1 hl1.2.2.1 hl1.2.2.2) (dgr_led hl2.1 hl2.2.2.1 hl2.2.2.2) hxk.1 hxk.2.1 hxk.2.2
  rw [show crF (lw o (G k)) (lw o (G (k + 1))) (G k) (G (k + 1)) = crG o G k from rfl] at hcr
  have hcb : resd (crG o G k) := crF_b
  have hFc : Fw I (sro I 24 (crG o G k)) := Fw_s (Fw_r hR) hcb
  obtain ⟨J, hrs, hFJ, hJr, hJ301, hJ312, hJ25⟩ := s_restsG (d := d) (L := L) (u := u) (I := sro I 24 (crG o G k)) hF hFc.2.2.2 (Fw_T hFc hT) (o := o) ho h0 (rr := fun j => j) (b := n) hB.1 (by omega) (fun j hj => ⟨hB.2 j hj, by omega⟩) (B := G) (fun j hj v hv => (gro_n hv (by omega)).trans (hw.2 j hj v hv)) hG.2 (f := crG o G k) hcb (fun k hk => gro_s hk)
  have hFIJ := Fw_t hFc hFJ
  have hT2 := Fw_T hFIJ hT
  have hJw : Rws J n G := ⟨by rw [hJ301]; exact hw.1, fun j hj v hv => by
    rw [hJr j (by omega) (by omega) v hv, gro_n hv (by omega)]
    exact hw.2 j hj v hv⟩
  have hJB : Bys J n := ⟨by rw [hJ301]; exact hB.1, fun j hj => by rw [hJ312]; exact hB.2 j hj⟩
  have hdg := s_degreeIn (d := d + 3) (L := L) (u := u) (I := J) hF hFIJ.2.2.2 hT2 (row := 25) (by omega)
  rw [dgr_c (g := spG o n G k) hJ25] at hdg
  have hdb := dgr_b (spG o n G k)
  have hsa : resa (spG o n G k) := nfa_a hG.2 hcb

  have hdn : ¬ dgr (spG o n G k) < 0 := fun z => hz (dgr_neg.mp z)
  have hlw := lw_ok hz
  have hev := s_evens (d := d + 1) (L := L) (u := u) (I := J) hF hFIJ.2.2.2 hT2 (o := o) (by rw [hFIJ.1 302 (by decide) (by decide)]; exact ho) h0 (row := 25) (w := lw o (spG o n G k)) (by omega) hlw.1 (by rw [led_c (g := spG o n G k) hJ25]; exact hlw.2.1)
  have hmn : ∀ j, j < 496 → evF (gro J 25) (inv (gro J 25 (lw o (spG o n G k)))) j = mon o (spG o n G k) j := fun j hj => by
    show gro J 25 j * inv (gro J 25 (lw o (spG o n G k))) % 10007 = spG o n G k j * inv (spG o n G k (lw o (spG o n G k))) % 10007
    rw [hJ25 j hj, hJ25 _ hlw.1]
    rfl
  rw [sro_c hmn] at hev
  have hFK : Fw I (sro J 25 (mon o (spG o n G k))) := Fw_s hFIJ (fun k _ => mon_a _ _ k)
  have hc2 := s_copies (d := d + 3) (L := L) (u := u) (I := sro J 25 (mon o (spG o n G k))) hF (fr := 25) (to := n) (by omega) (by omega)
  rw [sro_c (f := gro (sro J 25 (mon o (spG o n G k))) 25) (g := mon o (spG o n G k)) (fun j hj => gro_s hj)] at hc2
  have hFM : Fw I (sro (sro J 25 (mon o (spG o n G k))) n (mon o (spG o n G k))) := Fw_s hFK (fun k _ => mon_a _ _ k)
  refine ⟨au (sro (sro J 25 (mon o (spG o n G k))) n (mon o (spG o n G k))) 301 (au (J 301) 16 ((n : Int) + 1)), ?_, Fw_t hFM ⟨fun a p q => au_n _ _ q, ⟨rfl, rfl, rfl⟩, ⟨rfl, rfl⟩, hFM.2.2.2⟩, ⟨by show (n : Int) + 1 = ((n + 1 : Nat) : Int); omega, fun j hj v hv => ?_⟩⟩
  · generalize mon o (spG o n G k) = M at hev hc2 ⊢
    unfold wX12_isOneMore_14
    apply t_Q
    · apply t_B
      · refine x_iload_n rfl ?_
        refine x_aload_n rfl ?_
        refine x_giv tg_301 rfl (show _ = ((n : Nat) : Int) from hw.1) ?_
        exact rfl
      exact t_ic_ge_f (by omega)
    apply t_Q
    · apply t_S
      refine x_aload_n rfl ?_
      refine x_iload_n rfl ?_
      refine x_iconst ?_
      refine x_isub ?_
      rw [show ((k + 1 : Nat) : Int) - 1 = ((k : Nat) : Int) by omega]
      refine x_iload_n rfl ?_
      refine x_V3v tg_301 (Nat.le_of_ble_eq_true rfl) (hcr) ?_
      refine x_aload_n rfl ?_
      refine x_bipush ?_
      refine x_V2v tg_301 (Nat.le_of_ble_eq_true rfl) (hrs) ?_
      refine x_aload_n rfl ?_
      refine x_bipush ?_
      refine x_V2i tg_301 (Nat.le_of_ble_eq_true rfl) (hdg) ?_
      exact rfl
    apply t_Qs
    apply t_Ks
    · apply t_Q
      · apply t_B
        · exact rfl
        exact t_if_lt_f (by omega)
      apply t_B
      · refine x_aload_n rfl ?_
        refine x_bipush ?_
        refine x_V2v tg_301 (Nat.le_of_ble_eq_true rfl) (hev) ?_
        refine x_aload_n rfl ?_
        refine x_bipush ?_
        refine x_aload_n rfl ?_
        refine x_giv tg_301 rfl (show _ = ((n : Nat) : Int) from hJw.1) ?_
        refine x_V3v tg_301 (Nat.le_of_ble_eq_true rfl) (hc2) ?_
        refine x_aload_n rfl ?_
        refine x_dup rfl ?_
        refine x_giv tg_301 rfl (show _ = ((n : Nat) : Int) from hJw.1) ?_
        refine x_iconst ?_
        refine x_iadd ?_
        refine x_pi tg_301 rfl rfl ?_
        refine x_iconst ?_
        exact rfl
      exact t_ireq (Or.inr (Or.inr rfl)) rfl rfl
    · decide
  · show gro (sro (sro J 25 (mon o (spG o n G k))) n (mon o (spG o n G k))) j v = (if j = n then mon o (spG o n G k) else G j) v
    by_cases ej : j = n
    · rw [if_pos ej, ej]; exact gro_s hv
    · rw [if_neg ej, gro_n hv ej, gro_n hv (by omega)]
      exact hJw.2 j (by omega) v hv
set_option maxRecDepth 10000 in
theorem s_one0 {d L : Nat} {I : Nat → Nat → Int} {R : Nat → Nat → Option Nat} {u : Int64} (hF : FixR R) (hR : Res I) (hT : Tabs I) {o : Int} (ho : I 302 608 = o) (h0 : o = 0 ∨ o = 1) {n : Nat} {G : Nat → Nat → Int} (hw : Rws I n G) (hG : Gd o n G) (hX : Xs o n (srO 1 o G (n - 1))) (hz : ∀ k, k < n - 1 → led o (spG o n (srO 1 o G (n - 1)) k) < 0) : ∃ J, am_run am_tb (d + 7) 198 [vR 301] (LH L I R u) = some ([vI 0], LH L J R u) ∧ Fw I J ∧ Rws J n (srO 1 o G (n - 1)) := by
  have h23 := hG.1
  have hG2 : Gd o n (srO 1 o G (n - 1)) := srO_Gd hG (Nat.le_refl _)
  obtain ⟨K, hso, hFK, hKw⟩ := s_sorts (d := d + 2) (L := L) (u := u) (I := I) hF hR hT (b := 1) (Or.inr rfl) ho h0 hw hG
  have htk := s_takesBy (d := d + 4) (L := L) (u := u) (I := K) hF (b := -20001) (q := n) (by omega) hKw.1 (by omega)
  have hF1 := Fw_t hFK (tk_Fw (I := K) (b := -20001) (n := n) hFK.2.2.2)
  have hN1 : tkN (-20001) n = n := if_neg (by omega)
  have hB1 : Bys (tkI K (-20001) n) n := ⟨by show ((tkN (-20001) n : Nat) : Int) = _; rw [hN1], fun j hj => by
    show (if j < tkN (-20001) n then tkE (-20001) j else K 312 j) = _
    rw [hN1, if_pos hj]
    exact if_neg (by omega)⟩
  have hw1 : Rws (tkI K (-20001) n) n (srO 1 o G (n - 1)) := ⟨hKw.1, hKw.2⟩
  generalize srO 1 o G (n - 1) = G2 at *
  generalize tkI K (-20001) n = K1 at *

  have key := lp_inv (f := am_ev (am_run am_tb (d + 6)) wX12_isOneMore_14) (L := 14) (fun k x => k ≤ n - 1 ∧ ∃ J, x = ([vR 301, vI ((k + 1 : Nat) : Int)], [], LH L J R u) ∧ Fw I J ∧ Rws J n G2 ∧ Bys J n) (fun r => ∃ J, r = (81, [vR 301, vI ((n - 1 + 1 : Nat) : Int)], [], LH L J R u) ∧ Fw I J ∧ Rws J n G2) (n - 1) (x := ([vR 301, vI 1], [], LH L K1 R u)) ⟨Nat.zero_le _, K1, rfl, hF1, hw1, hB1⟩ (ltF (by omega)) (fun k y hk hp => ?_) (fun y hp => ?_)
  · obtain ⟨r, e, J, er, h⟩ := key
    rw [er] at e
    refine ⟨J, ?_, h⟩
    refine run_of tb_X12_isOneMore (Nat.le_of_ble_eq_true rfl) ?_

    show ∃ ls', am_ev (am_run am_tb (d + 6)) tX12_isOneMore ([vR 301, vU], [], LH L I R u) = some (1, ls', [vI 0], LH L J R u)
    apply Exists.intro
    unfold tX12_isOneMore
    apply t_Q
    · apply t_S
      refine x_aload_n rfl ?_
      refine x_iconst ?_
      refine x_V2v tg_301 (Nat.le_of_ble_eq_true rfl) (hso) ?_
      refine x_aload_n rfl ?_
      refine x_sipush ?_
      refine x_V2v tg_301 (Nat.le_of_ble_eq_true rfl) (htk) ?_
      refine x_iconst ?_
      refine x_istore_n rfl ?_
      exact rfl
    apply t_Q
    · apply t_K
      apply t_W
      exact e
    apply t_B
    · refine x_iconst ?_
      exact rfl
    exact t_ireq (Or.inr (Or.inl rfl)) rfl rfl
  · obtain ⟨_, J, e, hFJ, hwJ, hBJ⟩ := hp
    obtain ⟨M, e2, hFM, hwM, hBM⟩ := st_one0 (d := d + 1) (L := L) (u := u) (I := J) hF hFJ.2.2.2 (Fw_T hFJ hT) (o := o) (by rw [hFJ.1 302 (by decide) (by decide)]; exact ho) h0 hwJ hG2 hX hBJ (k := k) (by omega) (hz k hk)
    exact ⟨_, by rw [e]; exact e2, ⟨by omega, M, rfl, Fw_t hFJ hFM, hwM, hBM⟩⟩
  · obtain ⟨_, J, e, hFJ, hwJ, hBJ⟩ := hp
    refine ⟨(81, [vR 301, vI ((n - 1 + 1 : Nat) : Int)], [], LH L J R u), ?_, by show ¬ 81 = 14 + 2; decide, J, rfl, hFJ, hwJ⟩
    rw [e]
    unfold wX12_isOneMore_14
    apply t_Qs
    apply t_B
    · refine x_iload_n rfl ?_
      refine x_aload_n rfl ?_
      refine x_giv tg_301 rfl (show _ = ((n : Nat) : Int) from hwJ.1) ?_
      exact rfl
    exact t_ic_ge_t (by omega)
set_option maxRecDepth 10000 in
theorem s_one1 {d L : Nat} {I : Nat → Nat → Int} {R : Nat → Nat → Option Nat} {u : Int64} (hF : FixR R) (hR : Res I) (hT : Tabs I) {o : Int} (ho : I 302 608 = o) (h0 : o = 0 ∨ o = 1) {n : Nat} {G : Nat → Nat → Int} (hw : Rws I n G) (hG : Gd o n G) (hX : Xs o n (srO 1 o G (n - 1))) (hn22 : n ≤ 22) {z : Nat} (hzn : z < n - 1) (hz : ∀ k, k < z → led o (spG o n (srO 1 o G (n - 1)) k) < 0) (hz2 : ¬ led o (spG o n (srO 1 o G (n - 1)) z) < 0) : ∃ J, am_run am_tb (d + 7) 198 [vR 301] (LH L I R u) = some ([vI 1], LH L J R u) ∧ Fw I J ∧ Rws J (n + 1) (au (srO 1 o G (n - 1)) n (mon o (spG o n (srO 1 o G (n - 1)) z))) := by
  have h23 := hG.1
  have hG2 : Gd o n (srO 1 o G (n - 1)) := srO_Gd hG (Nat.le_refl _)
  obtain ⟨K, hso, hFK, hKw⟩ := s_sorts (d := d + 2) (L := L) (u := u) (I := I) hF hR hT (b := 1) (Or.inr rfl) ho h0 hw hG
  have htk := s_takesBy (d := d + 4) (L := L) (u := u) (I := K) hF (b := -20001) (q := n) (by omega) hKw.1 (by omega)
  have hF1 := Fw_t hFK (tk_Fw (I := K) (b := -20001) (n := n) hFK.2.2.2)
  have hN1 : tkN (-20001) n = n := if_neg (by omega)
  have hB1 : Bys (tkI K (-20001) n) n := ⟨by show ((tkN (-20001) n : Nat) : Int) = _; rw [hN1], fun j hj => by
    show (if j < tkN (-20001) n then tkE (-20001) j else K 312 j) = _
    rw [hN1, if_pos hj]
    exact if_neg (by omega)⟩
  have hw1 : Rws (tkI K (-20001) n) n (srO 1 o G (n - 1)) := ⟨hKw.1, hKw.2⟩
  generalize srO 1 o G (n - 1) = G2 at *
  generalize tkI K (-20001) n = K1 at *

  have key := lp_inv (f := am_ev (am_run am_tb (d + 6)) wX12_isOneMore_14) (L := 14) (fun k x => k ≤ n - 1 ∧ ∃ J, x = ([vR 301, vI ((k + 1 : Nat) : Int)], [], LH L J R u) ∧ Fw I J ∧ Rws J n G2 ∧ Bys J n) (fun r => ∃ J, r = (1, [vR 301, vI ((z + 1 : Nat) : Int)], [vI 1], LH L J R u) ∧ Fw I J ∧ Rws J (n + 1) (au G2 n (mon o (spG o n G2 z)))) z (x := ([vR 301, vI 1], [], LH L K1 R u)) ⟨Nat.zero_le _, K1, rfl, hF1, hw1, hB1⟩ (ltF (by omega)) (fun k y hk hp => ?_) (fun y hp => ?_)
  · obtain ⟨r, e, J, er, h⟩ := key
    rw [er] at e
    refine ⟨J, ?_, h⟩
    refine run_of tb_X12_isOneMore (Nat.le_of_ble_eq_true rfl) ?_

    show ∃ ls', am_ev (am_run am_tb (d + 6)) tX12_isOneMore ([vR 301, vU], [], LH L I R u) = some (1, ls', [vI 1], LH L J R u)
    apply Exists.intro
    unfold tX12_isOneMore
    apply t_Q
    · apply t_S
      refine x_aload_n rfl ?_
      refine x_iconst ?_
      refine x_V2v tg_301 (Nat.le_of_ble_eq_true rfl) (hso) ?_
      refine x_aload_n rfl ?_
      refine x_sipush ?_
      refine x_V2v tg_301 (Nat.le_of_ble_eq_true rfl) (htk) ?_
      refine x_iconst ?_
      refine x_istore_n rfl ?_
      exact rfl
    apply t_Qs
    apply t_Ks
    · apply t_W
      exact e
    · decide
  · obtain ⟨_, J, e, hFJ, hwJ, hBJ⟩ := hp
    obtain ⟨M, e2, hFM, hwM, hBM⟩ := st_one0 (d := d + 1) (L := L) (u := u) (I := J) hF hFJ.2.2.2 (Fw_T hFJ hT) (o := o) (by rw [hFJ.1 302 (by decide) (by decide)]; exact ho) h0 hwJ hG2 hX hBJ (k := k) (by omega) (hz k hk)
    exact ⟨_, by rw [e]; exact e2, ⟨by omega, M, rfl, Fw_t hFJ hFM, hwM, hBM⟩⟩
  · obtain ⟨_, J, e, hFJ, hwJ, hBJ⟩ := hp
    obtain ⟨M, e2, hFM, hwM⟩ := st_one1 (d := d + 1) (L := L) (u := u) (I := J) hF hFJ.2.2.2 (Fw_T hFJ hT) (o := o) (by rw [hFJ.1 302 (by decide) (by decide)]; exact ho) h0 hwJ hG2 hX hBJ (k := z) (by omega) hn22 hz2
    exact ⟨_, by rw [e]; exact e2, by show ¬ 1 = 14 + 2; decide, M, rfl, Fw_t hFJ hFM, hwM⟩
