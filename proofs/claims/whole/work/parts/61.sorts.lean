/-! The reference: tidies, sorts, crosses. Written by wip/whole/gen_61.py. -/
set_option maxRecDepth 10000 in
theorem lp_tidy1 {d L : Nat} {I : Nat → Nat → Int} {R : Nat → Nat → Option Nat} {u : Int64} (hF : FixR R) (hR : Res I) (hT : Tabs I) {o : Int} (ho : I 302 608 = o) (h0 : o = 0 ∨ o = 1) {n : Nat} {G : Nat → Nat → Int} (hw : Rws I n G) (hG : Gd o n G) : ∃ J, am_lp (am_ev (am_run am_tb (d + 5)) wX12_tidies_15) 15 am_F ([vR 301, vI 0, vI ((n : Int) - 1)], [], LH L I R u) = some (97, [vR 301, vI (tdP o n G n).2.2, vI (-1)], [], LH L J R u) ∧ Fw I J ∧ Rws J (tdP o n G n).1 (tdP o n G n).2.1 := by
  have h23 := hG.1
  have key := lp_inv (f := am_ev (am_run am_tb (d + 5)) wX12_tidies_15) (L := 15) (fun k x => k ≤ n ∧ ∃ J, x = ([vR 301, vI (tdP o n G k).2.2, vI ((n : Int) - 1 - k)], [], LH L J R u) ∧ Fw I J ∧ Rws J (tdP o n G k).1 (tdP o n G k).2.1) (fun r => ∃ J, r = (97, [vR 301, vI (tdP o n G n).2.2, vI (-1)], [], LH L J R u) ∧ Fw I J ∧ Rws J (tdP o n G n).1 (tdP o n G n).2.1) n (x := ([vR 301, vI 0, vI ((n : Int) - 1)], [], LH L I R u)) ⟨Nat.zero_le _, I, by
      show _ = ([vR 301, vI 0, vI ((n : Int) - 1 - ((0 : Nat) : Int))], [], LH L I R u)
      rw [show (n : Int) - 1 - ((0 : Nat) : Int) = (n : Int) - 1 by omega], Fw_r hR, hw⟩ (ltF (by omega)) (fun k y hk hp => ?_) (fun y hp => ?_)
  · obtain ⟨r, e, J, er, h⟩ := key
    exact ⟨J, by rw [e, er], h⟩
  · obtain ⟨_, J, e, hFJ, hwJ⟩ := hp
    have hok := tdP_ok hG (show k ≤ n by omega)
    obtain ⟨K, e2, hFK, hwK⟩ := st_tidies (d := d) (L := L) (u := u) (I := J) hF hFJ.2.2.2 (Fw_T hFJ hT) (o := o) (by rw [hFJ.1 302 (by decide) (by decide)]; exact ho) h0 (s := tdP o n G k) hwJ hok.1 hok.2.2.2 (r := n - 1 - k) (by omega)
    have e3 : tdP o n G (k + 1) = tdS o (n - 1 - k) (tdP o n G k) := rfl
    refine ⟨([vR 301, vI (tdP o n G (k + 1)).2.2, vI ((n : Int) - 1 - ((k + 1 : Nat) : Int))], [], LH L K R u), ?_, ⟨by omega, K, rfl, Fw_t hFJ hFK, ?_⟩⟩
    · rw [e, e3, show (n : Int) - 1 - (k : Int) = ((n - 1 - k : Nat) : Int) by omega, e2, show (n : Int) - 1 - ((k + 1 : Nat) : Int) = ((n - 1 - k : Nat) : Int) - 1 by omega]
    · rw [e3]; exact hwK
  · obtain ⟨_, J, e, hFJ, hwJ⟩ := hp
    refine ⟨(97, [vR 301, vI (tdP o n G n).2.2, vI (-1)], [], LH L J R u), ?_, by show ¬ 97 = 15 + 2; decide, J, rfl, hFJ, hwJ⟩
    rw [e, show (n : Int) - 1 - (n : Int) = -1 by omega]
    unfold wX12_tidies_15
    apply t_Qs
    apply t_B
    · refine x_iload_n rfl ?_
      exact rfl
    exact t_if_lt_t (by omega)
set_option maxRecDepth 10000 in
theorem s_tidies {d L : Nat} {I : Nat → Nat → Int} {R : Nat → Nat → Option Nat} {u : Int64} (hF : FixR R) (hR : Res I) (hT : Tabs I) {o : Int} (ho : I 302 608 = o) (h0 : o = 0 ∨ o = 1) {n : Nat} {G : Nat → Nat → Int} (hw : Rws I n G) (hG : Gd o n G) {N : Nat} (hN : N ≤ 1000000) (h1 : ∀ k, k < N → (tdI o n G k).2.2 = 1) (h2 : (tdI o n G N).2.2 = 0) : ∃ J, am_run am_tb (d + 6) 193 [vR 301] (LH L I R u) = some ([], LH L J R u) ∧ Fw I J ∧ Rws J (tdI o n G N).1 (tdI o n G N).2.1 := by
  have h23 := hG.1
  have key := lp_inv (f := am_ev (am_run am_tb (d + 5)) wX12_tidies_2) (L := 2) (fun k x => ∃ J z, x = ([vR 301, vI (tdI o n G k).2.2, z], [], LH L J R u) ∧ Fw I J ∧ Rws J (tdI o n G k).1 (tdI o n G k).2.1) (fun r => ∃ J z, r = (100, [vR 301, vI (tdI o n G N).2.2, z], [], LH L J R u) ∧ Fw I J ∧ Rws J (tdI o n G N).1 (tdI o n G N).2.1) N (x := ([vR 301, vI 1, vU], [], LH L I R u)) ⟨I, vU, rfl, Fw_r hR, hw⟩ (Nat.lt_of_le_of_lt hN (by decide)) (fun k y hk hp => ?_) (fun y hp => ?_)
  · obtain ⟨r, e, J, z, er, h⟩ := key
    rw [er] at e
    refine ⟨J, ?_, h⟩
    refine run_of tb_X12_tidies (Nat.le_of_ble_eq_true rfl) ?_
    show ∃ ls', am_ev (am_run am_tb (d + 5)) tX12_tidies ([vR 301, vU, vU], [], LH L I R u) = some (1, ls', [], LH L J R u)
    apply Exists.intro
    unfold tX12_tidies
    apply t_Q
    · apply t_S
      refine x_iconst ?_
      refine x_istore_n rfl ?_
      exact rfl
    apply t_Q
    · apply t_K
      apply t_W
      exact e
    apply t_B
    · exact rfl
    exact rfl
  · obtain ⟨J, z, e, hFJ, hwJ⟩ := hp
    have hok := tdI_ok hG k
    have hf1 := h1 k hk
    obtain ⟨K, e2, hFK, hwK⟩ := lp_tidy1 (d := d) (L := L) (u := u) (I := J) hF hFJ.2.2.2 (Fw_T hFJ hT) (o := o) (by rw [hFJ.1 302 (by decide) (by decide)]; exact ho) h0 hwJ hok.1
    have e3 : tdI o n G (k + 1) = tdP o (tdI o n G k).1 (tdI o n G k).2.1 (tdI o n G k).1 := rfl
    refine ⟨([vR 301, vI (tdI o n G (k + 1)).2.2, vI (-1)], [], LH L K R u), ?_, ⟨K, vI (-1), rfl, Fw_t hFJ hFK, by rw [e3]; exact hwK⟩⟩
    rw [e, e3, hf1]
    unfold wX12_tidies_2
    apply t_Q
    · apply t_B
      · refine x_iload_n rfl ?_
        exact rfl
      exact t_if_eq_f (by omega)
    apply t_Q
    · apply t_S
      refine x_iconst ?_
      refine x_istore_n rfl ?_
      refine x_aload_n rfl ?_
      refine x_giv tg_301 rfl (show _ = (((tdI o n G k).1 : Nat) : Int) from hwJ.1) ?_
      refine x_iconst ?_
      refine x_isub ?_
      refine x_istore_n rfl ?_
      exact rfl
    apply t_Q
    · apply t_K
      apply t_W
      exact e2
    apply t_B
    · exact rfl
    exact t_goto
  · obtain ⟨J, z, e, hFJ, hwJ⟩ := hp
    refine ⟨(100, [vR 301, vI (tdI o n G N).2.2, z], [], LH L J R u), ?_, by show ¬ 100 = 2 + 2; decide, J, z, rfl, hFJ, hwJ⟩
    rw [e, h2]
    unfold wX12_tidies_2
    apply t_Qs
    apply t_B
    · refine x_iload_n rfl ?_
      exact rfl
    exact t_if_eq_t (by omega)
/-- the key of a row: x of the lead, or the rank of the lead -/
def kyo (b o : Int) (f : Nat → Int) : Nat := if b = 1 then xw (lw o f) else rk o (lw o f)
def exG (G : Nat → Nat → Int) (t w : Nat) : Nat → Nat → Int := fun j => if j = t then G w else if j = w then G t else G j
def srS (b o : Int) (k : Nat) (G : Nat → Nat → Int) : Nat → Nat → Int := if kyo b o (G k) < kyo b o (G (k - 1)) then exG G (k - 1) k else G
def srP (b o : Int) (r : Nat) (G : Nat → Nat → Int) : Nat → Nat → Nat → Int
  | 0 => G
  | j + 1 => srS b o (r - j) (srP b o r G j)
def srO (b o : Int) (G : Nat → Nat → Int) : Nat → Nat → Nat → Int
  | 0 => G
  | m + 1 => srP b o (m + 1) (srO b o G m) (m + 1)
theorem exG_Gd {o : Int} {n t w : Nat} {G : Nat → Nat → Int} (h : Gd o n G) (ht : t < n) (hw : w < n) : Gd o n (exG G t w) := ⟨h.1, fun j hj => by
  show resa (if j = t then G w else if j = w then G t else G j) ∧ ¬ led o (if j = t then G w else if j = w then G t else G j) < 0
  split
  · exact h.2 w hw
  · split
    · exact h.2 t ht
    · exact h.2 j hj⟩
theorem srS_Gd {b o : Int} {n k : Nat} {G : Nat → Nat → Int} (h : Gd o n G) (hk : k < n) : Gd o n (srS b o k G) := by
  unfold srS
  split
  · exact exG_Gd h (by omega) hk
  · exact h
theorem srP_Gd {b o : Int} {n r : Nat} {G : Nat → Nat → Int} (h : Gd o n G) (hr : r < n) (j : Nat) : Gd o n (srP b o r G j) := by
  induction j with
  | zero => exact h
  | succ j ih => exact srS_Gd ih (by omega)
theorem srO_Gd {b o : Int} {n : Nat} {G : Nat → Nat → Int} (h : Gd o n G) {m : Nat} (hm : m ≤ n - 1) : Gd o n (srO b o G m) := by
  induction m with
  | zero => exact h
  | succ m ih => exact srP_Gd (ih (by omega)) (by omega) _
theorem ahd_rk {o : Int} {w v : Nat} : (wn v < wn w ∨ (wn w = wn v ∧ (o = 0 ∧ dw v < dw w ∨ o ≠ 0 ∧ xw v < xw w))) ↔ rk o v < rk o w := by
  constructor
  · intro h
    cases h with
    | inl h => exact rk_d h
    | inr h =>
      unfold rk
      rw [h.1]
      cases h.2 with
      | inl q => rw [if_pos q.1, if_pos q.1]; omega
      | inr q => rw [if_neg q.1, if_neg q.1]; omega
  · intro h
    have a := rk_le_wn (Nat.le_of_lt h)
    by_cases c : wn v = wn w
    · right
      refine ⟨c.symm, ?_⟩
      unfold rk at h
      rw [c] at h
      by_cases c0 : o = 0
      · rw [if_pos c0, if_pos c0] at h; left; exact ⟨c0, by omega⟩
      · rw [if_neg c0, if_neg c0] at h; right; exact ⟨c0, by omega⟩
    · left; omega
theorem ex_Rws {I : Nat → Nat → Int} {n t w : Nat} {G : Nat → Nat → Int} (h : Rws I n G) (h23 : n ≤ 23) (ht : t < n) (hw : w < n) (hne : t ≠ w) : Rws (exI I t w) n (exG G t w) := by
  refine ⟨h.1, fun j hj v hv => ?_⟩
  show gro (sro (sro (sro I 26 (gro I t)) t (gro I w)) w (gro I t)) j v = (if j = t then G w else if j = w then G t else G j) v
  by_cases c1 : j = t
  · rw [if_pos c1, c1, gro_n hv hne, gro_s hv]; exact h.2 w hw v hv
  · rw [if_neg c1]
    by_cases c2 : j = w
    · rw [if_pos c2, c2, gro_s hv]; exact h.2 t ht v hv
    · rw [if_neg c2, gro_n hv c2, gro_n hv c1, gro_n hv (by omega)]; exact h.2 j hj v hv
theorem ex_Fw {I : Nat → Nat → Int} {t w : Nat} (hR : Res I) : Fw I (exI I t w) := Fw_s (Fw_s (Fw_s (Fw_r hR) (fun _ _ => hR _)) (fun _ _ => hR _)) (fun _ _ => hR _)
set_option maxRecDepth 10000 in
theorem st_sorts {d L : Nat} {I : Nat → Nat → Int} {R : Nat → Nat → Option Nat} {u : Int64} (hF : FixR R) (hR : Res I) (hT : Tabs I) {o b : Int} (hb : b = 0 ∨ b = 1) (ho : I 302 608 = o) (h0 : o = 0 ∨ o = 1) {n : Nat} {G : Nat → Nat → Int} (hw : Rws I n G) (hG : Gd o n G) {r : Int} {k : Nat} (hk : k + 1 < n) {z4 z5 : am_V} : ∃ J y4 y5, am_ev (am_run am_tb (d + 3)) wX12_sorts_12 ([vR 301, vI b, vI r, vI ((k + 1 : Nat) : Int), z4, z5], [], LH L I R u) = some (14, [vR 301, vI b, vI r, vI (k : Int), y4, y5], [], LH L J R u) ∧ Fw I J ∧ Rws J n (srS b o (k + 1) G) := by
  have h23 := hG.1
  have hl1 := lw_ok (hG.2 k (by omega)).2
  have hl2 := lw_ok (hG.2 (k + 1) hk).2
  have hx1 := xw_dw (lw o (G k))
  have hx2 := xw_dw (lw o (G (k + 1)))
  have hn1 := wn_30 hl1.1
  have hn2 := wn_30 hl2.1
  have hd1 := s_leadIn (d := d) (L := L) (u := u) (I := I) hF hR hT (o := o) ho h0 (row := k) (by omega)
  have hd2 := s_leadIn (d := d) (L := L) (u := u) (I := I) hF hR hT (o := o) ho h0 (row := k + 1) (by omega)
  rw [led_c (hw.2 k (by omega)), hl1.2.1] at hd1
  rw [led_c (hw.2 (k + 1) hk), hl2.2.1] at hd2
  have hah := s_isAhead (d := d + 2) (L := L) (u := u) (I := I) hF hT (o := o) ho h0 hl1.1 hl2.1
  have hex := s_exchanges (d := d) (L := L) (u := u) (I := I) hF (t := k) (w := k + 1) (by omega) (by omega) (by omega)
  have hexR := ex_Rws hw h23 (show k < n by omega) hk (by omega)
  have hexF := ex_Fw (I := I) (t := k) (w := k + 1) hR
  have es : srS b o (k + 1) G = if kyo b o (G (k + 1)) < kyo b o (G k) then exG G k (k + 1) else G := rfl

  have ek : ((k + 1 : Nat) : Int) - 1 = (k : Int) := by omega
  have ek2 : ((k + 1 : Nat) : Int) + -1 = (k : Int) := by omega
  by_cases c : kyo b o (G (k + 1)) < kyo b o (G k)
  · rw [es, if_pos c]
    refine ⟨exI I k (k + 1), vI (lw o (G k) : Nat), vI (lw o (G (k + 1)) : Nat), ?_, hexF, hexR⟩
    unfold kyo at c
    cases hb with
    | inl hb =>
      subst hb
      rw [if_neg (by decide), if_neg (by decide)] at c
      rw [if_pos (ahd_rk.mpr c)] at hah
      unfold wX12_sorts_12
      apply t_Q
      · apply t_B
        · refine x_iload_n rfl ?_
          exact rfl
        exact t_if_le_f (by omega)
      apply t_Q
      · apply t_S
        refine x_aload_n rfl ?_
        refine x_iload_n rfl ?_
        refine x_iconst ?_
        refine x_isub ?_
        rw [ek]
        refine x_V2i tg_301 (Nat.le_of_ble_eq_true rfl) (hd1) ?_
        refine x_istore rfl ?_
        refine x_aload_n rfl ?_
        refine x_iload_n rfl ?_
        refine x_V2i tg_301 (Nat.le_of_ble_eq_true rfl) (hd2) ?_
        refine x_istore rfl ?_
        refine x_iload_n rfl ?_
        exact rfl
      apply t_Q
      · apply t_Ks
        · apply t_Q
          · apply t_Ks
            · apply t_Q
              · apply t_K
                apply t_Qs
                apply t_B
                · exact rfl
                exact t_if_eq_t (by omega)
              apply t_B
              · refine x_aload_n rfl ?_
                refine x_iload rfl ?_
                refine x_iload rfl ?_
                refine x_V3i tg_301 (Nat.le_of_ble_eq_true rfl) (hah) ?_
                exact rfl
              exact t_if_eq_f (by omega)
            · decide
          apply t_S
          refine x_aload_n rfl ?_
          refine x_iload_n rfl ?_
          refine x_iconst ?_
          refine x_isub ?_
          rw [ek]
          refine x_iload_n rfl ?_
          refine x_V3v tg_301 (Nat.le_of_ble_eq_true rfl) (hex) ?_
          exact rfl
        · decide
      apply t_B
      · refine x_iinc rfl rfl ?_
        exact rfl
      exact t_goeq (by rw [ek2]; rfl)
    | inr hb =>
      subst hb
      rw [if_pos rfl, if_pos rfl] at c
      unfold wX12_sorts_12
      apply t_Q
      · apply t_B
        · refine x_iload_n rfl ?_
          exact rfl
        exact t_if_le_f (by omega)
      apply t_Q
      · apply t_S
        refine x_aload_n rfl ?_
        refine x_iload_n rfl ?_
        refine x_iconst ?_
        refine x_isub ?_
        rw [ek]
        refine x_V2i tg_301 (Nat.le_of_ble_eq_true rfl) (hd1) ?_
        refine x_istore rfl ?_
        refine x_aload_n rfl ?_
        refine x_iload_n rfl ?_
        refine x_V2i tg_301 (Nat.le_of_ble_eq_true rfl) (hd2) ?_
        refine x_istore rfl ?_
        refine x_iload_n rfl ?_
        exact rfl
      apply t_Q
      · apply t_Ks
        · apply t_Q
          · apply t_K
            apply t_Qs
            apply t_Ks
            · apply t_Q
              · apply t_B
                · exact rfl
                exact t_if_eq_f (by omega)
              apply t_Q
              · apply t_B
                · refine x_aload_n rfl ?_
                  refine x_gr tg_301 rfl (fx_301_7 hF) ?_
                  refine x_iload rfl ?_
                  refine x_ialdv (Or.inl tg_307) (ln_307 L) (by omega) (show I 307 (Int.toNat (((lw o (G k)) : Nat) : Int)) = ((xw (lw o (G k)) : Nat) : Int) from (congrArg (I 307) (Int.toNat_natCast (lw o (G k)))).trans (hT.1 _ hl1.1)) ?_
                  refine x_aload_n rfl ?_
                  refine x_gr tg_301 rfl (fx_301_7 hF) ?_
                  refine x_iload rfl ?_
                  refine x_ialdv (Or.inl tg_307) (ln_307 L) (by omega) (show I 307 (Int.toNat (((lw o (G (k + 1))) : Nat) : Int)) = ((xw (lw o (G (k + 1))) : Nat) : Int) from (congrArg (I 307) (Int.toNat_natCast (lw o (G (k + 1))))).trans (hT.1 _ hl2.1)) ?_
                  exact rfl
                exact t_ic_le_f (by omega)
              apply t_B
              · exact rfl
              exact t_goto
            · decide
          apply t_S
          refine x_aload_n rfl ?_
          refine x_iload_n rfl ?_
          refine x_iconst ?_
          refine x_isub ?_
          rw [ek]
          refine x_iload_n rfl ?_
          refine x_V3v tg_301 (Nat.le_of_ble_eq_true rfl) (hex) ?_
          exact rfl
        · decide
      apply t_B
      · refine x_iinc rfl rfl ?_
        exact rfl
      exact t_goeq (by rw [ek2]; rfl)
  · rw [es, if_neg c]
    refine ⟨I, vI (lw o (G k) : Nat), vI (lw o (G (k + 1)) : Nat), ?_, Fw_r hR, hw⟩
    unfold kyo at c
    cases hb with
    | inl hb =>
      subst hb
      rw [if_neg (by decide), if_neg (by decide)] at c
      rw [if_neg (fun z => c (ahd_rk.mp z))] at hah
      unfold wX12_sorts_12
      apply t_Q
      · apply t_B
        · refine x_iload_n rfl ?_
          exact rfl
        exact t_if_le_f (by omega)
      apply t_Q
      · apply t_S
        refine x_aload_n rfl ?_
        refine x_iload_n rfl ?_
        refine x_iconst ?_
        refine x_isub ?_
        rw [ek]
        refine x_V2i tg_301 (Nat.le_of_ble_eq_true rfl) (hd1) ?_
        refine x_istore rfl ?_
        refine x_aload_n rfl ?_
        refine x_iload_n rfl ?_
        refine x_V2i tg_301 (Nat.le_of_ble_eq_true rfl) (hd2) ?_
        refine x_istore rfl ?_
        refine x_iload_n rfl ?_
        exact rfl
      apply t_Q
      · apply t_K
        apply t_Qs
        apply t_Ks
        · apply t_Q
          · apply t_K
            apply t_Qs
            apply t_B
            · exact rfl
            exact t_if_eq_t (by omega)
          apply t_B
          · refine x_aload_n rfl ?_
            refine x_iload rfl ?_
            refine x_iload rfl ?_
            refine x_V3i tg_301 (Nat.le_of_ble_eq_true rfl) (hah) ?_
            exact rfl
          exact t_if_eq_t (by omega)
        · decide
      apply t_B
      · refine x_iinc rfl rfl ?_
        exact rfl
      exact t_goeq (by rw [ek2]; rfl)
    | inr hb =>
      subst hb
      rw [if_pos rfl, if_pos rfl] at c
      unfold wX12_sorts_12
      apply t_Q
      · apply t_B
        · refine x_iload_n rfl ?_
          exact rfl
        exact t_if_le_f (by omega)
      apply t_Q
      · apply t_S
        refine x_aload_n rfl ?_
        refine x_iload_n rfl ?_
        refine x_iconst ?_
        refine x_isub ?_
        rw [ek]
        refine x_V2i tg_301 (Nat.le_of_ble_eq_true rfl) (hd1) ?_
        refine x_istore rfl ?_
        refine x_aload_n rfl ?_
        refine x_iload_n rfl ?_
        refine x_V2i tg_301 (Nat.le_of_ble_eq_true rfl) (hd2) ?_
        refine x_istore rfl ?_
        refine x_iload_n rfl ?_
        exact rfl
      apply t_Q
      · apply t_K
        apply t_Qs
        apply t_Ks
        · apply t_Qs
          apply t_Ks
          · apply t_Q
            · apply t_B
              · exact rfl
              exact t_if_eq_f (by omega)
            apply t_Qs
            apply t_B
            · refine x_aload_n rfl ?_
              refine x_gr tg_301 rfl (fx_301_7 hF) ?_
              refine x_iload rfl ?_
              refine x_ialdv (Or.inl tg_307) (ln_307 L) (by omega) (show I 307 (Int.toNat (((lw o (G k)) : Nat) : Int)) = ((xw (lw o (G k)) : Nat) : Int) from (congrArg (I 307) (Int.toNat_natCast (lw o (G k)))).trans (hT.1 _ hl1.1)) ?_
              refine x_aload_n rfl ?_
              refine x_gr tg_301 rfl (fx_301_7 hF) ?_
              refine x_iload rfl ?_
              refine x_ialdv (Or.inl tg_307) (ln_307 L) (by omega) (show I 307 (Int.toNat (((lw o (G (k + 1))) : Nat) : Int)) = ((xw (lw o (G (k + 1))) : Nat) : Int) from (congrArg (I 307) (Int.toNat_natCast (lw o (G (k + 1))))).trans (hT.1 _ hl2.1)) ?_
              exact rfl
            exact t_ic_le_t (by omega)
          · decide
        · decide
      apply t_B
      · refine x_iinc rfl rfl ?_
        exact rfl
      exact t_goeq (by rw [ek2]; rfl)
set_option maxRecDepth 10000 in
theorem lp_sorts1 {d L : Nat} {I : Nat → Nat → Int} {R : Nat → Nat → Option Nat} {u : Int64} (hF : FixR R) (hR : Res I) (hT : Tabs I) {o b : Int} (hb : b = 0 ∨ b = 1) (ho : I 302 608 = o) (h0 : o = 0 ∨ o = 1) {n : Nat} {G : Nat → Nat → Int} (hw : Rws I n G) (hG : Gd o n G) {r : Nat} (hr : r < n) {z4 z5 : am_V} : ∃ J y4 y5, am_lp (am_ev (am_run am_tb (d + 3)) wX12_sorts_12) 12 am_F ([vR 301, vI b, vI r, vI r, z4, z5], [], LH L I R u) = some (83, [vR 301, vI b, vI r, vI 0, y4, y5], [], LH L J R u) ∧ Fw I J ∧ Rws J n (srP b o r G r) := by
  have h23 := hG.1
  have key := lp_inv (f := am_ev (am_run am_tb (d + 3)) wX12_sorts_12) (L := 12) (fun k x => k ≤ r ∧ ∃ J y4 y5, x = ([vR 301, vI b, vI r, vI ((r - k : Nat) : Int), y4, y5], [], LH L J R u) ∧ Fw I J ∧ Rws J n (srP b o r G k)) (fun q => ∃ J y4 y5, q = (83, [vR 301, vI b, vI r, vI 0, y4, y5], [], LH L J R u) ∧ Fw I J ∧ Rws J n (srP b o r G r)) r (x := ([vR 301, vI b, vI r, vI r, z4, z5], [], LH L I R u)) ⟨Nat.zero_le _, I, z4, z5, rfl, Fw_r hR, hw⟩ (ltF (by omega)) (fun k y hk hp => ?_) (fun y hp => ?_)
  · obtain ⟨q, e, J, y4, y5, eq, h⟩ := key
    exact ⟨J, y4, y5, by rw [e, eq], h⟩
  · obtain ⟨_, J, y4, y5, e, hFJ, hwJ⟩ := hp
    obtain ⟨K, x4, x5, e2, hFK, hwK⟩ := st_sorts (d := d) (L := L) (u := u) (I := J) hF hFJ.2.2.2 (Fw_T hFJ hT) hb (by rw [hFJ.1 302 (by decide) (by decide)]; exact ho) h0 hwJ (srP_Gd hG hr k) (r := (r : Int)) (k := r - k - 1) (by omega) (z4 := y4) (z5 := y5)
    rw [show r - k - 1 + 1 = r - k by omega] at e2 hwK
    refine ⟨([vR 301, vI b, vI r, vI ((r - (k + 1) : Nat) : Int), x4, x5], [], LH L K R u), ?_, ⟨by omega, K, x4, x5, rfl, Fw_t hFJ hFK, hwK⟩⟩
    rw [e, e2, show r - (k + 1) = r - k - 1 by omega]
  · obtain ⟨_, J, y4, y5, e, hFJ, hwJ⟩ := hp
    refine ⟨(83, [vR 301, vI b, vI r, vI 0, y4, y5], [], LH L J R u), ?_, by show ¬ 83 = 12 + 2; decide, J, y4, y5, rfl, hFJ, hwJ⟩
    rw [e, show ((r - r : Nat) : Int) = 0 by omega]
    unfold wX12_sorts_12
    apply t_Qs
    apply t_B
    · refine x_iload_n rfl ?_
      exact rfl
    exact t_if_le_t (by omega)
set_option maxRecDepth 10000 in
theorem s_sorts {d L : Nat} {I : Nat → Nat → Int} {R : Nat → Nat → Option Nat} {u : Int64} (hF : FixR R) (hR : Res I) (hT : Tabs I) {o b : Int} (hb : b = 0 ∨ b = 1) (ho : I 302 608 = o) (h0 : o = 0 ∨ o = 1) {n : Nat} {G : Nat → Nat → Int} (hw : Rws I n G) (hG : Gd o n G) : ∃ J, am_run am_tb (d + 4) 196 [vR 301, vI b] (LH L I R u) = some ([], LH L J R u) ∧ Fw I J ∧ Rws J n (srO b o G (n - 1)) := by
  have h23 := hG.1
  have key := lp_inv (f := am_ev (am_run am_tb (d + 3)) wX12_sorts_2) (L := 2) (fun k x => k ≤ n - 1 ∧ ∃ J y3 y4 y5, x = ([vR 301, vI b, vI ((k + 1 : Nat) : Int), y3, y4, y5], [], LH L J R u) ∧ Fw I J ∧ Rws J n (srO b o G k)) (fun q => ∃ J y3 y4 y5, q = (89, [vR 301, vI b, vI ((n - 1 + 1 : Nat) : Int), y3, y4, y5], [], LH L J R u) ∧ Fw I J ∧ Rws J n (srO b o G (n - 1))) (n - 1) (x := ([vR 301, vI b, vI 1, vU, vU, vU], [], LH L I R u)) ⟨Nat.zero_le _, I, vU, vU, vU, rfl, Fw_r hR, hw⟩ (ltF (by omega)) (fun k y hk hp => ?_) (fun y hp => ?_)
  · obtain ⟨r, e, J, y3, y4, y5, er, h⟩ := key
    rw [er] at e
    refine ⟨J, ?_, h⟩
    refine run_of tb_X12_sorts (Nat.le_of_ble_eq_true rfl) ?_
    show ∃ ls', am_ev (am_run am_tb (d + 3)) tX12_sorts ([vR 301, vI b, vU, vU, vU, vU], [], LH L I R u) = some (1, ls', [], LH L J R u)
    apply Exists.intro
    unfold tX12_sorts
    apply t_Q
    · apply t_S
      refine x_iconst ?_
      refine x_istore_n rfl ?_
      exact rfl
    apply t_Q
    · apply t_K
      apply t_W
      exact e
    apply t_B
    · exact rfl
    exact rfl
  · obtain ⟨_, J, y3, y4, y5, e, hFJ, hwJ⟩ := hp
    obtain ⟨K, x4, x5, e2, hFK, hwK⟩ := lp_sorts1 (d := d) (L := L) (u := u) (I := J) hF hFJ.2.2.2 (Fw_T hFJ hT) hb (by rw [hFJ.1 302 (by decide) (by decide)]; exact ho) h0 hwJ (srO_Gd hG (show k ≤ n - 1 by omega)) (r := k + 1) (by omega) (z4 := y4) (z5 := y5)
    refine ⟨([vR 301, vI b, vI ((k + 1 + 1 : Nat) : Int), vI 0, x4, x5], [], LH L K R u), ?_, ⟨by omega, K, vI 0, x4, x5, rfl, Fw_t hFJ hFK, hwK⟩⟩
    rw [e]
    unfold wX12_sorts_2
    apply t_Q
    · apply t_B
      · refine x_iload_n rfl ?_
        refine x_aload_n rfl ?_
        refine x_giv tg_301 rfl (show _ = ((n : Nat) : Int) from hwJ.1) ?_
        exact rfl
      exact t_ic_ge_f (by omega)
    apply t_Q
    · apply t_S
      refine x_iload_n rfl ?_
      refine x_istore_n rfl ?_
      exact rfl
    apply t_Q
    · apply t_K
      apply t_W
      exact e2
    apply t_B
    · refine x_iinc rfl rfl ?_
      exact rfl
    exact t_goeq (by rw [show ((k + 1 : Nat) : Int) + 1 = ((k + 1 + 1 : Nat) : Int) by omega]; rfl)
  · obtain ⟨_, J, y3, y4, y5, e, hFJ, hwJ⟩ := hp
    refine ⟨(89, [vR 301, vI b, vI ((n - 1 + 1 : Nat) : Int), y3, y4, y5], [], LH L J R u), ?_, by show ¬ 89 = 2 + 2; decide, J, y3, y4, y5, rfl, hFJ, hwJ⟩
    rw [e]
    unfold wX12_sorts_2
    apply t_Qs
    apply t_B
    · refine x_iload_n rfl ?_
      refine x_aload_n rfl ?_
      refine x_giv tg_301 rfl (show _ = ((n : Nat) : Int) from hwJ.1) ?_
      exact rfl
    exact t_ic_ge_t (by omega)
