/-! The class: readTerm, readExpression, evaluate. Written by wip/whole/gen_9c.py. -/
/-- the reader at depth e, its sum kept -/
def Ftm (e : Nat) (I J : Nat → Nat → Int) : Prop := ∀ a, ¬ (a = 158 ∨ a = 254 ∨ a = 258 ∨ a = 260 ∨ (264 + 4 * e ≤ a ∧ a ≤ 296)) → J a = I a
theorem Ftm_t {e : Nat} {I J K : Nat → Nat → Int} (h1 : Ftm e I J) (h2 : Ftm e J K) : Ftm e I K := fun a ha => (h2 a ha).trans (h1 a ha)
theorem Ftm_F {e : Nat} {I J : Nat → Nat → Int} (h : Fre (e + 1) I J) : Ftm e I J := fun a ha => h a (by omega)
theorem Fre_F {e : Nat} {I J : Nat → Nat → Int} (h : Ftm e I J) : Fre e I J := fun a ha => h a (by omega)
theorem Ftm_s {e c : Nat} {f : Nat → Int} {I J : Nat → Nat → Int} (h : Ftm e I J) (hc : c = 158 ∨ c = 258 ∨ c = 260 ∨ (264 + 4 * e ≤ c ∧ c ≤ 296)) : Ftm e I (stc J c f) := Ftm_t h (fun a ha => stc_o (by omega))
theorem Ftm_a {e p : Nat} {I J : Nat → Nat → Int} (h : Ftm e I J) : Ftm e I (atI J p) := Ftm_t h (fun a ha => atI_o (by omega))
theorem one_G : Gv one := ⟨one_b, by have := one_d; omega⟩
theorem bind_n {α β : Type} {o : Option α} {f : α → Option β} (h : o = none) : o.bind f = none := by rw [h]; rfl
theorem bind_s {α β : Type} {o : Option α} {f : α → Option β} {x : α} (h : o = some x) : o.bind f = f x := by rw [h]; rfl
set_option maxRecDepth 10000 in
theorem lp7_term {d L : Nat} {I : Nat → Nat → Int} {R : Nat → Nat → Option Nat} {u : Int64} (hF : FixR R) {b : Nat} (hx : Txc I b) (hB : Tbc I) {p e : Nat} (he : e ≤ 8) (hp : p ≤ b) (ha : I 254 6 = (p : Nat)) {ev : Nat → rdO} (hE : RdE (d + 8) L u R (I 109) b (e + 1) ev) (hE0 : e = 8 → ∀ q, ev q = none) (hc1 : ∀ j, j < 91 → I (264 + 4 * e) j = one j) : ∃ r, am_lp (am_ev (am_run am_tb (d + 9)) wX7_readTerm_14) 14 am_F ([vR 254, vI (e : Nat), vR (263 + 4 * e), vI (0 : Nat)], [], LH L I R u) = some r ∧ ∃ J ls, Ftm e I J ∧ Rdd J (b + (9 - e)) (264 + 4 * e) (tmC (I 109) b ev 120 one p) ∧ (r = (1, ls, [vI (if (tmC (I 109) b ev 120 one p).isSome then 1 else 0)], LH L J R u) ∨ (r = (102, ls, [], LH L J R u) ∧ (if (tmC (I 109) b ev 120 one p).isSome then (1 : Int) else 0) = 1)) := by
  have hb := hx.2.1
  refine lp_meas (fun N y => ∃ (k : Nat) (J : Nat → Nat → Int) (g : Nat → Int) (q : Nat), N = 120 - k ∧ k ≤ 120 ∧ y = ([vR 254, vI (e : Nat), vR (263 + 4 * e), vI (k : Nat)], [], LH L J R u) ∧ Ftm e I J ∧ Gv g ∧ (∀ j, j < 91 → J (264 + 4 * e) j = g j) ∧ q ≤ b ∧ J 254 6 = (q : Nat) ∧ tmC (I 109) b ev (120 - k) g q = tmC (I 109) b ev 120 one p) _ (fun N y hy => ?_) am_F 120 _ (ltF (by omega)) ⟨0, I, one, p, rfl, by omega, rfl, fun _ _ => rfl, one_G, hc1, hp, ha, rfl⟩
  obtain ⟨k, J, g, q, eN, hk, ey, hFJ, hg, hcg, hq, hq6, hres⟩ := hy
  subst ey
  generalize tmC (I 109) b ev 120 one p = o at *
  have hxJ : Txc J b := Fre_C (Fre_F hFJ) hx
  have hBJ : Tbc J := Fre_B (Fre_F hFJ) hB
  have hJ9 : J 109 = I 109 := Fre_9 (Fre_F hFJ)
  by_cases ck : k = 120
  · subst ck
    have ho : o = some (g, q) := by rw [← hres]; rfl
    refine ⟨(102, [vR 254, vI (e : Nat), vR (263 + 4 * e), vI (120 : Nat)], [], LH L J R u), ?_, Or.inr ⟨by show ¬ 102 = 14 + 2; decide, J, _, hFJ, ?_, Or.inr ⟨rfl, isS_s ho⟩⟩⟩
    · unfold wX7_readTerm_14
      apply t_Qs
      apply t_B
      · refine x_iload_n rfl ?_
        refine x_bipush ?_
        exact rfl
      exact t_ic_ge_t (by omega)
    · intro f r z
      rw [ho] at z
      cases z
      exact ⟨hq6, by omega, hg, hcg⟩
  have hres2 : (fcC (I 109) b ev q).bind (fun x => if dgr g < 0 ∨ dgr x.1 < 0 ∨ dgr g + dgr x.1 ≤ 12 then (if bt (I 109) b (skb (I 109) b x.2) = 42 then tmC (I 109) b ev (120 - (k + 1)) (mul g x.1) (skb (I 109) b x.2 + 1) else some (mul g x.1, skb (I 109) b x.2)) else none) = o := by
    rw [← hres, show 120 - k = 120 - (k + 1) + 1 by omega]
    rfl
  obtain ⟨K, hfac, hFK, hdK⟩ := s7_factor (d := d) (L := L) (u := u) (I := J) hF hxJ hBJ (p := q) (e := e) he hq hq6 (ev := ev) (by rw [hJ9]; exact hE) hE0
  rw [hJ9] at hfac hdK
  cases hfc : fcC (I 109) b ev q with
  | none =>
    rw [isS_n hfc] at hfac
    rw [bind_n hfc] at hres2
    subst hres2
    have key : ∃ ls, am_ev (am_run am_tb (d + 9)) wX7_readTerm_14 ([vR 254, vI (e : Nat), vR (263 + 4 * e), vI (k : Nat)], [], LH L J R u) = some (1, ls, [vI 0], LH L K R u) := by
      apply Exists.intro
      unfold wX7_readTerm_14
      apply t_Q
      · apply t_B
        · refine x_iload_n rfl ?_
          refine x_bipush ?_
          exact rfl
        exact t_ic_ge_f (by omega)
      apply t_Q
      · apply t_S
        refine x_aload_n rfl ?_
        refine x_iload_n rfl ?_
        refine x_V2i tg_254 (Nat.le_of_ble_eq_true rfl) (hfac) ?_
        exact rfl
      apply t_Qs
      apply t_Ks
      · apply t_Q
        · apply t_K
          apply t_Qs
          apply t_B
          · exact rfl
          exact t_if_eq_t (by omega)
        apply t_B
        · refine x_iconst ?_
          exact rfl
        exact t_ireq (Or.inr (by first | exact Or.inl rfl | exact Or.inr rfl)) rfl rfl
      · decide
    obtain ⟨ls, key⟩ := key
    exact ⟨_, key, Or.inr ⟨by show ¬ 1 = 14 + 2; decide, K, ls, Ftm_t hFJ (Ftm_F hFK), fun f r z => (by cases z), Or.inl rfl⟩⟩
  | some x =>
    obtain ⟨f, q2⟩ := x
    rw [isS_s hfc] at hfac
    rw [bind_s hfc] at hres2
    obtain ⟨k1, k2, k3, k4⟩ := hdK f q2 hfc
    have hFK2 := Ftm_t hFJ (Ftm_F hFK)
    have hxK : Txc K b := Fre_C (Fre_F hFK2) hx
    have hBK : Tbc K := Fre_B (Fre_F hFK2) hB
    have hK9 : K 109 = I 109 := Fre_9 (Fre_F hFK2)
    have hKg : ∀ j, j < 91 → K (264 + 4 * e) j = g j := fun j hj => by rw [hFK _ (by omega)]; exact hcg j hj
    have hclg : ∀ j, j < 496 → cl K (264 + 4 * e) j = g j := cl_a2 hKg hg.2
    have hclf : ∀ j, j < 496 → cl K 258 j = f j := cl_a2 k4 k3.2
    have hrg : Rsc K (264 + 4 * e) := fun j hj => by rw [hKg j hj]; exact hg.1 j (by omega)
    have hrf : Rsc K 258 := fun j hj => by rw [k4 j hj]; exact k3.1 j (by omega)
    have hpf := s1_productFits (d := d + 6) (L := L) (u := u) hBK.1 (op_pr hF (k := e) (by omega)) (op_257 hF) hrg hrf
    rw [dgr_c hclg, dgr_c hclf] at hpf
    by_cases c2 : dgr g < 0 ∨ dgr f < 0 ∨ dgr g + dgr f ≤ 12
    · have hres3 : (if bt (I 109) b (skb (I 109) b q2) = 42 then tmC (I 109) b ev (120 - (k + 1)) (mul g f) (skb (I 109) b q2 + 1) else some (mul g f, skb (I 109) b q2)) = o := by
        rw [← hres2]
        exact (if_pos c2).symm
      have hz := s6_makeZero (d := d + 7) (L := L) (u := u) (I := K) (op_259 hF)
      have hap := s1_addProduct (d := d + 6) (L := L) (u := u) (I := stc K 260 (fun _ => 0)) hF (Tbc_s hBK (by unfold Nt; omega)) (op_259 hF) (op_pr hF (k := e) (by omega)) (op_257 hF) (by unfold Nt; omega) (by omega) (by omega) (fun j hj => by rw [stc_s hj]; omega) (fun j hj => by rw [stc_o (by omega)]; exact hrf j hj) (fun j hj => by rw [stc_o (by omega)]; exact hrg j hj) (v := 1) (by omega) (by
        rw [cl_o (stc_o (by omega)), cl_o (stc_o (by omega)), dgr_c hclg, dgr_c hclf]
        exact c2)
      replace hap := ev_c hap (show _ = stc K 260 (mul g f) from stc_stc.trans (stc_c (fun j hj => by
        rw [stc_s hj, Int.one_mul, Int.zero_add, cl_o (stc_o (by omega)), cl_o (stc_o (by omega)), ← mul_v (cl_a hrg) (cl_a hrf) (by omega), mul_c hclg hclf])))
      have hcp := s6_copyFrom (d := d + 8) (L := L) (u := u) (I := stc K 260 (mul g f)) (R := R) (op_pr hF (k := e) (by omega)) (op_259 hF)
      obtain ⟨M, hM⟩ : ∃ M, M = stc (stc K 260 (mul g f)) (264 + 4 * e) (stc K 260 (mul g f) 260) := ⟨_, rfl⟩
      rw [← hM] at hcp
      have hFM : Ftm e I M := by rw [hM]; exact Ftm_s (Ftm_s hFK2 (by omega)) (by omega)
      have hM6 : M 254 6 = (q2 : Nat) := by rw [hM, stc_o (by omega), stc_o (by omega)]; exact k1
      have hMc : ∀ j, j < 91 → M (264 + 4 * e) j = mul g f j := fun j hj => by rw [hM, stc_s hj, stc_s hj]
      have hxM : Txc M b := Fre_C (Fre_F hFM) hx
      have hM9 : M 109 = I 109 := Fre_9 (Fre_F hFM)
      have hpk := s7_peek (d := d + 7) (L := L) (u := u) hF hxM (p := q2) (by omega) hM6
      rw [hM9] at hpk
      have hms := skb_max (T := I 109) (b := b) (p := q2)
      have hbt := bt_b hx (skb (I 109) b q2)
      have hgm : Gv (mul g f) := ⟨mul_r, fit_d hg.2 k3.2 c2⟩
      clear hM
      generalize mul g f = mgf at *
      by_cases c3 : bt (I 109) b (skb (I 109) b q2) = 42
      · rw [if_pos c3] at hres3
        have hlt := (bt_t (T := I 109) (b := b) (p := skb (I 109) b q2) (by omega)).1
        refine ⟨(14 + 2, [vR 254, vI (e : Nat), vR (263 + 4 * e), vI (k + 1 : Nat)], [], LH L (atI M (skb (I 109) b q2 + 1)) R u), ?_, Or.inl ⟨rfl, 120 - (k + 1), by omega, k + 1, _, mgf, skb (I 109) b q2 + 1, rfl, by omega, rfl, Ftm_a hFM, hgm, fun j hj => by rw [atI_o (by omega)]; exact hMc j hj, by omega, atI_6, hres3⟩⟩
        generalize skb (I 109) b q2 = q3 at *
        unfold wX7_readTerm_14
        apply t_Q
        · apply t_B
          · refine x_iload_n rfl ?_
            refine x_bipush ?_
            exact rfl
          exact t_ic_ge_f (by omega)
        apply t_Q
        · apply t_S
          refine x_aload_n rfl ?_
          refine x_iload_n rfl ?_
          refine x_V2i tg_254 (Nat.le_of_ble_eq_true rfl) (hfac) ?_
          exact rfl
        apply t_Q
        · apply t_K
          apply t_Qs
          apply t_Ks
          · apply t_Q
            · apply t_B
              · exact rfl
              exact t_if_eq_f (by omega)
            apply t_B
            · refine x_aload_n rfl ?_
              refine x_aload_n rfl ?_
              refine x_gr tg_254 rfl (fx_254_4 hF) ?_
              refine x_S2i (by decide) (Nat.le_of_ble_eq_true rfl) (ret_t c2 hpf) ?_
              exact rfl
            exact t_if_ne_t (by omega)
          · decide
        apply t_Q
        · apply t_S
          refine x_aload_n rfl ?_
          refine x_gr tg_254 rfl (fx_254_5 hF) ?_
          refine x_V1v tg_259 (Nat.le_of_ble_eq_true rfl) (hz) ?_
          refine x_aload_n rfl ?_
          refine x_gr tg_254 rfl (fx_254_0 hF) ?_
          refine x_aload_n rfl ?_
          refine x_gr tg_254 rfl (fx_254_5 hF) ?_
          refine x_iconst ?_
          refine x_aload_n rfl ?_
          refine x_aload_n rfl ?_
          refine x_gr tg_254 rfl (fx_254_4 hF) ?_
          refine x_V5v tg_110 (Nat.le_of_ble_eq_true rfl) (hap) ?_
          refine x_aload_n rfl ?_
          refine x_aload_n rfl ?_
          refine x_gr tg_254 rfl (fx_254_5 hF) ?_
          refine x_V2v (op_pr hF (k := e) (by omega)).1 (Nat.le_of_ble_eq_true rfl) (hcp) ?_
          refine x_aload_n rfl ?_
          refine x_V1i tg_254 (Nat.le_of_ble_eq_true rfl) (hpk) ?_
          refine x_bipush ?_
          exact rfl
        apply t_Q
        · apply t_K
          apply t_Qs
          apply t_B
          · exact rfl
          exact t_ic_eq_t (by omega)
        apply t_B
        · refine x_aload_n rfl ?_
          refine x_dup rfl ?_
          refine x_giv tg_254 rfl (show _ = ((q3 : Nat) : Int) from atI_6) ?_
          refine x_iconst ?_
          refine x_iadd ?_
          refine x_pi tg_254 rfl rfl ?_
          rw [atI_w (q := q3 + 1) (by omega)]
          refine x_iinc rfl rfl ?_
          exact rfl
        exact t_goeq rfl
      · rw [if_neg c3] at hres3
        have key : ∃ ls, am_ev (am_run am_tb (d + 9)) wX7_readTerm_14 ([vR 254, vI (e : Nat), vR (263 + 4 * e), vI (k : Nat)], [], LH L J R u) = some (1, ls, [vI 1], LH L (atI M (skb (I 109) b q2)) R u) := by
          apply Exists.intro
          unfold wX7_readTerm_14
          apply t_Q
          · apply t_B
            · refine x_iload_n rfl ?_
              refine x_bipush ?_
              exact rfl
            exact t_ic_ge_f (by omega)
          apply t_Q
          · apply t_S
            refine x_aload_n rfl ?_
            refine x_iload_n rfl ?_
            refine x_V2i tg_254 (Nat.le_of_ble_eq_true rfl) (hfac) ?_
            exact rfl
          apply t_Q
          · apply t_K
            apply t_Qs
            apply t_Ks
            · apply t_Q
              · apply t_B
                · exact rfl
                exact t_if_eq_f (by omega)
              apply t_B
              · refine x_aload_n rfl ?_
                refine x_aload_n rfl ?_
                refine x_gr tg_254 rfl (fx_254_4 hF) ?_
                refine x_S2i (by decide) (Nat.le_of_ble_eq_true rfl) (ret_t c2 hpf) ?_
                exact rfl
              exact t_if_ne_t (by omega)
            · decide
          apply t_Q
          · apply t_S
            refine x_aload_n rfl ?_
            refine x_gr tg_254 rfl (fx_254_5 hF) ?_
            refine x_V1v tg_259 (Nat.le_of_ble_eq_true rfl) (hz) ?_
            refine x_aload_n rfl ?_
            refine x_gr tg_254 rfl (fx_254_0 hF) ?_
            refine x_aload_n rfl ?_
            refine x_gr tg_254 rfl (fx_254_5 hF) ?_
            refine x_iconst ?_
            refine x_aload_n rfl ?_
            refine x_aload_n rfl ?_
            refine x_gr tg_254 rfl (fx_254_4 hF) ?_
            refine x_V5v tg_110 (Nat.le_of_ble_eq_true rfl) (hap) ?_
            refine x_aload_n rfl ?_
            refine x_aload_n rfl ?_
            refine x_gr tg_254 rfl (fx_254_5 hF) ?_
            refine x_V2v (op_pr hF (k := e) (by omega)).1 (Nat.le_of_ble_eq_true rfl) (hcp) ?_
            refine x_aload_n rfl ?_
            refine x_V1i tg_254 (Nat.le_of_ble_eq_true rfl) (hpk) ?_
            refine x_bipush ?_
            exact rfl
          apply t_Qs
          apply t_Ks
          · apply t_Q
            · apply t_B
              · exact rfl
              exact t_ic_eq_f (by omega)
            apply t_B
            · refine x_iconst ?_
              exact rfl
            exact t_ireq (Or.inr (by first | exact Or.inl rfl | exact Or.inr rfl)) rfl rfl
          · decide
        obtain ⟨ls, key⟩ := key
        refine ⟨_, key, Or.inr ⟨by show ¬ 1 = 14 + 2; decide, atI M (skb (I 109) b q2), ls, Ftm_a hFM, fun f' r' z => ?_, Or.inl (by rw [isS_s hres3.symm])⟩⟩
        rw [← hres3] at z
        cases z
        exact ⟨atI_6, by omega, hgm, fun j hj => by rw [atI_o (by omega)]; exact hMc j hj⟩
    · have ho : none = o := by rw [← hres2]; exact (if_neg c2).symm
      subst ho
      have key : ∃ ls, am_ev (am_run am_tb (d + 9)) wX7_readTerm_14 ([vR 254, vI (e : Nat), vR (263 + 4 * e), vI (k : Nat)], [], LH L J R u) = some (1, ls, [vI 0], LH L K R u) := by
        apply Exists.intro
        unfold wX7_readTerm_14
        apply t_Q
        · apply t_B
          · refine x_iload_n rfl ?_
            refine x_bipush ?_
            exact rfl
          exact t_ic_ge_f (by omega)
        apply t_Q
        · apply t_S
          refine x_aload_n rfl ?_
          refine x_iload_n rfl ?_
          refine x_V2i tg_254 (Nat.le_of_ble_eq_true rfl) (hfac) ?_
          exact rfl
        apply t_Qs
        apply t_Ks
        · apply t_Q
          · apply t_Ks
            · apply t_Q
              · apply t_B
                · exact rfl
                exact t_if_eq_f (by omega)
              apply t_B
              · refine x_aload_n rfl ?_
                refine x_aload_n rfl ?_
                refine x_gr tg_254 rfl (fx_254_4 hF) ?_
                refine x_S2i (by decide) (Nat.le_of_ble_eq_true rfl) (ret_f c2 hpf) ?_
                exact rfl
              exact t_if_ne_f (by omega)
            · decide
          apply t_B
          · refine x_iconst ?_
            exact rfl
          exact t_ireq (Or.inr (by first | exact Or.inl rfl | exact Or.inr rfl)) rfl rfl
        · decide
      obtain ⟨ls, key⟩ := key
      exact ⟨_, key, Or.inr ⟨by show ¬ 1 = 14 + 2; decide, K, ls, hFK2, fun f r z => (by cases z), Or.inl rfl⟩⟩
set_option maxRecDepth 10000 in
theorem s7_term {d L : Nat} {I : Nat → Nat → Int} {R : Nat → Nat → Option Nat} {u : Int64} (hF : FixR R) {b : Nat} (hx : Txc I b) (hB : Tbc I) {p e : Nat} (he : e ≤ 8) (hp : p ≤ b) (ha : I 254 6 = (p : Nat)) {ev : Nat → rdO} (hE : RdE (d + 8) L u R (I 109) b (e + 1) ev) (hE0 : e = 8 → ∀ q, ev q = none) : ∃ J, am_run am_tb (d + 10) 69 [vR 254, vI (e : Nat)] (LH L I R u) = some ([vI (if (tmC (I 109) b ev 120 one p).isSome then 1 else 0)], LH L J R u) ∧ Ftm e I J ∧ Rdd J (b + (9 - e)) (264 + 4 * e) (tmC (I 109) b ev 120 one p) := by
  have hmn := s6_makeNumber (d := d + 6) (L := L) (u := u) (I := I) (op_pr hF (k := e) (by omega)) (v := 1)
  have hF0 : Ftm e I (stc I (264 + 4 * e) (au (fun _ => 0) 0 1)) := Ftm_s (fun _ _ => rfl) (by omega)
  have h9 : stc I (264 + 4 * e) (au (fun _ => 0) 0 1) 109 = I 109 := Fre_9 (Fre_F hF0)
  obtain ⟨r, hl, J, ls, h1, h2, h3⟩ := lp7_term (d := d) (L := L) (u := u) (I := stc I (264 + 4 * e) (au (fun _ => 0) 0 1)) hF (Fre_C (Fre_F hF0) hx) (Fre_B (Fre_F hF0) hB) he hp (by rw [stc_o (by omega)]; exact ha) (ev := ev) (by rw [h9]; exact hE) hE0 (fun j hj => stc_s hj)
  rw [h9] at h2 h3
  generalize tmC (I 109) b ev 120 one p = o at *
  refine ⟨J, ?_, Ftm_t hF0 h1, h2⟩
  refine run_of tb_X7_readTerm (Nat.le_of_ble_eq_true rfl) ?_
  show ∃ ls', am_ev (am_run am_tb (d + 9)) tX7_readTerm ([vR 254, vI (e : Nat), vU, vU], [], LH L I R u) = _
  rcases h3 with er | ⟨er, e1⟩
  · subst er
    apply Exists.intro
    unfold tX7_readTerm
    apply t_Q
    · apply t_S
      refine x_aload_n rfl ?_
      refine x_gr tg_254 rfl (fx_254_3 hF) ?_
      refine x_iload_n rfl ?_
      refine x_aald (by rw [tg_256]; decide) (ln_256 L) (by omega) (fx_pr hF (k := e) (by omega) : R 256 e = some (263 + 4 * e)) ?_
      refine x_astore_n rfl ?_
      refine x_aload_n rfl ?_
      refine x_iconst ?_
      refine x_V2v (op_pr hF (k := e) (by omega)).1 (Nat.le_of_ble_eq_true rfl) (hmn) ?_
      refine x_iconst ?_
      refine x_istore_n rfl ?_
      exact rfl
    apply t_Qs
    apply t_Ks
    · apply t_W
      exact hl
    · decide
  · subst er
    rw [e1]
    apply Exists.intro
    unfold tX7_readTerm
    apply t_Q
    · apply t_S
      refine x_aload_n rfl ?_
      refine x_gr tg_254 rfl (fx_254_3 hF) ?_
      refine x_iload_n rfl ?_
      refine x_aald (by rw [tg_256]; decide) (ln_256 L) (by omega) (fx_pr hF (k := e) (by omega) : R 256 e = some (263 + 4 * e)) ?_
      refine x_astore_n rfl ?_
      refine x_aload_n rfl ?_
      refine x_iconst ?_
      refine x_V2v (op_pr hF (k := e) (by omega)).1 (Nat.le_of_ble_eq_true rfl) (hmn) ?_
      refine x_iconst ?_
      refine x_istore_n rfl ?_
      exact rfl
    apply t_Q
    · apply t_K
      apply t_W
      exact hl
    apply t_B
    · refine x_iconst ?_
      exact rfl
    exact t_ireq (Or.inr (by first | exact Or.inl rfl | exact Or.inr rfl)) rfl rfl
set_option maxRecDepth 10000 in
theorem lp7_expr {d L : Nat} {I : Nat → Nat → Int} {R : Nat → Nat → Option Nat} {u : Int64} (hF : FixR R) {b : Nat} (hx : Txc I b) (hB : Tbc I) {p e : Nat} (he : e ≤ 8) (hp : p ≤ b) (ha : I 254 6 = (p : Nat)) {ev : Nat → rdO} (hE : RdE (d + 8) L u R (I 109) b (e + 1) ev) (hE0 : e = 8 → ∀ q, ev q = none) {sg0 : Int} (hs0 : sg0 = 1 ∨ sg0 = 10006) (hc0 : ∀ j, j < 91 → I (262 + 4 * e) j = 0) : ∃ r, am_lp (am_ev (am_run am_tb (d + 10)) wX7_readExpression_51) 51 am_F ([vR 254, vI (e : Nat), vI sg0, vI (0 : Nat), vU], [], LH L I R u) = some r ∧ ∃ J ls, Fre e I J ∧ Rdd J (b + (9 - e)) (262 + 4 * e) (exC (I 109) b ev 120 sg0 (fun _ => 0) p) ∧ (r = (1, ls, [vI (if (exC (I 109) b ev 120 sg0 (fun _ => 0) p).isSome then 1 else 0)], LH L J R u) ∨ (r = (138, ls, [], LH L J R u) ∧ (if (exC (I 109) b ev 120 sg0 (fun _ => 0) p).isSome then (1 : Int) else 0) = 1)) := by
  have hb := hx.2.1
  refine lp_meas (fun N y => ∃ (k : Nat) (J : Nat → Nat → Int) (t : Nat → Int) (q : Nat) (sg : Int) (l4 : am_V), N = 120 - k ∧ k ≤ 120 ∧ (sg = 1 ∨ sg = 10006) ∧ y = ([vR 254, vI (e : Nat), vI sg, vI (k : Nat), l4], [], LH L J R u) ∧ Fre e I J ∧ Gv t ∧ (∀ j, j < 91 → J (262 + 4 * e) j = t j) ∧ q ≤ b ∧ J 254 6 = (q : Nat) ∧ exC (I 109) b ev (120 - k) sg t q = exC (I 109) b ev 120 sg0 (fun _ => 0) p) _ (fun N y hy => ?_) am_F 120 _ (ltF (by omega)) ⟨0, I, fun _ => 0, p, sg0, vU, rfl, by omega, hs0, rfl, Fre_r _ _, ⟨zer_d, dgr_le (by decide) (fun _ _ _ => rfl)⟩, hc0, hp, ha, rfl⟩
  obtain ⟨k, J, t, q, sg, l4, eN, hk, hsg, ey, hFJ, ht, hct, hq, hq6, hres⟩ := hy
  subst ey
  generalize exC (I 109) b ev 120 sg0 (fun _ => 0) p = o at *
  have hxJ : Txc J b := Fre_C hFJ hx
  have hBJ : Tbc J := Fre_B hFJ hB
  have hJ9 : J 109 = I 109 := Fre_9 hFJ
  by_cases ck : k = 120
  · subst ck
    have ho : o = some (t, q) := by rw [← hres]; rfl
    refine ⟨(138, [vR 254, vI (e : Nat), vI sg, vI (120 : Nat), l4], [], LH L J R u), ?_, Or.inr ⟨by show ¬ 138 = 51 + 2; decide, J, _, hFJ, ?_, Or.inr ⟨rfl, isS_s ho⟩⟩⟩
    · unfold wX7_readExpression_51
      apply t_Qs
      apply t_B
      · refine x_iload_n rfl ?_
        refine x_bipush ?_
        exact rfl
      exact t_ic_ge_t (by omega)
    · intro f r z
      rw [ho] at z
      cases z
      exact ⟨hq6, by omega, ht, hct⟩
  have hres2 : (tmC (I 109) b ev 120 one q).bind (fun x => if bt (I 109) b (skb (I 109) b x.2) = 43 ∨ bt (I 109) b (skb (I 109) b x.2) = 45 then exC (I 109) b ev (120 - (k + 1)) (if bt (I 109) b (skb (I 109) b x.2) = 45 then 10006 else 1) (mixF 1 t sg x.1) (skb (I 109) b x.2 + 1) else some (mixF 1 t sg x.1, skb (I 109) b x.2)) = o := by
    rw [← hres, show 120 - k = 120 - (k + 1) + 1 by omega]
    rfl
  obtain ⟨K, htm, hFK, hdK⟩ := s7_term (d := d) (L := L) (u := u) (I := J) hF hxJ hBJ (p := q) (e := e) he hq hq6 (ev := ev) (by rw [hJ9]; exact hE) hE0
  rw [hJ9] at htm hdK
  cases hfc : tmC (I 109) b ev 120 one q with
  | none =>
    rw [isS_n hfc] at htm
    rw [bind_n hfc] at hres2
    subst hres2
    have key : ∃ ls, am_ev (am_run am_tb (d + 10)) wX7_readExpression_51 ([vR 254, vI (e : Nat), vI sg, vI (k : Nat), l4], [], LH L J R u) = some (1, ls, [vI 0], LH L K R u) := by
      apply Exists.intro
      unfold wX7_readExpression_51
      apply t_Q
      · apply t_B
        · refine x_iload_n rfl ?_
          refine x_bipush ?_
          exact rfl
        exact t_ic_ge_f (by omega)
      apply t_Q
      · apply t_S
        refine x_aload_n rfl ?_
        refine x_iload_n rfl ?_
        refine x_V2i tg_254 (Nat.le_of_ble_eq_true rfl) (htm) ?_
        exact rfl
      apply t_Qs
      apply t_Ks
      · apply t_Q
        · apply t_B
          · exact rfl
          exact t_if_ne_f (by omega)
        apply t_B
        · refine x_iconst ?_
          exact rfl
        exact t_ireq (Or.inr (by first | exact Or.inl rfl | exact Or.inr rfl)) rfl rfl
      · decide
    obtain ⟨ls, key⟩ := key
    exact ⟨_, key, Or.inr ⟨by show ¬ 1 = 51 + 2; decide, K, ls, Fre_t hFJ (Fre_F hFK), fun f r z => (by cases z), Or.inl rfl⟩⟩
  | some x =>
    obtain ⟨g, q2⟩ := x
    rw [isS_s hfc] at htm
    rw [bind_s hfc] at hres2
    obtain ⟨k1, k2, k3, k4⟩ := hdK g q2 hfc
    have hFK2 := Fre_t hFJ (Fre_F hFK)
    have hKt : ∀ j, j < 91 → K (262 + 4 * e) j = t j := fun j hj => by rw [hFK _ (by omega)]; exact hct j hj
    have hrt : Rsc K (262 + 4 * e) := fun j hj => by rw [hKt j hj]; exact ht.1 j (by omega)
    have hrg : Rsc K (264 + 4 * e) := fun j hj => by rw [k4 j hj]; exact k3.1 j (by omega)
    have ham := s6_addMultiple (d := d + 9) (L := L) (u := u) (I := K) (op_to hF (k := e) (by omega)) (op_pr hF (k := e) (by omega)) (by omega) hrt hrg (v := sg) (by omega)
    replace ham := ev_c ham (show _ = stc K (262 + 4 * e) (mixF 1 t sg g) from stc_c (fun j hj => by rw [hKt j hj, k4 j hj]; unfold mixF; rw [Int.one_mul]))
    have hgm : Gv (mixF 1 t sg g) := ⟨mixF_b, mixF_d ht.2 k3.2⟩
    generalize mixF 1 t sg g = tg' at *
    have hFM : Fre e I (stc K (262 + 4 * e) tg') := Fre_s hFK2 (by omega)
    have hM6 : stc K (262 + 4 * e) tg' 254 6 = (q2 : Nat) := by rw [stc_o (by omega)]; exact k1
    have hMc : ∀ j, j < 91 → stc K (262 + 4 * e) tg' (262 + 4 * e) j = tg' j := fun j hj => stc_s hj
    generalize stc K (262 + 4 * e) tg' = M at *
    have hxM : Txc M b := Fre_C hFM hx
    have hM9 : M 109 = I 109 := Fre_9 hFM
    have hpk := s7_peek (d := d + 8) (L := L) (u := u) hF hxM (p := q2) (by omega) hM6
    rw [hM9] at hpk
    have hms := skb_max (T := I 109) (b := b) (p := q2)
    have hbt := bt_b hx (skb (I 109) b q2)
    by_cases c3 : bt (I 109) b (skb (I 109) b q2) = 43 ∨ bt (I 109) b (skb (I 109) b q2) = 45
    · have hres3 : exC (I 109) b ev (120 - (k + 1)) (if bt (I 109) b (skb (I 109) b q2) = 45 then 10006 else 1) tg' (skb (I 109) b q2 + 1) = o := by rw [← hres2]; exact (if_pos c3).symm
      have hlt := (bt_t (T := I 109) (b := b) (p := skb (I 109) b q2) (by omega)).1
      by_cases c4 : bt (I 109) b (skb (I 109) b q2) = 45
      · rw [if_pos c4] at hres3
        refine ⟨(51 + 2, [vR 254, vI (e : Nat), vI 10006, vI (k + 1 : Nat), vI (bt (I 109) b (skb (I 109) b q2))], [], LH L (atI M (skb (I 109) b q2 + 1)) R u), ?_, Or.inl ⟨rfl, 120 - (k + 1), by omega, k + 1, _, tg', skb (I 109) b q2 + 1, 10006, _, rfl, by omega, Or.inr rfl, rfl, Fre_a hFM, hgm, fun j hj => by rw [atI_o (by omega)]; exact hMc j hj, by omega, atI_6, hres3⟩⟩
        generalize skb (I 109) b q2 = q3 at *
        unfold wX7_readExpression_51
        apply t_Q
        · apply t_B
          · refine x_iload_n rfl ?_
            refine x_bipush ?_
            exact rfl
          exact t_ic_ge_f (by omega)
        apply t_Q
        · apply t_S
          refine x_aload_n rfl ?_
          refine x_iload_n rfl ?_
          refine x_V2i tg_254 (Nat.le_of_ble_eq_true rfl) (htm) ?_
          exact rfl
        apply t_Q
        · apply t_K
          apply t_Qs
          apply t_B
          · exact rfl
          exact t_if_ne_t (by omega)
        apply t_Q
        · apply t_S
          refine x_aload_n rfl ?_
          refine x_gr tg_254 rfl (fx_254_2 hF) ?_
          refine x_iload_n rfl ?_
          refine x_aald (by rw [tg_255]; decide) (ln_255 L) (by omega) (fx_to hF (k := e) (by omega) : R 255 e = some (261 + 4 * e)) ?_
          refine x_aload_n rfl ?_
          refine x_gr tg_254 rfl (fx_254_3 hF) ?_
          refine x_iload_n rfl ?_
          refine x_aald (by rw [tg_256]; decide) (ln_256 L) (by omega) (fx_pr hF (k := e) (by omega) : R 256 e = some (263 + 4 * e)) ?_
          refine x_iload_n rfl ?_
          refine x_V3v (op_to hF (k := e) (by omega)).1 (Nat.le_of_ble_eq_true rfl) (ham) ?_
          refine x_aload_n rfl ?_
          refine x_V1i tg_254 (Nat.le_of_ble_eq_true rfl) (hpk) ?_
          refine x_istore rfl ?_
          refine x_iload rfl ?_
          refine x_bipush ?_
          exact rfl
        apply t_Q
        · apply t_K
          apply t_Q
          · apply t_B
            · exact rfl
            exact t_ic_eq_f (by omega)
          apply t_Qs
          apply t_B
          · refine x_iload rfl ?_
            refine x_bipush ?_
            exact rfl
          exact t_ic_eq_t (by omega)
        apply t_Q
        · apply t_S
          refine x_iload rfl ?_
          refine x_bipush ?_
          exact rfl
        apply t_Q
        · apply t_K
          apply t_Qs
          apply t_Ks
          · apply t_Q
            · apply t_B
              · exact rfl
              exact t_ic_ne_f (by omega)
            apply t_B
            · refine x_sipush ?_
              exact rfl
            exact t_goto
          · decide
        apply t_B
        · refine x_istore_n rfl ?_
          refine x_aload_n rfl ?_
          refine x_dup rfl ?_
          refine x_giv tg_254 rfl (show _ = ((q3 : Nat) : Int) from atI_6) ?_
          refine x_iconst ?_
          refine x_iadd ?_
          refine x_pi tg_254 rfl rfl ?_
          rw [atI_w (q := q3 + 1) (by omega)]
          refine x_iinc rfl rfl ?_
          exact rfl
        exact t_goeq rfl
      · rw [if_neg c4] at hres3
        have c5 : bt (I 109) b (skb (I 109) b q2) = 43 := by omega
        refine ⟨(51 + 2, [vR 254, vI (e : Nat), vI 1, vI (k + 1 : Nat), vI (bt (I 109) b (skb (I 109) b q2))], [], LH L (atI M (skb (I 109) b q2 + 1)) R u), ?_, Or.inl ⟨rfl, 120 - (k + 1), by omega, k + 1, _, tg', skb (I 109) b q2 + 1, 1, _, rfl, by omega, Or.inl rfl, rfl, Fre_a hFM, hgm, fun j hj => by rw [atI_o (by omega)]; exact hMc j hj, by omega, atI_6, hres3⟩⟩
        generalize skb (I 109) b q2 = q3 at *
        unfold wX7_readExpression_51
        apply t_Q
        · apply t_B
          · refine x_iload_n rfl ?_
            refine x_bipush ?_
            exact rfl
          exact t_ic_ge_f (by omega)
        apply t_Q
        · apply t_S
          refine x_aload_n rfl ?_
          refine x_iload_n rfl ?_
          refine x_V2i tg_254 (Nat.le_of_ble_eq_true rfl) (htm) ?_
          exact rfl
        apply t_Q
        · apply t_K
          apply t_Qs
          apply t_B
          · exact rfl
          exact t_if_ne_t (by omega)
        apply t_Q
        · apply t_S
          refine x_aload_n rfl ?_
          refine x_gr tg_254 rfl (fx_254_2 hF) ?_
          refine x_iload_n rfl ?_
          refine x_aald (by rw [tg_255]; decide) (ln_255 L) (by omega) (fx_to hF (k := e) (by omega) : R 255 e = some (261 + 4 * e)) ?_
          refine x_aload_n rfl ?_
          refine x_gr tg_254 rfl (fx_254_3 hF) ?_
          refine x_iload_n rfl ?_
          refine x_aald (by rw [tg_256]; decide) (ln_256 L) (by omega) (fx_pr hF (k := e) (by omega) : R 256 e = some (263 + 4 * e)) ?_
          refine x_iload_n rfl ?_
          refine x_V3v (op_to hF (k := e) (by omega)).1 (Nat.le_of_ble_eq_true rfl) (ham) ?_
          refine x_aload_n rfl ?_
          refine x_V1i tg_254 (Nat.le_of_ble_eq_true rfl) (hpk) ?_
          refine x_istore rfl ?_
          refine x_iload rfl ?_
          refine x_bipush ?_
          exact rfl
        apply t_Q
        · apply t_K
          apply t_Qs
          apply t_B
          · exact rfl
          exact t_ic_eq_t (by omega)
        apply t_Q
        · apply t_S
          refine x_iload rfl ?_
          refine x_bipush ?_
          exact rfl
        apply t_Q
        · apply t_Ks
          · apply t_Q
            · apply t_K
              apply t_Qs
              apply t_B
              · exact rfl
              exact t_ic_ne_t (by omega)
            apply t_S
            refine x_iconst ?_
            exact rfl
          · decide
        apply t_B
        · refine x_istore_n rfl ?_
          refine x_aload_n rfl ?_
          refine x_dup rfl ?_
          refine x_giv tg_254 rfl (show _ = ((q3 : Nat) : Int) from atI_6) ?_
          refine x_iconst ?_
          refine x_iadd ?_
          refine x_pi tg_254 rfl rfl ?_
          rw [atI_w (q := q3 + 1) (by omega)]
          refine x_iinc rfl rfl ?_
          exact rfl
        exact t_goeq rfl
    · have hres3 : some (tg', skb (I 109) b q2) = o := by rw [← hres2]; exact (if_neg c3).symm
      have key : ∃ ls, am_ev (am_run am_tb (d + 10)) wX7_readExpression_51 ([vR 254, vI (e : Nat), vI sg, vI (k : Nat), l4], [], LH L J R u) = some (1, ls, [vI 1], LH L (atI M (skb (I 109) b q2)) R u) := by
        apply Exists.intro
        unfold wX7_readExpression_51
        apply t_Q
        · apply t_B
          · refine x_iload_n rfl ?_
            refine x_bipush ?_
            exact rfl
          exact t_ic_ge_f (by omega)
        apply t_Q
        · apply t_S
          refine x_aload_n rfl ?_
          refine x_iload_n rfl ?_
          refine x_V2i tg_254 (Nat.le_of_ble_eq_true rfl) (htm) ?_
          exact rfl
        apply t_Q
        · apply t_K
          apply t_Qs
          apply t_B
          · exact rfl
          exact t_if_ne_t (by omega)
        apply t_Q
        · apply t_S
          refine x_aload_n rfl ?_
          refine x_gr tg_254 rfl (fx_254_2 hF) ?_
          refine x_iload_n rfl ?_
          refine x_aald (by rw [tg_255]; decide) (ln_255 L) (by omega) (fx_to hF (k := e) (by omega) : R 255 e = some (261 + 4 * e)) ?_
          refine x_aload_n rfl ?_
          refine x_gr tg_254 rfl (fx_254_3 hF) ?_
          refine x_iload_n rfl ?_
          refine x_aald (by rw [tg_256]; decide) (ln_256 L) (by omega) (fx_pr hF (k := e) (by omega) : R 256 e = some (263 + 4 * e)) ?_
          refine x_iload_n rfl ?_
          refine x_V3v (op_to hF (k := e) (by omega)).1 (Nat.le_of_ble_eq_true rfl) (ham) ?_
          refine x_aload_n rfl ?_
          refine x_V1i tg_254 (Nat.le_of_ble_eq_true rfl) (hpk) ?_
          refine x_istore rfl ?_
          refine x_iload rfl ?_
          refine x_bipush ?_
          exact rfl
        apply t_Qs
        apply t_Ks
        · apply t_Q
          · apply t_B
            · exact rfl
            exact t_ic_eq_f (by omega)
          apply t_Q
          · apply t_B
            · refine x_iload rfl ?_
              refine x_bipush ?_
              exact rfl
            exact t_ic_eq_f (by omega)
          apply t_B
          · refine x_iconst ?_
            exact rfl
          exact t_ireq (Or.inr (by first | exact Or.inl rfl | exact Or.inr rfl)) rfl rfl
        · decide
      obtain ⟨ls, key⟩ := key
      refine ⟨_, key, Or.inr ⟨by show ¬ 1 = 51 + 2; decide, atI M (skb (I 109) b q2), ls, Fre_a hFM, fun f' r' z => ?_, Or.inl (by rw [isS_s hres3.symm])⟩⟩
      rw [← hres3] at z
      cases z
      exact ⟨atI_6, by omega, hgm, fun j hj => by rw [atI_o (by omega)]; exact hMc j hj⟩
