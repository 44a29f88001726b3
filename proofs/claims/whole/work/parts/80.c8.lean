/-! The class: a word times an operator. Written by wip/whole/gen_80.py. -/
/-- the class's tables -/
def Tbc (I : Nat → Nat → Int) : Prop := Tabc I ∧ (∀ n k, n ≤ 12 → k ≤ n → I (112 + n) k = ch n k) ∧ (∀ n k, n ≤ 30 → k ≤ n → k ≤ 12 → I (126 + n) k = fal n k)
/-- no cell of the tables -/
def Nt (c : Nat) : Prop := 2 < c ∧ (c < 111 ∨ 157 ≤ c)
theorem Tbc_o {I J : Nat → Nat → Int} (h : Tbc I) (e : ∀ a, ¬ Nt a → J a = I a) : Tbc J := by
  refine ⟨⟨fun w hw => ?_, fun w hw => ?_⟩, fun n k h1 h2 => ?_, fun n k h1 h2 h3 => ?_⟩
  · rw [e 1 (by unfold Nt; omega)]; exact h.1.1 w hw
  · rw [e 2 (by unfold Nt; omega)]; exact h.1.2 w hw
  · rw [e (112 + n) (by unfold Nt; omega)]; exact h.2.1 n k h1 h2
  · rw [e (126 + n) (by unfold Nt; omega)]; exact h.2.2 n k h1 h2 h3
theorem stc_o {I : Nat → Nat → Int} {c a : Nat} {f : Nat → Int} (h : a ≠ c) : stc I c f a = I a := au_n _ _ h
theorem stc_g {I : Nat → Nat → Int} {c j : Nat} {f : Nat → Int} (h : 91 ≤ j) : stc I c f c j = I c j := by
  unfold stc
  rw [au_s]
  exact if_neg (by omega)
theorem stc_id {I : Nat → Nat → Int} {c : Nat} {f : Nat → Int} (h : ∀ j, j < 91 → f j = I c j) : stc I c f = I := by
  unfold stc
  refine (au_c ?_).trans au_id
  funext j
  split
  · exact h j (by omega)
  · rfl
theorem stc_stc {I : Nat → Nat → Int} {c : Nat} {f g : Nat → Int} : stc (stc I c f) c g = stc I c g := by
  unfold stc
  rw [au_au]
  refine au_c ?_
  funext j
  rw [au_s]
  split
  · rfl
  · rfl
theorem stc_w {I : Nat → Nat → Int} {c t : Nat} {f g : Nat → Int} {v i : Int} (hi : i = (t : Nat)) (ht : t < 91) (h : ∀ w, w < 91 → g w = if w = t then v else f w) : au (stc I c f) c (au (stc I c f c) i.toNat v) = stc I c g := by
  subst hi
  unfold stc
  rw [au_au, au_s]
  refine au_c ?_
  funext j
  rw [au_i, Int.toNat_natCast]
  by_cases e : j = t
  · rw [if_pos e, if_pos (by omega), h j (by omega), if_pos e]
  · rw [if_neg e]
    by_cases e2 : j < 91
    · rw [if_pos e2, if_pos e2, h j e2, if_neg e]
    · rw [if_neg e2, if_neg e2]
theorem Tbc_s {I : Nat → Nat → Int} {c : Nat} {f : Nat → Int} (h : Tbc I) (hc : Nt c) : Tbc (stc I c f) := Tbc_o h (fun a ha => stc_o (fun e => ha (e ▸ hc)))
theorem fx_ch {R : Nat → Nat → Option Nat} (hF : FixR R) {q : Nat} (h : q < 13) : R 111 q = some (112 + q) := hF.get ((by decide +kernel : ∀ q, q < 13 → cstf 111 q = some (112 + q)) q h)
theorem fx_fa {R : Nat → Nat → Option Nat} (hF : FixR R) {q : Nat} (h : q < 31) : R 125 q = some (126 + q) := hF.get ((by decide +kernel : ∀ q, q < 31 → cstf 125 q = some (126 + q)) q h)
theorem tg_ch {q : Nat} (h : q < 13) : tg (112 + q) = 20 := (by decide +kernel : ∀ q, q < 13 → tg (112 + q) = 20) q h
theorem tg_fa {q : Nat} (h : q < 31) : tg (126 + q) = 20 := (by decide +kernel : ∀ q, q < 31 → tg (126 + q) = 20) q h
theorem ln_ch (L : Nat) {q : Nat} (h : q < 13) : ln L (112 + q) = 13 := (if_neg (by omega)).trans ((by decide +kernel : ∀ q, q < 13 → ly_n.getD (112 + q) 0 = 13) q h)
theorem ln_fa (L : Nat) {q : Nat} (h : q < 31) : ln L (126 + q) = 13 := (if_neg (by omega)).trans ((by decide +kernel : ∀ q, q < 31 → ly_n.getD (126 + q) 0 = 13) q h)
/-- the first n parts of the product of two words, at a word -/
def cop (p q i j w n : Nat) : Int := smk (fun k => if w = pl (p + i - k) (q - k + j) then ch q k * fal i k else 0) n
theorem cop_s (p q i j w n : Nat) : cop p q i j w (n + 1) = cop p q i j w n + (if w = pl (p + i - n) (q - n + j) then ch q n * fal i n else 0) := rfl
theorem inv_e1 {f : am_S → Option (Nat × am_S)} {y : am_S} {L : Nat} {P : am_S → Prop} {h : am_H} {ls : am_V → List am_V} (hh : ∃ a0, f y = some (L, ls a0, [], h)) (hp : ∀ a0, P (ls a0, [], h)) : ∃ z, f y = some (L, z) ∧ P z := by
  obtain ⟨a0, e⟩ := hh
  exact ⟨_, e, hp a0⟩
theorem inv_e2 {f : am_S → Option (Nat × am_S)} {y : am_S} {L : Nat} {P : am_S → Prop} {h : am_H} {ls : am_V → am_V → List am_V} (hh : ∃ a0 a1, f y = some (L, ls a0 a1, [], h)) (hp : ∀ a0 a1, P (ls a0 a1, [], h)) : ∃ z, f y = some (L, z) ∧ P z := by
  obtain ⟨a0, a1, e⟩ := hh
  exact ⟨_, e, hp a0 a1⟩
theorem inv_e3 {f : am_S → Option (Nat × am_S)} {y : am_S} {L : Nat} {P : am_S → Prop} {h : am_H} {ls : am_V → am_V → am_V → List am_V} (hh : ∃ a0 a1 a2, f y = some (L, ls a0 a1 a2, [], h)) (hp : ∀ a0 a1 a2, P (ls a0 a1 a2, [], h)) : ∃ z, f y = some (L, z) ∧ P z := by
  obtain ⟨a0, a1, a2, e⟩ := hh
  exact ⟨_, e, hp a0 a1 a2⟩
theorem inv_e4 {f : am_S → Option (Nat × am_S)} {y : am_S} {L : Nat} {P : am_S → Prop} {h : am_H} {ls : am_V → am_V → am_V → am_V → List am_V} (hh : ∃ a0 a1 a2 a3, f y = some (L, ls a0 a1 a2 a3, [], h)) (hp : ∀ a0 a1 a2 a3, P (ls a0 a1 a2 a3, [], h)) : ∃ z, f y = some (L, z) ∧ P z := by
  obtain ⟨a0, a1, a2, a3, e⟩ := hh
  exact ⟨_, e, hp a0 a1 a2 a3⟩
theorem inv_e5 {f : am_S → Option (Nat × am_S)} {y : am_S} {L : Nat} {P : am_S → Prop} {h : am_H} {ls : am_V → am_V → am_V → am_V → am_V → List am_V} (hh : ∃ a0 a1 a2 a3 a4, f y = some (L, ls a0 a1 a2 a3 a4, [], h)) (hp : ∀ a0 a1 a2 a3 a4, P (ls a0 a1 a2 a3 a4, [], h)) : ∃ z, f y = some (L, z) ∧ P z := by
  obtain ⟨a0, a1, a2, a3, a4, e⟩ := hh
  exact ⟨_, e, hp a0 a1 a2 a3 a4⟩
theorem inv_e6 {f : am_S → Option (Nat × am_S)} {y : am_S} {L : Nat} {P : am_S → Prop} {h : am_H} {ls : am_V → am_V → am_V → am_V → am_V → am_V → List am_V} (hh : ∃ a0 a1 a2 a3 a4 a5, f y = some (L, ls a0 a1 a2 a3 a4 a5, [], h)) (hp : ∀ a0 a1 a2 a3 a4 a5, P (ls a0 a1 a2 a3 a4 a5, [], h)) : ∃ z, f y = some (L, z) ∧ P z := by
  obtain ⟨a0, a1, a2, a3, a4, a5, e⟩ := hh
  exact ⟨_, e, hp a0 a1 a2 a3 a4 a5⟩
theorem inv_e7 {f : am_S → Option (Nat × am_S)} {y : am_S} {L : Nat} {P : am_S → Prop} {h : am_H} {ls : am_V → am_V → am_V → am_V → am_V → am_V → am_V → List am_V} (hh : ∃ a0 a1 a2 a3 a4 a5 a6, f y = some (L, ls a0 a1 a2 a3 a4 a5 a6, [], h)) (hp : ∀ a0 a1 a2 a3 a4 a5 a6, P (ls a0 a1 a2 a3 a4 a5 a6, [], h)) : ∃ z, f y = some (L, z) ∧ P z := by
  obtain ⟨a0, a1, a2, a3, a4, a5, a6, e⟩ := hh
  exact ⟨_, e, hp a0 a1 a2 a3 a4 a5 a6⟩
theorem inv_e8 {f : am_S → Option (Nat × am_S)} {y : am_S} {L : Nat} {P : am_S → Prop} {h : am_H} {ls : am_V → am_V → am_V → am_V → am_V → am_V → am_V → am_V → List am_V} (hh : ∃ a0 a1 a2 a3 a4 a5 a6 a7, f y = some (L, ls a0 a1 a2 a3 a4 a5 a6 a7, [], h)) (hp : ∀ a0 a1 a2 a3 a4 a5 a6 a7, P (ls a0 a1 a2 a3 a4 a5 a6 a7, [], h)) : ∃ z, f y = some (L, z) ∧ P z := by
  obtain ⟨a0, a1, a2, a3, a4, a5, a6, a7, e⟩ := hh
  exact ⟨_, e, hp a0 a1 a2 a3 a4 a5 a6 a7⟩
set_option maxRecDepth 10000 in
theorem lp1_awp {d L : Nat} {I : Nat → Nat → Int} {R : Nat → Nat → Option Nat} {u : Int64} (hF : FixR R) (hB : Tbc I) {a c : Nat} (ha : Opx R a c) (hN : Nt c) {f : Nat → Int} (hf : ∀ w, w < 91 → 0 ≤ f w ∧ f w < 10007) {cf : Int} (hc : 0 ≤ cf ∧ cf < 10007) {p q i j : Nat} (hs : p + q + i + j ≤ 12) {l2 l3 l4 l5 l8 w14 w15 w16 : am_V} : ∃ r, am_lp (am_ev (am_run am_tb d) wX1_addWordProduct_93) 93 am_F ([vR 110, vR a, l2, l3, l4, l5, vI p, vI q, l8, vI i, vI ((q + j : Nat) : Int), vI cf, vI ((min i q : Nat) : Int), vI 0, w14, w15, w16], [], LH L (stc I c f) R u) = some r ∧ ∃ w14 w15 w16, r = (195, [vR 110, vR a, l2, l3, l4, l5, vI p, vI q, l8, vI i, vI ((q + j : Nat) : Int), vI cf, vI ((min i q : Nat) : Int), vI ((min i q + 1 : Nat) : Int), w14, w15, w16], [], LH L (stc I c (fun w => (f w + cf * co p q i j w) % 10007)) R u) := by
  refine lp_inv (fun k y => ∃ w14 w15 w16, y = ([vR 110, vR a, l2, l3, l4, l5, vI p, vI q, l8, vI i, vI ((q + j : Nat) : Int), vI cf, vI ((min i q : Nat) : Int), vI k, w14, w15, w16], [], LH L (stc I c (fun w => (f w + cf * cop p q i j w k) % 10007)) R u)) _ (min i q + 1) ⟨w14, w15, w16, s3 rfl (stc_c (fun w hw => ?_))⟩ (ltF (by omega)) (fun k y hk hp => ?_) (fun y hp => ?_)
  · have := hf w hw
    show f w = (f w + cf * 0) % 10007
    rw [Int.mul_zero]
    omega
  · obtain ⟨w14, w15, w16, e⟩ := hp
    subst e
    have t1 : p + i - k + (q - k + j) ≤ 12 := by omega
    have t2 := pl_91 t1
    have t3 := pl_int (p + i - k) (q - k + j)
    have c1 := ch_b q k
    have c2 := fal_b i k
    have m1 := mul_b (a := ch q k) (b := fal i k) (m := 10006) (n := 10006) (by omega) (by omega)
    have m2 := mul_b (a := cf) (b := ch q k * fal i k % 10007) (m := 10006) (n := 10006) (by omega) (by omega)
    have m3 := mul_b (a := ((p + i - k : Nat) : Int) + ((q - k + j : Nat) : Int)) (b := ((p + i - k : Nat) : Int) + ((q - k + j : Nat) : Int) + 1) (m := 12) (n := 13) (by omega) (by omega)
    have hg := hf (pl (p + i - k) (q - k + j)) t2

    refine inv_e3 (ls := fun w14 w15 w16 => [vR 110, vR a, l2, l3, l4, l5, vI p, vI q, l8, vI i, vI ((q + j : Nat) : Int), vI cf, vI ((min i q : Nat) : Int), vI ((k + 1 : Nat) : Int), w14, w15, w16]) (h := LH L (stc I c (fun w => (f w + cf * cop p q i j w (k + 1)) % 10007)) R u) ?_ (fun a b c => ⟨a, b, c, rfl⟩)
    apply Exists.intro
    apply Exists.intro
    apply Exists.intro
    unfold wX1_addWordProduct_93
    apply t_Q
    · apply t_B
      · refine x_iload rfl ?_
        refine x_iload rfl ?_
        exact rfl
      exact t_ic_gt_f (by omega)
    apply t_B
    · refine x_iload rfl ?_
      refine x_iload rfl ?_
      refine x_iadd ?_
      refine x_iload rfl ?_
      refine x_iadd ?_
      refine x_iconst ?_
      refine x_iload rfl ?_
      refine x_imul ?_
      refine x_isub ?_
      rw [show ((p : Int) + (i : Int) + ((q + j : Nat) : Int) - 2 * (k : Int)) = ((p + i - k : Nat) : Int) + ((q - k + j : Nat) : Int) by omega]
      refine x_istore rfl ?_
      refine x_iload rfl ?_
      refine x_iload rfl ?_
      refine x_iconst ?_
      refine x_iadd ?_
      refine x_imul ?_
      refine x_iconst ?_
      refine x_idiv0 (by omega) ?_
      refine x_iload rfl ?_
      refine x_iadd ?_
      refine x_iload rfl ?_
      refine x_isub ?_
      rw [show ((((p + i - k : Nat) : Int) + ((q - k + j : Nat) : Int)) * (((p + i - k : Nat) : Int) + ((q - k + j : Nat) : Int) + 1) / 2 + ((q + j : Nat) : Int) - (k : Int)) = (((pl (p + i - k) (q - k + j)) : Nat) : Int) by omega]
      refine x_istore rfl ?_
      refine x_iload rfl ?_
      refine x_aload_n rfl ?_
      refine x_gr tg_110 rfl (fx_110_0 hF) ?_
      refine x_iload rfl ?_
      refine x_aald (by rw [tg_111]; decide) (ln_111 L) (by omega) (fx_ch hF (q := q) (by omega)) ?_
      refine x_iload rfl ?_
      refine x_ialdv (Or.inl (tg_ch (q := q) (by omega))) (ln_ch L (q := q) (by omega)) (by omega) (show _ = ch q k from (congrFun (stc_o (by unfold Nt at hN; omega)) _).trans (hB.2.1 q k (by omega) (by omega))) ?_
      refine x_aload_n rfl ?_
      refine x_gr tg_110 rfl (fx_110_1 hF) ?_
      refine x_iload rfl ?_
      refine x_aald (by rw [tg_125]; decide) (ln_125 L) (by omega) (fx_fa hF (q := i) (by omega)) ?_
      refine x_iload rfl ?_
      refine x_ialdv (Or.inl (tg_fa (q := i) (by omega))) (ln_fa L (q := i) (by omega)) (by omega) (show _ = fal i k from (congrFun (stc_o (by unfold Nt at hN; omega)) _).trans (hB.2.2 i k (by omega) (by omega) (by omega))) ?_
      refine x_imul ?_
      refine x_sipush ?_
      refine x_irem0 (by omega) ?_
      refine x_imul ?_
      refine x_sipush ?_
      refine x_irem0 (by omega) ?_
      refine x_istore rfl ?_
      refine x_aload_n rfl ?_
      refine x_gr ha.1 rfl ha.2.1 ?_
      refine x_iload rfl ?_
      refine x_aload_n rfl ?_
      refine x_gr ha.1 rfl ha.2.1 ?_
      refine x_iload rfl ?_
      refine x_ialdv (Or.inl ha.2.2.1) (ha.2.2.2 L) (by omega) (show _ = (f (pl (p + i - k) (q - k + j)) + cf * cop p q i j (pl (p + i - k) (q - k + j)) k) % 10007 from stc_s t2) ?_
      refine x_iload rfl ?_
      refine x_iadd ?_
      refine x_sipush ?_
      refine x_irem0 (by omega) ?_
      refine x_iast ha.2.2.1 (ha.2.2.2 L) (by omega) ?_
      refine x_iinc rfl rfl ?_
      exact rfl
    refine t_goeq (s3 rfl (stc_w (t := (pl (p + i - k) (q - k + j))) rfl t2 (fun w hw => ?_)))
    rw [cop_s, Int.mul_add]
    by_cases ew : w = (pl (p + i - k) (q - k + j))
    · rw [if_pos ew, if_pos ew, ew, em2]
      omega
    · rw [if_neg ew, if_neg ew, Int.mul_zero, Int.add_zero]
  · obtain ⟨w14, w15, w16, e⟩ := hp
    subst e
    refine ⟨(195, [vR 110, vR a, l2, l3, l4, l5, vI p, vI q, l8, vI i, vI ((q + j : Nat) : Int), vI cf, vI ((min i q : Nat) : Int), vI ((min i q + 1 : Nat) : Int), w14, w15, w16], [], LH L (stc I c (fun w => (f w + cf * cop p q i j w (min i q + 1)) % 10007)) R u), ?_, by show ¬ 195 = 93 + 2; decide, ⟨w14, w15, w16, rfl⟩⟩
    unfold wX1_addWordProduct_93
    apply t_Qs
    apply t_B
    · refine x_iload rfl ?_
      refine x_iload rfl ?_
      exact rfl
    exact t_ic_gt_t (by omega)
set_option maxRecDepth 10000 in
theorem lp1_awn {d L : Nat} {I : Nat → Nat → Int} {R : Nat → Nat → Option Nat} {u : Int64} {a : Nat} {p q i j : Nat} {cf : Int} {l2 l3 l4 l5 l8 w14 w15 w16 : am_V} : am_lp (am_ev (am_run am_tb d) wX1_addWordProduct_93) 93 am_F ([vR 110, vR a, l2, l3, l4, l5, vI p, vI q, l8, vI i, vI ((q + j : Nat) : Int), vI cf, vI (-1), vI 0, w14, w15, w16], [], LH L I R u) = some (195, [vR 110, vR a, l2, l3, l4, l5, vI p, vI q, l8, vI i, vI ((q + j : Nat) : Int), vI cf, vI (-1), vI 0, w14, w15, w16], [], LH L I R u) := by
  refine lp_up0 (fun k => _) 0 rfl (ltF (by omega)) (by show ¬ 195 = 93 + 2; decide) (fun k hk => by omega) ?_
  unfold wX1_addWordProduct_93
  apply t_Qs
  apply t_B
  · refine x_iload rfl ?_
    refine x_iload rfl ?_
    exact rfl
  exact t_ic_gt_t (by omega)
set_option maxRecDepth 10000 in
theorem lp1_awo {d L : Nat} {I : Nat → Nat → Int} {R : Nat → Nat → Option Nat} {u : Int64} {a c b e : Nat} (hF : FixR R) (hB : Tbc I) (ha : Opx R a c) (hb : Opx R b e) (hN : Nt c) (hce : e ≠ c) (hc : Rsc I c) (he : Rsc I e) {v : Int} (hv : 0 ≤ v ∧ v < 10007) {z n : Nat} (hz : z < 91) (hn : n ≤ 91) (hd : ∀ k, k < n → I e k ≠ 0 → wn z + wn k ≤ 12) : ∃ r, am_lp (am_ev (am_run am_tb (d + 1)) wX1_addWordProduct_17) 17 am_F ([vR 110, vR a, vI v, vI z, vR b, vI n, vI (xw z : Nat), vI (dw z : Nat), vI 0, vU, vU, vU, vU, vU, vU, vU, vU], [], LH L I R u) = some r ∧ ∃ w9 w10 w11 w12 w13 w14 w15 w16, r = (201, [vR 110, vR a, vI v, vI z, vR b, vI n, vI (xw z : Nat), vI (dw z : Nat), vI n, w9, w10, w11, w12, w13, w14, w15, w16], [], LH L (stc I c (fun w => (I c w + v * cor (xw z) (dw z) (cl I e) n w) % 10007)) R u) := by
  refine lp_inv (fun k y => ∃ w9 w10 w11 w12 w13 w14 w15 w16, y = ([vR 110, vR a, vI v, vI z, vR b, vI n, vI (xw z : Nat), vI (dw z : Nat), vI k, w9, w10, w11, w12, w13, w14, w15, w16], [], LH L (stc I c (fun w => (I c w + v * cor (xw z) (dw z) (cl I e) k w) % 10007)) R u)) _ n ⟨_, _, _, _, _, _, _, _, s3 rfl (stc_id (fun w hw => ?_)).symm⟩ (ltF (by omega)) (fun k y hk hp => ?_) (fun y hp => ?_)
  · have := hc w hw
    show (I c w + v * 0) % 10007 = I c w
    rw [Int.mul_zero]
    omega
  · obtain ⟨w9, w10, w11, w12, w13, w14, w15, w16, e0⟩ := hp
    subst e0
    have hB2 : Tbc (stc I c (fun w => (I c w + v * cor (xw z) (dw z) (cl I e) k w) % 10007)) := Tbc_s hB hN
    have hek := he k (by omega)
    have m1 := mul_b (a := v) (b := I e k) (m := 10006) (n := 10006) (by omega) (by omega)
    have hz1 := wn_12 hz
    have hz2 := xw_dw z
    have hk1 := wn_12 (k := k) (by omega)
    have hk2 := xw_dw k
    have hnext : ∀ w, cor (xw z) (dw z) (cl I e) (k + 1) w = cor (xw z) (dw z) (cl I e) k w + I e k * co (xw z) (dw z) (xw k) (dw k) w := fun w => by
      show _ + cl I e k * _ = _
      rw [cl_s (by omega)]
      rfl
    by_cases q0 : v * I e k % 10007 = 0
    · have hl := lp1_awn (d := d + 1) (L := L) (I := (stc I c (fun w => (I c w + v * cor (xw z) (dw z) (cl I e) k w) % 10007))) (R := R) (u := u) (a := a) (p := xw z) (q := dw z) (i := xw k) (j := dw k) (cf := v * I e k % 10007) (l2 := vI v) (l3 := vI z) (l4 := vR b) (l5 := vI n) (l8 := vI k) (w14 := w14) (w15 := w15) (w16 := w16)
      have hg : (stc I c (fun w => (I c w + v * cor (xw z) (dw z) (cl I e) k w) % 10007)) = (stc I c (fun w => (I c w + v * cor (xw z) (dw z) (cl I e) (k + 1) w) % 10007)) := stc_c (fun w hw => by
        rw [hnext, Int.mul_add, ← Int.mul_assoc v]
        have := em1 (v * I e k) (co (xw z) (dw z) (xw k) (dw k) w)
        rw [q0, Int.zero_mul] at this
        omega)
      refine inv_e8 (ls := fun w9 w10 w11 w12 w13 w14 w15 w16 => [vR 110, vR a, vI v, vI z, vR b, vI n, vI (xw z : Nat), vI (dw z : Nat), vI ((k + 1 : Nat) : Int), w9, w10, w11, w12, w13, w14, w15, w16]) (h := LH L (stc I c (fun w => (I c w + v * cor (xw z) (dw z) (cl I e) (k + 1) w) % 10007)) R u) ?_ (fun _ _ _ _ _ _ _ _ => ⟨_, _, _, _, _, _, _, _, rfl⟩)
      apply Exists.intro
      apply Exists.intro
      apply Exists.intro
      apply Exists.intro
      apply Exists.intro
      apply Exists.intro
      apply Exists.intro
      apply Exists.intro
      rw [← hg]
      unfold wX1_addWordProduct_17
      apply t_Q
      · apply t_B
        · refine x_iload rfl ?_
          refine x_iload rfl ?_
          exact rfl
        exact t_ic_ge_f (by omega)
      apply t_Q
      · apply t_S
        refine x_getstatic ?_
        refine x_iload rfl ?_
        refine x_ialdv (Or.inr tg_1) (ln_1 L) (by omega) (show _ = ((xw k : Nat) : Int) from hB2.1.1 _ (by omega)) ?_
        refine x_istore rfl ?_
        refine x_iload rfl ?_
        refine x_getstatic ?_
        refine x_iload rfl ?_
        refine x_ialdv (Or.inr tg_2) (ln_2 L) (by omega) (show _ = ((dw k : Nat) : Int) from hB2.1.2 _ (by omega)) ?_
        refine x_iadd ?_
        rw [show ((dw z : Nat) : Int) + ((dw k : Nat) : Int) = ((dw z + dw k : Nat) : Int) by omega]
        refine x_istore rfl ?_
        refine x_iload_n rfl ?_
        refine x_aload rfl ?_
        refine x_gr hb.1 rfl hb.2.1 ?_
        refine x_iload rfl ?_
        refine x_ialdv (Or.inl hb.2.2.1) (hb.2.2.2 L) (by omega) (show _ = I e k from congrFun (stc_o hce) k) ?_
        refine x_imul ?_
        refine x_sipush ?_
        refine x_irem0 (by omega) ?_
        refine x_istore rfl ?_
        refine x_iload rfl ?_
        exact rfl
      apply t_Q
      · apply t_K
        apply t_Qs
        apply t_Ks
        · apply t_Q
          · apply t_K
            apply t_Qs
            apply t_B
            · exact rfl
            exact t_if_eq_t (by omega)
          apply t_B
          · refine x_iconst ?_
            exact rfl
          exact t_goto
        · decide
      apply t_Q
      · apply t_S
        refine x_istore rfl ?_
        refine x_iconst ?_
        refine x_istore rfl ?_
        exact rfl
      apply t_Q
      · apply t_K
        apply t_W
        exact hl
      apply t_B
      · refine x_iinc rfl rfl ?_
        exact rfl
      exact t_goeq rfl
    · have hne : I e k ≠ 0 := fun q => q0 (by rw [q, Int.mul_zero]; rfl)
      have hdk := hd k hk hne
      obtain ⟨r, hl, w14', w15', w16', er⟩ := lp1_awp (d := d + 1) (L := L) (I := I) (R := R) (u := u) hF hB ha hN (f := fun w => (I c w + v * cor (xw z) (dw z) (cl I e) k w) % 10007) (fun w _ => by omega) (cf := v * I e k % 10007) (by omega) (p := xw z) (q := dw z) (i := xw k) (j := dw k) (by omega) (l2 := vI v) (l3 := vI z) (l4 := vR b) (l5 := vI n) (l8 := vI k) (w14 := w14) (w15 := w15) (w16 := w16)
      subst er
      have hg : stc I c (fun w => ((I c w + v * cor (xw z) (dw z) (cl I e) k w) % 10007 + v * I e k % 10007 * co (xw z) (dw z) (xw k) (dw k) w) % 10007) = (stc I c (fun w => (I c w + v * cor (xw z) (dw z) (cl I e) (k + 1) w) % 10007)) := stc_c (fun w hw => by
        rw [hnext, Int.mul_add, ← Int.mul_assoc v]
        have := em1 (v * I e k) (co (xw z) (dw z) (xw k) (dw k) w)
        omega)
      rw [hg] at hl
      refine inv_e8 (ls := fun w9 w10 w11 w12 w13 w14 w15 w16 => [vR 110, vR a, vI v, vI z, vR b, vI n, vI (xw z : Nat), vI (dw z : Nat), vI ((k + 1 : Nat) : Int), w9, w10, w11, w12, w13, w14, w15, w16]) (h := LH L (stc I c (fun w => (I c w + v * cor (xw z) (dw z) (cl I e) (k + 1) w) % 10007)) R u) ?_ (fun _ _ _ _ _ _ _ _ => ⟨_, _, _, _, _, _, _, _, rfl⟩)
      apply Exists.intro
      apply Exists.intro
      apply Exists.intro
      apply Exists.intro
      apply Exists.intro
      apply Exists.intro
      apply Exists.intro
      apply Exists.intro
      unfold wX1_addWordProduct_17
      apply t_Q
      · apply t_B
        · refine x_iload rfl ?_
          refine x_iload rfl ?_
          exact rfl
        exact t_ic_ge_f (by omega)
      apply t_Q
      · apply t_S
        refine x_getstatic ?_
        refine x_iload rfl ?_
        refine x_ialdv (Or.inr tg_1) (ln_1 L) (by omega) (show _ = ((xw k : Nat) : Int) from hB2.1.1 _ (by omega)) ?_
        refine x_istore rfl ?_
        refine x_iload rfl ?_
        refine x_getstatic ?_
        refine x_iload rfl ?_
        refine x_ialdv (Or.inr tg_2) (ln_2 L) (by omega) (show _ = ((dw k : Nat) : Int) from hB2.1.2 _ (by omega)) ?_
        refine x_iadd ?_
        rw [show ((dw z : Nat) : Int) + ((dw k : Nat) : Int) = ((dw z + dw k : Nat) : Int) by omega]
        refine x_istore rfl ?_
        refine x_iload_n rfl ?_
        refine x_aload rfl ?_
        refine x_gr hb.1 rfl hb.2.1 ?_
        refine x_iload rfl ?_
        refine x_ialdv (Or.inl hb.2.2.1) (hb.2.2.2 L) (by omega) (show _ = I e k from congrFun (stc_o hce) k) ?_
        refine x_imul ?_
        refine x_sipush ?_
        refine x_irem0 (by omega) ?_
        refine x_istore rfl ?_
        refine x_iload rfl ?_
        exact rfl
      apply t_Q
      · apply t_Ks
        · apply t_Q
          · apply t_K
            apply t_Qs
            apply t_Ks
            · apply t_Q
              · apply t_B
                · exact rfl
                exact t_if_eq_f (by omega)
              apply t_B
              · refine x_iload rfl ?_
                refine x_iload rfl ?_
                refine x_iadd ?_
                refine x_iload rfl ?_
                refine x_iadd ?_
                refine x_bipush ?_
                exact rfl
              exact t_ic_le_t (by omega)
            · decide
          apply t_S
          refine x_iload rfl ?_
          refine x_iload rfl ?_
          refine x_S2i (by decide) (Nat.le_of_ble_eq_true rfl) ((sj_min (d := d) (by omega) (by omega)).trans (by rw [show min ((dw z : Nat) : Int) ((xw k : Nat) : Int) = ((min (xw k) (dw z) : Nat) : Int) by omega])) ?_
          exact rfl
        · decide
      apply t_Q
      · apply t_S
        refine x_istore rfl ?_
        refine x_iconst ?_
        refine x_istore rfl ?_
        exact rfl
      apply t_Q
      · apply t_K
        apply t_W
        exact hl
      apply t_B
      · refine x_iinc rfl rfl ?_
        exact rfl
      exact t_goeq rfl
  · obtain ⟨w9, w10, w11, w12, w13, w14, w15, w16, e0⟩ := hp
    subst e0
    refine ⟨(201, [vR 110, vR a, vI v, vI z, vR b, vI n, vI (xw z : Nat), vI (dw z : Nat), vI n, w9, w10, w11, w12, w13, w14, w15, w16], [], LH L (stc I c (fun w => (I c w + v * cor (xw z) (dw z) (cl I e) n w) % 10007)) R u), ?_, by show ¬ 201 = 17 + 2; decide, ⟨w9, w10, w11, w12, w13, w14, w15, w16, rfl⟩⟩
    unfold wX1_addWordProduct_17
    apply t_Qs
    apply t_B
    · refine x_iload rfl ?_
      refine x_iload rfl ?_
      exact rfl
    exact t_ic_ge_t (by omega)
set_option maxRecDepth 10000 in
theorem s1_addWord {d L : Nat} {I : Nat → Nat → Int} {R : Nat → Nat → Option Nat} {u : Int64} {a c b e : Nat} (hF : FixR R) (hB : Tbc I) (ha : Opx R a c) (hb : Opx R b e) (hN : Nt c) (hce : e ≠ c) (hc : Rsc I c) (he : Rsc I e) {v : Int} (hv : 0 ≤ v ∧ v < 10007) {z n : Nat} (hz : z < 91) (hn : n ≤ 91) (hd : ∀ k, k < n → I e k ≠ 0 → wn z + wn k ≤ 12) : am_run am_tb (d + 2) 15 [vR 110, vR a, vI v, vI z, vR b, vI n] (LH L I R u) = some ([], LH L (stc I c (fun w => (I c w + v * cor (xw z) (dw z) (cl I e) n w) % 10007)) R u) := by
  refine run_of tb_X1_addWordProduct (Nat.le_of_ble_eq_true rfl) ?_
  show ∃ ls', am_ev (am_run am_tb (d + 1)) tX1_addWordProduct ([vR 110, vR a, vI v, vI z, vR b, vI n, vU, vU, vU, vU, vU, vU, vU, vU, vU, vU, vU], [], (LH L I R u)) = some (1, ls', [], LH L (stc I c (fun w => (I c w + v * cor (xw z) (dw z) (cl I e) n w) % 10007)) R u)
  obtain ⟨r, hl, w9, w10, w11, w12, w13, w14, w15, w16, er⟩ := lp1_awo (d := d) (L := L) (u := u) hF hB ha hb hN hce hc he hv hz hn hd
  subst er
  apply Exists.intro
  unfold tX1_addWordProduct
  apply t_Q
  · apply t_S
    refine x_getstatic ?_
    refine x_iload_n rfl ?_
    refine x_ialdv (Or.inr tg_1) (ln_1 L) (by omega) (show _ = ((xw z : Nat) : Int) from hB.1.1 _ hz) ?_
    refine x_istore rfl ?_
    refine x_getstatic ?_
    refine x_iload_n rfl ?_
    refine x_ialdv (Or.inr tg_2) (ln_2 L) (by omega) (show _ = ((dw z : Nat) : Int) from hB.1.2 _ hz) ?_
    refine x_istore rfl ?_
    refine x_iconst ?_
    refine x_istore rfl ?_
    exact rfl
  apply t_Q
  · apply t_K
    apply t_W
    exact hl
  apply t_B
  · exact rfl
  exact rfl
