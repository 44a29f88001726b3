/-! The class: cross, dismiss, taking in. Written by wip/whole/gen_9f.py. -/
theorem cor_c {p q w : Nat} {f g : Nat → Int} (h : ∀ j, j < 496 → f j = g j) : cor p q f 496 w = cor p q g 496 w := smk_c (fun k hk => by rw [h k hk])
/-- a word in d times a row, less a word in x times another -/
def crC (a b : Nat) (f g : Nat → Int) : Nat → Int := fun w => if w < 91 then (cor 0 a f 496 w % 10007 + 10006 * cor b 0 g 496 w) % 10007 else 0
theorem crC_G {a b : Nat} {f g : Nat → Int} : Gv (crC a b f g) := by
  refine ⟨fun k _ => ?_, dgr_le (by decide) (fun w hw q => ?_)⟩
  · unfold crC
    split <;> omega
  · refine if_neg fun h => ?_
    have := wn_12 h
    omega
set_option maxRecDepth 10000 in
theorem s3_cross {d L : Nat} {I : Nat → Nat → Int} {R : Nat → Nat → Option Nat} {u : Int64} (hF : FixR R) {ρ : Nat → Nat} {o : Int} {κ ω : Nat} {F : Nat → Nat → Int} {lx ld : Nat → Nat} {st : Nat → Int} (hC : Cst I R ρ o κ ω F lx ld st) (hB : Tbc I) {k : Nat} (hk : k + 1 < κ) (hκ : κ < 6) (hω : ω = 0) (hx : lx (k + 1) ≤ lx k) (hd : ld k ≤ ld (k + 1)) (hd1 : ∀ w, w < 91 → F k w ≠ 0 → ld (k + 1) - ld k + wn w ≤ 12) (hd2 : ∀ w, w < 91 → F (k + 1) w ≠ 0 → lx k - lx (k + 1) + wn w ≤ 12) : ∃ J, am_run am_tb (d + 3) 33 [vR 165, vI (k : Nat)] (LH L I R u) = some ([], LH L J R u) ∧ Cst J R ρ o κ 1 (au F κ (crC (ld (k + 1) - ld k) (lx k - lx (k + 1)) (F k) (F (k + 1)))) lx ld st ∧ Fcm I J := by
  subst hω
  obtain ⟨hP, c8, c9, c10, c6, cF, cl_, cs⟩ := id hC
  have l0 := (cl_ k (by omega)).2.2
  have l1 := (cl_ (k + 1) (by omega)).2.2
  have r0 := (hP.1 k (by omega)).2
  have r1 := (hP.1 (k + 1) (by omega)).2
  have rt := (hP.1 κ (by omega)).2
  have n0 : ρ k ≠ ρ κ := fun z => by have := hP.2 _ _ (by omega) (by omega) z; omega
  have n1 : ρ (k + 1) ≠ ρ κ := fun z => by have := hP.2 _ _ (by omega) (by omega) z; omega
  have g0 := cF k (by omega)
  have g1 := cF (k + 1) (by omega)
  have hz := s6_makeZero (d := d) (L := L) (u := u) (I := I) (op_cm hF rt)
  obtain ⟨Z, hZ⟩ : ∃ Z, Z = stc I (224 + 2 * ρ κ) (fun _ => 0) := ⟨_, rfl⟩
  rw [← hZ] at hz
  have z0 : Z (224 + 2 * ρ k) = I (224 + 2 * ρ k) := by rw [hZ, stc_o (by omega)]
  have z1 : Z (224 + 2 * ρ (k + 1)) = I (224 + 2 * ρ (k + 1)) := by rw [hZ, stc_o (by omega)]
  have zt0 : ∀ j, j < 91 → Z (224 + 2 * ρ κ) j = 0 := fun j hj => by rw [hZ, stc_s hj]
  have hBZ : Tbc Z := by rw [hZ]; exact Tbc_s hB (by unfold Nt; omega)
  have hr0 : Rsc Z (224 + 2 * ρ k) := fun j hj => by rw [z0, g0.2 j hj]; exact g0.1.1 j (by omega)
  have he0 := s6_extent (d := d + 1) (L := L) (u := u) (I := Z) (op_cm hF r0) hr0
  have hcl0 : ∀ j, j < 496 → cl Z (224 + 2 * ρ k) j = F k j := cl_a2 (fun j hj => by rw [z0]; exact g0.2 j hj) g0.1.2
  have eb0 := ext_b (I := Z) (c := 224 + 2 * ρ k)
  have ha0 := s1_addWord (d := d) (L := L) (u := u) (I := Z) hF hBZ (op_cm hF rt) (op_cm hF r0) (by unfold Nt; omega) (by omega) (fun j hj => by rw [zt0 j hj]; omega) hr0 (v := 1) (by omega) (z := pl 0 (ld (k + 1) - ld k)) (n := 496 - zt (cl Z (224 + 2 * ρ k))) (pl_91 (by omega)) (by omega) (fun m hm hne => by
    rw [z0, g0.2 m (by omega)] at hne
    have := hd1 m (by omega) hne
    rw [wn_pl]
    omega)
  obtain ⟨Y, hY⟩ : ∃ Y, Y = stc Z (224 + 2 * ρ κ) (fun w => cor 0 (ld (k + 1) - ld k) (F k) 496 w % 10007) := ⟨_, rfl⟩
  replace ha0 := ev_c ha0 (show _ = Y by
    rw [hY]
    refine stc_c (fun w hw => ?_)
    rw [zt0 w hw, Int.one_mul, Int.zero_add, xw_pl, dw_pl, ← cor_ext (by omega) (fun m h1 h2 => ext_z h1 h2), cor_c hcl0])
  have y1 : Y (224 + 2 * ρ (k + 1)) = I (224 + 2 * ρ (k + 1)) := by rw [hY, stc_o (by omega), z1]
  have yt : ∀ j, j < 91 → Y (224 + 2 * ρ κ) j = cor 0 (ld (k + 1) - ld k) (F k) 496 j % 10007 := fun j hj => by rw [hY, stc_s hj]
  have hBY : Tbc Y := by rw [hY]; exact Tbc_s hBZ (by unfold Nt; omega)
  have hr1 : Rsc Y (224 + 2 * ρ (k + 1)) := fun j hj => by rw [y1, g1.2 j hj]; exact g1.1.1 j (by omega)
  have he1 := s6_extent (d := d + 1) (L := L) (u := u) (I := Y) (op_cm hF r1) hr1
  have hcl1 : ∀ j, j < 496 → cl Y (224 + 2 * ρ (k + 1)) j = F (k + 1) j := cl_a2 (fun j hj => by rw [y1]; exact g1.2 j hj) g1.1.2
  have eb1 := ext_b (I := Y) (c := 224 + 2 * ρ (k + 1))
  have ha1 := s1_addWord (d := d) (L := L) (u := u) (I := Y) hF hBY (op_cm hF rt) (op_cm hF r1) (by unfold Nt; omega) (by omega) (fun j hj => by rw [yt j hj]; omega) hr1 (v := 10006) (by omega) (z := pl (lx k - lx (k + 1)) 0) (n := 496 - zt (cl Y (224 + 2 * ρ (k + 1)))) (pl_91 (by omega)) (by omega) (fun m hm hne => by
    rw [y1, g1.2 m (by omega)] at hne
    have := hd2 m (by omega) hne
    rw [wn_pl]
    omega)
  obtain ⟨X, hX⟩ : ∃ X, X = stc Y (224 + 2 * ρ κ) (crC (ld (k + 1) - ld k) (lx k - lx (k + 1)) (F k) (F (k + 1))) := ⟨_, rfl⟩
  replace ha1 := ev_c ha1 (show _ = X by
    rw [hX]
    refine stc_c (fun w hw => ?_)
    unfold crC
    rw [if_pos hw, yt w hw, xw_pl, dw_pl, ← cor_ext (by omega) (fun m h1 h2 => ext_z h1 h2), cor_c hcl1])
  have fX : ∀ a, a ≠ 224 + 2 * ρ κ → X a = I a := fun a ha => by rw [hX, stc_o ha, hY, stc_o ha, hZ, stc_o ha]
  refine ⟨au X 165 (au (X 165) 9 1), ?_, ⟨hP, by rw [au_s, au_n _ _ (by decide), fX 165 (by omega)]; exact c8, by rw [au_s, au_s]; rfl, by rw [au_s, au_n _ _ (by decide), fX 165 (by omega)]; exact c10, by omega, fun m hm => ?_, fun m hm => by rw [au_n _ _ (by decide), au_n _ _ (by decide), fX 168 (by omega), fX 169 (by omega)]; exact cl_ m hm, fun m hm => by rw [au_n _ _ (by decide), fX 170 (by omega)]; exact cs m hm⟩, Fcm_f (by rw [hX, hY, hZ]; exact Fcm_s (Fcm_s (Fcm_s (Fcm_r I) (by omega)) (by omega)) (by omega)) (by decide)⟩
  · generalize 496 - zt (cl Z (224 + 2 * ρ k)) = N0 at *
    generalize 496 - zt (cl Y (224 + 2 * ρ (k + 1))) = N1 at *
    refine run_of tb_X3_cross (Nat.le_of_ble_eq_true rfl) ?_
    show ∃ ls', am_ev (am_run am_tb (d + 2)) tX3_cross ([vR 165, vI (k : Nat), vU, vU, vU, vU, vU, vU, vU], [], LH L I R u) = _
    apply Exists.intro
    unfold tX3_cross
    apply t_Q
    · apply t_S
      refine x_aload_n rfl ?_
      refine x_gr tg_165 rfl (fx_165_5 hF) ?_
      refine x_iload_n rfl ?_
      refine x_ialdv (Or.inl tg_168) (ln_168 L) (by omega) (show _ = ((lx k : Nat) : Int) from (hC.2.2.2.2.2.2.1 (k) (by omega)).1) ?_
      refine x_aload_n rfl ?_
      refine x_gr tg_165 rfl (fx_165_5 hF) ?_
      refine x_iload_n rfl ?_
      refine x_iconst ?_
      refine x_iadd ?_
      rw [show (k : Int) + 1 = ((k + 1 : Nat) : Int) by omega]
      refine x_ialdv (Or.inl tg_168) (ln_168 L) (by omega) (show _ = ((lx (k + 1) : Nat) : Int) from (hC.2.2.2.2.2.2.1 ((k + 1)) (by omega)).1) ?_
      refine x_isub ?_
      rw [show ((lx k : Nat) : Int) - ((lx (k + 1) : Nat) : Int) = ((lx k - lx (k + 1) : Nat) : Int) by omega]
      refine x_istore_n rfl ?_
      refine x_aload_n rfl ?_
      refine x_gr tg_165 rfl (fx_165_6 hF) ?_
      refine x_iload_n rfl ?_
      refine x_iconst ?_
      refine x_iadd ?_
      rw [show (k : Int) + 1 = ((k + 1 : Nat) : Int) by omega]
      refine x_ialdv (Or.inl tg_169) (ln_169 L) (by omega) (show _ = ((ld (k + 1) : Nat) : Int) from (hC.2.2.2.2.2.2.1 ((k + 1)) (by omega)).2.1) ?_
      refine x_aload_n rfl ?_
      refine x_gr tg_165 rfl (fx_165_6 hF) ?_
      refine x_iload_n rfl ?_
      refine x_ialdv (Or.inl tg_169) (ln_169 L) (by omega) (show _ = ((ld k : Nat) : Int) from (hC.2.2.2.2.2.2.1 (k) (by omega)).2.1) ?_
      refine x_isub ?_
      rw [show ((ld (k + 1) : Nat) : Int) - ((ld k : Nat) : Int) = ((ld (k + 1) - ld k : Nat) : Int) by omega]
      refine x_istore_n rfl ?_
      refine x_aload_n rfl ?_
      refine x_giv tg_165 rfl (show _ = (κ : Int) from hC.2.1) ?_
      refine x_bipush ?_
      exact rfl
    apply t_Q
    · apply t_K
      apply t_Qs
      apply t_Ks
      · apply t_Q
        · apply t_B
          · exact rfl
          exact t_ic_ge_f (by omega)
        apply t_Q
        · apply t_B
          · refine x_iload_n rfl ?_
            exact rfl
          exact t_if_lt_f (by omega)
        apply t_B
        · refine x_iload_n rfl ?_
          exact rfl
        exact t_if_ge_t (by omega)
      · decide
    apply t_B
    · refine x_aload_n rfl ?_
      refine x_gr tg_165 rfl (fx_165_4 hF) ?_
      refine x_aload_n rfl ?_
      refine x_giv tg_165 rfl (show _ = (κ : Int) from hC.2.1) ?_
      refine x_aald (by rw [tg_167]; decide) (ln_167 L) (by omega) ((hC.1.1 κ (by omega)).1 : R 167 κ = some (223 + 2 * ρ κ)) ?_
      refine x_astore rfl ?_
      refine x_aload_n rfl ?_
      refine x_gr tg_165 rfl (fx_165_4 hF) ?_
      refine x_iload_n rfl ?_
      refine x_aald (by rw [tg_167]; decide) (ln_167 L) (by omega) ((hC.1.1 k (by omega)).1 : R 167 k = some (223 + 2 * ρ k)) ?_
      refine x_astore rfl ?_
      refine x_aload_n rfl ?_
      refine x_gr tg_165 rfl (fx_165_4 hF) ?_
      refine x_iload_n rfl ?_
      refine x_iconst ?_
      refine x_iadd ?_
      rw [show (k : Int) + 1 = ((k + 1 : Nat) : Int) by omega]
      refine x_aald (by rw [tg_167]; decide) (ln_167 L) (by omega) ((hC.1.1 (k + 1) (by omega)).1 : R 167 (k + 1) = some (223 + 2 * ρ (k + 1))) ?_
      refine x_astore rfl ?_
      refine x_iload_n rfl ?_
      refine x_iconst ?_
      refine x_S2i (by decide) (Nat.le_of_ble_eq_true rfl) (s6_placeOf (d := d) (i := lx k - lx (k + 1)) (j := 0) (by omega)) ?_
      refine x_istore rfl ?_
      refine x_iconst ?_
      refine x_iload_n rfl ?_
      refine x_S2i (by decide) (Nat.le_of_ble_eq_true rfl) (s6_placeOf (d := d) (i := 0) (j := ld (k + 1) - ld k) (by omega)) ?_
      refine x_istore rfl ?_
      refine x_aload rfl ?_
      refine x_V1v (op_cm hF (hC.1.1 κ (by omega)).2).1 (Nat.le_of_ble_eq_true rfl) (hz) ?_
      refine x_aload_n rfl ?_
      refine x_gr tg_165 rfl (fx_165_0 hF) ?_
      refine x_aload rfl ?_
      refine x_iconst ?_
      refine x_iload rfl ?_
      refine x_aload rfl ?_
      refine x_aload rfl ?_
      refine x_V1i (op_cm hF (hC.1.1 k (by omega)).2).1 (Nat.le_of_ble_eq_true rfl) (he0) ?_
      refine x_V6v tg_110 (Nat.le_of_ble_eq_true rfl) (ha0) ?_
      refine x_aload_n rfl ?_
      refine x_gr tg_165 rfl (fx_165_0 hF) ?_
      refine x_aload rfl ?_
      refine x_sipush ?_
      refine x_iload rfl ?_
      refine x_aload rfl ?_
      refine x_aload rfl ?_
      refine x_V1i (op_cm hF (hC.1.1 (k + 1) (by omega)).2).1 (Nat.le_of_ble_eq_true rfl) (he1) ?_
      refine x_V6v tg_110 (Nat.le_of_ble_eq_true rfl) (ha1) ?_
      refine x_aload_n rfl ?_
      refine x_iconst ?_
      refine x_pi tg_165 rfl rfl ?_
      exact rfl
    exact rfl
  · by_cases e : m = κ
    · rw [e, au_s]
      exact ⟨crC_G, fun j hj => by rw [au_n _ _ (by omega), hX, stc_s hj]⟩
    · rw [au_n _ _ e]
      have rm := (hP.1 m (by omega)).2
      exact ⟨(cF m (by omega)).1, fun j hj => by rw [au_n _ _ (by omega), fX _ (fun z => e (hP.2 m κ (by omega) (by omega) (by omega)))]; exact (cF m (by omega)).2 j hj⟩
/-- rows and numbers from g on move one place down, t of them -/
def dsI (I : Nat → Nat → Int) (g t : Nat) : Nat → Nat → Int := fun a j => if (a = 168 ∨ a = 169 ∨ a = 170) ∧ g ≤ j ∧ j < g + t then I a (j + 1) else I a j
def dsR (R : Nat → Nat → Option Nat) (g t : Nat) : Nat → Nat → Option Nat := fun a j => if a = 167 ∧ g ≤ j ∧ j < g + t then R a (j + 1) else R a j
theorem dsI_o {I : Nat → Nat → Int} {g t a : Nat} (h : a ≠ 168 ∧ a ≠ 169 ∧ a ≠ 170) : dsI I g t a = I a := by
  funext j
  exact if_neg (by omega)
theorem dsI_n {I : Nat → Nat → Int} {g t a j : Nat} (h : g + t ≤ j) : dsI I g t a j = I a j := if_neg (by omega)
theorem dsR_o {R : Nat → Nat → Option Nat} {g t a : Nat} (h : a ≠ 167) : dsR R g t a = R a := by
  funext j
  exact if_neg (by omega)
theorem dsR_n {R : Nat → Nat → Option Nat} {g t j : Nat} (h : g + t ≤ j) : dsR R g t 167 j = R 167 j := if_neg (by omega)
theorem dsR_s {R : Nat → Nat → Option Nat} {g t b : Nat} {i : Int} (hi : i = ((g + t : Nat) : Int)) (h : R 167 (g + t + 1) = some b) : au (dsR R g t) 167 (au (dsR R g t 167) i.toNat (some b)) = dsR R g (t + 1) := by
  subst hi
  funext a j
  rw [Int.toNat_natCast]
  by_cases e : a = 167
  · subst e
    rw [au_s]
    unfold dsR
    by_cases e2 : j = g + t
    · rw [e2, au_s, if_pos (by omega)]; exact h.symm
    · rw [au_n _ _ e2]
      by_cases e3 : g ≤ j ∧ j < g + t
      · rw [if_pos ⟨rfl, e3⟩, if_pos (by omega)]
      · rw [if_neg (by omega), if_neg (by omega)]
  · rw [au_n _ _ e]
    unfold dsR
    rw [if_neg (by omega), if_neg (by omega)]
theorem dsI_s {I : Nat → Nat → Int} {g t : Nat} {i : Int} (hi : i = ((g + t : Nat) : Int)) : au (au (au (dsI I g t) 168 (au (dsI I g t 168) i.toNat (I 168 (g + t + 1)))) 169 (au ((au (dsI I g t) 168 (au (dsI I g t 168) i.toNat (I 168 (g + t + 1)))) 169) i.toNat (I 169 (g + t + 1)))) 170 (au ((au (au (dsI I g t) 168 (au (dsI I g t 168) i.toNat (I 168 (g + t + 1)))) 169 (au ((au (dsI I g t) 168 (au (dsI I g t 168) i.toNat (I 168 (g + t + 1)))) 169) i.toNat (I 169 (g + t + 1)))) 170) i.toNat (I 170 (g + t + 1))) = dsI I g (t + 1) := by
  subst hi
  rw [Int.toNat_natCast]
  have key : ∀ a, (a = 168 ∨ a = 169 ∨ a = 170) → au (dsI I g t a) (g + t) (I a (g + t + 1)) = dsI I g (t + 1) a := fun a ha => by
    funext j
    unfold dsI
    by_cases e2 : j = g + t
    · rw [e2, au_s, if_pos ⟨ha, by omega⟩]
    · rw [au_n _ _ e2]
      by_cases e3 : g ≤ j ∧ j < g + t
      · rw [if_pos ⟨ha, e3⟩, if_pos ⟨ha, by omega⟩]
      · rw [if_neg (by omega), if_neg (by omega)]
  funext a
  by_cases e0 : a = 170
  · subst e0
    rw [au_s, au_n _ _ (by decide), au_n _ _ (by decide)]
    exact key 170 (by decide)
  · rw [au_n _ _ e0]
    by_cases e1 : a = 169
    · subst e1
      rw [au_s, au_n _ _ (by decide)]
      exact key 169 (by decide)
    · rw [au_n _ _ e1]
      by_cases e2 : a = 168
      · subst e2
        rw [au_s]
        exact key 168 (by decide)
      · rw [au_n _ _ e2]
        funext j
        unfold dsI
        rw [if_neg (by omega), if_neg (by omega)]
def sgi (g κ k : Nat) : Nat := if k < g then k else if k < κ then k + 1 else if k = κ then g else k
theorem sgi_b {g κ k : Nat} (hg : g < κ) (hκ : κ < 6) (hk : k < 6) : sgi g κ k < 6 := by
  unfold sgi
  split
  · omega
  · split
    · omega
    · split <;> omega
theorem sgi_i {g κ k l : Nat} (hg : g < κ) (h : sgi g κ k = sgi g κ l) : k = l := by
  unfold sgi at h
  (repeat' split at h) <;> omega
/-- which pairs are settled behind it -/
def sgs (st : Nat → Int) (g κ : Nat) : Nat → Int := fun k => if k + 1 = g then 0 else if g ≤ k ∧ k < κ then st (k + 1) else st k
set_option maxRecDepth 10000 in
theorem lp3_dism {d L : Nat} {I : Nat → Nat → Int} {R : Nat → Nat → Option Nat} {u : Int64} (hF : FixR R) {ρ : Nat → Nat} {o : Int} {κ ω : Nat} {F : Nat → Nat → Int} {lx ld : Nat → Nat} {st : Nat → Int} (hC : Cst I R ρ o κ ω F lx ld st) {g : Nat} (hg : g < κ) (hκ : κ < 6) : am_lp (am_ev (am_run am_tb d) wX3_dismiss_9) 9 am_F ([vR 165, vI (g : Nat), vR (223 + 2 * ρ g), vI ((g + 0 : Nat) : Int)], [], LH L I R u) = some (89, [vR 165, vI (g : Nat), vR (223 + 2 * ρ g), vI ((g + (κ - g) : Nat) : Int)], [], LH L (dsI I g (κ - g)) (dsR R g (κ - g)) u) := by
  have e0 : dsI I g 0 = I := by funext a j; exact if_neg (by omega)
  have e1 : dsR R g 0 = R := by funext a j; exact if_neg (by omega)
  refine lp_up0 (fun t => ([vR 165, vI (g : Nat), vR (223 + 2 * ρ g), vI ((g + t : Nat) : Int)], [], LH L (dsI I g t) (dsR R g t) u)) (κ - g) (by rw [e0, e1]) (ltF (by omega)) (by show ¬ 89 = 9 + 2; decide) (fun t ht => ?_) ?_
  · have hFt : FixR (dsR R g t) := FixR_m hF (fun a _ h _ => dsR_o h)
    have hFs : FixR (dsR R g (t + 1)) := FixR_m hF (fun a _ h _ => dsR_o h)
    have hb01 : I 170 (g + t + 1) = 0 ∨ I 170 (g + t + 1) = 1 := by
      have := hC.2.2.2.2.2.2.2 (g + t + 1) (by omega)
      rw [this.1]; exact this.2
    have hrn : dsR R g t 167 (g + t + 1) = some (223 + 2 * ρ (g + t + 1)) := by rw [dsR_n (by omega)]; exact (hC.1.1 (g + t + 1) (by omega)).1
    unfold wX3_dismiss_9
    apply t_Q
    · apply t_B
      · refine x_iload_n rfl ?_
        refine x_aload_n rfl ?_
        refine x_giv tg_165 rfl (show _ = (κ : Int) by rw [dsI_o (by decide)]; exact hC.2.1) ?_
        exact rfl
      exact t_ic_ge_f (by omega)
    apply t_Q
    · apply t_B
      · refine x_iload_n rfl ?_
        refine x_iconst ?_
        refine x_iadd ?_
        rw [show ((g + t : Nat) : Int) + 1 = ((g + t + 1 : Nat) : Int) by omega]
        refine x_bipush ?_
        exact rfl
      exact t_ic_ge_f (by omega)
    apply t_B
    · refine x_aload_n rfl ?_
      refine x_gr tg_165 rfl (fx_165_4 hFt) ?_
      refine x_iload_n rfl ?_
      refine x_aload_n rfl ?_
      refine x_gr tg_165 rfl (fx_165_4 hFt) ?_
      refine x_iload_n rfl ?_
      refine x_iconst ?_
      refine x_iadd ?_
      rw [show ((g + t : Nat) : Int) + 1 = ((g + t + 1 : Nat) : Int) by omega]
      refine x_aald (by rw [tg_167]; decide) (ln_167 L) (by omega) hrn ?_
      refine x_aast tg_167 ⟨by decide, by decide, (op_cm hF (hC.1.1 (g + t + 1) (by omega)).2).1⟩ (ln_167 L) (by omega) ?_
      rw [dsR_s (g := g) (t := t) rfl (hC.1.1 (g + t + 1) (by omega)).1]
      refine x_aload_n rfl ?_
      refine x_gr tg_165 rfl (fx_165_5 hFs) ?_
      refine x_iload_n rfl ?_
      refine x_aload_n rfl ?_
      refine x_gr tg_165 rfl (fx_165_5 hFs) ?_
      refine x_iload_n rfl ?_
      refine x_iconst ?_
      refine x_iadd ?_
      rw [show ((g + t : Nat) : Int) + 1 = ((g + t + 1 : Nat) : Int) by omega]
      refine x_ialdv (Or.inl tg_168) (ln_168 L) (by omega) (show _ = I 168 (g + t + 1) from dsI_n (by omega)) ?_
      refine x_iast tg_168 (ln_168 L) (by omega) ?_
      refine x_aload_n rfl ?_
      refine x_gr tg_165 rfl (fx_165_6 hFs) ?_
      refine x_iload_n rfl ?_
      refine x_aload_n rfl ?_
      refine x_gr tg_165 rfl (fx_165_6 hFs) ?_
      refine x_iload_n rfl ?_
      refine x_iconst ?_
      refine x_iadd ?_
      rw [show ((g + t : Nat) : Int) + 1 = ((g + t + 1 : Nat) : Int) by omega]
      refine x_ialdv (Or.inl tg_169) (ln_169 L) (by omega) (show _ = I 169 (g + t + 1) from (congrFun (au_n _ _ (by decide)) _).trans (dsI_n (by omega))) ?_
      refine x_iast tg_169 (ln_169 L) (by omega) ?_
      refine x_aload_n rfl ?_
      refine x_gr tg_165 rfl (fx_165_7 hFs) ?_
      refine x_iload_n rfl ?_
      refine x_aload_n rfl ?_
      refine x_gr tg_165 rfl (fx_165_7 hFs) ?_
      refine x_iload_n rfl ?_
      refine x_iconst ?_
      refine x_iadd ?_
      rw [show ((g + t : Nat) : Int) + 1 = ((g + t + 1 : Nat) : Int) by omega]
      refine x_baldv tg_170 (ln_170 L) (by omega) (show _ = I 170 (g + t + 1) from (congrFun ((au_n _ _ (by decide)).trans (au_n _ _ (by decide))) _).trans (dsI_n (by omega))) ?_
      refine x_bast tg_170 (ln_170 L) (by omega) hb01 ?_
      refine x_iinc rfl rfl ?_
      exact rfl
    exact t_goeq (s3 rfl (dsI_s rfl))
  · rw [show g + (κ - g) = κ by omega]
    unfold wX3_dismiss_9
    apply t_Qs
    apply t_B
    · refine x_iload_n rfl ?_
      refine x_aload_n rfl ?_
      refine x_giv tg_165 rfl (show _ = (κ : Int) by rw [dsI_o (by decide)]; exact hC.2.1) ?_
      exact rfl
    exact t_ic_ge_t (by omega)
set_option maxRecDepth 10000 in
theorem s3_dismiss {d L : Nat} {I : Nat → Nat → Int} {R : Nat → Nat → Option Nat} {u : Int64} (hF : FixR R) {ρ : Nat → Nat} {o : Int} {κ ω : Nat} {F : Nat → Nat → Int} {lx ld : Nat → Nat} {st : Nat → Int} (hC : Cst I R ρ o κ ω F lx ld st) {g : Nat} (hg : g < κ) (hω : 1 ≤ ω) : ∃ J R', am_run am_tb (d + 2) 29 [vR 165, vI (g : Nat)] (LH L I R u) = some ([], LH L J R' u) ∧ Cst J R' (fun k => ρ (sgi g κ k)) o (κ - 1) (ω + 1) (fun k => F (sgi g κ k)) (fun k => lx (sgi g κ k)) (fun k => ld (sgi g κ k)) (sgs st g κ) ∧ Fcm I J ∧ ∀ x, x ≠ 167 → R' x = R x := by
  obtain ⟨hP, c8, c9, c10, c6, cF, cl_, cs⟩ := id hC
  have hκ : κ < 6 := by omega
  have hl := lp3_dism (d := d + 1) (L := L) (u := u) hF hC hg hκ
  have hFt : FixR (dsR R g (κ - g)) := FixR_m hF (fun a _ h _ => dsR_o h)
  have rg := (hP.1 g (by omega))
  obtain ⟨R2, hR2⟩ : ∃ R2, R2 = au (dsR R g (κ - g)) 167 (au (dsR R g (κ - g) 167) κ (some (223 + 2 * ρ g))) := ⟨_, rfl⟩
  have hF2 : FixR R2 := by rw [hR2]; exact FixR_m hFt (fun a _ h _ => au_n _ _ h)
  obtain ⟨J0, hJ0⟩ : ∃ J0, J0 = dsI I g (κ - g) := ⟨_, rfl⟩
  have j165 : J0 165 = I 165 := by rw [hJ0, dsI_o (by decide)]
  obtain ⟨J1, hJ1⟩ : ∃ J1, J1 = au J0 165 (au (J0 165) 8 ((κ : Int) - 1)) := ⟨_, rfl⟩
  obtain ⟨J2, hJ2⟩ : ∃ J2, J2 = au J1 165 (au (J1 165) 9 ((ω : Int) + 1)) := ⟨_, rfl⟩
  have hun := s3_unsettle (d := d) (L := L) (I := J2) (u := u) hF2 (k := (g : Int) - 1) (by omega)
  obtain ⟨J3, hJ3⟩ : ∃ J3, J3 = (if 0 ≤ (g : Int) - 1 then au J2 170 (au (J2 170) ((g : Int) - 1).toNat 0) else J2) := ⟨_, rfl⟩
  rw [← hJ3] at hun
  have f3 : ∀ a, a ≠ 170 → J3 a = J2 a := fun a ha => by
    rw [hJ3]
    split
    · exact au_n _ _ ha
    · rfl
  have f2 : ∀ a, a ≠ 165 → J2 a = J0 a := fun a ha => by rw [hJ2, au_n _ _ ha, hJ1, au_n _ _ ha]
  have f1 : ∀ a, a ≠ 168 ∧ a ≠ 169 ∧ a ≠ 170 → J0 a = I a := fun a ha => by rw [hJ0, dsI_o ha]
  have j2_8 : J2 165 8 = (κ : Int) - 1 := by rw [hJ2, au_s, au_n _ _ (by decide), hJ1, au_s, au_s]
  have j2_9 : J2 165 9 = (ω : Int) + 1 := by rw [hJ2, au_s, au_s]
  have j2_10 : J2 165 10 = o := by rw [hJ2, au_s, au_n _ _ (by decide), hJ1, au_s, au_n _ _ (by decide), j165]; exact c10
  refine ⟨J3, R2, ?_, ⟨⟨fun k hk => ?_, fun k l hk hl h => ?_⟩, ?_, ?_, ?_, by omega, fun k hk => ?_, fun k hk => ?_, fun k hk => ?_⟩, ?_, fun x hx => ?_⟩
  · refine run_of tb_X3_dismiss (Nat.le_of_ble_eq_true rfl) ?_
    show ∃ ls', am_ev (am_run am_tb (d + 1)) tX3_dismiss ([vR 165, vI (g : Nat), vU, vU], [], LH L I R u) = _
    rw [← hJ0] at hl
    apply Exists.intro
    unfold tX3_dismiss
    apply t_Q
    · apply t_S
      refine x_aload_n rfl ?_
      refine x_gr tg_165 rfl (fx_165_4 hF) ?_
      refine x_iload_n rfl ?_
      refine x_aald (by rw [tg_167]; decide) (ln_167 L) (by omega) (rg.1 : R 167 g = some (223 + 2 * ρ g)) ?_
      refine x_astore_n rfl ?_
      refine x_iload_n rfl ?_
      refine x_istore_n rfl ?_
      exact rfl
    apply t_Q
    · apply t_K
      apply t_W
      exact hl
    apply t_B
    · refine x_aload_n rfl ?_
      refine x_gr tg_165 rfl (fx_165_4 hFt) ?_
      refine x_aload_n rfl ?_
      refine x_giv tg_165 rfl (show _ = (κ : Int) by rw [j165]; exact c8) ?_
      refine x_aload_n rfl ?_
      refine x_aast tg_167 ⟨by decide, by decide, (op_cm hF rg.2).1⟩ (ln_167 L) (by omega) ?_
      rw [Int.toNat_natCast, ← hR2]
      refine x_aload_n rfl ?_
      refine x_dup rfl ?_
      refine x_giv tg_165 rfl (show _ = (κ : Int) by rw [j165]; exact c8) ?_
      refine x_iconst ?_
      refine x_isub ?_
      refine x_pi tg_165 rfl rfl ?_
      rw [← hJ1]
      refine x_aload_n rfl ?_
      refine x_dup rfl ?_
      refine x_giv tg_165 rfl (show _ = (ω : Int) by rw [hJ1, au_s, au_n _ _ (by decide), j165]; exact c9) ?_
      refine x_iconst ?_
      refine x_iadd ?_
      refine x_pi tg_165 rfl rfl ?_
      rw [← hJ2]
      refine x_aload_n rfl ?_
      refine x_iload_n rfl ?_
      refine x_iconst ?_
      refine x_isub ?_
      refine x_V2v tg_165 (Nat.le_of_ble_eq_true rfl) (hun) ?_
      exact rfl
    exact rfl
  · refine ⟨?_, (hP.1 _ (sgi_b hg hκ hk)).2⟩
    show R2 167 k = some (223 + 2 * ρ (sgi g κ k))
    rw [hR2, au_s]
    by_cases e : k = κ
    · rw [e, au_s]
      unfold sgi
      rw [if_neg (by omega), if_neg (by omega), if_pos rfl]
    · rw [au_n _ _ e]
      unfold sgi dsR
      by_cases e1 : k < g
      · rw [if_pos e1, if_neg (by omega)]; exact (hP.1 k hk).1
      · rw [if_neg e1]
        by_cases e2 : k < κ
        · rw [if_pos e2, if_pos (by omega)]; exact (hP.1 (k + 1) (by omega)).1
        · rw [if_neg e2, if_neg e, if_neg (by omega)]; exact (hP.1 k hk).1
  · exact sgi_i hg (hP.2 _ _ (sgi_b hg hκ hk) (sgi_b hg hκ hl) h)
  · rw [f3 165 (by decide), j2_8]; omega
  · rw [f3 165 (by decide), j2_9]; rfl
  · rw [f3 165 (by decide), j2_10]
  · have hs : sgi g κ k < κ + ω := by
      unfold sgi
      split
      · omega
      · split
        · omega
        · split <;> omega
    have hs6 := (hP.1 (sgi g κ k) (by omega)).2
    refine ⟨(cF _ hs).1, fun j hj => ?_⟩
    rw [f3 _ (by omega), f2 _ (by omega), f1 _ (by omega)]
    exact (cF _ hs).2 j hj
  · have hs : sgi g κ k < κ := by
      unfold sgi
      split
      · omega
      · split <;> omega
    have hv : ∀ a, (a = 168 ∨ a = 169) → J3 a k = I a (sgi g κ k) := fun a ha => by
      rw [f3 a (by omega), f2 a (by omega), hJ0]
      unfold dsI sgi
      by_cases e1 : k < g
      · rw [if_pos e1, if_neg (by omega)]
      · rw [if_neg e1, if_pos (by omega), if_pos (by omega)]
    rw [hv 168 (Or.inl rfl), hv 169 (Or.inr rfl)]
    exact cl_ _ hs
  · have h2 : J2 170 k = if g ≤ k ∧ k < κ then I 170 (k + 1) else I 170 k := by
      rw [f2 170 (by decide), hJ0]
      unfold dsI
      by_cases e : g ≤ k ∧ k < κ
      · rw [if_pos e, if_pos (by omega)]
      · rw [if_neg e, if_neg (by omega)]
    have h3 : J3 170 k = sgs st g κ k := by
      unfold sgs
      by_cases e0 : 0 ≤ (g : Int) - 1
      · rw [hJ3, if_pos e0, au_s]
        by_cases e1 : k + 1 = g
        · rw [if_pos e1, show ((g : Int) - 1).toNat = k by omega, au_s]
        · rw [if_neg e1, au_n _ _ (by omega), h2]
          split
          · exact (cs (k + 1) (by omega)).1
          · exact (cs k hk).1
      · rw [hJ3, if_neg e0, if_neg (by omega), h2]
        split
        · exact (cs (k + 1) (by omega)).1
        · exact (cs k hk).1
    refine ⟨h3, ?_⟩
    unfold sgs
    split
    · exact Or.inl rfl
    · split
      · exact (cs (k + 1) (by omega)).2
      · exact (cs k hk).2
  · refine ⟨fun a ha => ?_, ?_⟩
    · rw [f3 a (by omega), f2 a (by omega), f1 a (by omega)]
    · rw [f3 165 (by decide), hJ2, au_s, au_n _ _ (by decide), hJ1, au_s, au_n _ _ (by decide), j165]
  · rw [hR2, au_n _ _ hx, dsR_o hx]
