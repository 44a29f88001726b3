/-! The class: add, covers, handOver. Written by wip/whole/gen_9m.py. -/
/-- what a basis holds -/
def Bac (I : Nat → Nat → Int) (a n : Nat) (lw' : Nat → Nat) (G : Nat → Nat → Int) : Prop := I a 5 = (n : Nat) ∧ n ≤ 4 ∧ ∀ k, k < n → lw' k < 91 ∧ I (a + 2) k = (xw (lw' k) : Nat) ∧ I (a + 3) k = (dw (lw' k) : Nat) ∧ Gv (G k) ∧ ∀ j, j < 91 → I (a + 6 + 2 * k) j = G k j
set_option maxRecDepth 10000 in
theorem s2_add {d L : Nat} {I : Nat → Nat → Int} {R : Nat → Nat → Option Nat} {u : Int64} {a : Nat} (hF : FixR R) (hB : Tbc I) (ha : Bax R a) {o : Int} (h0 : o = 0 ∨ o = 1) (ho : I a 4 = o) {n : Nat} {lw' : Nat → Nat} {G : Nat → Nat → Int} (hA : Bac I a n lw' G) (hn : n < 4) {b c w : Nat} (hb : Opx R b c) (hbc : 222 < c ∨ c < 171) (hr : Rsc I c) (hl : led o (cl I c) = (w : Nat)) {f : Nat → Int} (hf : Gv f) (hfc : ∀ j, j < 91 → I c j = f j) : ∃ J, am_run am_tb (d + 4) 22 [vR a, vR b] (LH L I R u) = some ([], LH L J R u) ∧ Bac J a (n + 1) (au lw' n w) (au G n f) ∧ J a 4 = o ∧ J (a + 4) = I (a + 4) ∧ ∀ x, ¬ (a ≤ x ∧ x ≤ a + 12) → J x = I x := by
  have ha1 := ha.1
  have hw := (led_91 hl).1
  have hld := s6_leadPlace (d := d) (L := L) (u := u) hB.1 hb hr h0
  rw [hl] at hld
  have hcp := s6_copyFrom (d := d + 2) (L := L) (u := u) (I := I) (ha.2.2.2.2.2.2.2.2.2.2 n (by omega)).2 hb
  have m5 : stc I (a + 6 + 2 * n) (I c) a 5 = (n : Nat) := by rw [stc_o (by omega)]; exact hA.1
  obtain ⟨J1, hJ1⟩ : ∃ J, J = au (stc I (a + 6 + 2 * n) (I c)) (a + 2) (au (stc I (a + 6 + 2 * n) (I c) (a + 2)) n ((xw w : Nat) : Int)) := ⟨_, rfl⟩
  obtain ⟨J2, hJ2⟩ : ∃ J, J = au J1 (a + 3) (au (J1 (a + 3)) n ((dw w : Nat) : Int)) := ⟨_, rfl⟩
  have f1 : ∀ x, x ≠ a + 2 → J1 x = stc I (a + 6 + 2 * n) (I c) x := fun x hx => by rw [hJ1, au_n _ _ hx]
  have f2 : ∀ x, x ≠ a + 2 → x ≠ a + 3 → J2 x = stc I (a + 6 + 2 * n) (I c) x := fun x h1 h2 => by rw [hJ2, au_n _ _ h2, f1 x h1]
  refine ⟨au J2 a (au (J2 a) 5 ((n : Int) + 1)), ?_, ⟨by rw [au_s, au_s]; rfl, by omega, fun k hk => ?_⟩, ?_, ?_, fun x hx => ?_⟩
  · refine run_of tb_X2_add (Nat.le_of_ble_eq_true rfl) ?_
    show ∃ ls', am_ev (am_run am_tb (d + 3)) tX2_add ([vR a, vR b, vU], [], LH L I R u) = _
    apply Exists.intro
    unfold tX2_add
    apply t_Q
    · apply t_S
      refine x_aload_n rfl ?_
      refine x_aload_n rfl ?_
      refine x_giv ha.2.1 rfl (show _ = o from ho) ?_
      refine x_V2i hb.1 (Nat.le_of_ble_eq_true rfl) (hld) ?_
      refine x_istore_n rfl ?_
      refine x_iload_n rfl ?_
      exact rfl
    apply t_Q
    · apply t_K
      apply t_Qs
      apply t_Ks
      · apply t_Q
        · apply t_B
          · exact rfl
          exact t_if_lt_f (by omega)
        apply t_B
        · refine x_aload_n rfl ?_
          refine x_giv ha.2.1 rfl (show _ = (n : Int) from hA.1) ?_
          refine x_iconst ?_
          exact rfl
        exact t_ic_lt_t (by omega)
      · decide
    apply t_B
    · refine x_aload_n rfl ?_
      refine x_gr ha.2.1 rfl ha.2.2.2.2.2.2.1 ?_
      refine x_aload_n rfl ?_
      refine x_giv ha.2.1 rfl (show _ = (n : Int) from hA.1) ?_
      refine x_aald (by rw [ha.2.2.1.1]; decide) (ha.2.2.1.2 L) (by omega) ((ha.2.2.2.2.2.2.2.2.2.2 n (by omega)).1 : R (a + 1) n = some (a + 5 + 2 * n)) ?_
      refine x_aload_n rfl ?_
      refine x_V2v (ha.2.2.2.2.2.2.2.2.2.2 n (by omega)).2.1 (Nat.le_of_ble_eq_true rfl) (hcp) ?_
      refine x_aload_n rfl ?_
      refine x_gr ha.2.1 rfl ha.2.2.2.2.2.2.2.1 ?_
      refine x_aload_n rfl ?_
      refine x_giv ha.2.1 rfl (show _ = (n : Int) from m5) ?_
      refine x_getstatic ?_
      refine x_iload_n rfl ?_
      refine x_ialdv (Or.inr tg_1) (ln_1 L) (by omega) (show _ = ((xw w : Nat) : Int) from (congrFun (stc_o (by omega)) _).trans (hB.1.1 _ hw)) ?_
      refine x_iast ha.2.2.2.1.1 (ha.2.2.2.1.2.1 L) (by omega) ?_
      rw [Int.toNat_natCast, ← hJ1]
      refine x_aload_n rfl ?_
      refine x_gr ha.2.1 rfl ha.2.2.2.2.2.2.2.2.1 ?_
      refine x_aload_n rfl ?_
      refine x_giv ha.2.1 rfl (show _ = (n : Int) from (by rw [f1 a (by omega)]; exact m5)) ?_
      refine x_getstatic ?_
      refine x_iload_n rfl ?_
      refine x_ialdv (Or.inr tg_2) (ln_2 L) (by omega) (show _ = ((dw w : Nat) : Int) from (congrFun ((f1 2 (by omega)).trans (stc_o (by omega))) _).trans (hB.1.2 _ hw)) ?_
      refine x_iast ha.2.2.2.2.1.1 (ha.2.2.2.2.1.2.1 L) (by omega) ?_
      rw [Int.toNat_natCast, ← hJ2]
      refine x_aload_n rfl ?_
      refine x_dup rfl ?_
      refine x_giv ha.2.1 rfl (show _ = (n : Int) from (by rw [f2 a (by omega) (by omega)]; exact m5)) ?_
      refine x_iconst ?_
      refine x_iadd ?_
      refine x_pi ha.2.1 rfl rfl ?_
      exact rfl
    exact rfl
  · have e2 : au J2 a (au (J2 a) 5 ((n : Int) + 1)) (a + 2) k = if k = n then ((xw w : Nat) : Int) else I (a + 2) k := by
      rw [au_n _ _ (by omega), hJ2, au_n _ _ (by omega), hJ1, au_s, au_i, stc_o (by omega)]
    have e3 : au J2 a (au (J2 a) 5 ((n : Int) + 1)) (a + 3) k = if k = n then ((dw w : Nat) : Int) else I (a + 3) k := by
      rw [au_n _ _ (by omega), hJ2, au_s, au_i, f1 _ (by omega), stc_o (by omega)]
    by_cases e : k = n
    · subst e
      rw [if_pos rfl] at e2 e3
      rw [au_s, au_s]
      refine ⟨hw, e2, e3, hf, fun j hj => ?_⟩
      rw [au_n _ _ (by omega), f2 _ (by omega) (by omega), stc_s hj]; exact hfc j hj
    · rw [if_neg e] at e2 e3
      obtain ⟨b1, b2, b3, b4, b5⟩ := hA.2.2 k (by omega)
      rw [au_n _ _ e, au_n _ _ e]
      refine ⟨b1, e2.trans b2, e3.trans b3, b4, fun j hj => ?_⟩
      rw [au_n _ _ (by omega), f2 _ (by omega) (by omega), stc_o (by omega)]; exact b5 j hj
  · rw [au_s, au_n _ _ (by decide), f2 a (by omega) (by omega), stc_o (by omega)]; exact ho
  · rw [au_n _ _ (by omega), f2 _ (by omega) (by omega), stc_o (by omega)]
  · rw [au_n _ _ (by omega), f2 x (by omega) (by omega), stc_o (by omega)]
set_option maxRecDepth 10000 in
theorem lp2_cov {d L : Nat} {I : Nat → Nat → Int} {R : Nat → Nat → Option Nat} {u : Int64} {a : Nat} (ha : Bax R a) {n : Nat} {lw' : Nat → Nat} {G : Nat → Nat → Int} (hA : Bac I a n lw' G) {i j : Nat} (hij : i + j ≤ 100) : ∃ r, am_lp (am_ev (am_run am_tb d) wX2_covers_2) 2 am_F ([vR a, vI (i : Nat), vI (j : Nat), vI (0 : Nat)], [], LH L I R u) = some r ∧ ((fbl lw' n (pl i j) = n ∧ ∃ ls, r = (40, ls, [], LH L I R u)) ∨ (fbl lw' n (pl i j) < n ∧ ∃ ls, r = (1, ls, [vI 1], LH L I R u))) := by
  have hn4 := hA.2.1
  have hle := fbl_le lw' n (pl i j)
  refine lp_inv (fun k y => y = ([vR a, vI (i : Nat), vI (j : Nat), vI (k : Nat)], [], LH L I R u)) _ (fbl lw' n (pl i j)) rfl (ltF (by omega)) (fun k y hk hy => ?_) (fun y hy => ?_)
  · subst hy
    have hno := fbl_no hk
    rw [xw_pl, dw_pl] at hno
    have hk9 := wn_12 (k := lw' k) (hA.2.2 k (by omega)).1
    have hkx := xw_dw (lw' k)
    refine ⟨([vR a, vI (i : Nat), vI (j : Nat), vI (k + 1 : Nat)], [], LH L I R u), ?_, rfl⟩
    by_cases c1 : i < xw (lw' k)
    · unfold wX2_covers_2
      apply t_Q
      · apply t_B
        · refine x_iload_n rfl ?_
          refine x_aload_n rfl ?_
          refine x_giv ha.2.1 rfl (show _ = (n : Int) from hA.1) ?_
          exact rfl
        exact t_ic_ge_f (by omega)
      apply t_Q
      · apply t_S
        refine x_aload_n rfl ?_
        refine x_gr ha.2.1 rfl ha.2.2.2.2.2.2.2.1 ?_
        refine x_iload_n rfl ?_
        refine x_ialdv (Or.inl ha.2.2.2.1.1) (ha.2.2.2.1.2.1 L) (by omega) (show _ = ((xw (lw' k) : Nat) : Int) from (hA.2.2 k (by omega)).2.1) ?_
        refine x_iload_n rfl ?_
        exact rfl
      apply t_Q
      · apply t_K
        apply t_Qs
        apply t_B
        · exact rfl
        exact t_ic_gt_t (by omega)
      apply t_B
      · refine x_iinc rfl rfl ?_
        exact rfl
      exact t_goeq rfl
    · have c2 : j < dw (lw' k) := by omega
      unfold wX2_covers_2
      apply t_Q
      · apply t_B
        · refine x_iload_n rfl ?_
          refine x_aload_n rfl ?_
          refine x_giv ha.2.1 rfl (show _ = (n : Int) from hA.1) ?_
          exact rfl
        exact t_ic_ge_f (by omega)
      apply t_Q
      · apply t_S
        refine x_aload_n rfl ?_
        refine x_gr ha.2.1 rfl ha.2.2.2.2.2.2.2.1 ?_
        refine x_iload_n rfl ?_
        refine x_ialdv (Or.inl ha.2.2.2.1.1) (ha.2.2.2.1.2.1 L) (by omega) (show _ = ((xw (lw' k) : Nat) : Int) from (hA.2.2 k (by omega)).2.1) ?_
        refine x_iload_n rfl ?_
        exact rfl
      apply t_Q
      · apply t_K
        apply t_Q
        · apply t_B
          · exact rfl
          exact t_ic_gt_f (by omega)
        apply t_Qs
        apply t_B
        · refine x_aload_n rfl ?_
          refine x_gr ha.2.1 rfl ha.2.2.2.2.2.2.2.2.1 ?_
          refine x_iload_n rfl ?_
          refine x_ialdv (Or.inl ha.2.2.2.2.1.1) (ha.2.2.2.2.1.2.1 L) (by omega) (show _ = ((dw (lw' k) : Nat) : Int) from (hA.2.2 k (by omega)).2.2.1) ?_
          refine x_iload_n rfl ?_
          exact rfl
        exact t_ic_gt_t (by omega)
      apply t_B
      · refine x_iinc rfl rfl ?_
        exact rfl
      exact t_goeq rfl
  · subst hy
    by_cases e : fbl lw' n (pl i j) = n
    · refine ⟨(40, [vR a, vI (i : Nat), vI (j : Nat), vI (fbl lw' n (pl i j) : Nat)], [], LH L I R u), ?_, by show ¬ 40 = 2 + 2; decide, Or.inl ⟨e, _, rfl⟩⟩
      rw [e]
      unfold wX2_covers_2
      apply t_Qs
      apply t_B
      · refine x_iload_n rfl ?_
        refine x_aload_n rfl ?_
        refine x_giv ha.2.1 rfl (show _ = (n : Int) from hA.1) ?_
        exact rfl
      exact t_ic_ge_t (by omega)
    · have hlt : fbl lw' n (pl i j) < n := by omega
      have hyes := fbl_yes hlt
      rw [xw_pl, dw_pl] at hyes
      generalize fbl lw' n (pl i j) = z at *
      have hk9 := wn_12 (k := lw' z) (hA.2.2 z (by omega)).1
      have hkx := xw_dw (lw' z)
      refine ⟨(1, [vR a, vI (i : Nat), vI (j : Nat), vI (z : Nat)], [vI 1], LH L I R u), ?_, by show ¬ 1 = 2 + 2; decide, Or.inr ⟨hlt, _, rfl⟩⟩
      unfold wX2_covers_2
      apply t_Q
      · apply t_B
        · refine x_iload_n rfl ?_
          refine x_aload_n rfl ?_
          refine x_giv ha.2.1 rfl (show _ = (n : Int) from hA.1) ?_
          exact rfl
        exact t_ic_ge_f (by omega)
      apply t_Q
      · apply t_S
        refine x_aload_n rfl ?_
        refine x_gr ha.2.1 rfl ha.2.2.2.2.2.2.2.1 ?_
        refine x_iload_n rfl ?_
        refine x_ialdv (Or.inl ha.2.2.2.1.1) (ha.2.2.2.1.2.1 L) (by omega) (show _ = ((xw (lw' z) : Nat) : Int) from (hA.2.2 z (by omega)).2.1) ?_
        refine x_iload_n rfl ?_
        exact rfl
      apply t_Qs
      apply t_Ks
      · apply t_Q
        · apply t_B
          · exact rfl
          exact t_ic_gt_f (by omega)
        apply t_Q
        · apply t_B
          · refine x_aload_n rfl ?_
            refine x_gr ha.2.1 rfl ha.2.2.2.2.2.2.2.2.1 ?_
            refine x_iload_n rfl ?_
            refine x_ialdv (Or.inl ha.2.2.2.2.1.1) (ha.2.2.2.2.1.2.1 L) (by omega) (show _ = ((dw (lw' z) : Nat) : Int) from (hA.2.2 z (by omega)).2.2.1) ?_
            refine x_iload_n rfl ?_
            exact rfl
          exact t_ic_gt_f (by omega)
        apply t_B
        · refine x_iconst ?_
          exact rfl
        exact t_ireq (Or.inr (by first | exact Or.inl rfl | exact Or.inr rfl)) rfl rfl
      · decide
set_option maxRecDepth 10000 in
theorem s2_covers {d L : Nat} {I : Nat → Nat → Int} {R : Nat → Nat → Option Nat} {u : Int64} {a : Nat} (ha : Bax R a) {n : Nat} {lw' : Nat → Nat} {G : Nat → Nat → Int} (hA : Bac I a n lw' G) {i j : Nat} (hij : i + j ≤ 100) : am_run am_tb (d + 1) 19 [vR a, vI (i : Nat), vI (j : Nat)] (LH L I R u) = some ([vI (if fbl lw' n (pl i j) < n then 1 else 0)], LH L I R u) := by
  refine run_of tb_X2_covers (Nat.le_of_ble_eq_true rfl) ?_
  show ∃ ls', am_ev (am_run am_tb (d + 0)) tX2_covers ([vR a, vI (i : Nat), vI (j : Nat), vU], [], (LH L I R u)) = some (1, ls', [vI (if fbl lw' n (pl i j) < n then 1 else 0)], LH L I R u)
  obtain ⟨r, hl, h⟩ := lp2_cov (d := d) (L := L) (u := u) ha hA hij
  rcases h with ⟨e, ls, er⟩ | ⟨e, ls, er⟩
  · subst er
    rw [if_neg (by omega)]
    apply Exists.intro
    unfold tX2_covers
    apply t_Q
    · apply t_S
      refine x_iconst ?_
      refine x_istore_n rfl ?_
      exact rfl
    apply t_Q
    · apply t_K
      apply t_W
      exact hl
    apply t_B
    · refine x_iconst ?_
      exact rfl
    exact t_ireq (Or.inr (by first | exact Or.inl rfl | exact Or.inr rfl)) rfl rfl
  · subst er
    rw [if_pos e]
    apply Exists.intro
    unfold tX2_covers
    apply t_Q
    · apply t_S
      refine x_iconst ?_
      refine x_istore_n rfl ?_
      exact rfl
    apply t_Qs
    apply t_Ks
    · apply t_W
      exact hl
    · decide
theorem cnP_le {p : Nat → Prop} {n x : Nat} : cnP (fun k => p k ∨ k = x) n ≤ cnP p n + 1 := by
  by_cases h : x < n ∧ ¬ p x
  · rw [cnP_or h.1 h.2]; exact Nat.le_refl _
  · have : cnP (fun k => p k ∨ k = x) n = cnP p n := cnP_c (fun k hk => ⟨fun z => z.elim id (fun e => Classical.byContradiction fun q => h ⟨by omega, by rw [← e]; exact q⟩), Or.inl⟩)
    omega
theorem pig {f : Nat → Nat} {m n : Nat} (h : ∀ k, k < n → ∃ t, t < m ∧ f t = k) : n ≤ m := by
  have h1 : ∀ m, cnP (fun k => ∃ t, t < m ∧ f t = k) n ≤ m := fun m => by
    induction m with
    | zero => rw [cnP_0 (fun k _ ⟨t, ht, _⟩ => Nat.not_lt_zero _ ht)]; exact Nat.le_refl 0
    | succ m ih =>
      have e : cnP (fun k => ∃ t, t < m + 1 ∧ f t = k) n = cnP (fun k => (∃ t, t < m ∧ f t = k) ∨ k = f m) n := cnP_c (fun k _ => ⟨fun ⟨t, ht, e⟩ => by
        by_cases q : t = m
        · exact Or.inr (by rw [← e, q])
        · exact Or.inl ⟨t, by omega, e⟩, fun z => z.elim (fun ⟨t, ht, e⟩ => ⟨t, by omega, e⟩) (fun e => ⟨m, by omega, e.symm⟩)⟩)
      rw [e]
      have := cnP_le (p := fun k => ∃ t, t < m ∧ f t = k) (n := n) (x := f m)
      omega
  have h2 : cnP (fun k => ∃ t, t < m ∧ f t = k) n = n := by
    rw [cnP_c (q := fun k => k < n) (fun k hk => ⟨fun _ => hk, fun _ => h k hk⟩)]
    exact cnP_lt (Nat.le_refl n)
  have := h1 m
  omega
/-- the best of the first k above A -/
def HoB (h : Nat → Nat) (A : Int) (k : Nat) (x y : Int) : Prop := (x = -1 ∧ y = 91 ∧ ∀ m, m < k → ¬ A < (h m : Nat)) ∨ ∃ m : Nat, x = (m : Nat) ∧ m < k ∧ A < (h m : Nat) ∧ y = (h m : Nat) ∧ ∀ m', m' < k → A < (h m' : Nat) → h m ≤ h m'
set_option maxRecDepth 10000 in
theorem lp3_ho1 {d L : Nat} {I : Nat → Nat → Int} {R : Nat → Nat → Option Nat} {u : Int64} (hF : FixR R) (hB : Tbc I) {ρ : Nat → Nat} {o : Int} (h0 : o = 0 ∨ o = 1) {s : C6} (hC : CsS I R ρ o s) {a : Nat} {A t : Int} (hA : -1 ≤ A ∧ A ≤ 91) {l7 : am_V} : ∃ r, am_lp (am_ev (am_run am_tb (d + 2)) wX3_handOver_22) 22 am_F ([vR 165, vR a, vI A, vI t, vI (-1), vI 91, vI (0 : Nat), l7], [], LH L I R u) = some r ∧ ∃ x y l7', r = (86, [vR 165, vR a, vI A, vI t, vI x, vI y, vI (s.1 : Nat), l7'], [], LH L I R u) ∧ HoB (fun m => rk o (pl (s.2.2.2.1 m) (s.2.2.2.2.1 m))) A s.1 x y := by
  have hn := hC.2.2.2.2.1
  refine lp_inv (fun k w => ∃ x y l7', w = ([vR 165, vR a, vI A, vI t, vI x, vI y, vI (k : Nat), l7'], [], LH L I R u) ∧ HoB (fun m => rk o (pl (s.2.2.2.1 m) (s.2.2.2.2.1 m))) A k x y) _ s.1 ⟨-1, 91, l7, rfl, Or.inl ⟨rfl, rfl, fun m hm => absurd hm (Nat.not_lt_zero _)⟩⟩ (ltF (by omega)) (fun k w hk hy => ?_) (fun w hy => ?_)
  · obtain ⟨x, y, l7', e0, hxy⟩ := hy
    subst e0
    have h12 := (hC.2.2.2.2.2.2.1 k hk).2.2
    have hp9 := pl_91 h12
    have hr9 := rk_91 (o := o) hp9
    have hyb : 0 ≤ y ∧ y ≤ 91 := by
      rcases hxy with ⟨_, e, _⟩ | ⟨m, _, hm, _, e, _⟩
      · omega
      · have := rk_91 (o := o) (pl_91 (hC.2.2.2.2.2.2.1 m (by omega)).2.2)
        have e : y = ((rk o (pl (s.2.2.2.1 m) (s.2.2.2.2.1 m)) : Nat) : Int) := e
        omega
    by_cases c1 : A < ((rk o (pl (s.2.2.2.1 k) (s.2.2.2.2.1 k)) : Nat) : Int)
    · by_cases c2 : ((rk o (pl (s.2.2.2.1 k) (s.2.2.2.2.1 k)) : Nat) : Int) < y
      · refine ⟨([vR 165, vR a, vI A, vI t, vI (k : Nat), vI ((rk o (pl (s.2.2.2.1 k) (s.2.2.2.2.1 k)) : Nat) : Int), vI (k + 1 : Nat), vI ((rk o (pl (s.2.2.2.1 k) (s.2.2.2.2.1 k)) : Nat) : Int)], [], LH L I R u), ?_, _, _, _, rfl, Or.inr ⟨k, rfl, by omega, c1, rfl, fun m' hm' hA' => ?_⟩⟩
        · unfold wX3_handOver_22
          apply t_Q
          · apply t_B
            · refine x_iload rfl ?_
              refine x_aload_n rfl ?_
              refine x_giv tg_165 rfl (show _ = (s.1 : Int) from hC.2.1) ?_
              exact rfl
            exact t_ic_ge_f (by omega)
          apply t_Q
          · apply t_S
            refine x_aload_n rfl ?_
            refine x_giv tg_165 rfl (show _ = o from hC.2.2.2.1) ?_
            refine x_aload_n rfl ?_
            refine x_gr tg_165 rfl (fx_165_5 hF) ?_
            refine x_iload rfl ?_
            refine x_ialdv (Or.inl tg_168) (ln_168 L) (by omega) (show _ = ((s.2.2.2.1 k : Nat) : Int) from (hC.2.2.2.2.2.2.1 k hk).1) ?_
            refine x_aload_n rfl ?_
            refine x_gr tg_165 rfl (fx_165_6 hF) ?_
            refine x_iload rfl ?_
            refine x_ialdv (Or.inl tg_169) (ln_169 L) (by omega) (show _ = ((s.2.2.2.2.1 k : Nat) : Int) from (hC.2.2.2.2.2.2.1 k hk).2.1) ?_
            refine x_S2i (by decide) (Nat.le_of_ble_eq_true rfl) (s6_placeOf (d := d) (i := s.2.2.2.1 k) (j := s.2.2.2.2.1 k) (by omega)) ?_
            refine x_S2i (by decide) (Nat.le_of_ble_eq_true rfl) (s6_height (d := d) hB.1 h0 hp9) ?_
            refine x_istore rfl ?_
            refine x_iload rfl ?_
            refine x_iload_n rfl ?_
            exact rfl
          apply t_Q
          · apply t_Ks
            · apply t_Q
              · apply t_B
                · exact rfl
                exact t_ic_le_f (by omega)
              apply t_Q
              · apply t_B
                · refine x_iload rfl ?_
                  refine x_iload rfl ?_
                  exact rfl
                exact t_ic_ge_f (by omega)
              apply t_S
              refine x_iload rfl ?_
              refine x_istore rfl ?_
              refine x_iload rfl ?_
              refine x_istore rfl ?_
              exact rfl
            · decide
          apply t_B
          · refine x_iinc rfl rfl ?_
            exact rfl
          exact t_goeq rfl
        · have hA' : A < ((rk o (pl (s.2.2.2.1 m') (s.2.2.2.2.1 m')) : Nat) : Int) := hA'
          show rk o (pl (s.2.2.2.1 k) (s.2.2.2.2.1 k)) ≤ rk o (pl (s.2.2.2.1 m') (s.2.2.2.2.1 m'))
          by_cases e : m' = k
          · rw [e]; exact Nat.le_refl _
          · rcases hxy with ⟨_, _, q⟩ | ⟨m, _, hm, _, ey, q⟩
            · exact absurd hA' (q m' (by omega))
            · have := q m' (by omega) hA'
              have this : rk o (pl (s.2.2.2.1 m) (s.2.2.2.2.1 m)) ≤ rk o (pl (s.2.2.2.1 m') (s.2.2.2.2.1 m')) := this
              have ey : y = ((rk o (pl (s.2.2.2.1 m) (s.2.2.2.2.1 m)) : Nat) : Int) := ey
              omega
      · refine ⟨([vR 165, vR a, vI A, vI t, vI x, vI y, vI (k + 1 : Nat), vI ((rk o (pl (s.2.2.2.1 k) (s.2.2.2.2.1 k)) : Nat) : Int)], [], LH L I R u), ?_, _, _, _, rfl, ?_⟩
        · unfold wX3_handOver_22
          apply t_Q
          · apply t_B
            · refine x_iload rfl ?_
              refine x_aload_n rfl ?_
              refine x_giv tg_165 rfl (show _ = (s.1 : Int) from hC.2.1) ?_
              exact rfl
            exact t_ic_ge_f (by omega)
          apply t_Q
          · apply t_S
            refine x_aload_n rfl ?_
            refine x_giv tg_165 rfl (show _ = o from hC.2.2.2.1) ?_
            refine x_aload_n rfl ?_
            refine x_gr tg_165 rfl (fx_165_5 hF) ?_
            refine x_iload rfl ?_
            refine x_ialdv (Or.inl tg_168) (ln_168 L) (by omega) (show _ = ((s.2.2.2.1 k : Nat) : Int) from (hC.2.2.2.2.2.2.1 k hk).1) ?_
            refine x_aload_n rfl ?_
            refine x_gr tg_165 rfl (fx_165_6 hF) ?_
            refine x_iload rfl ?_
            refine x_ialdv (Or.inl tg_169) (ln_169 L) (by omega) (show _ = ((s.2.2.2.2.1 k : Nat) : Int) from (hC.2.2.2.2.2.2.1 k hk).2.1) ?_
            refine x_S2i (by decide) (Nat.le_of_ble_eq_true rfl) (s6_placeOf (d := d) (i := s.2.2.2.1 k) (j := s.2.2.2.2.1 k) (by omega)) ?_
            refine x_S2i (by decide) (Nat.le_of_ble_eq_true rfl) (s6_height (d := d) hB.1 h0 hp9) ?_
            refine x_istore rfl ?_
            refine x_iload rfl ?_
            refine x_iload_n rfl ?_
            exact rfl
          apply t_Q
          · apply t_K
            apply t_Q
            · apply t_B
              · exact rfl
              exact t_ic_le_f (by omega)
            apply t_Qs
            apply t_B
            · refine x_iload rfl ?_
              refine x_iload rfl ?_
              exact rfl
            exact t_ic_ge_t (by omega)
          apply t_B
          · refine x_iinc rfl rfl ?_
            exact rfl
          exact t_goeq rfl
        · rcases hxy with ⟨_, ey, q⟩ | ⟨m, ex, hm, hAm, ey, q⟩
          · exfalso; omega
          · refine Or.inr ⟨m, ex, by omega, hAm, ey, fun m' hm' hA' => ?_⟩
            by_cases e : m' = k
            · rw [e]
              have ey : y = ((rk o (pl (s.2.2.2.1 m) (s.2.2.2.2.1 m)) : Nat) : Int) := ey
              show rk o (pl (s.2.2.2.1 m) (s.2.2.2.2.1 m)) ≤ rk o (pl (s.2.2.2.1 k) (s.2.2.2.2.1 k))
              omega
            · exact q m' (by omega) hA'
    · refine ⟨([vR 165, vR a, vI A, vI t, vI x, vI y, vI (k + 1 : Nat), vI ((rk o (pl (s.2.2.2.1 k) (s.2.2.2.2.1 k)) : Nat) : Int)], [], LH L I R u), ?_, _, _, _, rfl, ?_⟩
      · unfold wX3_handOver_22
        apply t_Q
        · apply t_B
          · refine x_iload rfl ?_
            refine x_aload_n rfl ?_
            refine x_giv tg_165 rfl (show _ = (s.1 : Int) from hC.2.1) ?_
            exact rfl
          exact t_ic_ge_f (by omega)
        apply t_Q
        · apply t_S
          refine x_aload_n rfl ?_
          refine x_giv tg_165 rfl (show _ = o from hC.2.2.2.1) ?_
          refine x_aload_n rfl ?_
          refine x_gr tg_165 rfl (fx_165_5 hF) ?_
          refine x_iload rfl ?_
          refine x_ialdv (Or.inl tg_168) (ln_168 L) (by omega) (show _ = ((s.2.2.2.1 k : Nat) : Int) from (hC.2.2.2.2.2.2.1 k hk).1) ?_
          refine x_aload_n rfl ?_
          refine x_gr tg_165 rfl (fx_165_6 hF) ?_
          refine x_iload rfl ?_
          refine x_ialdv (Or.inl tg_169) (ln_169 L) (by omega) (show _ = ((s.2.2.2.2.1 k : Nat) : Int) from (hC.2.2.2.2.2.2.1 k hk).2.1) ?_
          refine x_S2i (by decide) (Nat.le_of_ble_eq_true rfl) (s6_placeOf (d := d) (i := s.2.2.2.1 k) (j := s.2.2.2.2.1 k) (by omega)) ?_
          refine x_S2i (by decide) (Nat.le_of_ble_eq_true rfl) (s6_height (d := d) hB.1 h0 hp9) ?_
          refine x_istore rfl ?_
          refine x_iload rfl ?_
          refine x_iload_n rfl ?_
          exact rfl
        apply t_Q
        · apply t_K
          apply t_Qs
          apply t_B
          · exact rfl
          exact t_ic_le_t (by omega)
        apply t_B
        · refine x_iinc rfl rfl ?_
          exact rfl
        exact t_goeq rfl
      · rcases hxy with ⟨ex, ey, q⟩ | ⟨m, ex, hm, hAm, ey, q⟩
        · refine Or.inl ⟨ex, ey, fun m hm => ?_⟩
          by_cases e : m = k
          · rw [e]; exact c1
          · exact q m (by omega)
        · refine Or.inr ⟨m, ex, by omega, hAm, ey, fun m' hm' hA' => ?_⟩
          by_cases e : m' = k
          · rw [e] at hA'; exact absurd hA' c1
          · exact q m' (by omega) hA'
  · obtain ⟨x, y, l7', e0, hxy⟩ := hy
    subst e0
    refine ⟨(86, [vR 165, vR a, vI A, vI t, vI x, vI y, vI (s.1 : Nat), l7'], [], LH L I R u), ?_, by show ¬ 86 = 22 + 2; decide, x, y, l7', rfl, hxy⟩
    have hs6 : s.1 ≤ 6 := by omega
    unfold wX3_handOver_22
    apply t_Qs
    apply t_B
    · refine x_iload rfl ?_
      refine x_aload_n rfl ?_
      refine x_giv tg_165 rfl (show _ = (s.1 : Int) from hC.2.1) ?_
      exact rfl
    exact t_ic_ge_t (by omega)
