/-! The class: find. Written by wip/whole/gen_9o.py. -/
/-- the cells of the bases that isFor compares are ints -/
def Bin (I : Nat → Nat → Int) : Prop := ∀ k, k < 4 → (∀ x, x < 60 → inR (I (171 + 13 * k + 4) x)) ∧ inR (I (171 + 13 * k) 4)
/-- no basis before k is for the set -/
def NoF (I : Nat → Nat → Int) (q : Int) (k : Nat) : Prop := ∀ m, m < k → ¬ IsF I (171 + 13 * m) q
set_option maxRecDepth 10000 in
theorem lp3_find {d L : Nat} {I : Nat → Nat → Int} {R : Nat → Nat → Option Nat} {u : Int64} (hF : FixR R) (hS : Sn I) {q : Int} (hq : 0 < q ∧ q < 64) (hBi : Bin I) : ∃ r, am_lp (am_ev (am_run am_tb (d + 7)) wX3_find_2) 2 am_F ([vR 165, vR 4, vI q, vI (0 : Nat)], [], LH L I R u) = some r ∧ ((r = (36, [vR 165, vR 4, vI q, vI (4 : Nat)], [], LH L I R u) ∧ NoF I q 4) ∨ ∃ k, k < 4 ∧ IsF I (171 + 13 * k) q ∧ ∃ ls, r = (1, ls, [vR (171 + 13 * k)], LH L I R u)) := by
  refine lp_meas (fun N y => ∃ (k : Nat), N = 4 - k ∧ k ≤ 4 ∧ y = ([vR 165, vR 4, vI q, vI (k : Nat)], [], LH L I R u) ∧ NoF I q k) _ (fun N y hy => ?_) am_F 4 _ (ltF (by omega)) ⟨0, rfl, by omega, rfl, fun m hm => absurd hm (Nat.not_lt_zero _)⟩
  obtain ⟨k, eN, hk, ey, hE⟩ := hy
  subst ey
  by_cases c4 : k = 4
  · subst c4
    refine ⟨(36, [vR 165, vR 4, vI q, vI (4 : Nat)], [], LH L I R u), ?_, Or.inr ⟨by show ¬ 36 = 2 + 2; decide, Or.inl ⟨rfl, hE⟩⟩⟩
    unfold wX3_find_2
    apply t_Qs
    apply t_B
    · refine x_iload_n rfl ?_
      refine x_iconst ?_
      exact rfl
    exact t_ic_ge_t (by omega)
  · have e4 : k < 4 := by omega
    obtain ⟨b, hf, hb⟩ := s2_isFor (d := d + 4) (L := L) (u := u) hF (Bax_of hF e4) hS hq (hBi k e4).1 (hBi k e4).2
    rcases hb with ⟨eb, h⟩ | ⟨eb, h⟩
    · subst eb
      have key : ∃ ls, am_ev (am_run am_tb (d + 7)) wX3_find_2 ([vR 165, vR 4, vI q, vI (k : Nat)], [], LH L I R u) = some (1, ls, [vR (171 + 13 * k)], LH L I R u) := by
        apply Exists.intro
        unfold wX3_find_2
        apply t_Q
        · apply t_B
          · refine x_iload_n rfl ?_
            refine x_iconst ?_
            exact rfl
          exact t_ic_ge_f (by omega)
        apply t_Q
        · apply t_S
          refine x_aload_n rfl ?_
          refine x_gr tg_165 rfl (fx_165_2 hF) ?_
          refine x_iload_n rfl ?_
          refine x_aald (by rw [tg_166]; decide) (ln_166 L) (by omega) (fx_ba hF e4) ?_
          refine x_aload_n rfl ?_
          refine x_iload_n rfl ?_
          refine x_V3i (Bax_of hF e4).2.1 (Nat.le_of_ble_eq_true rfl) (hf) ?_
          exact rfl
        apply t_Qs
        apply t_Ks
        · apply t_Q
          · apply t_B
            · exact rfl
            exact t_if_eq_f (by omega)
          apply t_B
          · refine x_aload_n rfl ?_
            refine x_gr tg_165 rfl (fx_165_2 hF) ?_
            refine x_iload_n rfl ?_
            refine x_aald (by rw [tg_166]; decide) (ln_166 L) (by omega) (fx_ba hF e4) ?_
            exact rfl
          exact rfl
        · decide
      obtain ⟨ls, key⟩ := key
      exact ⟨_, key, Or.inr ⟨by show ¬ 1 = 2 + 2; decide, Or.inr ⟨k, e4, h, ls, rfl⟩⟩⟩
    · subst eb
      refine ⟨(2 + 2, [vR 165, vR 4, vI q, vI (k + 1 : Nat)], [], LH L I R u), ?_, Or.inl ⟨rfl, 4 - (k + 1), by omega, k + 1, rfl, by omega, rfl, fun m hm => ?_⟩⟩
      · unfold wX3_find_2
        apply t_Q
        · apply t_B
          · refine x_iload_n rfl ?_
            refine x_iconst ?_
            exact rfl
          exact t_ic_ge_f (by omega)
        apply t_Q
        · apply t_S
          refine x_aload_n rfl ?_
          refine x_gr tg_165 rfl (fx_165_2 hF) ?_
          refine x_iload_n rfl ?_
          refine x_aald (by rw [tg_166]; decide) (ln_166 L) (by omega) (fx_ba hF e4) ?_
          refine x_aload_n rfl ?_
          refine x_iload_n rfl ?_
          refine x_V3i (Bax_of hF e4).2.1 (Nat.le_of_ble_eq_true rfl) (hf) ?_
          exact rfl
        apply t_Q
        · apply t_K
          apply t_Qs
          apply t_B
          · exact rfl
          exact t_if_eq_t (by omega)
        apply t_B
        · refine x_iinc rfl rfl ?_
          exact rfl
        exact t_goeq rfl
      · by_cases e : m = k
        · rw [e]; exact h
        · exact hE m (by omega)
/-- what the completion rests on: it is shown apart -/
def Orc (o : Int) (P : C6 → Prop) (μ : C6 → Nat) : Prop := (∀ s, P s → Cgd o s) ∧ (∀ s, P s → s.1 + s.2.1 ≤ 6 → 1 ≤ s.2.1 → P (abP o s) ∧ μ (abP o s) < μ s) ∧ (∀ s k, P s → s.2.1 = 0 → k + 1 < s.1 → s.2.2.2.2.2 k = 0 → P (crP k s) ∧ μ (crP k s) < μ s) ∧ ∀ s, P s → s.2.1 = 0 → (∀ m, m + 1 < s.1 → s.2.2.2.2.2 m = 1) → s.1 ≤ 4 ∧ (∀ k, k ≤ s.1 → (∀ m, m < s.1 → led o ((rtL o k s).2.2.1 m) = (pl (s.2.2.2.1 m) (s.2.2.2.2.1 m) : Nat)) ∧ ∀ m, m < s.1 + s.2.1 → ∀ j, 91 ≤ j → (rtL o k s).2.2.1 m j = 0) ∧ ∀ k l, k < s.1 → l < s.1 → hgt o s k = hgt o s l → k = l
/-- the basis at a is what the completion left -/
def Fnd (o : Int) (P : C6 → Prop) (J : Nat → Nat → Int) (a : Nat) : Prop := ∃ (s : C6) (π : Nat → Nat), P s ∧ s.2.1 = 0 ∧ (∀ m, m + 1 < s.1 → s.2.2.2.2.2 m = 1) ∧ Bac J a s.1 (fun k => pl (s.2.2.2.1 (π k)) (s.2.2.2.2.1 (π k))) (fun k => (rtL o s.1 s).2.2.1 (π k)) ∧ (∀ k, k < s.1 → π k < s.1) ∧ (∀ i j, i < j → j < s.1 → hgt o s (π i) < hgt o s (π j)) ∧ ∀ m, m < s.1 → ∃ i, i < s.1 ∧ π i = m
/-- what find changes: a basis at a and the rows of the completion -/
def Ffn (I J : Nat → Nat → Int) (R R' : Nat → Nat → Option Nat) (a : Nat) : Prop := (∀ x, ¬ (a ≤ x ∧ x ≤ a + 12) → ¬ ((159 ≤ x ∧ x ≤ 165) ∨ (168 ≤ x ∧ x ≤ 170) ∨ (223 ≤ x ∧ x ≤ 234)) → J x = I x) ∧ (0 ≤ J 165 3 ∧ J 165 3 < 4) ∧ (∀ x, x ≠ 160 → x ≠ 167 → R' x = R x) ∧ (∃ ρ, Pr6 R' ρ) ∧ ∀ k, k < 6 → J 170 k = 0 ∨ J 170 k = 1
theorem rtL_k {o : Int} {s : C6} {k : Nat} : (rtL o k s).1 = s.1 ∧ (rtL o k s).2.1 = s.2.1 ∧ (rtL o k s).2.2.2 = s.2.2.2 := by
  induction k with
  | zero => exact ⟨rfl, rfl, rfl⟩
  | succ k ih => exact ih
theorem hgt_r {o : Int} {s : C6} {k : Nat} : hgt o (rtL o k s) = hgt o s := by
  unfold hgt
  rw [rtL_k.2.2]
set_option maxRecDepth 10000 in
theorem s3_find {d L : Nat} {I : Nat → Nat → Int} {R : Nat → Nat → Option Nat} {u : Int64} (hF : FixR R) (hS : Sn I) {q : Int} (hq : 0 < q ∧ q < 64) (hBi : Bin I) (hB : Tbc I) {ρ : Nat → Nat} (hP : Pr6 R ρ) (hst : ∀ k, k < 6 → I 170 k = 0 ∨ I 170 k = 1) (hol : 0 ≤ I 165 3 ∧ I 165 3 < 4) (h0 : I 4 2 = 0 ∨ I 4 2 = 1) {P : C6 → Prop} {μ : C6 → Nat} (hO : Orc (I 4 2) P μ) (hPi : ∃ lx ld, P (0, mbN q 6, fun j => opc I (mbE q 6 j), lx, ld, I 170) ∧ μ (0, mbN q 6, fun j => opc I (mbE q 6 j), lx, ld, I 170) < 100000) : ∃ k J R', k < 4 ∧ am_run am_tb (d + 8) 25 [vR 165, vR 4, vI q] (LH L I R u) = some ([vR (171 + 13 * k)], LH L J R' u) ∧ ((J = I ∧ R' = R ∧ IsF I (171 + 13 * k) q) ∨ (NoF I q 4 ∧ IsF J (171 + 13 * k) q ∧ Fnd (I 4 2) P J (171 + 13 * k) ∧ Ffn I J R R' (171 + 13 * k))) := by
  obtain ⟨r, hl, h⟩ := lp3_find (d := d) (L := L) (u := u) hF hS hq hBi
  rcases h with ⟨er, hN⟩ | ⟨k, hk, h, ls, er⟩
  case inr =>
    subst er
    refine ⟨k, I, R, hk, ?_, Or.inl ⟨rfl, rfl, h⟩⟩
    refine run_of tb_X3_find (Nat.le_of_ble_eq_true rfl) ?_
    show ∃ ls', am_ev (am_run am_tb (d + 7)) tX3_find ([vR 165, vR 4, vI q, vU], [], LH L I R u) = _
    apply Exists.intro
    unfold tX3_find
    apply t_Q
    · apply t_S
      refine x_iconst ?_
      refine x_istore_n rfl ?_
      exact rfl
    apply t_Qs
    apply t_Ks
    · apply t_W
      exact hl
    · decide
  subst er
  obtain ⟨k, ek⟩ : ∃ k : Nat, I 165 3 = (k : Nat) := ⟨(I 165 3).toNat, by omega⟩
  have hk : k < 4 := by omega
  obtain ⟨a, ea⟩ : ∃ a, a = 171 + 13 * k := ⟨_, rfl⟩
  have hax := Bax_of hF hk
  have hbk := fx_ba hF hk
  rw [← ea] at hax hbk
  obtain ⟨I1, hI1⟩ : ∃ I1, I1 = au I 165 (au (I 165) 3 (((k : Nat) + 1) % 4)) := ⟨_, rfl⟩
  have f1 : ∀ x, x ≠ 165 → I1 x = I x := fun x hx => by rw [hI1, au_n _ _ hx]
  have f13 : I1 165 3 = ((k : Nat) + 1) % 4 := by rw [hI1, au_s, au_s]
  have hB1 : Tbc I1 := Tbc_o hB (fun x hx => f1 x (by unfold Nt at hx; omega))
  have hS1 : Sn I1 := Sn_b hS (fun x hx => f1 x (by omega))
  have e42 : I1 4 2 = I 4 2 := by rw [f1 4 (by decide)]
  obtain ⟨lx, ld, hP0, hμ⟩ := hPi
  obtain ⟨J1, hga, hC1, hFc1⟩ := s3_gather (d := d + 5) (L := L) (u := u) hF hB1 hS1 hq hP (fun k hk => by rw [f1 170 (by decide)]; exact hst k hk) (lx := lx) (ld := ld)
  have eop : (fun j => opc I1 (mbE q 6 j)) = fun j => opc I (mbE q 6 j) := by
    funext j
    unfold opc cl
    rw [f1 (10 + 2 * mbE q 6 j) (by omega)]
  rw [e42, eop, f1 170 (by decide)] at hC1
  obtain ⟨J2, R2, hco, ρ2, s, hC2, hPs, hw0, hset, hFc2, hR2⟩ := s3_complete (d := d) (L := L) (u := u) (I := J1) hF (Fcm_B hFc1 hB1) h0 hO.1 hO.2.1 hO.2.2.1 (s0 := (0, mbN q 6, fun j => opc I (mbE q 6 j), lx, ld, I 170)) hC1 hP0 hμ
  obtain ⟨hκ, hG, hinj⟩ := hO.2.2.2 s hPs hw0 hset
  have hF2 : FixR R2 := FixR_m hF (fun x h1 h2 _ => hR2 x h1 h2)
  have hB2 : Tbc J2 := Fcm_B hFc2 (Fcm_B hFc1 hB1)
  obtain ⟨J3, R3, hta, hC3, hFc3, hR3⟩ := s3_tails (d := d + 1) (L := L) (u := u) hF2 hB2 h0 hC2 hG
  have hF3 : FixR R3 := FixR_m hF2 (fun x h1 _ _ => hR3 x h1)
  have hB3 : Tbc J3 := Fcm_B hFc3 hB2
  have hFc := Fcm_t hFc1 (Fcm_t hFc2 hFc3)
  have hS3 : Sn J3 := Sn_b hS1 (fun x hx => hFc.1 x (by omega))
  have ha3 : Bax R3 a := by rw [ea]; exact Bax_of hF3 hk
  have ha1 := hax.1
  obtain ⟨J4, hbe, b4, b5, b6, b7⟩ := s2_begin (d := d + 4) (L := L) (u := u) (I := J3) hF3 ha3 hS3 hq
  have e43 : J3 4 2 = I 4 2 := by rw [hFc.1 4 (by omega), e42]
  rw [e43] at b4
  have hC4 := Cst_o hC3 (J := J4) (fun x hx => b7 x (by omega) (by omega))
  have hB4 : Tbc J4 := Tbc_o hB3 (fun x hx => b7 x (by unfold Nt at hx; omega) (by unfold Nt at hx; omega))
  obtain ⟨k1, k2, k3⟩ := rtL_k (o := I 4 2) (s := s) (k := s.1)
  obtain ⟨J5, π, hha, c1, c2, c3, c4, c5, c6, c7⟩ := s3_hand (d := d + 2) (L := L) (u := u) (I := J4) hF3 hB4 h0 hC4 (fun m hm => by rw [k3]; rw [k1] at hm; exact (hG s.1 (Nat.le_refl _)).1 m hm) (by rw [k1]; exact hκ) (fun i j hi hj he => by rw [k1] at hi hj; rw [hgt_r] at he; exact hinj i j hi hj he) ha3 b4 b5
  rw [k1, k3] at c1
  rw [k1] at c5 c6 c7
  rw [hgt_r] at c6
  have fr : ∀ x, ¬ (a ≤ x ∧ x ≤ a + 12) → ¬ ((159 ≤ x ∧ x ≤ 165) ∨ (168 ≤ x ∧ x ≤ 170) ∨ (223 ≤ x ∧ x ≤ 234)) → J5 x = I x := fun x h1 h2 => by rw [c4 x h1, b7 x (by omega) (by omega), hFc.1 x h2, f1 x (by omega)]
  have f5 : ∀ x, x < 171 → J5 x = J3 x := fun x h1 => by rw [c4 x (by omega), b7 x (by omega) (by omega)]
  refine ⟨k, J5, R3, hk, ?_, Or.inr ⟨hN, ?_, ?_, ?_⟩⟩
  · rw [← ea]
    refine run_of tb_X3_find (Nat.le_of_ble_eq_true rfl) ?_
    show ∃ ls', am_ev (am_run am_tb (d + 7)) tX3_find ([vR 165, vR 4, vI q, vU], [], LH L I R u) = _
    apply Exists.intro
    unfold tX3_find
    apply t_Q
    · apply t_S
      refine x_iconst ?_
      refine x_istore_n rfl ?_
      exact rfl
    apply t_Q
    · apply t_K
      apply t_W
      exact hl
    apply t_B
    · refine x_aload_n rfl ?_
      refine x_gr tg_165 rfl (fx_165_2 hF) ?_
      refine x_aload_n rfl ?_
      refine x_giv tg_165 rfl (show _ = ((k : Nat) : Int) from ek) ?_
      refine x_aald (by rw [tg_166]; decide) (ln_166 L) (by omega) hbk ?_
      refine x_astore_n rfl ?_
      refine x_aload_n rfl ?_
      refine x_aload_n rfl ?_
      refine x_giv tg_165 rfl (show _ = ((k : Nat) : Int) from ek) ?_
      refine x_iconst ?_
      refine x_iadd ?_
      refine x_iconst ?_
      refine x_irem0 (by omega) ?_
      refine x_pi tg_165 rfl rfl ?_
      rw [← hI1]
      refine x_aload_n rfl ?_
      refine x_aload_n rfl ?_
      refine x_iload_n rfl ?_
      refine x_V3v tg_165 (Nat.le_of_ble_eq_true rfl) (hga) ?_
      refine x_aload_n rfl ?_
      refine x_V1v tg_165 (Nat.le_of_ble_eq_true rfl) (hco) ?_
      refine x_aload_n rfl ?_
      refine x_V1v tg_165 (Nat.le_of_ble_eq_true rfl) (hta) ?_
      refine x_aload_n rfl ?_
      refine x_aload_n rfl ?_
      refine x_iload_n rfl ?_
      refine x_V3v hax.2.1 (Nat.le_of_ble_eq_true rfl) (hbe) ?_
      refine x_aload_n rfl ?_
      refine x_aload_n rfl ?_
      refine x_V2v tg_165 (Nat.le_of_ble_eq_true rfl) (hha) ?_
      refine x_aload_n rfl ?_
      exact rfl
    exact rfl
  · rw [← ea]
    refine ⟨?_, fun i hi j hj => ?_⟩
    · rw [c2, fr 4 (by omega) (by omega)]
    · rw [c3, b6 i hi j hj]
      exact (srcc_o (by rw [fr (10 + 2 * i) (by omega) (by omega), hFc.1 (10 + 2 * i) (by omega), f1 (10 + 2 * i) (by omega)])).symm
  · rw [← ea]
    exact ⟨s, π, hPs, hw0, hset, c1, c5, c6, c7⟩
  · rw [← ea]
    refine ⟨fr, ?_, fun x h1 h2 => (hR3 x h1).trans (hR2 x h1 h2), ⟨_, hC3.1⟩, fun m hm => ?_⟩
    · rw [f5 165 (by omega), hFc.2, f13]; omega
    · rw [f5 170 (by omega)]
      have := hC3.2.2.2.2.2.2.2 m hm
      rw [this.1]; exact this.2
