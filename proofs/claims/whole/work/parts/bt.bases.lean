/-! The basis family on both sides. -/
section
variable {N L : Nat} {I : Nat → Nat → Int} {R : Nat → Nat → Option Nat} {v0 : Int64} {σ : Sg}
/-- the rows that a basis was made of are those of the set -/
theorem Ab_eq (hC : CI σ I R) (hs : Sok N σ) {q : Int} (hH : Hsb I q 6) {J : Nat → Nat → Int} {a : Nat} (hI : IsF J a q) (hJ : ∀ k, k < 6 → J (10 + 2 * k) = I (10 + 2 * k)) {k : Nat} (hk : k < 6) : Ab J a k = Aq (og σ.1) q k := by
  funext j
  show (if j < 10 then J (a + 4) (10 * k + j) else 0) = (if shf q k % 2 = 1 then og σ.1 k else fun _ => 0) j
  by_cases c : j < 10
  · rw [if_pos c, hI.2 k hk j c]
    unfold srcc
    by_cases b : shf q k % 2 = 1
    · rw [if_pos b, if_pos b, hJ k hk, CI_oc hC hk (by omega)]
      unfold og
      rw [if_pos (by omega)]
    · rw [if_neg b, if_neg b]
  · rw [if_neg c]
    by_cases b : shf q k % 2 = 1
    · rw [if_pos b]
      have hd := hH k hk b
      rw [CI_op hC hk] at hd
      refine Decidable.not_not.mp fun z => ?_
      have := dg_w (f := og σ.1 k) (n := 3) (fun j hj => og_z hj) hd (w := j) (fun y => z y.symm)
      have h2 := (wn_b j).2
      have h3 := tri_m (show wn j + 1 ≤ 4 by omega)
      rw [show tri 4 = 10 by decide] at h3
      omega
    · rw [if_neg b]
theorem find_ok (hs : Sok N σ) (hC : CI σ I R) {q : Int} (hq : 0 < q ∧ q < 64) (hH : Hsb I q 6) : ∃ k J S n lw' G, k < 4 ∧ am_run am_tb 59 25 [vR 165, vR 4, vI q] (LH L I R v0) = some ([vR (171 + 13 * k)], LH L J S v0) ∧ FixR S ∧ Bac J (171 + 13 * k) n lw' G ∧ (∀ i, i < n → led (σ.1 608) (G i) = (lw' i : Nat)) ∧ RB (σ.1 608) 6 (Aq (og σ.1) q) n G ∧ CI σ J S ∧ (∀ x, x < 159 → J x = I x) ∧ ∀ x, 300 ≤ x → J x = I x := by
  have hS := CI_Sn hC hs.1
  obtain ⟨_, ⟨ρ, hρ⟩, hBi, h170, h165, hBv⟩ := hC.2.2.2.2.2.2
  have h6 : ∀ j, mbE q 6 j < 6 := fun j => by have := mb_6 q 6 j; omega
  have ho := CI_o hC
  have h01 := hs.1.2
  have hpc : Pc (I 4 2) 6 (Aq (og σ.1) q) (0, mbN q 6, fun j => opc I (mbE q 6 j), fun _ => 0, fun _ => 0, I 170) := by
    rw [og_mb hC q]
    refine pc_st (fun k _ => Rg_og hs.1 (h6 k)) (fun k hk w hne => ?_) (fun k hk => ?_) (fun j hj => ?_) _ _ _
    · have hd := hH (mbE q 6 k) (h6 k) (mb_in hk)
      rw [CI_op hC (h6 k)] at hd
      exact dg_w (n := 3) (fun j hj => og_z hj) hd hne
    · by_cases b : shf q k % 2 = 1
      · obtain ⟨j, hj, ej⟩ := mb_ex (k := 6) hk b
        exact Or.inr ⟨j, hj, by unfold Aq; rw [if_pos b]; show og σ.1 (mbE q 6 j) = _; rw [ej]⟩
      · exact Or.inl (fun v => by unfold Aq; rw [if_neg b])
    · exact ⟨mbE q 6 j, h6 j, by unfold Aq; rw [if_pos (mb_in hj)]⟩
  have hmu := muc_b (0, mbN q 6, fun j => opc I (mbE q 6 j), fun _ => 0, fun _ => 0, I 170)
  have hmb := mbN_le q 6
  obtain ⟨k, J, S, hk, hrun, hcase⟩ := s3_find (d := 51) (L := L) (u := v0) hC.1 hS hq hBi hC.2.1 hρ h170 h165 (by rw [ho]; exact h01) (orc_ok (I 4 2) 6 (Aq (og σ.1) q)) ⟨_, _, hpc, by
    have hmu : muc (0, mbN q 6, fun j => opc I (mbE q 6 j), fun _ => 0, fun _ => 0, I 170) ≤ 2860 + mbN q 6 := hmu
    omega⟩
  rcases hcase with ⟨eJ, eS, hI⟩ | ⟨_, hI, hFn, hFr⟩
  · rw [eJ, eS] at hrun
    have e4 : I (171 + 13 * k) 4 = σ.1 608 := hI.1.trans ho
    obtain ⟨n, lw', G, b1, b2, b3⟩ := hBv k hk (by rw [e4]; exact h01)
    rw [e4] at b2 b3
    exact ⟨k, I, R, n, lw', G, hk, hrun, hC.1, b1, b2, RB_A b3 (fun i hi => Ab_eq hC hs hH hI (fun _ _ => rfl) hi), hC, fun _ _ => rfl, fun _ _ => rfl⟩
  · obtain ⟨s, π, p1, p2, p3, p4, p5, p6, p7⟩ := hFn
    obtain ⟨f1, f2, f3, f4, f5⟩ := hFr
    have hM := pc_Mk p1
    obtain ⟨a1, _⟩ := rtL_ok hM s.1 (Nat.le_refl _)
    have hRB := fnd_RB p1 p2 p3 p5 p6 p7
    rw [ho] at hRB a1 p4
    have hld : ∀ i, i < s.1 → led (σ.1 608) ((rtL (σ.1 608) s.1 s).2.2.1 (π i)) = (pl (s.2.2.2.1 (π i)) (s.2.2.2.2.1 (π i)) : Nat) := fun i hi => (a1.1 (π i) (p5 i hi)).2.1
    have hFS : FixR S := FixR_m hC.1 (fun x h1 h2 _ => f3 x h1 h2)
    have eo : J 4 = I 4 := f1 4 (by omega) (by omega)
    have e4 : J (171 + 13 * k) 4 = σ.1 608 := by rw [hI.1, eo]; exact ho
    have eAb : ∀ i, i < 6 → Ab J (171 + 13 * k) i = Aq (og σ.1) q i := fun i hi => Ab_eq hC hs hH hI (fun t ht => f1 _ (by omega) (by omega)) hi
    refine ⟨k, J, S, s.1, _, _, hk, hrun, hFS, p4, hld, hRB, ?_, fun x hx => f1 x (by omega) (by omega), fun x hx => f1 x (by omega) (by omega)⟩
    obtain ⟨h1, h2, h3, ⟨t, h4, h5⟩, h6', h7, h8⟩ := hC
    refine ⟨hFS, Tbc_o h2 (fun x hx => f1 x (by unfold Nt at hx; omega) (by unfold Nt at hx; omega)), fun j hj => ?_, ⟨t, ?_, fun i hi j hj => ?_⟩, fun i hi => ?_, ⟨?_, fun j => ?_⟩, ?_, f4, fun m hm => ?_, f5, f2, fun m hm => ?_⟩
    · rw [snow_c (fun x p q => f1 x (by omega) (by omega)) hj]; exact h3 j hj
    · unfold Hi at *
      rw [f1 21 (by omega) (by omega)]; exact h4
    · rw [snow_c (fun x p q => f1 x (by omega) (by omega)) hj]; exact h5 i hi j hj
    · rw [f1 3 (by omega) (by omega)]; exact h6' i hi
    · rw [f1 108 (by omega) (by omega)]; exact h7.1
    · rw [f1 109 (by omega) (by omega)]; exact h7.2 j
    · obtain ⟨τ, c1, c2⟩ := h8.1
      exact ⟨τ, fun i hi => by rw [f3 236 (by decide) (by decide)]; exact c1 i hi, c2⟩
    · by_cases e : m = k
      · rw [e]
        refine ⟨fun x hx => ?_, by rw [e4]; omega⟩
        have := hI.2 (x / 10) (by omega) (x % 10) (by omega)
        rw [show 10 * (x / 10) + x % 10 = x by omega] at this
        rw [this]
        unfold srcc
        split
        · rw [f1 _ (by omega) (by omega), CI_oc (R := R) ⟨h1, h2, h3, ⟨t, h4, h5⟩, h6', h7, h8⟩ (by omega) (by omega)]
          have := hs.1.1 (91 * (x / 10) + x % 10) (by omega)
          omega
        · decide
      · rw [f1 (171 + 13 * m + 4) (by omega) (by omega), f1 (171 + 13 * m) (by omega) (by omega)]
        exact h8.2.2.1 m hm
    · by_cases e : m = k
      · rw [e]
        intro _
        rw [e4]
        exact ⟨s.1, _, _, p4, hld, RB_A hRB (fun i hi => (eAb i hi).symm)⟩
      · exact Bvl_c (h8.2.2.2.2.2 m hm) (fun x p q => f1 x (by omega) (by omega))
theorem lay_get (hs : Sok N σ) (hR : RI σ I) {q : Int} (hq : 1 ≤ q ∧ q ≤ 63) (hsm : smF I q 6 = 1) : ∃ n G, Lay (σ.1 608) I q n G ∧ Gd (σ.1 608) n G ∧ RB (σ.1 608) 6 (Aq (og σ.1) q) n G := by
  have hN := RI_N hR hs.1
  have eo := hR.2.1 608 (by decide)
  have eA : ∀ k, k < 6 → Aq (fe I) q k = Aq (og σ.1) q k := fun k hk => by unfold Aq; rw [RI_fe hR hk]
  by_cases c : I 301 17 = q
  · rcases hR.2.2.2.2.2.2 with z | ⟨_, n, G, w1, w2, w3⟩
    · omega
    · rw [eo] at w2 w3
      rw [c] at w3
      exact ⟨n, G, Or.inl ⟨c, w1, w2⟩, w2, RB_A w3 eA⟩
  · obtain ⟨i1, i2⟩ := inF_ok (I := I) (q := q) (o := σ.1 608) hN (Nat.le_refl 6)
    have hdeg := smF_1.mp hsm
    have hRf : Rf (σ.1 608) 6 (Aq (og σ.1) q) (inF I q 6).1 (inF I q 6).2 := by
      refine Rf_st (fun k hk => ⟨?_, (i2.2 k hk).2⟩) (fun k hk w hne => ?_) (fun k hk => ?_) (fun j hj => ?_)
      · obtain ⟨i, hi, _, e⟩ := in_in hk
        rw [e, RI_fe hR hi]
        exact Rg_og hs.1 hi
      · obtain ⟨i, hi, hb, e⟩ := in_in hk
        rw [e] at hne
        have hd := hdeg i hi hb
        rw [RI_fe hR hi] at hd hne
        exact dg_w (n := 3) (fun j hj => og_z hj) hd hne
      · by_cases b : shf q k % 2 = 1
        · by_cases z : dgr (fe I k) < 0
          · refine Or.inl (fun v => ?_)
            unfold Aq
            rw [if_pos b]
            rw [RI_fe hR hk] at z
            exact led_z (o := σ.1 608) (Rg_og hs.1 hk) (dgr_neg.mp z) v
          · obtain ⟨j, hj, e⟩ := in_ex (k := 6) hk b z
            exact Or.inr ⟨j, hj, by rw [e, RI_fe hR hk]; unfold Aq; rw [if_pos b]⟩
        · exact Or.inl (fun v => by unfold Aq; rw [if_neg b])
      · obtain ⟨i, hi, hb, e⟩ := in_in hj
        exact ⟨i, hi, by rw [e, RI_fe hR hi]; unfold Aq; rw [if_pos hb]⟩
    obtain ⟨M, sn, sG, l1, l2⟩ := lay_ex hRf (by omega)
    refine ⟨_, _, Or.inr ⟨c, M, sn, sG, l1, rfl, rfl⟩, ?_, l2⟩
    exact srO_Gd (srO_Gd (Lb_Gd l1 i2 (Nat.le_refl _)) (Nat.le_refl _)) (Nat.le_refl _)
theorem RI_Lad {J : Nat → Nat → Int} {n : Nat} {G : Nat → Nat → Int} {q : Int} (hs : Sok N σ) (hR : RI σ I) (hq : 1 ≤ q ∧ q ≤ 63) (hG : Gd (σ.1 608) n G) (hB : RB (σ.1 608) 6 (Aq (og σ.1) q) n G) (hL : Lad I J q n G) : RI σ J ∧ ∀ a, a < 301 → J a = I a := by
  obtain ⟨l1, l2, l3⟩ := hL
  have e2 : J 302 = I 302 := l1.1 302 (by decide) (by decide)
  have eo := hR.2.1 608 (by decide)
  refine ⟨RI_Fw hR l1 (Or.inr ⟨by rw [l3]; exact hq, n, G, l2, by rw [e2, eo]; exact hG, ?_⟩), fun a ha => l1.1 a (by omega) (by omega)⟩
  rw [e2, eo, l3]
  exact RB_A hB (fun k hk => by unfold Aq; rw [Fw_fe l1 k, RI_fe hR hk])
theorem Hsb_sm (hC : CI σ I R) {Q : Nat → Nat → Int} (hQ : RI σ Q) {q : Int} : Hsb I q 6 ↔ smF Q q 6 = 1 := by
  rw [smF_1]
  constructor
  · intro h k hk hb
    have := h k hk hb
    rw [CI_op hC hk] at this
    rw [RI_fe hQ hk]; exact this
  · intro h k hk hb
    have := h k hk hb
    rw [RI_fe hQ hk] at this
    rw [CI_op hC hk]; exact this
theorem no_RI (hs : Sok N σ) {Q : Nat → Nat → Int} (hQ : RI σ Q) : RI σ (sro Q 24 (fe Q 5)) ∧ ∀ a, a < 301 → sro Q 24 (fe Q 5) a = Q a := ⟨RI_Fr hQ (Fr_s (Fr_r hQ.1.1) (by decide) (fe_b (RI_N hQ hs.1) (show 5 < 6 by decide))) (Bl_sro hQ.2.2.2.2.2.1.1), fun a ha => sro_o (by omega)⟩
theorem sm_0 {Q : Nat → Nat → Int} {q : Int} (h : ¬ smF Q q 6 = 1) : smF Q q 6 = 0 := (smF_b Q q 6).resolve_right h
theorem ly_b {Q : Nat → Nat → Int} (hQ : RI σ Q) : 0 ≤ Q 301 17 ∧ Q 301 17 ≤ 63 := by
  rcases hQ.2.2.2.2.2.2 with z | ⟨z, _⟩ <;> omega
theorem y_basis (hs : Sok N σ) (hC : CI σ I R) (hR : RI σ I) {q : Int} (hq : 0 < q ∧ q < 64) : Ag N L 108 201 [vI q] I R v0 := by
  have hS := CI_Sn hC hs.1
  by_cases hH : Hsb I q 6
  · obtain ⟨k, J, S, n, lw', G, hk, hrun, hFS, hB, hld, hRB, hCJ, e1, e2⟩ := find_ok (L := L) (v0 := v0) hs hC hq hH
    have r1 := s11_basis_ok (d := 51) (L := L) (u := v0) hC.1 hC.2.1 hS hq hH hrun (Bax_of hFS hk) hB
    have hn4 := hB.2.1
    refine ag_same hs (by omega) (e1 0 (by decide)) hCJ (RI_lo hR (fun a ha => e2 a (by omega))) r1 (fun Q hQ => ?_)
    have hN := RI_N hQ hs.1
    have hsm := (Hsb_sm hC hQ).mp hH
    obtain ⟨n', G', hL, hG, hRB'⟩ := lay_get hs hQ (q := q) (by omega) hsm
    obtain ⟨K, r2, hLad⟩ := s_basis_ok (d := 51) (L := L) (R := S) (u := v0) hFS hQ.1.1 hQ.1.2 hN (hQ.2.1 608 (by decide)) (by omega) hsm (ly_b hQ) hL
    obtain ⟨en, _⟩ := RB_u hRB hRB'
    rw [← en] at r2
    obtain ⟨k1, k2⟩ := RI_Lad hs hQ (by omega) hG hRB' hLad
    exact ⟨K, v0, r2, k1, k2⟩
  · refine ag_ref hs hC hR (i := 1) (x := -20003) (by decide) (by decide) rfl hC hR (s11_basis_no (d := 56) hC.1 hC.2.1 hS hq hH) (fun Q hQ => ?_)
    obtain ⟨k1, k2⟩ := no_RI hs hQ
    exact ⟨_, s_basis_no (d := 51) hC.1 hQ.1.1 hQ.1.2 (RI_N hQ hs.1) (by omega) (sm_0 (fun z => hH ((Hsb_sm hC hQ).mpr z))), k1, k2⟩
theorem y_based (hs : Sok N σ) (hC : CI σ I R) (hR : RI σ I) {q k : Int} {i j : Nat} (hq : 0 < q ∧ q < 64) (hk0 : 0 ≤ k ∧ inR k) (hi : i ≤ 15) (hj : j ≤ 15) : Ag N L 109 202 [vI q, vI k, vI (i : Nat), vI (j : Nat)] I R v0 := by
  have hS := CI_Sn hC hs.1
  by_cases hH : Hsb I q 6
  · obtain ⟨m, J, S, n, lw', G, hm, hrun, hFS, hB, hld, hRB, hCJ, e1, e2⟩ := find_ok (L := L) (v0 := v0) hs hC hq hH
    have r1 := s11_based_ok (d := 51) (L := L) (u := v0) hC.1 hC.2.1 hS hq hH hrun (Bax_of hFS hm) hB (k := k) (i := (i : Nat)) (j := (j : Nat)) hk0 (by omega)
    have ev : (if k < (n : Nat) then tl (if 0 ≤ ((i : Nat) : Int) ∧ 0 ≤ ((j : Nat) : Int) ∧ ((i : Nat) : Int) ≤ 12 ∧ ((j : Nat) : Int) ≤ 12 ∧ ((i : Nat) : Int) + ((j : Nat) : Int) ≤ 12 then G k.toNat (pl ((i : Nat) : Int).toNat ((j : Nat) : Int).toNat) else 0) else 0) = (if k < (n : Nat) then tl (G k.toNat (pl i j)) else 0) := by
      by_cases c : k < (n : Nat)
      · rw [if_pos c, if_pos c]
        by_cases c2 : i + j ≤ 12
        · rw [if_pos (by omega), Int.toNat_natCast, Int.toNat_natCast]
        · rw [if_neg (by omega)]
          have : 91 ≤ pl i j := Nat.le_of_not_lt fun z => by
            have h1 := wn_pl i j
            have h2 := (wn_b (pl i j)).1
            have h3 := tri_m (show 13 ≤ wn (pl i j) by omega)
            rw [tri_13] at h3
            omega
          rw [(hRB.1 k.toNat (by omega)).1.2 _ this]
      · rw [if_neg c, if_neg c]
    rw [ev] at r1
    have hin : inR (if k < (n : Nat) then tl (G k.toNat (pl i j)) else 0) := by
      by_cases c : k < (n : Nat)
      · rw [if_pos c]; exact tl_in ((hRB.1 k.toNat (by omega)).1.1 _)
      · rw [if_neg c]; decide
    refine ag_same hs hin (e1 0 (by decide)) hCJ (RI_lo hR (fun a ha => e2 a (by omega))) r1 (fun Q hQ => ?_)
    have hN := RI_N hQ hs.1
    have hsm := (Hsb_sm hC hQ).mp hH
    obtain ⟨n', G', hL, hG, hRB'⟩ := lay_get hs hQ (q := q) (by omega) hsm
    obtain ⟨K, r2, hLad⟩ := s_based_ok (d := 51) (L := L) (R := S) (u := v0) hFS hQ.1.1 hQ.1.2 hN hk0 hi hj (hQ.2.1 608 (by decide)) (by omega) hsm (ly_b hQ) hL
    obtain ⟨en, eG⟩ := RB_u hRB hRB'
    have ev2 : (if k < (n' : Nat) then tl (G' k.toNat (pl i j)) else 0) = (if k < (n : Nat) then tl (G k.toNat (pl i j)) else 0) := by
      rw [← en]
      by_cases c : k < (n : Nat)
      · rw [if_pos c, if_pos c, eG k.toNat (by omega)]
      · rw [if_neg c, if_neg c]
    rw [ev2] at r2
    obtain ⟨k1, k2⟩ := RI_Lad hs hQ (by omega) hG hRB' hLad
    exact ⟨K, v0, r2, k1, k2⟩
  · refine ag_ref hs hC hR (i := 1) (x := -20003) (by decide) (by decide) rfl hC hR (s11_based_no (d := 56) hC.1 hC.2.1 hS hq hH hk0 (by omega)) (fun Q hQ => ?_)
    obtain ⟨k1, k2⟩ := no_RI hs hQ
    exact ⟨_, s_based_no (d := 51) hC.1 hQ.1.1 hQ.1.2 (RI_N hQ hs.1) hk0 hi hj (by omega) (sm_0 (fun z => hH ((Hsb_sm hC hQ).mpr z))), k1, k2⟩
theorem y_stairs (hs : Sok N σ) (hC : CI σ I R) (hR : RI σ I) {q : Int} {m : Nat} (hq : 0 < q ∧ q < 64) (hm : m ≤ 20) : Ag N L 110 203 [vI q, vI (m : Nat)] I R v0 := by
  have hS := CI_Sn hC hs.1
  by_cases hH : Hsb I q 6
  · obtain ⟨k, J, S, n, lw', G, hk, hrun, hFS, hB, hld, hRB, hCJ, e1, e2⟩ := find_ok (L := L) (v0 := v0) hs hC hq hH
    have r1 := s11_stairs_ok (d := 51) (L := L) (u := v0) hC.1 hC.2.1 hS hq hH hrun (Bax_of hFS hk) hB hm
    have hle := stF_le lw' n m (m + 1)
    refine ag_same hs (by omega) (e1 0 (by decide)) hCJ (RI_lo hR (fun a ha => e2 a (by omega))) r1 (fun Q hQ => ?_)
    have hN := RI_N hQ hs.1
    have hsm := (Hsb_sm hC hQ).mp hH
    obtain ⟨n', G', hL, hG, hRB'⟩ := lay_get hs hQ (q := q) (by omega) hsm
    obtain ⟨K, r2, hLad⟩ := s_stairs_ok (d := 51) (L := L) (R := S) (u := v0) hFS hQ.1.1 hQ.1.2 hN hm (hQ.2.1 608 (by decide)) (by omega) hsm (ly_b hQ) hL
    obtain ⟨en, eG⟩ := RB_u hRB hRB'
    rw [← en, stF_cg (ld' := lw') (fun i hi => by rw [← eG i hi]; exact lw_n (hld i hi))] at r2
    obtain ⟨k1, k2⟩ := RI_Lad hs hQ (by omega) hG hRB' hLad
    exact ⟨K, v0, r2, k1, k2⟩
  · refine ag_ref hs hC hR (i := 1) (x := -20003) (by decide) (by decide) rfl hC hR (s11_stairs_no (d := 56) hC.1 hC.2.1 hS hq hH hm) (fun Q hQ => ?_)
    obtain ⟨k1, k2⟩ := no_RI hs hQ
    exact ⟨_, s_stairs_no (d := 51) hC.1 hQ.1.1 hQ.1.2 (RI_N hQ hs.1) hm (by omega) (sm_0 (fun z => hH ((Hsb_sm hC hQ).mpr z))), k1, k2⟩
theorem y_within (hs : Sok N σ) (hC : CI σ I R) (hR : RI σ I) {q : Int} {x : Nat} (hq : 0 < q ∧ q < 64) (hx : x < 6) : Ag N L 111 204 [vI (x : Nat), vI q] I R v0 := by
  have hS := CI_Sn hC hs.1
  by_cases hH : Hsb I q 6
  · obtain ⟨k, J, S, n, lw', G, hk, hrun, hFS, hB, hld, hRB, hCJ, e1, e2⟩ := find_ok (L := L) (v0 := v0) hs hC hq hH
    obtain ⟨K1, S1, r1, w1, w2⟩ := s11_within_ok (d := 51) (L := L) (u := v0) hC.1 hC.2.1 hS hq hH hrun hFS e1 (Bax_of hFS hk) hB (CI_o hC) hld (fun i hi => (hRB.1 i hi).1.2) hx
    rw [CI_op hC hx] at r1
    have hCK : CI σ K1 S1 := by
      obtain ⟨h1, h2, h3, ⟨t, h4, h5⟩, h6, h7, h8⟩ := hCJ
      refine ⟨FixR_m h1 (fun a h _ _ => w2 a h), Tbc_o h2 (fun a ha => w1 a (by unfold Nt at ha; omega) (by unfold Nt at ha; omega)), fun j hj => ?_, ⟨t, ?_, fun i hi j hj => ?_⟩, fun i hi => ?_, ⟨?_, fun j => ?_⟩, CB_R (CB_c h8 (fun a p q => w1 a (by omega) (by omega)) (by rw [w1 165 (by omega) (by omega)])) w2⟩
      · rw [snow_c (fun a p q => w1 a (by omega) (by omega)) hj]; exact h3 j hj
      · unfold Hi at *
        rw [w1 21 (by omega) (by omega)]; exact h4
      · rw [snow_c (fun a p q => w1 a (by omega) (by omega)) hj]; exact h5 i hi j hj
      · rw [w1 3 (by omega) (by omega)]; exact h6 i hi
      · rw [w1 108 (by omega) (by omega)]; exact h7.1
      · rw [w1 109 (by omega) (by omega)]; exact h7.2 j
    refine ag_same hs (by split <;> decide) ((w1 0 (by omega) (by omega)).trans (e1 0 (by decide))) hCK (RI_lo hR (fun a ha => (w1 a (by omega) (by omega)).trans (e2 a (by omega)))) r1 (fun Q hQ => ?_)
    have hN := RI_N hQ hs.1
    have hsm := (Hsb_sm hC hQ).mp hH
    obtain ⟨n', G', hL, hG, hRB'⟩ := lay_get hs hQ (q := q) (by omega) hsm
    obtain ⟨K, r2, hLad⟩ := s_within_ok (d := 51) (L := L) (R := S1) (u := v0) hCK.1 hQ.1.1 hQ.1.2 hN hx (hQ.2.1 608 (by decide)) (by omega) hsm (ly_b hQ) hL
    obtain ⟨en, eG⟩ := RB_u hRB hRB'
    have hnf : nfa (σ.1 608) n' G' (fe Q x) = rdC (σ.1 608) lw' n G (og σ.1 x) := by
      rw [RI_fe hQ hx, nf_rg hRB'.1 (Rg_og hs.1 hx), ← en]
      exact rdC_cg (fun i hi => ⟨by rw [← eG i hi]; exact lw_n (hld i hi), (eG i hi).symm⟩)
    have hiff : (if led (σ.1 608) (nfa (σ.1 608) n' G' (fe Q x)) < 0 then (1 : Int) else 0) = (if dgr (rdC (σ.1 608) lw' n G (og σ.1 x)) < 0 then 1 else 0) := by
      rw [hnf]
      by_cases c : dgr (rdC (σ.1 608) lw' n G (og σ.1 x)) < 0
      · rw [if_pos c, if_pos (dgr_neg.mp c)]
      · rw [if_neg c, if_neg (fun z => c (dgr_neg.mpr z))]
    rw [hiff] at r2
    obtain ⟨k1, k2⟩ := RI_Lad hs hQ (by omega) hG hRB' hLad
    exact ⟨K, v0, r2, k1, k2⟩
  · refine ag_ref hs hC hR (i := 1) (x := -20003) (by decide) (by decide) rfl hC hR (s11_within_no (d := 56) hC.1 hC.2.1 hS hq hH hx) (fun Q hQ => ?_)
    obtain ⟨k1, k2⟩ := no_RI hs hQ
    exact ⟨_, s_within_no (d := 51) hC.1 hQ.1.1 hQ.1.2 (RI_N hQ hs.1) hx (by omega) (sm_0 (fun z => hH ((Hsb_sm hC hQ).mpr z))), k1, k2⟩
end
