/-! Calls that are answered: told, digest, texts, states. -/
/-- all bytes are small -/
def ByL (l : List Int) : Prop := ∀ x, x ∈ l → 0 ≤ x ∧ x ≤ 200
theorem ByL_n : ByL [] := fun x h => absurd h List.not_mem_nil
theorem ByL_a {l m : List Int} (h1 : ByL l) (h2 : ByL m) : ByL (l ++ m) := fun x h => (List.mem_append.mp h).elim (h1 x) (h2 x)
theorem ByL_1 {x : Int} (h : 0 ≤ x ∧ x ≤ 200) : ByL [x] := fun y hy => by rw [List.mem_singleton.mp hy]; exact h
theorem ByL_d (v : Int) (e k : Nat) : ByL (dgp v e k) := by
  induction k with
  | zero => exact ByL_n
  | succ k ih =>
    unfold dgp
    exact ByL_a ih (ByL_1 (by omega))
theorem ByL_l (c n : Int) (hc : 0 ≤ c ∧ c ≤ 200) : ByL (ltr c n) := by
  have h : ByL (if 1 < n then 94 :: num n else []) := by
    by_cases q : 1 < n
    · rw [if_pos q]; exact ByL_a (l := [94]) (ByL_1 (by decide)) (ByL_d _ _ _)
    · rw [if_neg q]; exact ByL_n
  exact ByL_a (l := [c]) (ByL_1 hc) h
theorem ByL_t {w : Nat} {v : Int} {l : List Int} (h : ByL l) : ByL (trm w v l) := by
  unfold trm
  refine ByL_a (ByL_a (ByL_a (ByL_a h ?_) ?_) ?_) ?_
  · unfold sgn
    split
    · exact ByL_1 (by decide)
    split
    · exact ByL_n
    · exact ByL_1 (by decide)
  · unfold trn
    split
    · exact ByL_d _ _ _
    · exact ByL_n
  · unfold trx
    split
    · refine ByL_a ?_ (ByL_l _ _ (by decide))
      split
      · exact ByL_1 (by decide)
      · exact ByL_n
    · exact ByL_n
  · unfold trd
    split
    · refine ByL_a ?_ (ByL_l _ _ (by decide))
      split
      · exact ByL_1 (by decide)
      · exact ByL_n
    · exact ByL_n
theorem ByL_k {o : Int} {f : Nat → Int} {n : Nat} {l : List Int} (h : ByL l) (k : Nat) : ByL (lnk o f n l k) := by
  induction k with
  | zero => exact h
  | succ k ih =>
    unfold lnk
    split
    · exact ih
    · exact ByL_t ih
theorem ByL_o {o : Int} {f : Nat → Int} (m : Nat) : ByL (lno o f m) := by
  induction m with
  | zero => exact ByL_n
  | succ m ih => exact ByL_k ih _
theorem ByL_lin (o : Int) (f : Nat → Int) : ByL (lin o f) := by
  unfold lin
  split
  · exact ByL_a (ByL_o 13) (ByL_1 (by decide))
  · exact ByL_o 13
theorem ByL_g {l : List Int} (h : ByL l) : ∀ n, inR (l.getD n 0) := by
  induction l with
  | nil => exact fun n => by show inR 0; decide
  | cons a l ih =>
    intro n
    cases n with
    | zero => have := h a List.mem_cons_self; show inR a; omega
    | succ n => exact ih (fun x hx => h x (List.mem_cons_of_mem _ hx)) n
/-- what told tells -/
def tov (σ : Sg) (w : Int) : Int := if w < 3 then σ.2.2.2.1 w.toNat else if w = 3 then (σ.2.2.2.2.1 : Nat) else if w = 4 then σ.1 608 else (σ.2.1 : Nat)
section
variable {N L : Nat} {I : Nat → Nat → Int} {R : Nat → Nat → Option Nat} {v0 : Int64} {σ : Sg}
theorem tov_c (hC : CI σ I R) {w : Int} (hw : 0 ≤ w ∧ w ≤ 5) : tofc I w = tov σ w := by
  obtain ⟨t, hH, _⟩ := hC.2.2.2.1
  unfold tofc tov
  by_cases c : w < 3
  · rw [if_pos c, if_pos c]; exact hC.2.2.2.2.1 _ (by omega)
  · rw [if_neg c, if_neg c, hC.2.2.2.2.2.1.1, CI_o hC, hH.2.2.1]
theorem tov_r (hR : RI σ I) {w : Int} (hw : 0 ≤ w ∧ w ≤ 5) : tof I w = tov σ w := by
  unfold tof tov
  by_cases c : w < 3
  · rw [if_pos c, if_pos c]; exact hR.2.2.2.1 _ (by omega)
  · rw [if_neg c, if_neg c, hR.2.2.2.2.1.1, hR.2.1 608 (by decide), hR.2.2.1.1]
theorem tov_b (hs : Sok N σ) (hN : N ≤ 100000) {w : Int} (hw : 0 ≤ w ∧ w ≤ 5) : inR (tov σ w) := by
  have h1 := hs.2.1
  have h2 := hs.2.2.2.2.1
  have h3 := hs.1.2
  unfold tov
  by_cases c : w < 3
  · rw [if_pos c]; have := hs.2.2.2.1 w.toNat (by omega); omega
  · rw [if_neg c]
    split
    · omega
    split
    · omega
    · omega
theorem y_told (hs : Sok N σ) (hN : N ≤ 100000) (hC : CI σ I R) (hR : RI σ I) {w : Int} (hw : 0 ≤ w ∧ w ≤ 5) : Ag N L 117 227 [vI w] I R v0 := by
  have r1 := s11_told_ok (d := 59) (L := L) (I := I) (u := v0) hC.1 hw
  rw [tov_c hC hw] at r1
  refine ag_same hs (tov_b hs hN hw) rfl hC hR r1 (fun Q hQ => ?_)
  have r2 := s_told_ok (d := 58) (L := L) (I := Q) (u := v0) hC.1 hw
  rw [tov_r hQ hw] at r2
  exact ⟨Q, v0, r2, hQ, fun _ _ => rfl⟩
theorem y_digest (hs : Sok N σ) (hN : N ≤ 100000) (hC : CI σ I R) (hR : RI σ I) : ∃ (v : Int64) (I2 : Nat → Nat → Int) (u2 : Int64), am_run am_tb 60 118 [vR 3] (LH L I R v0) = some ([vL v], LH L I R v0) ∧ am_run am_tb 60 229 [vR 301] (LH L I R v0) = some ([vL v], LH L I2 R u2) ∧ Sok (N + 1) σ ∧ CI σ I2 R ∧ RI σ I2 ∧ I2 0 = I 0 := by
  have r1 := s11_digest (d := 55) (L := L) (u := v0) hC.1 hC.2.1 (CI_Sn hC hs.1) (fun k hk => by rw [tov_c hC (by omega)]; exact tov_b hs hN (by omega))
  have hNr := RI_N hR hs.1
  have r2 := s_digest (d := 54) (L := L) (u := v0) hC.1 hR.1.1 hR.1.2 hNr (hR.2.1 608 (by decide)) (fun k hk => by rw [tov_r hR (by omega)]; exact tov_b hs hN (by omega))
  have e := digest_eq (I := I) (fun k hk => by rw [tov_c hC (by omega), tov_r hR (by omega)]) (fun s k h1 h2 => by rw [CI_oc hC h1 h2]; exact (hR.2.1 _ (by omega)).symm) (fun f k h1 h2 => by rw [CI_pc hC h1 h2]; exact (hR.2.1 _ (by omega)).symm)
  rw [CI_o hC] at e
  rw [← e] at r2
  have hRI := RI_Fr hR (Fr_s (r := 24) (Fr_r hR.1.1) (by decide) (fe_b hNr (show 5 < 6 by decide))) (Bl_sro hR.2.2.2.2.2.1.1)
  exact ⟨digc I, _, _, r1, r2, Sok_m hs (by omega), CI_hi hC (fun a ha => sro_o (by omega)), hRI, sro_o (by decide)⟩
theorem y_type (hs : Sok N σ) (hC : CI σ I R) (hR : RI σ I) {c : Int} (hc : 0 ≤ c ∧ c ≤ 127) : Ag N L 112 205 [vI c] I R v0 := by
  have hb := hs.2.2.2.2.1
  by_cases c120 : σ.2.2.2.2.1 = 120
  · exact ag_ref hs hC hR (i := 2) (x := -20004) (by decide) (by decide) rfl hC hR (s11_type_full (d := 58) hC.1 hc (by rw [hC.2.2.2.2.2.1.1, c120]; rfl)) (fun Q hQ => ⟨Q, s_type_full (d := 57) hC.1 hc (by rw [hQ.2.2.2.2.1.1, c120]; rfl), hQ, fun _ _ => rfl⟩)
  · have r1 := s11_type_ok (d := 58) (L := L) (u := v0) hC.1 hc hC.2.2.2.2.2.1.1 (by omega)
    obtain ⟨σ', hσ⟩ : ∃ σ' : Sg, σ' = (σ.1, σ.2.1, σ.2.2.1, σ.2.2.2.1, σ.2.2.2.2.1 + 1, au σ.2.2.2.2.2 σ.2.2.2.2.1 c) := ⟨_, rfl⟩
    obtain ⟨J, hJ⟩ : ∃ J, J = au (au I 109 (au (I 109) σ.2.2.2.2.1 c)) 108 (au (I 108) 1 ((σ.2.2.2.2.1 : Int) + 1)) := ⟨_, rfl⟩
    rw [← hJ] at r1
    have eJ : ∀ a, a ≠ 108 → a ≠ 109 → J a = I a := fun a h1 h2 => by rw [hJ, au_n _ _ h1, au_n _ _ h2]
    have hRJ : RI σ J := RI_lo hR (fun a ha => eJ a (by omega) (by omega))
    have r2 := s_type_ok (d := 57) (L := L) (I := J) (R := R) (u := v0) hC.1 hc hRJ.2.2.2.2.1.1 (by omega)
    refine ⟨(σ.2.2.2.2.1 : Int) + 1, σ', J, R, _, v0, r1, r2, by omega, ?_, ?_, ?_, eJ 0 (by decide) (by decide), ?_⟩
    · rw [hσ]
      refine ⟨hs.1, hs.2.1, hs.2.2.1, fun i hi => by have := hs.2.2.2.1 i hi; show 0 ≤ σ.2.2.2.1 i ∧ σ.2.2.2.1 i ≤ ((N + 1 : Nat) : Int); omega, by show σ.2.2.2.2.1 + 1 ≤ 120; omega, fun j hj => ?_⟩
      have hj : j < σ.2.2.2.2.1 + 1 := hj
      show 0 ≤ au σ.2.2.2.2.2 σ.2.2.2.2.1 c j ∧ au σ.2.2.2.2.2 σ.2.2.2.2.1 c j ≤ 127
      rw [au_i]
      split
      · exact hc
      · exact hs.2.2.2.2.2 j (by omega)
    · obtain ⟨h1, h2, h3, ⟨t, h4, h5⟩, h6, h7, h8⟩ := hC
      refine CI_hi (I := J) ?_ (fun a ha => by unfold tyI; rw [au_n _ _ (by omega), au_n _ _ (by omega)])
      rw [hσ]
      refine ⟨h1, Tbc_o h2 (fun a ha => eJ a (by unfold Nt at ha; omega) (by unfold Nt at ha; omega)), fun j hj => ?_, ⟨t, ?_, fun k hk j hj => ?_⟩, fun k hk => ?_, ⟨?_, fun j => ?_⟩, CB_c h8 (fun x p q => eJ x (by omega) (by omega)) (by rw [eJ 165 (by decide) (by decide)])⟩
      · rw [snow_c (fun a p q => eJ a (by omega) (by omega)) hj]; exact h3 j hj
      · unfold Hi at *
        rw [eJ 21 (by decide) (by decide)]; exact h4
      · rw [snow_c (fun a p q => eJ a (by omega) (by omega)) hj]; exact h5 k hk j hj
      · rw [eJ 3 (by decide) (by decide)]; exact h6 k hk
      · rw [hJ, au_s, au_s]
        show _ = ((σ.2.2.2.2.1 + 1 : Nat) : Int)
        omega
      · rw [hJ, au_n _ _ (by decide), au_s]
        exact au_cg (h7.2 j)
    · rw [hσ]
      obtain ⟨q1, q2, q3, q4, q5, q6, q7⟩ := hRJ
      refine ⟨q1, q2, q3, q4, ⟨?_, fun j => ?_⟩, q6, q7⟩
      · show (σ.2.2.2.2.1 : Int) + 1 = ((σ.2.2.2.2.1 + 1 : Nat) : Int)
        omega
      · exact au_cg (q5.2 j)
    · unfold tyI
      rw [au_n _ _ (by decide), au_n _ _ (by decide)]
      exact eJ 0 (by decide) (by decide)
theorem y_clear (hs : Sok N σ) (hC : CI σ I R) (hR : RI σ I) : Ag N L 113 206 [] I R v0 := by
  have hb := hs.2.2.2.2.1
  have r1 := s11_clear (d := 59) (L := L) (I := I) (u := v0) hC.1
  rw [hC.2.2.2.2.2.1.1] at r1
  obtain ⟨J, hJ⟩ : ∃ J, J = au I 108 (au (I 108) 1 0) := ⟨_, rfl⟩
  rw [← hJ] at r1
  have eJ : ∀ a, a ≠ 108 → J a = I a := fun a h1 => by rw [hJ, au_n _ _ h1]
  have hRJ : RI σ J := RI_lo hR (fun a ha => eJ a (by omega))
  have r2 := s_clear (d := 59) (L := L) (I := J) (R := R) (u := v0) hC.1
  rw [hRJ.2.2.2.2.1.1] at r2
  refine ⟨((σ.2.2.2.2.1 : Nat) : Int), (σ.1, σ.2.1, σ.2.2.1, σ.2.2.2.1, 0, σ.2.2.2.2.2), J, R, _, v0, r1, r2, by omega, ?_, ?_, ?_, eJ 0 (by decide), (au_n _ _ (by decide)).trans (eJ 0 (by decide))⟩
  · exact ⟨hs.1, hs.2.1, hs.2.2.1, fun i hi => by have := hs.2.2.2.1 i hi; show 0 ≤ σ.2.2.2.1 i ∧ σ.2.2.2.1 i ≤ ((N + 1 : Nat) : Int); omega, Nat.zero_le _, fun j hj => absurd hj (Nat.not_lt_zero _)⟩
  · obtain ⟨h1, h2, h3, ⟨t, h4, h5⟩, h6, h7, h8⟩ := hC
    refine CI_hi (I := J) ?_ (fun a ha => au_n _ _ (by omega))
    refine ⟨h1, Tbc_o h2 (fun a ha => eJ a (by unfold Nt at ha; omega)), fun j hj => ?_, ⟨t, ?_, fun k hk j hj => ?_⟩, fun k hk => ?_, ⟨?_, fun j => ?_⟩, CB_c h8 (fun x p q => eJ x (by omega)) (by rw [eJ 165 (by decide)])⟩
    · rw [snow_c (fun a p q => eJ a (by omega)) hj]; exact h3 j hj
    · unfold Hi at *
      rw [eJ 21 (by decide)]; exact h4
    · rw [snow_c (fun a p q => eJ a (by omega)) hj]; exact h5 k hk j hj
    · rw [eJ 3 (by decide)]; exact h6 k hk
    · rw [hJ, au_s, au_s]; rfl
    · rw [eJ 109 (by decide)]; exact h7.2 j
  · obtain ⟨q1, q2, q3, q4, q5, q6, q7⟩ := hRJ
    exact ⟨q1, q2, q3, q4, ⟨rfl, q5.2⟩, q6, q7⟩
theorem y_back (hs : Sok N σ) (hC : CI σ I R) (hR : RI σ I) : Ag N L 116 139 [] I R v0 := by
  obtain ⟨t, hH, hp⟩ := hC.2.2.2.1
  have h5 := hs.2.1
  by_cases c0 : σ.2.1 = 0
  · exact ag_ref hs hC hR (i := 1) (x := -20003) (by decide) (by decide) rfl hC hR (s11_back_no (d := 58) hC.1 (by rw [hH.2.2.1, c0]; rfl)) (fun Q hQ => ⟨Q, s_back_no (d := 58) hC.1 (by rw [hQ.2.2.1.1, c0]; rfl), hQ, fun _ _ => rfl⟩)
  · obtain ⟨J, r1, b1, b2, b3, b4⟩ := s11_back_ok (d := 56) (L := L) (R := R) (u := v0) hC.1 hH (by omega)
    have hRJ : RI σ J := RI_lo hR (fun a ha => b4 a (by omega))
    have r2 := s_back_ok (d := 58) (L := L) (I := J) (R := R) (u := v0) hC.1 (n := σ.2.1 - 1) (by rw [hRJ.2.2.1.1]; omega) (by omega)
    have e0 : J 0 = I 0 := b4 0 (by omega)
    have ht := hH.2.1
    refine ⟨((σ.2.1 - 1 : Nat) : Int), pop σ, J, R, _, v0, r1, r2, by omega, Sok_m (Sok_pop hs (by omega)) (by omega), ?_, ?_, e0, ?_⟩
    · refine CI_hi (I := J) ?_ (fun a ha => by unfold bkI; rw [au_n _ _ (by omega), au_n _ _ (by omega)])
      obtain ⟨h1, h2, h3, _, h6, h7, h8⟩ := hC
      refine ⟨h1, Tbc_o h2 (fun a ha => b4 a (by unfold Nt at ha; omega)), fun j hj => ?_, ⟨(t + 4) % 5, ⟨b2, by omega, b3, by show σ.2.1 - 1 ≤ 5; omega⟩, fun k hk j hj => ?_⟩, fun k hk => ?_, ⟨?_, fun j => ?_⟩, CB_c h8 (fun x p q => b4 x (by omega)) (by rw [b4 165 (by omega)])⟩
      · rw [b1 j hj]
        have := hp 0 (by omega) j hj
        rw [show t + 4 - 0 = t + 4 by omega] at this
        exact this
      · have hk : k < σ.2.1 - 1 := hk
        rw [snow_c (fun a p q => b4 a (by omega)) hj, show ((t + 4) % 5 + 4 - k) % 5 = (t + 4 - (k + 1)) % 5 by omega]
        exact hp (k + 1) (by omega) j hj
      · rw [b4 3 (by omega)]; exact h6 k hk
      · rw [b4 108 (by omega)]; exact h7.1
      · rw [b4 109 (by omega)]; exact h7.2 j
    · obtain ⟨q1, q2, q3, q4, q5, q6, q7⟩ := hRJ
      refine ⟨q1, fun j hj => ?_, ⟨rfl, fun i hi j hj => ?_⟩, q4, q5, q6, Or.inl rfl⟩
      · show (if j < 609 then J 303 (609 * (σ.2.1 - 1) + j) else J 302 j) = σ.2.2.1 0 j
        rw [if_pos hj]
        have := q3.2 0 (by omega) j hj
        rw [show σ.2.1 - 1 - 0 = σ.2.1 - 1 by omega] at this
        exact this
      · have hi : i < σ.2.1 - 1 := hi
        show J 303 (609 * (σ.2.1 - 1 - 1 - i) + j) = σ.2.2.1 (i + 1) j
        rw [show σ.2.1 - 1 - 1 - i = σ.2.1 - 1 - (i + 1) by omega]
        exact q3.2 (i + 1) (by omega) j hj
    · unfold bkI
      rw [au_n _ _ (by decide), au_n _ _ (by decide)]
      exact e0
theorem y_shown (hs : Sok N σ) (hC : CI σ I R) (hR : RI σ I) {s : Nat} {p : Int} (h1 : s < 6) (h2 : 0 ≤ p ∧ p ≤ 2147483647) : Ag N L 115 225 [vI (s : Nat), vI p] I R v0 := by
  obtain ⟨J, r1, hFc⟩ := s11_shown_ok (d := 54) (L := L) (u := v0) hC.1 hC.2.1 (CI_Sn hC hs.1) h1 h2
  rw [CI_op hC h1, CI_o hC] at r1
  have hb := ByL_g (ByL_lin (σ.1 608) (og σ.1 s)) p.toNat
  refine ag_same hs (by split; exact hb; decide) (hFc.1 0 (by unfold Sca; omega) (by decide) (by decide)) (CI_Fc hC hFc) (RI_lo hR (fun a ha => hFc.1 a (by unfold Sca; omega) (by omega) (by omega))) r1 (fun Q hQ => ?_)
  have hN := RI_N hQ hs.1
  have r2 := s_shown_ok (d := 54) (L := L) (u := v0) hC.1 hQ.1.2 hN (hQ.2.1 608 (by decide)) h1 h2
  rw [lin_cg (f := opr Q s) (g := og σ.1 s) (fun k hk => by unfold og opr; rw [if_pos hk]; exact hQ.2.1 _ (by omega))] at r2
  refine ⟨_, v0, r2, RI_Fr hQ ⟨fun a p q => by unfold wrs; rw [au_n _ _ (by omega), au_n _ _ (by omega)], ⟨rfl, rfl, rfl⟩, ⟨rfl, rfl, rfl, rfl⟩, fun _ _ _ _ => rfl, hQ.1.1⟩ (Bol_e hQ.2.2.2.2.2.1.1 rfl), fun a ha => by unfold wrs; rw [au_n _ _ (by omega), au_n _ _ (by omega)]⟩
theorem y_reads (hs : Sok N σ) (hC : CI σ I R) (hR : RI σ I) {s : Nat} (h1 : s < 6) : Ag N L 114 219 [vI (s : Nat)] I R v0 := by
  obtain ⟨t, hH, hp⟩ := hC.2.2.2.1
  have hx := CI_Tx hC hs
  have hb := hs.2.2.2.2.1
  have eT : I 109 = σ.2.2.2.2.2 := funext hC.2.2.2.2.2.1.2
  have hT := hs.2.2.2.2.2
  have eQ : ∀ Q, RI σ Q → Q 305 = σ.2.2.2.2.2 := fun Q hQ => funext hQ.2.2.2.2.1.2
  rcases flG_or (T := σ.2.2.2.2.2) hb with hq | ⟨q, hq120, hq⟩
  · cases hev : evE σ.2.2.2.2.2 σ.2.2.2.2.1 9 0 with
    | none =>
      obtain ⟨J, r1, hFc⟩ := s11_reads_full (d := 22) (L := L) (R := R) (u := v0) hC.1 hC.2.1 hx h1 (by rw [eT]; exact hq) (by rw [eT]; exact hev)
      refine ag_ref hs hC hR (i := 2) (x := -20004) (by decide) (by decide) (hFc.1 0 (by unfold Sca; omega) (by decide) (by decide)) (CI_Fc hC hFc) (RI_lo hR (fun a ha => hFc.1 a (by unfold Sca; omega) (by omega) (by omega))) r1 (fun Q hQ => ?_)
      obtain ⟨K, r2, hF, hB⟩ := s_reads_full (d := 50) (L := L) (R := R) (u := v0) hC.1 hQ.1.1 hQ.1.2 (RI_Tx hQ hs) hQ.2.2.2.2.2.1.1 h1 (by rw [eQ Q hQ]; exact rd_yes hb hq) (by rw [eQ Q hQ]; exact rv_0) (by rw [eQ Q hQ]; exact rd_yes hb hq) (by rw [eQ Q hQ]; exact rv_full hb hT hq hev) rfl
      exact ⟨K, r2, RI_Fr hQ hF hB, fun a ha => hF.1 a (by omega) (by omega)⟩
    | some x =>
      obtain ⟨y, p⟩ := x
      obtain ⟨J, r1, hW⟩ := s11_reads_ok (d := 22) (L := L) (R := R) (u := v0) hC.1 hC.2.1 hx h1 hH (by rw [eT]; exact hq) (by rw [eT]; exact hev)
      have hv : FL σ.2.2.2.2.2 σ.2.2.2.2.1 (skb σ.2.2.2.2.2 σ.2.2.2.2.1 0) 0 0 = -1 := by rw [← FL_k (T := σ.2.2.2.2.2) (m := 0) (o := 0) hb (by decide) (by decide) _ 0 (Nat.le_refl _) (Nat.zero_le _)]; exact hq
      have hGy : Gv y := ((ev_ok hb hT 8 0 rfl 0 (fun _ => 0) (fun _ => 0) (fun _ _ => 0) (fun _ _ => 0) (Nat.zero_le _) rfl rfl (fun _ _ => rfl) hv).2 y p hev).1
      refine ag_op hs (cnt_in _) hC hR h1 (fun k hk => hGy.1 k (by omega)) hH hp hC.1 (fun _ _ => rfl) r1 hW (f' := y) (fun _ _ => rfl) (fun Q hQ => ?_)
      obtain ⟨K, r2, hN, hB⟩ := s_reads_ok (d := 50) (L := L) (R := R) (u := v0) hC.1 hQ.1.1 hQ.1.2 (RI_Tx hQ hs) hQ.2.2.2.2.2.1.1 h1 (by rw [eQ Q hQ]; exact rd_yes hb hq) (by rw [eQ Q hQ]; exact rv_0) (by rw [eQ Q hQ]; exact rd_yes hb hq) (by rw [eQ Q hQ]; exact rv_ok hb hT hq hev) rfl hQ.2.2.1.1 hs.2.1
      exact ⟨K, v0, r2, hN, hB⟩
  · obtain ⟨J, r1, hFc⟩ := s11_reads_no (d := 22) (L := L) (R := R) (u := v0) hC.1 hC.2.1 hx h1 (by rw [eT]; exact hq) (by omega)
    refine ag_same hs (by omega) (hFc.1 0 (by unfold Sca; omega) (by decide) (by decide)) (CI_Fc hC hFc) (RI_lo hR (fun a ha => hFc.1 a (by unfold Sca; omega) (by omega) (by omega))) r1 (fun Q hQ => ?_)
    obtain ⟨K, r2, hF, hB⟩ := s_reads_no (d := 50) (L := L) (R := R) (u := v0) hC.1 hQ.1.1 hQ.1.2 (RI_Tx hQ hs) hQ.2.2.2.2.2.1.1 h1 hq120 (by rw [eQ Q hQ]; exact rd_no hb hq)
    exact ⟨K, v0, r2, RI_Fr hQ hF hB, fun a ha => hF.1 a (by omega) (by omega)⟩
end
