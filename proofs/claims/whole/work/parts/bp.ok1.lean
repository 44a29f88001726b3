/-! Calls that are answered, first half. -/
theorem Cw_cg {I J : Nat → Nat → Int} {t n : Nat} {g h : Nat → Int} (hW : Cw I J t n g) (e : ∀ j, j < 609 → g j = h j) : Cw I J t n h := ⟨fun j hj => (hW.1 j hj).trans (e j hj), hW.2⟩
theorem Nw_c {I J : Nat → Nat → Int} {n : Nat} {g h : Nat → Int} (hW : Nw I J n g) (e : ∀ j, j < 609 → g j = h j) : Nw I J n h := ⟨hW.1, fun j hj => (hW.2.1 j hj).trans (e j hj), hW.2.2⟩
theorem au_cg {g h : Nat → Int} {k j : Nat} {v : Int} (e : g j = h j) : au g k v j = au h k v j := by rw [au_i, au_i, e]
theorem so_cg {g h f f' : Nat → Int} {s j : Nat} (e : g j = h j) (ef : ∀ k, k < 91 → f k = f' k) : sopS g s f j = sopS h s f' j := by
  unfold sopS
  by_cases c : 91 * s ≤ j ∧ j < 91 * s + 91
  · rw [if_pos c, if_pos c]; exact ef _ (by omega)
  · rw [if_neg c, if_neg c]; exact e
theorem Gk_au {g : Nat → Int} {k : Nat} {v : Int} (h : Gok g) (hk : k < 608) (hv : 0 ≤ v ∧ v < 10007) : Gok (au g k v) := ⟨fun j hj => by
  rw [au_i]; split
  · exact hv
  · exact h.1 j hj, by rw [au_n _ _ (by omega)]; exact h.2⟩
theorem Gk_o {g : Nat → Int} {v : Int} (h : Gok g) (hv : v = 0 ∨ v = 1) : Gok (au g 608 v) := ⟨fun j hj => by rw [au_n _ _ (by omega)]; exact h.1 j hj, by rw [au_s]; exact hv⟩
theorem Gk_op {g f : Nat → Int} {s : Nat} (h : Gok g) (hs : s < 6) (hf : ∀ k, k < 91 → 0 ≤ f k ∧ f k < 10007) : Gok (sopS g s f) := ⟨fun j hj => by
  unfold sopS; split
  · exact hf _ (by omega)
  · exact h.1 j hj, by unfold sopS; rw [if_neg (by omega)]; exact h.2⟩
theorem Gk_og {g : Nat → Int} {s : Nat} (h : Gok g) (hs : s < 6) : resa (og g s) := fun j => by
  unfold og; split
  · exact h.1 _ (by omega)
  · omega
theorem og_z {g : Nat → Int} {s j : Nat} (h : 91 ≤ j) : og g s j = 0 := if_neg (by omega)
theorem tl_in {v : Int} (h : 0 ≤ v ∧ v < 10007) : inR (tl v) := by have := tl_b h; omega
theorem cnt_in (f : Nat → Int) : inR ((cnt f 496 : Nat) : Int) := by
  have : ∀ n, cnt f n ≤ n := fun n => by
    induction n with
    | zero => exact Nat.le_refl _
    | succ n ih => unfold cnt; split <;> omega
  have := this 496
  omega
theorem Bl_sro {I : Nat → Nat → Int} {r : Nat} {f : Nat → Int} (h : Bol I) : Bol (sro I r f) := Bol_e h (by rw [sro_o (show 315 ≠ 306 by decide), sro_o (show 316 ≠ 306 by decide)])
theorem Bl_put {I : Nat → Nat → Int} {n s row : Nat} (h : Bol I) : Bol (m_put (m_rem I n) s row) := Bol_e h rfl
section
variable {N L : Nat} {I : Nat → Nat → Int} {R : Nat → Nat → Option Nat} {v0 : Int64} {σ : Sg}
/-- an operator is exchanged, on both sides -/
theorem ag_op {kc km : Nat} {as : List am_V} {J : Nat → Nat → Int} {S : Nat → Nat → Option Nat} {x : Int} {s : Nat} {f f' : Nat → Int} (hs : Sok N σ) (hx : inR x) (hC : CI σ I R) (hR : RI σ I) (hs6 : s < 6) (hf : ∀ k, k < 91 → 0 ≤ f k ∧ f k < 10007) {t : Nat} (hH : Hi I t σ.2.1) (hp : ∀ i, i < σ.2.1 → ∀ j, j < 609 → snow I (23 + 17 * ((t + 4 - i) % 5)) j = σ.2.2.1 i j) (hF : FixR S) (hS : ∀ y, y ≠ 160 → S y = R y) (h1 : am_run am_tb 60 kc (vR 3 :: as) (LH L I R v0) = some ([vI x], LH L J S v0)) (hW : Cw I J t σ.2.1 (sopS (snow I 4) s f)) (hff : ∀ k, k < 91 → f' k = f k) (h2 : ∀ Q, RI σ Q → ∃ K u2, am_run am_tb 60 km (vR 301 :: as) (LH L Q S v0) = some ([vI x], LH L K S u2) ∧ Nw Q K σ.2.1 (sop Q s f') ∧ Bol K) : Ag N L kc km as I R v0 :=
  ag_push hs hx hC hR (Gk_op hs.1 hs6 hf) hH hp hF hS h1 (Cw_cg hW (fun j hj => so_cg (hC.2.2.1 j hj) (fun _ _ => rfl))) (fun _ _ => rfl) (fun Q hQ => by
    obtain ⟨K, u2, k1, k2, k3⟩ := h2 Q hQ
    exact ⟨K, u2, k1, Nw_c k2 (fun j hj => so_cg (g := Q 302) (hQ.2.1 j hj) hff), k3⟩)
theorem y_sets (hs : Sok N σ) (hC : CI σ I R) (hR : RI σ I) {s i j : Nat} {c : Int} (h1 : s < 6) (h2 : i + j ≤ 12) (hc : inR c) : Ag N L 93 157 [vI (s : Nat), vI (i : Nat), vI (j : Nat), vI c] I R v0 := by
  obtain ⟨t, hH, hp⟩ := hC.2.2.2.1
  have hp91 := pl_91 h2
  have e : snow I 4 (91 * s + pl i j) = σ.1 (91 * s + pl i j) := hC.2.2.1 _ (by omega)
  obtain ⟨J, r1, hW⟩ := s11_sets_ok (d := 56) (L := L) (u := v0) hC.1 hC.2.1 (CI_Sn hC hs.1) hH h1 h2 hc
  rw [e] at r1
  refine ag_push hs (tl_in (hs.1.1 _ (by omega))) hC hR (g' := au σ.1 (91 * s + pl i j) (c % 10007)) (Gk_au hs.1 (by omega) (by omega)) hH hp hC.1 (fun _ _ => rfl) r1 (Cw_cg hW (fun q hq => au_cg (hC.2.2.1 q hq))) (fun _ _ => rfl) (fun Q hQ => ?_)
  have r2 := s_sets_ok (d := 57) (L := L) (u := v0) hC.1 hQ.1.1 hQ.1.2 (RI_N hQ hs.1) hQ.2.2.1.1 hs.2.1 h1 h2 hc
  rw [hQ.2.1 _ (by omega)] at r2
  exact ⟨_, v0, r2, Nw_c (Nw_set hQ.1.1 hQ.1.2) (fun q hq => au_cg (hQ.2.1 q hq)), Bol_e hQ.2.2.2.2.2.1.1 rfl⟩
theorem y_at (hs : Sok N σ) (hC : CI σ I R) (hR : RI σ I) {s i j : Nat} (h1 : s < 6) (h2 : i + j ≤ 12) : Ag N L 94 158 [vI (s : Nat), vI (i : Nat), vI (j : Nat)] I R v0 := by
  have hp91 := pl_91 h2
  have r1 := s11_at_ok (d := 56) (L := L) (u := v0) hC.1 (CI_Sn hC hs.1) h1 h2
  rw [hC.2.2.1 _ (by omega)] at r1
  refine ag_same hs (tl_in (hs.1.1 _ (by omega))) rfl hC hR r1 (fun Q hQ => ?_)
  have r2 := s_at_ok (d := 57) (L := L) (u := v0) hC.1 hQ.1.1 hQ.1.2 (RI_N hQ hs.1) hQ.2.2.1.1 hs.2.1 h1 h2
  rw [hQ.2.1 _ (by omega)] at r2
  exact ⟨Q, v0, r2, hQ, fun _ _ => rfl⟩
theorem y_sums (hs : Sok N σ) (hC : CI σ I R) (hR : RI σ I) {s x w : Nat} {a b : Int} (h1 : s < 6) (h2 : x < 6) (h3 : w < 6) (ha : inR a) (hb : inR b) : Ag N L 95 159 [vI (s : Nat), vI (x : Nat), vI a, vI (w : Nat), vI b] I R v0 := by
  obtain ⟨t, hH, hp⟩ := hC.2.2.2.1
  obtain ⟨J, r1, hW⟩ := s11_sums_ok (d := 55) (L := L) (u := v0) hC.1 hC.2.1 (CI_Sn hC hs.1) hH h1 h2 h3 ha hb
  rw [CI_op hC h2, CI_op hC h3] at r1 hW
  refine ag_op hs (cnt_in _) hC hR h1 (fun k hk => mixF_b k (by omega)) hH hp hC.1 (fun _ _ => rfl) r1 hW (fun _ _ => rfl) (fun Q hQ => ?_)
  have hN := RI_N hQ hs.1
  have r2 := s_sums_ok (d := 56) (L := L) (u := v0) hC.1 hQ.1.1 hQ.1.2 hN hQ.2.2.1.1 hs.2.1 h1 h2 h3 ha hb
  have hF : Fr Q (sro (two Q x w) 25 (mixF (a % 10007) (fe Q x) (b % 10007) (fe Q w))) := Fr_s (two_F hQ.1.1 hN h2 h3) (by decide) mixF_b
  have hNw := Nw_put (n := σ.2.1) (s := s) (row := 25) hF hQ.1.2 (fun k hk => gro_s (by omega))
  rw [RI_fe hQ h2, RI_fe hQ h3] at r2 hNw
  exact ⟨_, v0, r2, hNw, Bl_put (Bl_sro (Bl_sro (Bl_sro hQ.2.2.2.2.2.1.1)))⟩
theorem y_times (hs : Sok N σ) (hC : CI σ I R) (hR : RI σ I) {s x w : Nat} (h1 : s < 6) (h2 : x < 6) (h3 : w < 6) : Ag N L 96 160 [vI (s : Nat), vI (x : Nat), vI (w : Nat)] I R v0 := by
  obtain ⟨t, hH, hp⟩ := hC.2.2.2.1
  have hS := CI_Sn hC hs.1
  by_cases hd : dgr (og σ.1 x) < 0 ∨ dgr (og σ.1 w) < 0 ∨ dgr (og σ.1 x) + dgr (og σ.1 w) ≤ 12
  · obtain ⟨J, r1, hW⟩ := s11_times_ok (d := 55) (L := L) (u := v0) hC.1 hC.2.1 hS hH h1 h2 h3 (by rw [CI_op hC h2, CI_op hC h3]; exact hd)
    rw [CI_op hC h2, CI_op hC h3] at r1 hW
    refine ag_op hs (cnt_in _) hC hR h1 (fun k hk => mul_r k (by omega)) hH hp hC.1 (fun _ _ => rfl) r1 hW (fun _ _ => rfl) (fun Q hQ => ?_)
    have hN := RI_N hQ hs.1
    have r2 := s_times_ok (d := 55) (L := L) (u := v0) hC.1 hQ.1.1 hQ.1.2 hN hQ.2.2.1.1 hs.2.1 h1 h2 h3 (by rw [RI_fe hQ h2, RI_fe hQ h3]; omega)
    have hF : Fr Q (sro (two Q x w) 25 (mul (fe Q x) (fe Q w))) := Fr_s (two_F hQ.1.1 hN h2 h3) (by decide) mul_r
    have hNw := Nw_put (n := σ.2.1) (s := s) (row := 25) hF hQ.1.2 (fun k hk => gro_s (by omega))
    rw [RI_fe hQ h2, RI_fe hQ h3] at r2 hNw
    exact ⟨_, v0, r2, hNw, Bl_put (Bl_sro (Bl_sro (Bl_sro hQ.2.2.2.2.2.1.1)))⟩
  · refine ag_ref hs hC hR (i := 2) (x := -20004) (by decide) (by decide) rfl hC hR (s11_times_full (d := 56) hC.1 hC.2.1 hS h1 h2 h3 (by rw [CI_op hC h2, CI_op hC h3]; exact hd)) (fun Q hQ => ?_)
    have hN := RI_N hQ hs.1
    have hF := two_F hQ.1.1 hN h2 h3
    refine ⟨two Q x w, s_times_full (d := 55) hC.1 hQ.1.1 hQ.1.2 hN hQ.2.2.1.1 hs.2.1 h1 h2 h3 (by rw [RI_fe hQ h2, RI_fe hQ h3]; omega), RI_Fr hQ hF (Bl_sro (Bl_sro hQ.2.2.2.2.2.1.1)), fun a ha => by unfold two; rw [sro_o (by omega), sro_o (by omega)]⟩
theorem y_bracket (hs : Sok N σ) (hC : CI σ I R) (hR : RI σ I) {s x w : Nat} (h1 : s < 6) (h2 : x < 6) (h3 : w < 6) : Ag N L 97 161 [vI (s : Nat), vI (x : Nat), vI (w : Nat)] I R v0 := by
  obtain ⟨t, hH, hp⟩ := hC.2.2.2.1
  have hS := CI_Sn hC hs.1
  by_cases hd : dgr (og σ.1 x) < 0 ∨ dgr (og σ.1 w) < 0 ∨ dgr (og σ.1 x) + dgr (og σ.1 w) ≤ 12
  · obtain ⟨J, r1, hW⟩ := s11_bracket_ok (d := 55) (L := L) (u := v0) hC.1 hC.2.1 hS hH h1 h2 h3 (by rw [CI_op hC h2, CI_op hC h3]; exact hd)
    rw [CI_op hC h2, CI_op hC h3] at r1 hW
    refine ag_op hs (cnt_in _) hC hR h1 (fun k hk => mixF_b k (by omega)) hH hp hC.1 (fun _ _ => rfl) r1 hW (fun _ _ => rfl) (fun Q hQ => ?_)
    have hN := RI_N hQ hs.1
    have r2 := s_bracket_ok (d := 55) (L := L) (u := v0) hC.1 hQ.1.1 hQ.1.2 hN hQ.2.2.1.1 hs.2.1 h1 h2 h3 (by rw [RI_fe hQ h2, RI_fe hQ h3]; omega)
    have hF : Fr Q (brI Q x w) := Fr_s (Fr_s (Fr_s (two_F hQ.1.1 hN h2 h3) (by decide) mul_r) (by decide) mul_r) (by decide) mixF_b
    have hNw := Nw_put (n := σ.2.1) (s := s) (row := 28) (f := brF (fe Q x) (fe Q w)) hF hQ.1.2 (fun k hk => gro_s (by omega))
    rw [RI_fe hQ h2, RI_fe hQ h3] at r2 hNw
    exact ⟨_, v0, r2, hNw, Bl_put (Bl_sro (Bl_sro (Bl_sro (Bl_sro (Bl_sro hQ.2.2.2.2.2.1.1)))))⟩
  · refine ag_ref hs hC hR (i := 2) (x := -20004) (by decide) (by decide) rfl hC hR (s11_bracket_full (d := 56) hC.1 hC.2.1 hS h1 h2 h3 (by rw [CI_op hC h2, CI_op hC h3]; exact hd)) (fun Q hQ => ?_)
    have hN := RI_N hQ hs.1
    have hF := two_F hQ.1.1 hN h2 h3
    refine ⟨two Q x w, s_bracket_full (d := 55) hC.1 hQ.1.1 hQ.1.2 hN hQ.2.2.1.1 hs.2.1 h1 h2 h3 (by rw [RI_fe hQ h2, RI_fe hQ h3]; omega), RI_Fr hQ hF (Bl_sro (Bl_sro hQ.2.2.2.2.2.1.1)), fun a ha => by unfold two; rw [sro_o (by omega), sro_o (by omega)]⟩
theorem y_order (hs : Sok N σ) (hC : CI σ I R) (hR : RI σ I) {o : Int} (ho : o = 0 ∨ o = 1) : Ag N L 101 168 [vI o] I R v0 := by
  obtain ⟨t, hH, hp⟩ := hC.2.2.2.1
  obtain ⟨J, r1, hW⟩ := s11_order_ok (d := 56) (L := L) (u := v0) hC.1 hC.2.1 (CI_Sn hC hs.1) hH ho
  rw [CI_o hC] at r1
  have := hs.1.2
  refine ag_push hs (by omega) hC hR (g' := au σ.1 608 o) (Gk_o hs.1 ho) hH hp hC.1 (fun _ _ => rfl) r1 (Cw_cg hW (fun q hq => au_cg (hC.2.2.1 q hq))) (fun _ _ => rfl) (fun Q hQ => ?_)
  have r2 := s_order_ok (d := 57) (L := L) (u := v0) hC.1 hQ.1.1 hQ.1.2 (RI_N hQ hs.1) hQ.2.2.1.1 hs.2.1 (o := o) (by omega)
  rw [hQ.2.1 _ (by omega)] at r2
  exact ⟨_, v0, r2, Nw_c (Nw_set hQ.1.1 hQ.1.2) (fun q hq => au_cg (hQ.2.1 q hq)), Bol_e hQ.2.2.2.2.2.1.1 rfl⟩
theorem y_puts (hs : Sok N σ) (hC : CI σ I R) (hR : RI σ I) {f m : Nat} {c : Int} (h1 : f < 2) (h2 : m ≤ 30) (hc : inR c) : Ag N L 102 171 [vI (f : Nat), vI (m : Nat), vI c] I R v0 := by
  obtain ⟨t, hH, hp⟩ := hC.2.2.2.1
  obtain ⟨J, r1, hW⟩ := s11_puts_ok (d := 56) (L := L) (u := v0) hC.1 hC.2.1 (CI_Sn hC hs.1) hH h1 h2 hc
  rw [hC.2.2.1 _ (by omega)] at r1
  refine ag_push hs (tl_in (hs.1.1 _ (by omega))) hC hR (g' := au σ.1 (546 + 31 * f + m) (c % 10007)) (Gk_au hs.1 (by omega) (by omega)) hH hp hC.1 (fun _ _ => rfl) r1 (Cw_cg hW (fun q hq => au_cg (hC.2.2.1 q hq))) (fun _ _ => rfl) (fun Q hQ => ?_)
  have r2 := s_puts_ok (d := 57) (L := L) (u := v0) hC.1 hQ.1.1 hQ.1.2 (RI_N hQ hs.1) hQ.2.2.1.1 hs.2.1 h1 h2 hc
  rw [hQ.2.1 _ (by omega)] at r2
  exact ⟨_, v0, r2, Nw_c (Nw_set hQ.1.1 hQ.1.2) (fun q hq => au_cg (hQ.2.1 q hq)), Bol_e hQ.2.2.2.2.2.1.1 rfl⟩
theorem y_rate (hs : Sok N σ) (hC : CI σ I R) (hR : RI σ I) {f m : Nat} (h1 : f < 2) (h2 : m ≤ 30) : Ag N L 103 172 [vI (f : Nat), vI (m : Nat)] I R v0 := by
  have r1 := s11_rate_ok (d := 58) (L := L) (u := v0) hC.1 (CI_Sn hC hs.1) h1 h2
  rw [hC.2.2.1 _ (by omega)] at r1
  refine ag_same hs (tl_in (hs.1.1 _ (by omega))) rfl hC hR r1 (fun Q hQ => ?_)
  have r2 := s_rate_ok (d := 57) (L := L) (u := v0) hC.1 hQ.1.1 hQ.1.2 (RI_N hQ hs.1) hQ.2.2.1.1 hs.2.1 h1 h2
  rw [hQ.2.1 _ (by omega)] at r2
  exact ⟨Q, v0, r2, hQ, fun _ _ => rfl⟩
end
