/-! Calls that are answered, second half. -/
theorem fnd_cg {p q : Nat → Bool} {n : Nat} (h : ∀ k, k < n → p k = q k) : fnd p n = fnd q n := by
  induction n with
  | zero => rfl
  | succ n ih =>
    show (if fnd p n < n then fnd p n else if p n = true then n else n + 1) = (if fnd q n < n then fnd q n else if q n = true then n else n + 1)
    rw [ih (fun k hk => h k (by omega)), h n (by omega)]
theorem imM_cg {e c e' c' : Nat → Int} {p : Nat} (he : ∀ k, k < 91 → e k = e' k) (hc : ∀ k, k < 31 → c k = c' k) : imM e c 31 p = imM e' c' 31 p := by
  unfold imM imV
  rw [smk_c (fun n hn => ?_)]
  show c n * imS e n p 91 = c' n * imS e' n p 91
  rw [hc n hn]
  unfold imS
  rw [smk_c (fun k hk => ?_)]
  show (if dw k ≤ n ∧ n - dw k + xw k = p then e k * fal n (dw k) else 0) = (if dw k ≤ n ∧ n - dw k + xw k = p then e' k * fal n (dw k) else 0)
  rw [he k hk]
theorem imS_cg {e e' : Nat → Int} {n p : Nat} (he : ∀ k, k < 91 → e k = e' k) : imS e n p 91 = imS e' n p 91 := by
  unfold imS
  rw [smk_c (fun k hk => ?_)]
  show (if dw k ≤ n ∧ n - dw k + xw k = p then e k * fal n (dw k) else 0) = (if dw k ≤ n ∧ n - dw k + xw k = p then e' k * fal n (dw k) else 0)
  rw [he k hk]
theorem fitN_cg {e c e' c' : Nat → Int} (he : ∀ k, k < 91 → e k = e' k) (hc : ∀ k, k < 31 → c k = c' k) : fitN e c = fitN e' c' := by
  unfold fitN
  rw [zp_c hc]
  exact fnd_cg (fun w hw => by rw [he w hw])
theorem lnk_cg {o : Int} {f g : Nat → Int} {n : Nat} {l : List Int} (hn : n ≤ 12) (h : ∀ k, k < 91 → f k = g k) (k : Nat) (hk : k ≤ n + 1) : lnk o f n l k = lnk o g n l k := by
  induction k with
  | zero => rfl
  | succ k ih =>
    show (if f (wb o n k) = 0 then lnk o f n l k else trm (wb o n k) (tl (f (wb o n k))) (lnk o f n l k)) = (if g (wb o n k) = 0 then lnk o g n l k else trm (wb o n k) (tl (g (wb o n k))) (lnk o g n l k))
    rw [ih (by omega), h _ (wb_91 hn (by omega))]
theorem lin_cg {o : Int} {f g : Nat → Int} (h : ∀ k, k < 91 → f k = g k) : lin o f = lin o g := by
  have key : ∀ m, m ≤ 13 → lno o f m = lno o g m := fun m => by
    induction m with
    | zero => intro _; rfl
    | succ m ih =>
      intro hm
      show lnk o f (12 - m) (lno o f m) (12 - m + 1) = lnk o g (12 - m) (lno o g m) (12 - m + 1)
      rw [ih (by omega)]
      exact lnk_cg (by omega) h _ (Nat.le_refl _)
  unfold lin
  rw [key 13 (Nat.le_refl _)]
theorem Gk_pl {g f : Nat → Int} {s : Nat} (h : Gok g) (hs : s < 2) (hf : ∀ k, k < 31 → 0 ≤ f k ∧ f k < 10007) : Gok (polS g s f) := ⟨fun j hj => by
  unfold polS; split
  · exact hf _ (by omega)
  · exact h.1 j hj, by unfold polS; rw [if_neg (by omega)]; exact h.2⟩
theorem dgr_91 {f : Nat → Int} (h : ∀ j, 91 ≤ j → f j = 0) : dgr f ≤ 12 := dgr_le (by decide) (fun w _ q => h w (by
  refine Nat.le_of_not_lt fun z => ?_
  have h1 := (wn_b w).1
  have h2 := tri_m (show 13 ≤ wn w by omega)
  rw [tri_13] at h2
  omega))
section
variable {N L : Nat} {I : Nat → Nat → Int} {R : Nat → Nat → Option Nat} {v0 : Int64} {σ : Sg}
theorem CI_oc (hC : CI σ I R) {s k : Nat} (hs : s < 6) (hk : k < 91) : I (10 + 2 * s) k = σ.1 (91 * s + k) := by
  have := congrFun (CI_op hC hs) k
  unfold opc cl og at this
  rw [if_pos hk, if_pos hk] at this
  exact this
theorem CI_pc (hC : CI σ I R) {f k : Nat} (hf : f < 2) (hk : k < 31) : I (7 + f) k = σ.1 (546 + 31 * f + k) := by
  rw [← hC.2.2.1 (546 + 31 * f + k) (by omega)]
  unfold snow
  rw [if_neg (by omega), if_pos (by omega), show (546 + 31 * f + k - 546) / 31 = f by omega, show (546 + 31 * f + k - 546) % 31 = k by omega]
theorem y_power (hs : Sok N σ) (hC : CI σ I R) (hR : RI σ I) {s x m : Nat} (h1 : s < 6) (h2 : x < 6) (h3 : m ≤ 12) : Ag N L 98 162 [vI (s : Nat), vI (x : Nat), vI (m : Nat)] I R v0 := by
  obtain ⟨t, hH, hp⟩ := hC.2.2.2.1
  have hS := CI_Sn hC hs.1
  have hog := Gk_og hs.1 h2
  have hb := dgr_b (og σ.1 x)
  by_cases hd : dgr (og σ.1 x) < 0 ∨ dgr (og σ.1 x) * (m : Int) ≤ 12
  · obtain ⟨J, r1, hW⟩ := s11_power_ok (d := 55) (L := L) (u := v0) hC.1 hC.2.1 hS hH h1 h2 h3 (by rw [CI_op hC h2]; exact hd)
    rw [CI_op hC h2] at r1 hW
    have hle : ¬ 12 < (m : Int) * dgr (og σ.1 x) := by
      rcases hd with z | z
      · rw [show dgr (og σ.1 x) = -1 by omega]; omega
      · rw [Int.mul_comm]; omega
    have hpe : ∀ v, v < 496 → powL (og σ.1 x) m v = powR (og σ.1 x) m v := by
      obtain ⟨A, hA⟩ : ∃ A : Nat, A = (max 0 (dgr (og σ.1 x))).toNat := ⟨_, rfl⟩
      have h12 := dgr_91 (f := og σ.1 x) (fun j hj => og_z hj)
      have hA4 : A * m ≤ 12 := by
        by_cases z0 : dgr (og σ.1 x) < 0
        · rw [show A = 0 by omega, Nat.zero_mul]; omega
        · have z1 := hd.resolve_left z0
          have : ((A * m : Nat) : Int) ≤ 12 := by
            rw [Int.natCast_mul, show ((A : Nat) : Int) = dgr (og σ.1 x) by omega]; exact z1
          omega
      exact pow_eq (fun k _ => hog k) (A := A) (by omega) m (by omega)
    refine ag_op hs (cnt_in _) hC hR h1 (fun k hk => powL_b m k (by omega)) hH hp hC.1 (fun _ _ => rfl) r1 hW (f' := powR (og σ.1 x) m) (fun k hk => (hpe k (by omega)).symm) (fun Q hQ => ?_)
    have hN := RI_N hQ hs.1
    have r2 := s_power_ok (d := 54) (L := L) (u := v0) hC.1 hQ.1.1 hQ.1.2 hN hQ.2.2.1.1 hs.2.1 h1 h2 h3 (by rw [RI_fe hQ h2]; exact hle)
    have hF : Fr Q (raI (sro Q 27 (fe Q x)) (fe Q x) m) := Fr_ra (Fr_s (Fr_r hQ.1.1) (by decide) (fe_b hN h2)) (fe_b hN h2)
    have hNw := Nw_put (n := σ.2.1) (s := s) (row := 27) (f := powR (fe Q x) m) hF hQ.1.2 (fun k hk => by
      unfold raI
      exact (gro_n (by omega) (by decide)).trans (gro_s (by omega)))
    rw [RI_fe hQ h2] at r2 hNw
    rw [← cnt_c hpe] at r2
    refine ⟨_, v0, r2, hNw, Bl_put ?_⟩
    unfold raI
    exact Bl_sro (Bl_sro (Bl_sro (Bl_sro hQ.2.2.2.2.2.1.1)))
  · refine ag_ref hs hC hR (i := 2) (x := -20004) (by decide) (by decide) rfl hC hR (s11_power_full (d := 56) hC.1 hC.2.1 hS h1 h2 h3 (by rw [CI_op hC h2]; exact hd)) (fun Q hQ => ?_)
    have hN := RI_N hQ hs.1
    refine ⟨sro Q 27 (fe Q x), s_power_full (d := 54) hC.1 hQ.1.1 hQ.1.2 hN hQ.2.2.1.1 hs.2.1 h1 h2 h3 (by rw [RI_fe hQ h2, Int.mul_comm]; have := fun z => hd (Or.inr z); omega), RI_Fr hQ (Fr_s (Fr_r hQ.1.1) (by decide) (fe_b hN h2)) (Bl_sro hQ.2.2.2.2.2.1.1), fun a ha => sro_o (by omega)⟩
theorem y_reversed (hs : Sok N σ) (hC : CI σ I R) (hR : RI σ I) {s x : Nat} (h1 : s < 6) (h2 : x < 6) : Ag N L 99 163 [vI (s : Nat), vI (x : Nat)] I R v0 := by
  obtain ⟨t, hH, hp⟩ := hC.2.2.2.1
  obtain ⟨J, r1, hW⟩ := s11_reversed_ok (d := 54) (L := L) (u := v0) hC.1 hC.2.1 (CI_Sn hC hs.1) hH h1 h2
  rw [CI_op hC h2] at r1 hW
  have hog := Gk_og hs.1 h2
  have heq : ∀ w, w < 496 → ajm (og σ.1 x) 13 w = rvF (og σ.1 x) 91 w := fun w hw => reversed_eq (fun k _ => hog k) (fun _ _ => rfl) hw
  refine ag_op hs (cnt_in _) hC hR h1 (fun k _ => ajm_b _ 13 k) hH hp hC.1 (fun _ _ => rfl) r1 hW (f' := ajm (og σ.1 x) 13) (fun _ _ => rfl) (fun Q hQ => ?_)
  have hN := RI_N hQ hs.1
  have e : ∀ k, k < 91 → og σ.1 x k = opr Q x k := fun k hk => by
    unfold og opr
    rw [if_pos hk, hQ.2.1 _ (by omega)]
  have heq2 : ∀ w, w < 496 → ajm (og σ.1 x) 13 w = rvF (opr Q x) 91 w := fun w hw => reversed_eq (fun k hk => by rw [← e k hk]; exact hog k) e hw
  have r2 := s_reversed_ok (d := 56) (L := L) (u := v0) hC.1 hQ.1.1 hQ.1.2 hN hQ.2.2.1.1 hs.2.1 h1 h2
  rw [← cnt_c heq2] at r2
  have hNw := Nw_put (n := σ.2.1) (s := s) (row := 25) (f := ajm (og σ.1 x) 13) (Fr_s (r := 25) (Fr_r hQ.1.1) (by decide) (rvF_b (f := opr Q x) 91)) hQ.1.2 (fun k hk => (gro_s (by omega)).trans (heq2 k (by omega)).symm)
  exact ⟨_, v0, r2, hNw, Bl_put (Bl_sro hQ.2.2.2.2.2.1.1)⟩
theorem y_of (hs : Sok N σ) (hC : CI σ I R) (hR : RI σ I) {s : Nat} {q : Int} (h1 : s < 6) (h2 : 0 ≤ q ∧ q ≤ 8) : Ag N L 100 167 [vI (s : Nat), vI q] I R v0 := by
  have r1 := s11_of_ok (d := 55) (L := L) (u := v0) hC.1 hC.2.1 (CI_Sn hC hs.1) h1 h2
  rw [CI_op hC h1, CI_o hC] at r1
  have hb := abt_b (o := σ.1 608) (f := og σ.1 s) (what := q) (fun k _ => Gk_og hs.1 h1 k)
  refine ag_same hs (by omega) rfl hC hR r1 (fun Q hQ => ?_)
  have hN := RI_N hQ hs.1
  have r2 := s_of_ok (d := 54) (L := L) (u := v0) hC.1 hQ.1.1 hQ.1.2 hN (hQ.2.1 608 (by decide)) h1 h2
  have hF : Fr Q (sro Q 24 (fe Q s)) := Fr_s (Fr_r hQ.1.1) (by decide) (fe_b hN h1)
  have hRI := RI_Fr hQ hF (Bl_sro hQ.2.2.2.2.2.1.1)
  rw [RI_fe hQ h1] at r2 hRI
  exact ⟨_, v0, r2, hRI, fun a ha => sro_o (by omega)⟩
theorem y_makes (hs : Sok N σ) (hC : CI σ I R) (hR : RI σ I) {g s f : Nat} (h1 : g < 2) (h2 : s < 6) (h3 : f < 2) : Ag N L 104 176 [vI (g : Nat), vI (s : Nat), vI (f : Nat)] I R v0 := by
  obtain ⟨t, hH, hp⟩ := hC.2.2.2.1
  have hS := CI_Sn hC hs.1
  obtain ⟨E, hE⟩ : ∃ E : Nat → Int, E = fun k => σ.1 (91 * s + k) := ⟨_, rfl⟩
  obtain ⟨P, hP⟩ : ∃ P : Nat → Int, P = fun k => σ.1 (546 + 31 * f + k) := ⟨_, rfl⟩
  have eE : ∀ k, k < 91 → I (10 + 2 * s) k = E k := fun k hk => by rw [hE]; exact CI_oc hC h2 hk
  have eP : ∀ k, k < 31 → I (7 + f) k = P k := fun k hk => by rw [hP]; exact CI_pc hC h3 hk
  have bE : ∀ k, k < 91 → 0 ≤ E k ∧ E k < 10007 := fun k hk => by rw [hE]; exact hs.1.1 _ (by omega)
  have bP : ∀ k, k < 31 → 0 ≤ P k ∧ P k < 10007 := fun k hk => by rw [hP]; exact hs.1.1 _ (by omega)
  have eQ : ∀ Q, RI σ Q → (∀ k, k < 91 → opr Q s k = E k) ∧ ∀ k, k < 31 → ply Q f k = P k := fun Q hQ => ⟨fun k hk => by rw [hE]; exact hQ.2.1 _ (by omega), fun k hk => by rw [hP]; exact hQ.2.1 _ (by omega)⟩
  by_cases hd : fitN E P = 91
  · obtain ⟨J, r1, hW⟩ := s11_makes_ok (d := 56) (L := L) (u := v0) hC.1 hC.2.1 hS hH h1 h2 h3 (by rw [fitN_cg eE eP]; exact hd)
    have eim : imM (I (10 + 2 * s)) (I (7 + f)) 31 = imM E P 31 := by funext p; exact imM_cg eE eP
    rw [eim] at r1 hW
    have hz := zp_le (imM E P 31)
    refine ag_push hs (by split <;> omega) hC hR (g' := polS σ.1 g (imM E P 31)) (Gk_pl hs.1 h1 (fun k _ => imM_b E P 31 k)) hH hp hC.1 (fun _ _ => rfl) r1 (Cw_cg hW (fun j hj => by unfold polS; rw [hC.2.2.1 j hj])) (fun _ _ => rfl) (fun Q hQ => ?_)
    obtain ⟨q1, q2⟩ := eQ Q hQ
    have hN := RI_N hQ hs.1
    have hc : (cmF (opr Q s) (ply Q f) (mz Q) 2821).1 = 1 := (makes_fit (m0 := mz Q) (fun w hw => by rw [q1 w hw]; exact bE w hw) (fun n hn => by rw [q2 n hn]; exact bP n hn)).mp (by rw [fitN_cg q1 q2]; exact hd)
    have r2 := s_makes_ok (d := 56) (L := L) (u := v0) hC.1 hQ.1.1 hQ.1.2 hN hQ.2.2.1.1 hs.2.1 h1 h2 h3 hc
    have erow : ∀ p, p < 31 → (cmF (opr Q s) (ply Q f) (mz Q) 2821).2 p = imM E P 31 p := fun p hp => by rw [makes_row (m0 := mz Q) (fun p hp => if_pos hp) hc p hp]; exact imM_cg q1 q2
    rw [zp_c erow] at r2
    refine ⟨_, v0, r2, Nw_c (Nw_mk hQ.1.1 hQ.1.2) (fun j hj => ?_), Bol_e hQ.2.2.2.2.2.1.1 rfl⟩
    unfold spo polS
    by_cases c : 546 + 31 * g ≤ j ∧ j < 546 + 31 * g + 31
    · rw [if_pos c, if_pos (by omega)]; exact erow _ (by omega)
    · rw [if_neg c, if_neg (by omega)]; exact hQ.2.1 j hj
  · refine ag_ref hs hC hR (i := 2) (x := -20004) (by decide) (by decide) rfl hC hR (s11_makes_full (d := 57) hC.1 hC.2.1 hS h1 h2 h3 (by rw [fitN_cg eE eP]; exact hd)) (fun Q hQ => ?_)
    obtain ⟨q1, q2⟩ := eQ Q hQ
    have hN := RI_N hQ hs.1
    have hb := (cmF_b (f := opr Q s) (g := ply Q f) (m0 := mz Q) (fun j hj => by unfold mz; rw [if_pos hj]; decide) 2821).1
    have hc : (cmF (opr Q s) (ply Q f) (mz Q) 2821).1 = 0 := hb.resolve_right (fun z => hd (by
      rw [← fitN_cg q1 q2]
      exact (makes_fit (m0 := mz Q) (fun w hw => by rw [q1 w hw]; exact bE w hw) (fun n hn => by rw [q2 n hn]; exact bP n hn)).mpr z))
    refine ⟨_, s_makes_full (d := 56) hC.1 hQ.1.1 hQ.1.2 hN hQ.2.2.1.1 hs.2.1 h1 h2 h3 hc, RI_Fr hQ ⟨fun a p _ => au_n _ _ (by omega), ⟨rfl, rfl, rfl⟩, ⟨rfl, rfl, rfl, rfl⟩, fun _ _ _ _ => rfl, hQ.1.1⟩ (Bol_e hQ.2.2.2.2.2.1.1 rfl), fun a ha => au_n _ _ (by omega)⟩
theorem y_kernel (hs : Sok N σ) (hC : CI σ I R) (hR : RI σ I) {s n : Nat} (h1 : s < 6) (h2 : n ≤ 15) : Ag N L 105 181 [vI (s : Nat), vI (n : Nat)] I R v0 := by
  obtain ⟨ρ, hρ⟩ := hC.2.2.2.2.2.2.1
  obtain ⟨J, S, ρ', r1, hF', hS', hρ', hFc⟩ := s11_kernel_ok (d := 55) (L := L) (u := v0) hC.1 hC.2.1 (CI_Sn hC hs.1) hρ h1 h2
  have hk := fun (Q : Nat → Nat → Int) (hQ : RI σ Q) => kernel_eq (f := opr Q s) (e := I (10 + 2 * s)) (m0 := mz2 Q (n + 1)) (r := n + 1) ⟨by omega, by omega⟩ (fun j hj => if_pos hj) (mz2_b hQ.2.2.2.2.2.1.2) (fun w hw => by rw [CI_oc hC h1 hw]; exact hQ.2.1 _ (by omega))
  have hle := keN_le (m := lmF (opr I s) (n + 1) (mz2 I (n + 1)) (91 * (n + 1))) (q := n + 1) (n + 1)
  have hkI := hk I hR
  have hCJ : CI σ J S := by
    have := CI_Fc hC hFc
    obtain ⟨a1, a2, a3, a4, a5, a6, b1, b2, b3⟩ := this
    refine ⟨hF', a2, a3, a4, a5, a6, ⟨ρ', hρ'⟩, ?_, b3⟩
    obtain ⟨τ, c1, c2⟩ := b2
    exact ⟨τ, fun k hk => by rw [hS' 167 (by decide)]; exact c1 k hk, c2⟩
  rw [← hkI] at r1
  refine ag_same hs (by omega) (hFc.1 0 (by unfold Sca; omega) (by decide) (by decide)) hCJ (RI_lo hR (fun a ha => hFc.1 a (by unfold Sca; omega) (by omega) (by omega))) r1 (fun Q hQ => ?_)
  have hN := RI_N hQ hs.1
  have r2 := s_kernel_ok (d := 56) (L := L) (R := S) (u := v0) hF' hQ.1.2 hN hQ.2.2.2.2.2.1.2 h1 h2
  rw [hk Q hQ, ← hkI] at r2
  refine ⟨_, v0, r2, ?_, fun a ha => au_n _ _ (by omega)⟩
  obtain ⟨q1, q2, q3, q4, q5, q6, q7⟩ := hQ
  exact ⟨q1, q2, q3, q4, q5, ⟨q6.1, by rw [au_s]; exact keM_b (lmF_b (mz2_b q6.2) _) _⟩, q7⟩
theorem y_kills (hs : Sok N σ) (hC : CI σ I R) (hR : RI σ I) {s f : Nat} (h1 : s < 6) (h2 : f < 2) : Ag N L 106 182 [vI (s : Nat), vI (f : Nat)] I R v0 := by
  obtain ⟨t, hH, hp⟩ := hC.2.2.2.1
  have hS := CI_Sn hC hs.1
  have bI : ∀ j, j < 31 → 0 ≤ I (7 + f) j ∧ I (7 + f) j < 10007 := fun j hj => by rw [CI_pc hC h2 hj]; exact hs.1.1 _ (by omega)
  have eQ : ∀ Q, RI σ Q → ∀ k, k < 31 → ply Q f k = I (7 + f) k := fun Q hQ k hk => by rw [CI_pc hC h2 hk]; exact hQ.2.1 _ (by omega)
  have hz := zp_le (I (7 + f))
  by_cases c31 : zp (I (7 + f)) = 31
  · exact ag_ref hs hC hR (i := 1) (x := -20003) (by decide) (by decide) rfl hC hR (s11_kills_no (d := 58) hC.1 hC.2.1 hS h1 h2 c31) (fun Q hQ => ⟨Q, s_kills_no (d := 56) hC.1 hQ.1.1 hQ.1.2 (RI_N hQ hs.1) hQ.2.2.1.1 hs.2.1 h1 h2 (by rw [zp_c (eQ Q hQ)]; exact c31), hQ, fun _ _ => rfl⟩)
  · by_cases c19 : zp (I (7 + f)) < 19
    · exact ag_ref hs hC hR (i := 2) (x := -20004) (by decide) (by decide) rfl hC hR (s11_kills_full (d := 58) hC.1 hC.2.1 hS h1 h2 c19) (fun Q hQ => ⟨Q, s_kills_full (d := 56) hC.1 hQ.1.1 hQ.1.2 (RI_N hQ hs.1) hQ.2.2.1.1 hs.2.1 h1 h2 (by rw [zp_c (eQ Q hQ)]; exact c19), hQ, fun _ _ => rfl⟩)
    · obtain ⟨J, r1, hW⟩ := s11_kills_ok (d := 55) (L := L) (u := v0) hC.1 hC.2.1 hS hH h1 h2 (by omega) (by omega)
      refine ag_op hs (cnt_in _) hC hR h1 (fun k _ => kiC_b bI (by decide)) hH hp hC.1 (fun _ _ => rfl) r1 hW (f' := kiC (I (7 + f)) 12) (fun _ _ => rfl) (fun Q hQ => ?_)
      have hN := RI_N hQ hs.1
      have e := eQ Q hQ
      have eC : kiC (ply Q f) 12 = kiC (I (7 + f)) 12 := by
        funext w
        unfold kiC
        by_cases d1 : dw w = 1 ∧ xw w < 12
        · rw [if_pos d1, if_pos d1, e _ (by omega)]
        · rw [if_neg d1, if_neg d1]
          by_cases d2 : dw w = 0 ∧ xw w + 1 < 12
          · rw [if_pos d2, if_pos d2, e _ (by omega)]
          · rw [if_neg d2, if_neg d2]
      have hk := kills_eq (g := ply Q f) (fun j hj => by rw [e j hj]; exact bI j hj) (by rw [zp_c e]; omega)
      have r2 := s_kills_ok (d := 56) (L := L) (u := v0) hC.1 hQ.1.1 hQ.1.2 hN hQ.2.2.1.1 hs.2.1 h1 h2 (by rw [zp_c e]; omega) (by rw [zp_c e]; omega)
      rw [← hk, eC] at r2
      have hr : resd (kiC (I (7 + f)) 12) := fun k _ => kiC_b bI (by decide)
      exact ⟨_, v0, r2, Nw_put (n := σ.2.1) (s := s) (row := 25) (Fr_s (Fr_r hQ.1.1) (by decide) hr) hQ.1.2 (fun k hk => gro_s (by omega)), Bl_put (Bl_sro hQ.2.2.2.2.2.1.1)⟩
end
