/-! Steps of both sides. -/
theorem RI_rf {σ : Sg} {I : Nat → Nat → Int} (h : RI σ I) (i : Nat) (hi3 : i < 3) : RI (refu i σ) (rf I i) := by
  obtain ⟨⟨h1, h2⟩, h3, h4, h5, h6, h7, h9⟩ := h
  refine ⟨⟨h1, h2⟩, h3, h4, fun k hk => ?_, h6, h7, h9⟩
  show au I 304 (au (I 304) i (I 304 i + 1)) 304 k = au σ.2.2.2.1 i (σ.2.2.2.1 i + 1) k
  rw [au_s]
  by_cases c : k = i
  · rw [c, au_s, au_s, h5 i hi3]
  · rw [au_n _ _ c, au_n _ _ c]; exact h5 k hk
theorem Bol_e {I J : Nat → Nat → Int} (h : Bol I) (e : (J 315, J 316) = (I 315, I 316)) : Bol J := by
  have e1 : J 315 = I 315 := congrArg Prod.fst e
  have e2 : J 316 = I 316 := congrArg Prod.snd e
  unfold Bol at *
  rw [e1, e2]; exact h
theorem RI_Fr {σ : Sg} {I J : Nat → Nat → Int} (h : RI σ I) (hF : Fr I J) (hB : Bol J) : RI σ J := by
  obtain ⟨⟨h1, h2⟩, h3, h4, h5, h6, ⟨h7, h8⟩, h9⟩ := h
  obtain ⟨f1, f2, ⟨f3, f4, f5, f6⟩, f7, f8⟩ := hF
  have e2 : J 302 = I 302 := f1 302 (by decide) (by decide)
  have ef : fe J = fe I := by funext s j; unfold fe; rw [e2]
  have e11 : J 311 = I 311 := congrArg Prod.snd f2.2.2
  refine ⟨⟨f8, Fr_T ⟨f1, f2, ⟨f3, f4, f5, f6⟩, f7, f8⟩ h2⟩, by rw [e2]; exact h3, by rw [f3, f1 303 (by decide) (by decide)]; exact h4, by rw [f1 304 (by decide) (by decide)]; exact h5, by rw [f4, f1 305 (by decide) (by decide)]; exact h6, ⟨hB, by rw [e11]; exact h8⟩, ?_⟩
  unfold Lyd Rws at *
  rw [f5, f6, e2, ef]
  refine h9.imp id (fun ⟨a, n, G, b, c⟩ => ⟨a, n, G, ⟨b.1, fun j hj v hv => ?_⟩, c⟩)
  rw [f7 j v (by have := c.1.1; omega) hv]
  exact b.2 j hj v hv
theorem RI_Nw {σ : Sg} {I J : Nat → Nat → Int} {g' g'' : Nat → Int} (h : RI σ I) (h5' : σ.2.1 ≤ 5) (hN : Nw I J σ.2.1 g'') (hg : ∀ j, j < 609 → g'' j = g' j) (hB : Bol J) : RI (push g' σ) J := by
  obtain ⟨_, h3, h4, h5, h6, ⟨_, h8⟩, _⟩ := h
  obtain ⟨_, n2, n3, n4, n5, n6, n7, n8, n9, n10⟩ := hN
  have e4 : J 304 = I 304 := congrArg Prod.fst n4
  have e11 : J 311 = I 311 := congrArg Prod.snd n4
  refine ⟨⟨n7, n6⟩, fun j hj => by rw [n2 j hj]; exact hg j hj, ⟨?_, fun i hi j hj => ?_⟩, by rw [e4]; exact h5, by rw [n9, n5]; exact h6, ⟨hB, by rw [e11]; exact h8⟩, Or.inl n10⟩
  · rw [n8]
    show _ = ((min (σ.2.1 + 1) 5 : Nat) : Int)
    split <;> omega
  · have hi : i < min (σ.2.1 + 1) 5 := hi
    show J 303 (609 * (min (σ.2.1 + 1) 5 - 1 - i) + j) = (if i = 0 then σ.1 else σ.2.2.1 (i - 1)) j
    rw [n3]
    unfold m_past
    by_cases c5 : σ.2.1 = 5
    · rw [if_pos c5]
      by_cases c : i = 0
      · rw [if_pos c, if_neg (by omega), if_pos (by omega), show 609 * (min (σ.2.1 + 1) 5 - 1 - i) + j - 2436 = j by omega]
        exact h3 j hj
      · rw [if_neg c, if_pos (by omega), show 609 * (min (σ.2.1 + 1) 5 - 1 - i) + j + 609 = 609 * (σ.2.1 - 1 - (i - 1)) + j by omega]
        exact h4.2 (i - 1) (by omega) j hj
    · rw [if_neg c5]
      by_cases c : i = 0
      · rw [if_pos c, if_pos (by omega), show 609 * (min (σ.2.1 + 1) 5 - 1 - i) + j - 609 * σ.2.1 = j by omega]
        exact h3 j hj
      · rw [if_neg c, if_neg (by omega), show 609 * (min (σ.2.1 + 1) 5 - 1 - i) + j = 609 * (σ.2.1 - 1 - (i - 1)) + j by omega]
        exact h4.2 (i - 1) (by omega) j hj
/-- both sides answer alike -/
def Ag (N L kc km : Nat) (as : List am_V) (I : Nat → Nat → Int) (R : Nat → Nat → Option Nat) (u : Int64) : Prop := ∃ (v : Int) (σ' : Sg) (I1 : Nat → Nat → Int) (R1 : Nat → Nat → Option Nat) (I2 : Nat → Nat → Int) (u2 : Int64), am_run am_tb 60 kc (vR 3 :: as) (LH L I R u) = some ([vI v], LH L I1 R1 u) ∧ am_run am_tb 60 km (vR 301 :: as) (LH L I1 R1 u) = some ([vI v], LH L I2 R1 u2) ∧ inR v ∧ Sok (N + 1) σ' ∧ CI σ' I2 R1 ∧ RI σ' I2 ∧ I1 0 = I 0 ∧ I2 0 = I 0
/-- a refused call -/
theorem ag_ref {N L kc km i : Nat} {as : List am_V} {I J : Nat → Nat → Int} {R : Nat → Nat → Option Nat} {u : Int64} {σ : Sg} {x : Int} (hs : Sok N σ) (hC : CI σ I R) (hR : RI σ I) (hi : i < 3) (hx : inR x) (h0 : J 0 = I 0) (hJ : CI σ J R) (hJR : RI σ J) (h1 : am_run am_tb 60 kc (vR 3 :: as) (LH L I R u) = some ([vI x], LH L (rc J i) R u)) (h2 : ∀ Q, RI σ Q → ∃ K, am_run am_tb 60 km (vR 301 :: as) (LH L Q R u) = some ([vI x], LH L (rf K i) R u) ∧ RI σ K ∧ ∀ a, a < 301 → K a = Q a) : Ag N L kc km as I R u := by
  have hrc : ∀ a, a ≠ 3 → rc J i a = J a := fun a ha => au_n _ _ ha
  obtain ⟨K, k1, k2, k3⟩ := h2 (rc J i) (RI_lo hJR (fun a ha => hrc a (by omega)))
  have hrf : ∀ a, a ≠ 304 → rf K i a = K a := fun a ha => au_n _ _ ha
  refine ⟨x, refu i σ, rc J i, R, rf K i, u, h1, k1, hx, Sok_refu hs, CI_hi (CI_rc hJ i hi) (fun a ha => by rw [hrf a (by omega), k3 a ha]), RI_rf k2 i hi, by rw [hrc 0 (by decide), h0], by rw [hrf 0 (by decide), k3 0 (by decide), hrc 0 (by decide), h0]⟩
/-- a call that changes nothing -/
theorem ag_same {N L kc km : Nat} {as : List am_V} {I J : Nat → Nat → Int} {R S : Nat → Nat → Option Nat} {u : Int64} {σ : Sg} {x : Int} (hs : Sok N σ) (hx : inR x) (h0 : J 0 = I 0) (hJ : CI σ J S) (hJR : RI σ J) (h1 : am_run am_tb 60 kc (vR 3 :: as) (LH L I R u) = some ([vI x], LH L J S u)) (h2 : ∀ Q, RI σ Q → ∃ K u2, am_run am_tb 60 km (vR 301 :: as) (LH L Q S u) = some ([vI x], LH L K S u2) ∧ RI σ K ∧ ∀ a, a < 301 → K a = Q a) : Ag N L kc km as I R u := by
  obtain ⟨K, u2, k1, k2, k3⟩ := h2 J hJR
  exact ⟨x, σ, J, S, K, u2, h1, k1, hx, Sok_m hs (by omega), CI_hi hJ k3, k2, h0, by rw [k3 0 (by decide), h0]⟩
/-- a change -/
theorem ag_push {N L kc km : Nat} {as : List am_V} {I J : Nat → Nat → Int} {R S : Nat → Nat → Option Nat} {u : Int64} {σ : Sg} {x : Int} {g' g'' : Nat → Int} (hs : Sok N σ) (hx : inR x) (hC : CI σ I R) (hR : RI σ I) (hg : Gok g') {t : Nat} (hH : Hi I t σ.2.1) (hp : ∀ i, i < σ.2.1 → ∀ j, j < 609 → snow I (23 + 17 * ((t + 4 - i) % 5)) j = σ.2.2.1 i j) (hF : FixR S) (hS : ∀ y, y ≠ 160 → S y = R y) (h1 : am_run am_tb 60 kc (vR 3 :: as) (LH L I R u) = some ([vI x], LH L J S u)) (hW : Cw I J t σ.2.1 g') (hgg : ∀ j, j < 609 → g'' j = g' j) (h2 : ∀ Q, RI σ Q → ∃ K u2, am_run am_tb 60 km (vR 301 :: as) (LH L Q S u) = some ([vI x], LH L K S u2) ∧ Nw Q K σ.2.1 g'' ∧ Bol K) : Ag N L kc km as I R u := by
  have h5 := hs.2.1
  have hw5 := hW.2.2.2.2.1
  have ht := hH.2.1
  obtain ⟨K, u2, k1, k2, k3⟩ := h2 J (RI_lo hR (fun a ha => hw5 a (by unfold Sca; omega) (by omega) (by omega) (by omega) (by omega)))
  have hJR : RI σ J := RI_lo hR (fun a ha => hw5 a (by unfold Sca; omega) (by omega) (by omega) (by omega) (by omega))
  have e0 : J 0 = I 0 := hw5 0 (by unfold Sca; omega) (by omega) (by omega) (by omega) (by omega)
  exact ⟨x, push g' σ, J, S, K, u2, h1, k1, hx, Sok_m (Sok_push hs hg) (by omega), CI_hi (CI_Cw hC h5 hH hp hW hF hS) k2.1, RI_Nw hJR h5 k2 hgg k3, e0, by rw [k2.1 0 (by decide), e0]⟩
