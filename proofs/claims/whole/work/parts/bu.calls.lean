/-! Each call, from the numbers of a script. Written by wip/whole/gen_bu.py. -/
section
variable {N L : Nat} {I : Nat → Nat → Int} {R : Nat → Nat → Option Nat} {v0 : Int64} {σ : Sg}
theorem z_sets (hs : Sok N σ) (hN : N ≤ 100000) (hC : CI σ I R) (hR : RI σ I) {s : Int} {i : Int} {j : Int} {c : Int} (i0 : inR s) (i1 : inR i) (i2 : inR j) (i3 : inR c) : Ag N L 93 157 [vI s, vI i, vI j, vI c] I R v0 := by
  by_cases h : (0 ≤ s ∧ s < 6) ∧ (0 ≤ i ∧ 0 ≤ j ∧ i ≤ 12 ∧ j ≤ 12 ∧ i + j ≤ 12)
  · obtain ⟨⟨a1, a2⟩, b1, b2, b3, b4, b5⟩ := h
    obtain ⟨s, rfl⟩ : ∃ s' : Nat, s = (s' : Nat) := Int.eq_ofNat_of_zero_le a1
    obtain ⟨i, rfl⟩ : ∃ i' : Nat, i = (i' : Nat) := Int.eq_ofNat_of_zero_le b1
    obtain ⟨j, rfl⟩ : ∃ j' : Nat, j = (j' : Nat) := Int.eq_ofNat_of_zero_le b2
    exact y_sets hs hC hR (by omega) (by omega) i3
  · exact n_sets hs hC hR i0 i1 i2 i3 h
theorem z_at (hs : Sok N σ) (hN : N ≤ 100000) (hC : CI σ I R) (hR : RI σ I) {s : Int} {i : Int} {j : Int} (i0 : inR s) (i1 : inR i) (i2 : inR j) : Ag N L 94 158 [vI s, vI i, vI j] I R v0 := by
  by_cases h : (0 ≤ s ∧ s < 6) ∧ (0 ≤ i ∧ 0 ≤ j ∧ i ≤ 12 ∧ j ≤ 12 ∧ i + j ≤ 12)
  · obtain ⟨⟨a1, a2⟩, b1, b2, b3, b4, b5⟩ := h
    obtain ⟨s, rfl⟩ : ∃ s' : Nat, s = (s' : Nat) := Int.eq_ofNat_of_zero_le a1
    obtain ⟨i, rfl⟩ : ∃ i' : Nat, i = (i' : Nat) := Int.eq_ofNat_of_zero_le b1
    obtain ⟨j, rfl⟩ : ∃ j' : Nat, j = (j' : Nat) := Int.eq_ofNat_of_zero_le b2
    exact y_at hs hC hR (by omega) (by omega)
  · exact n_at hs hC hR i0 i1 i2 h
theorem z_sums (hs : Sok N σ) (hN : N ≤ 100000) (hC : CI σ I R) (hR : RI σ I) {s : Int} {t : Int} {a : Int} {w : Int} {b : Int} (i0 : inR s) (i1 : inR t) (i2 : inR a) (i3 : inR w) (i4 : inR b) : Ag N L 95 159 [vI s, vI t, vI a, vI w, vI b] I R v0 := by
  by_cases h : (0 ≤ s ∧ s < 6) ∧ (0 ≤ t ∧ t < 6) ∧ (0 ≤ w ∧ w < 6)
  · obtain ⟨⟨a1, a2⟩, ⟨b1, b2⟩, c1, c2⟩ := h
    obtain ⟨s, rfl⟩ : ∃ s' : Nat, s = (s' : Nat) := Int.eq_ofNat_of_zero_le a1
    obtain ⟨t, rfl⟩ : ∃ t' : Nat, t = (t' : Nat) := Int.eq_ofNat_of_zero_le b1
    obtain ⟨w, rfl⟩ : ∃ w' : Nat, w = (w' : Nat) := Int.eq_ofNat_of_zero_le c1
    exact y_sums hs hC hR (by omega) (by omega) (by omega) i2 i4
  · exact n_sums hs hC hR i0 i1 i2 i3 i4 h
theorem z_times (hs : Sok N σ) (hN : N ≤ 100000) (hC : CI σ I R) (hR : RI σ I) {s : Int} {t : Int} {w : Int} (i0 : inR s) (i1 : inR t) (i2 : inR w) : Ag N L 96 160 [vI s, vI t, vI w] I R v0 := by
  by_cases h : (0 ≤ s ∧ s < 6) ∧ (0 ≤ t ∧ t < 6) ∧ (0 ≤ w ∧ w < 6)
  · obtain ⟨⟨a1, a2⟩, ⟨b1, b2⟩, c1, c2⟩ := h
    obtain ⟨s, rfl⟩ : ∃ s' : Nat, s = (s' : Nat) := Int.eq_ofNat_of_zero_le a1
    obtain ⟨t, rfl⟩ : ∃ t' : Nat, t = (t' : Nat) := Int.eq_ofNat_of_zero_le b1
    obtain ⟨w, rfl⟩ : ∃ w' : Nat, w = (w' : Nat) := Int.eq_ofNat_of_zero_le c1
    exact y_times hs hC hR (by omega) (by omega) (by omega)
  · exact n_times hs hC hR i0 i1 i2 h
theorem z_bracket (hs : Sok N σ) (hN : N ≤ 100000) (hC : CI σ I R) (hR : RI σ I) {s : Int} {t : Int} {w : Int} (i0 : inR s) (i1 : inR t) (i2 : inR w) : Ag N L 97 161 [vI s, vI t, vI w] I R v0 := by
  by_cases h : (0 ≤ s ∧ s < 6) ∧ (0 ≤ t ∧ t < 6) ∧ (0 ≤ w ∧ w < 6)
  · obtain ⟨⟨a1, a2⟩, ⟨b1, b2⟩, c1, c2⟩ := h
    obtain ⟨s, rfl⟩ : ∃ s' : Nat, s = (s' : Nat) := Int.eq_ofNat_of_zero_le a1
    obtain ⟨t, rfl⟩ : ∃ t' : Nat, t = (t' : Nat) := Int.eq_ofNat_of_zero_le b1
    obtain ⟨w, rfl⟩ : ∃ w' : Nat, w = (w' : Nat) := Int.eq_ofNat_of_zero_le c1
    exact y_bracket hs hC hR (by omega) (by omega) (by omega)
  · exact n_bracket hs hC hR i0 i1 i2 h
theorem z_power (hs : Sok N σ) (hN : N ≤ 100000) (hC : CI σ I R) (hR : RI σ I) {s : Int} {t : Int} {n : Int} (i0 : inR s) (i1 : inR t) (i2 : inR n) : Ag N L 98 162 [vI s, vI t, vI n] I R v0 := by
  by_cases h : (0 ≤ s ∧ s < 6) ∧ (0 ≤ t ∧ t < 6) ∧ (0 ≤ n) ∧ (n ≤ 12)
  · obtain ⟨⟨a1, a2⟩, ⟨b1, b2⟩, c1, c2⟩ := h
    obtain ⟨s, rfl⟩ : ∃ s' : Nat, s = (s' : Nat) := Int.eq_ofNat_of_zero_le a1
    obtain ⟨t, rfl⟩ : ∃ t' : Nat, t = (t' : Nat) := Int.eq_ofNat_of_zero_le b1
    obtain ⟨n, rfl⟩ : ∃ n' : Nat, n = (n' : Nat) := Int.eq_ofNat_of_zero_le c1
    exact y_power hs hC hR (by omega) (by omega) (by omega)
  · exact n_power hs hC hR i0 i1 i2 h
theorem z_reversed (hs : Sok N σ) (hN : N ≤ 100000) (hC : CI σ I R) (hR : RI σ I) {s : Int} {t : Int} (i0 : inR s) (i1 : inR t) : Ag N L 99 163 [vI s, vI t] I R v0 := by
  by_cases h : (0 ≤ s ∧ s < 6) ∧ (0 ≤ t ∧ t < 6)
  · obtain ⟨⟨a1, a2⟩, b1, b2⟩ := h
    obtain ⟨s, rfl⟩ : ∃ s' : Nat, s = (s' : Nat) := Int.eq_ofNat_of_zero_le a1
    obtain ⟨t, rfl⟩ : ∃ t' : Nat, t = (t' : Nat) := Int.eq_ofNat_of_zero_le b1
    exact y_reversed hs hC hR (by omega) (by omega)
  · exact n_reversed hs hC hR i0 i1 h
theorem z_of (hs : Sok N σ) (hN : N ≤ 100000) (hC : CI σ I R) (hR : RI σ I) {s : Int} {q : Int} (i0 : inR s) (i1 : inR q) : Ag N L 100 167 [vI s, vI q] I R v0 := by
  by_cases h : (0 ≤ s ∧ s < 6) ∧ (0 ≤ q) ∧ (q ≤ 8)
  · obtain ⟨⟨a1, a2⟩, b1, b2⟩ := h
    obtain ⟨s, rfl⟩ : ∃ s' : Nat, s = (s' : Nat) := Int.eq_ofNat_of_zero_le a1
    exact y_of hs hC hR (by omega) ⟨b1, b2⟩
  · exact n_of hs hC hR i0 i1 h
theorem z_order (hs : Sok N σ) (hN : N ≤ 100000) (hC : CI σ I R) (hR : RI σ I) {o : Int} (i0 : inR o) : Ag N L 101 168 [vI o] I R v0 := by
  by_cases h : o = 0 ∨ o = 1
  · exact y_order hs hC hR h
  · exact n_order hs hC hR i0 h
theorem z_puts (hs : Sok N σ) (hN : N ≤ 100000) (hC : CI σ I R) (hR : RI σ I) {f : Int} {n : Int} {c : Int} (i0 : inR f) (i1 : inR n) (i2 : inR c) : Ag N L 102 171 [vI f, vI n, vI c] I R v0 := by
  by_cases h : (0 ≤ f ∧ f < 2) ∧ (0 ≤ n ∧ n ≤ 30)
  · obtain ⟨⟨a1, a2⟩, b1, b2⟩ := h
    obtain ⟨f, rfl⟩ : ∃ f' : Nat, f = (f' : Nat) := Int.eq_ofNat_of_zero_le a1
    obtain ⟨n, rfl⟩ : ∃ n' : Nat, n = (n' : Nat) := Int.eq_ofNat_of_zero_le b1
    exact y_puts hs hC hR (by omega) (by omega) i2
  · exact n_puts hs hC hR i0 i1 i2 h
theorem z_rate (hs : Sok N σ) (hN : N ≤ 100000) (hC : CI σ I R) (hR : RI σ I) {f : Int} {n : Int} (i0 : inR f) (i1 : inR n) : Ag N L 103 172 [vI f, vI n] I R v0 := by
  by_cases h : (0 ≤ f ∧ f < 2) ∧ (0 ≤ n ∧ n ≤ 30)
  · obtain ⟨⟨a1, a2⟩, b1, b2⟩ := h
    obtain ⟨f, rfl⟩ : ∃ f' : Nat, f = (f' : Nat) := Int.eq_ofNat_of_zero_le a1
    obtain ⟨n, rfl⟩ : ∃ n' : Nat, n = (n' : Nat) := Int.eq_ofNat_of_zero_le b1
    exact y_rate hs hC hR (by omega) (by omega)
  · exact n_rate hs hC hR i0 i1 h
theorem z_makes (hs : Sok N σ) (hN : N ≤ 100000) (hC : CI σ I R) (hR : RI σ I) {g : Int} {s : Int} {f : Int} (i0 : inR g) (i1 : inR s) (i2 : inR f) : Ag N L 104 176 [vI g, vI s, vI f] I R v0 := by
  by_cases h : (0 ≤ g ∧ g < 2) ∧ (0 ≤ s ∧ s < 6) ∧ (0 ≤ f ∧ f < 2)
  · obtain ⟨⟨a1, a2⟩, ⟨b1, b2⟩, c1, c2⟩ := h
    obtain ⟨g, rfl⟩ : ∃ g' : Nat, g = (g' : Nat) := Int.eq_ofNat_of_zero_le a1
    obtain ⟨s, rfl⟩ : ∃ s' : Nat, s = (s' : Nat) := Int.eq_ofNat_of_zero_le b1
    obtain ⟨f, rfl⟩ : ∃ f' : Nat, f = (f' : Nat) := Int.eq_ofNat_of_zero_le c1
    exact y_makes hs hC hR (by omega) (by omega) (by omega)
  · exact n_makes hs hC hR i0 i1 i2 h
theorem z_kernel (hs : Sok N σ) (hN : N ≤ 100000) (hC : CI σ I R) (hR : RI σ I) {s : Int} {n : Int} (i0 : inR s) (i1 : inR n) : Ag N L 105 181 [vI s, vI n] I R v0 := by
  by_cases h : (0 ≤ s ∧ s < 6) ∧ (0 ≤ n) ∧ (n ≤ 15)
  · obtain ⟨⟨a1, a2⟩, b1, b2⟩ := h
    obtain ⟨s, rfl⟩ : ∃ s' : Nat, s = (s' : Nat) := Int.eq_ofNat_of_zero_le a1
    obtain ⟨n, rfl⟩ : ∃ n' : Nat, n = (n' : Nat) := Int.eq_ofNat_of_zero_le b1
    exact y_kernel hs hC hR (by omega) (by omega)
  · exact n_kernel hs hC hR i0 i1 h
theorem z_kills (hs : Sok N σ) (hN : N ≤ 100000) (hC : CI σ I R) (hR : RI σ I) {s : Int} {f : Int} (i0 : inR s) (i1 : inR f) : Ag N L 106 182 [vI s, vI f] I R v0 := by
  by_cases h : (0 ≤ s ∧ s < 6) ∧ (0 ≤ f ∧ f < 2)
  · obtain ⟨⟨a1, a2⟩, b1, b2⟩ := h
    obtain ⟨s, rfl⟩ : ∃ s' : Nat, s = (s' : Nat) := Int.eq_ofNat_of_zero_le a1
    obtain ⟨f, rfl⟩ : ∃ f' : Nat, f = (f' : Nat) := Int.eq_ofNat_of_zero_le b1
    exact y_kills hs hC hR (by omega) (by omega)
  · exact n_kills hs hC hR i0 i1 h
theorem z_rest (hs : Sok N σ) (hN : N ≤ 100000) (hC : CI σ I R) (hR : RI σ I) {s : Int} {t : Int} {q : Int} (i0 : inR s) (i1 : inR t) (i2 : inR q) : Ag N L 107 188 [vI s, vI t, vI q] I R v0 := by
  by_cases h : (0 ≤ s ∧ s < 6) ∧ (0 ≤ t ∧ t < 6) ∧ (0 < q ∧ q < 64)
  · obtain ⟨⟨a1, a2⟩, ⟨b1, b2⟩, c1, c2⟩ := h
    obtain ⟨s, rfl⟩ : ∃ s' : Nat, s = (s' : Nat) := Int.eq_ofNat_of_zero_le a1
    obtain ⟨t, rfl⟩ : ∃ t' : Nat, t = (t' : Nat) := Int.eq_ofNat_of_zero_le b1
    exact y_rest hs hC hR (by omega) (by omega) ⟨c1, c2⟩
  · exact n_rest hs hC hR i0 i1 i2 h
theorem z_basis (hs : Sok N σ) (hN : N ≤ 100000) (hC : CI σ I R) (hR : RI σ I) {q : Int} (i0 : inR q) : Ag N L 108 201 [vI q] I R v0 := by
  by_cases h : (0 < q ∧ q < 64)
  · exact y_basis hs hC hR h
  · exact n_basis hs hC hR i0 h
theorem z_based (hs : Sok N σ) (hN : N ≤ 100000) (hC : CI σ I R) (hR : RI σ I) {q : Int} {k : Int} {i : Int} {j : Int} (i0 : inR q) (i1 : inR k) (i2 : inR i) (i3 : inR j) : Ag N L 109 202 [vI q, vI k, vI i, vI j] I R v0 := by
  by_cases h : (0 < q ∧ q < 64) ∧ 0 ≤ k ∧ 0 ≤ i ∧ i ≤ 15 ∧ 0 ≤ j ∧ j ≤ 15
  · obtain ⟨a1, b1, c1, c2, d1, d2⟩ := h
    obtain ⟨i, rfl⟩ : ∃ i' : Nat, i = (i' : Nat) := Int.eq_ofNat_of_zero_le c1
    obtain ⟨j, rfl⟩ : ∃ j' : Nat, j = (j' : Nat) := Int.eq_ofNat_of_zero_le d1
    exact y_based hs hC hR a1 ⟨b1, i1⟩ (by omega) (by omega)
  · exact n_based hs hC hR i0 i1 i2 i3 h
theorem z_stairs (hs : Sok N σ) (hN : N ≤ 100000) (hC : CI σ I R) (hR : RI σ I) {q : Int} {n : Int} (i0 : inR q) (i1 : inR n) : Ag N L 110 203 [vI q, vI n] I R v0 := by
  by_cases h : (0 < q ∧ q < 64) ∧ (0 ≤ n) ∧ (n ≤ 20)
  · obtain ⟨a1, b1, b2⟩ := h
    obtain ⟨n, rfl⟩ : ∃ n' : Nat, n = (n' : Nat) := Int.eq_ofNat_of_zero_le b1
    exact y_stairs hs hC hR a1 (by omega)
  · exact n_stairs hs hC hR i0 i1 h
theorem z_within (hs : Sok N σ) (hN : N ≤ 100000) (hC : CI σ I R) (hR : RI σ I) {t : Int} {q : Int} (i0 : inR t) (i1 : inR q) : Ag N L 111 204 [vI t, vI q] I R v0 := by
  by_cases h : (0 ≤ t ∧ t < 6) ∧ (0 < q ∧ q < 64)
  · obtain ⟨⟨a1, a2⟩, b1⟩ := h
    obtain ⟨t, rfl⟩ : ∃ t' : Nat, t = (t' : Nat) := Int.eq_ofNat_of_zero_le a1
    exact y_within hs hC hR b1 (by omega)
  · exact n_within hs hC hR i0 i1 h
theorem z_type (hs : Sok N σ) (hN : N ≤ 100000) (hC : CI σ I R) (hR : RI σ I) {c : Int} (i0 : inR c) : Ag N L 112 205 [vI c] I R v0 := by
  by_cases h : (0 ≤ c) ∧ (c ≤ 127)
  · exact y_type hs hC hR h
  · exact n_type hs hC hR i0 h
theorem z_reads (hs : Sok N σ) (hN : N ≤ 100000) (hC : CI σ I R) (hR : RI σ I) {s : Int} (i0 : inR s) : Ag N L 114 219 [vI s] I R v0 := by
  by_cases h : (0 ≤ s ∧ s < 6)
  · obtain ⟨a1, a2⟩ := h
    obtain ⟨s, rfl⟩ : ∃ s' : Nat, s = (s' : Nat) := Int.eq_ofNat_of_zero_le a1
    exact y_reads hs hC hR (by omega)
  · exact n_reads hs hC hR i0 h
theorem z_shown (hs : Sok N σ) (hN : N ≤ 100000) (hC : CI σ I R) (hR : RI σ I) {s : Int} {i : Int} (i0 : inR s) (i1 : inR i) : Ag N L 115 225 [vI s, vI i] I R v0 := by
  by_cases h : (0 ≤ s ∧ s < 6) ∧ (0 ≤ i)
  · obtain ⟨⟨a1, a2⟩, b1⟩ := h
    obtain ⟨s, rfl⟩ : ∃ s' : Nat, s = (s' : Nat) := Int.eq_ofNat_of_zero_le a1
    exact y_shown hs hC hR (by omega) ⟨b1, i1.2⟩
  · exact n_shown hs hC hR i0 i1 h
theorem z_told (hs : Sok N σ) (hN : N ≤ 100000) (hC : CI σ I R) (hR : RI σ I) {w : Int} (i0 : inR w) : Ag N L 117 227 [vI w] I R v0 := by
  by_cases h : 0 ≤ w ∧ w ≤ 5
  · exact y_told hs hN hC hR h
  · exact n_told hs hC hR i0 h
end
