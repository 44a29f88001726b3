/-! Leads of the ideal; uniqueness of the reduced basis. Written by wip/whole/gen_a2.py. -/
/-- l divides u -/
def Dvd (l u : Nat) : Prop := xw l ≤ xw u ∧ dw l ≤ dw u
theorem Dvd_t {a b c : Nat} (h1 : Dvd a b) (h2 : Dvd b c) : Dvd a c := ⟨Nat.le_trans h1.1 h2.1, Nat.le_trans h1.2 h2.2⟩
theorem Dvd_e {a b : Nat} (h1 : Dvd a b) (h2 : Dvd b a) : a = b := by
  rw [← pl_w a]
  exact (pl_iff.mpr ⟨Nat.le_antisymm h2.1 h1.1, Nat.le_antisymm h2.2 h1.2⟩).symm
/-- the left ideal -/
def Idl (o : Int) (G : (Nat → Int) → Nat → Prop) (f : Nat → Int) : Prop := ∃ r, Vr o G r f
theorem groeb_v {o : Int} {n : Nat} {G : Nat → Nat → Int} {l : Nat → Nat} (h : Stc o n G l) {u : Nat} {f : Nat → Int} (hu : f u % 10007 ≠ 0) (hb : Bd o f u) (r : Nat) (hf : Vr o (Rw n G l) r f) : ∃ k, k < n ∧ Dvd (l k) u := by
  have hBd : ∀ g w, Rw n G l g w → Bd o g w := fun g w ⟨k, hk, eg, ew⟩ => by rw [eg, ew]; exact (h.1 k hk).1
  induction r with
  | zero => exact absurd (Vr_z hBd hf u (Nat.zero_le _)) hu
  | succ r ih =>
    rcases Nat.lt_trichotomy r (rk o u) with c | c | c
    · exact absurd (Vr_z hBd hf u (by omega)) hu
    · refine Classical.byContradiction fun z => hu ?_
      refine Vr_z hBd (r := rk o u) (hf _ (Vr_L o (Rw n G l) (rk o u)) (fun g w p q ⟨k, hk, eg, ew⟩ hr => ?_)) u (Nat.le_refl _)
      subst eg
      subst ew
      refine Vr_g ⟨k, hk, rfl, rfl⟩ (Decidable.not_not.mp fun q2 => z ⟨k, hk, ?_⟩)
      have e : pl (p + xw (l k)) (q + dw (l k)) = u := rk_inj (o := o) (by omega)
      have := pl_iff.mp e.symm
      exact ⟨by omega, by omega⟩
    · have hv := rk_unr o r
      refine ih (by
        rw [← hv]
        refine crit h (by rw [hv]; exact hf) (Bd_z hb (by rw [hv]; exact c)))
/-- the lead of an element of the ideal is divided by a lead -/
theorem groeb {o : Int} {n : Nat} {G : Nat → Nat → Int} {l : Nat → Nat} (h : Stc o n G l) {u : Nat} {f : Nat → Int} (hu : f u % 10007 ≠ 0) (hb : Bd o f u) (hf : Idl o (Rw n G l) f) : ∃ k, k < n ∧ Dvd (l k) u := by
  obtain ⟨r, hr⟩ := hf
  exact groeb_v h hu hb r hr
theorem Idl_g {o : Int} {n : Nat} {G : Nat → Nat → Int} {l : Nat → Nat} {k : Nat} (hk : k < n) : Idl o (Rw n G l) (G k) := ⟨rk o (pl (0 + xw (l k)) (0 + dw (l k))) + 1, Vr_g (p := 0) (q := 0) ⟨k, hk, rfl, rfl⟩ (Nat.lt_succ_self _)⟩
theorem Idl_s {o : Int} {G : (Nat → Int) → Nat → Prop} {f g : Nat → Int} (hf : Idl o G f) (hg : Idl o G g) : Idl o G (sbr f g) := by
  obtain ⟨r, h1⟩ := hf
  obtain ⟨s, h2⟩ := hg
  exact ⟨max r s, Vr_s (Vr_m (fun _ _ h => h) (Nat.le_max_left r s) h1) (Vr_m (fun _ _ h => h) (Nat.le_max_right r s) h2)⟩
theorem led_ex {o : Int} {d : Nat → Int} (r : Nat) (hr : ∀ v, d v % 10007 ≠ 0 → rk o v < r) (he : ∃ v, d v % 10007 ≠ 0) : ∃ u, d u % 10007 ≠ 0 ∧ Bd o d u := by
  induction r with
  | zero =>
    obtain ⟨v, hv⟩ := he
    exact absurd (hr v hv) (Nat.not_lt_zero _)
  | succ r ih =>
    by_cases c : d (unr o r) % 10007 = 0
    · refine ih (fun v hv => ?_)
      have h1 := hr v hv
      refine Decidable.not_not.mp fun z => hv ?_
      rw [show v = unr o r from rk_inj (o := o) (by rw [rk_unr]; omega)]
      exact c
    · exact ⟨unr o r, c, fun v hv => by have := hr v hv; rw [rk_unr]; omega⟩
/-- no lead divides another row's words -/
def Redu (n : Nat) (G : Nat → Nat → Int) (l : Nat → Nat) : Prop := (∀ i j, i < n → j < n → Dvd (l i) (l j) → i = j) ∧ ∀ i v, i < n → G i v % 10007 ≠ 0 → v ≠ l i → ∀ j, j < n → ¬ Dvd (l j) v
/-- two reduced bases of an ideal have the same rows -/
theorem uniq {o : Int} {n m : Nat} {G H : Nat → Nat → Int} {l k : Nat → Nat} (hG : Stc o n G l) (hH : Stc o m H k) (rG : Redu n G l) (rH : Redu m H k) (h1 : ∀ i, i < n → Idl o (Rw m H k) (G i)) (h2 : ∀ j, j < m → Idl o (Rw n G l) (H j)) {i : Nat} (hi : i < n) : ∃ j, j < m ∧ l i = k j ∧ ∀ v, G i v % 10007 = H j v % 10007 := by
  obtain ⟨bG, mG⟩ := hG.1 i hi
  obtain ⟨j, hj, d1⟩ := groeb hH (u := l i) (by rw [mG]; decide) bG (h1 i hi)
  obtain ⟨bH, mH⟩ := hH.1 j hj
  obtain ⟨i', hi', d2⟩ := groeb hG (u := k j) (by rw [mH]; decide) bH (h2 j hj)
  have ei := rG.1 i' i hi' hi (Dvd_t d2 d1)
  rw [ei] at d2
  have el := Dvd_e d2 d1
  refine ⟨j, hj, el, ?_⟩
  refine Classical.byContradiction fun z => ?_
  have z2 : ∃ v, sbr (G i) (H j) v % 10007 ≠ 0 := by
    refine Classical.byContradiction fun z3 => z fun v => ?_
    have : (G i v + -1 * H j v) % 10007 = 0 := Decidable.not_not.mp fun z4 => z3 ⟨v, z4⟩
    omega
  have hor : ∀ v, sbr (G i) (H j) v % 10007 ≠ 0 → G i v % 10007 ≠ 0 ∨ H j v % 10007 ≠ 0 := fun v hv => by
    have hv : (G i v + -1 * H j v) % 10007 ≠ 0 := hv
    by_cases c : G i v % 10007 = 0
    · exact Or.inr (by omega)
    · exact Or.inl c
  obtain ⟨u, hu, hb⟩ := led_ex (o := o) (rk o (l i) + 1) (fun v hv => by
    rcases hor v hv with a | a
    · have := bG v a; omega
    · have := bH v a; rw [← el] at this; omega) z2
  have hne : u ≠ l i := fun e => hu (by
    show (G i u + -1 * H j u) % 10007 = 0
    rw [e]
    have a1 := mG
    have a2 := mH
    rw [← el] at a2
    omega)
  rcases hor u hu with a | a
  · obtain ⟨t, ht, hd⟩ := groeb hG hu hb (Idl_s (Idl_g hi) (h2 j hj))
    exact rG.2 i u hi a hne t ht hd
  · obtain ⟨t, ht, hd⟩ := groeb hH hu hb (Idl_s (h1 i hi) (Idl_g hj))
    exact rH.2 j u hj a (by rw [← el]; exact hne) t ht hd
