/-! Remainders: what is left is reduced; the span of a state's rows. -/
/-- residues, 0 from the 91st word on -/
def Rg (f : Nat → Int) : Prop := resa f ∧ ∀ j, 91 ≤ j → f j = 0
theorem rg_ne {f : Nat → Int} (h : Rg f) {v : Nat} : f v % 10007 ≠ 0 ↔ f v ≠ 0 := by
  have := h.1 v
  exact ⟨fun z e => z (by rw [e]; rfl), fun z e => z (by omega)⟩
theorem led_nat {o : Int} {f : Nat → Int} {w : Nat} (h : led o f = (w : Nat)) : w < 496 ∧ f w ≠ 0 ∧ ∀ v, v < 496 → f v ≠ 0 → rk o v ≤ rk o w := by
  obtain ⟨w', h1, h2, h3, h4⟩ := led_get (o := o) (f := f) (by rw [h]; omega)
  have e : w' = w := by omega
  subst e
  exact ⟨h1, h3, h4⟩
theorem rg_91 {f : Nat → Int} (hf : Rg f) {v : Nat} (h : f v ≠ 0) : v < 91 := Decidable.not_not.mp fun z => h (hf.2 v (by omega))
theorem rg_Bd {o : Int} {f : Nat → Int} {w : Nat} (hf : Rg f) (h : led o f = (w : Nat)) : Bd o f w := fun v hv => by
  have hv' := (rg_ne hf).mp hv
  have := rg_91 hf hv'
  exact (led_nat h).2.2 v (by omega) hv'
theorem rg_S {f : Nat → Int} (hf : Rg f) : Sup 31 f := fun k hk => hf.2 k (by rw [tri_31] at hk; omega)
theorem rg_eq {f g : Nat → Int} (hf : Rg f) (hg : Rg g) {v : Nat} (h : f v % 10007 = g v % 10007) : f v = g v := by
  have h1 := hf.1 v
  have h2 := hg.1 v
  omega
theorem rsI_red {o : Int} {ld : Nat → Nat} {b : Nat} {B : Nat → Nat → Int} {f : Nat → Int} (n v : Nat) : (rsI o ld b B f n).2 v ≠ 0 → ¬ fbl ld b v < b := by
  induction n with
  | zero => intro h; exact absurd rfl h
  | succ n ih =>
    intro h
    rw [show rsI o ld b B f (n + 1) = if led o (rsI o ld b B f n).1 < 0 then rsI o ld b B f n else rsS o ld b B (rsI o ld b B f n) from rfl] at h
    generalize rsI o ld b B f n = s at *
    by_cases c : led o s.1 < 0
    · rw [if_pos c] at h; exact ih h
    · rw [if_neg c] at h
      unfold rsS at h
      by_cases c2 : rsK o ld b s.1 < b
      · rw [if_pos c2] at h; exact ih h
      · rw [if_neg c2] at h
        have h : au s.2 (led o s.1).toNat (s.1 (led o s.1).toNat) v ≠ 0 := h
        by_cases e : v = (led o s.1).toNat
        · rw [e]; exact c2
        · rw [au_n _ _ e] at h; exact ih h
theorem fbl_nd {ld : Nat → Nat} {b v : Nat} (h : ¬ fbl ld b v < b) {k : Nat} (hk : k < b) : ¬ Dvd (ld k) v := by
  have h1 := fnd_le (fun k => decide (xw (ld k) ≤ xw v ∧ dw (ld k) ≤ dw v)) b
  have h2 : k < fnd (fun k => decide (xw (ld k) ≤ xw v ∧ dw (ld k) ≤ dw v)) b := by unfold fbl at h; omega
  have h3 : ¬ (xw (ld k) ≤ xw v ∧ dw (ld k) ≤ dw v) := of_decide_eq_false (fnd_no h2)
  exact h3
/-- rows with their leads -/
def Rl (o : Int) (b : Nat) (B : Nat → Nat → Int) (ld : Nat → Nat) : Prop := ∀ k, k < b → Rg (B k) ∧ led o (B k) = (ld k : Nat)
theorem Rl_Dv {o : Int} {ld : Nat → Nat} {b : Nat} {B : Nat → Nat → Int} (h : Rl o b B ld) : Dv o ld b B := fun j hj => ⟨(led_nat (h j hj).2).1, (led_nat (h j hj).2).2.1, (led_nat (h j hj).2).2.2, (h j hj).1.1⟩
theorem rem_g {o : Int} {ld : Nat → Nat} {b : Nat} {B : Nat → Nat → Int} {f : Nat → Int} (hf : Rg f) : Rg (rdC o ld b B f) := ⟨rdC_b (fun v _ => hf.1 v), fun j hj => if_neg (by omega)⟩
/-- no lead divides a word of the remainder -/
theorem rem_r {o : Int} {ld : Nat → Nat} {b : Nat} {B : Nat → Nat → Int} {f : Nat → Int} (h : Rl o b B ld) (hf : Rg f) {v : Nat} (hv : rdC o ld b B f v ≠ 0) {k : Nat} (hk : k < b) : ¬ Dvd (ld k) v := by
  have h91 : v < 91 := rg_91 (rem_g hf) hv
  rw [rest_eq (Rl_Dv h) (fun k _ => hf.1 k) (fun v h1 _ => hf.2 v h1) v (by omega)] at hv
  exact fbl_nd (rsI_red n496 v hv) hk
theorem rem_s {o : Int} {ld : Nat → Nat} {b : Nat} {B : Nat → Nat → Int} {f : Nat → Int} (h : Rl o b B ld) (hf : Rg f) {r : Nat} (hr : ∀ v, f v % 10007 ≠ 0 → rk o v < r) : Vr o (Rw b B ld) r (sbr f (rdC o ld b B f)) ∧ ∀ v, rdC o ld b B f v % 10007 ≠ 0 → rk o v < r :=
  rd_span (fun k hk => rg_S (h k hk).1) (fun k hk => rg_Bd (h k hk).1 (h k hk).2) (fun v _ => hf.1 v) hf.2 hr 91 (Nat.le_refl _)
theorem Vr_nd {o : Int} {n : Nat} {G : Nat → Nat → Int} {l : Nat → Nat} {u : Nat} {f : Nat → Int} (hn : ∀ k, k < n → ¬ Dvd (l k) u) (hf : Vr o (Rw n G l) (rk o u + 1) f) : Vr o (Rw n G l) (rk o u) f :=
  hf _ (Vr_L o (Rw n G l) (rk o u)) (fun g w p q ⟨k, hk, eg, ew⟩ hr => by
    subst eg
    subst ew
    refine Vr_g ⟨k, hk, rfl, rfl⟩ (Decidable.not_not.mp fun q2 => hn k hk ?_)
    have e : pl (p + xw (l k)) (q + dw (l k)) = u := rk_inj (o := o) (by omega)
    have := pl_iff.mp e.symm
    exact ⟨by omega, by omega⟩)
theorem Rl_Bd {o : Int} {ld : Nat → Nat} {b : Nat} {B : Nat → Nat → Int} (h : Rl o b B ld) : ∀ g l, Rw b B ld g l → Bd o g l := fun g l ⟨k, hk, eg, el⟩ => by
  rw [eg, el]
  exact rg_Bd (h k hk).1 (h k hk).2
/-- a lead that no other divides stays -/
theorem rem_l {o : Int} {ld : Nat → Nat} {b : Nat} {B : Nat → Nat → Int} {f : Nat → Int} (h : Rl o b B ld) (hf : Rg f) {u : Nat} (hu : led o f = (u : Nat)) (hn : ∀ k, k < b → ¬ Dvd (ld k) u) : rdC o ld b B f u = f u ∧ led o (rdC o ld b B f) = (u : Nat) := by
  obtain ⟨h1, h2, h3⟩ := led_nat hu
  have hb := rg_Bd hf hu
  obtain ⟨s1, s2⟩ := rem_s h hf (r := rk o u + 1) (fun v hv => by have := hb v hv; omega)
  have z := Vr_z (Rl_Bd h) (Vr_nd hn s1) u (Nat.le_refl _)
  have e : rdC o ld b B f u = f u := by
    have a1 := (rem_g (o := o) (ld := ld) (b := b) (B := B) hf).1 u
    have a2 := hf.1 u
    have z : (f u + -1 * rdC o ld b B f u) % 10007 = 0 := z
    omega
  refine ⟨e, led_of h1 (by rw [e]; exact h2) (fun v _ hv => ?_)⟩
  have := s2 v ((rg_ne (rem_g hf)).mpr hv)
  omega
/-- over a staircase: what is 0 from t on lies below t -/
theorem crit_v {o : Int} {n : Nat} {G : Nat → Nat → Int} {l : Nat → Nat} (h : Stc o n G l) {t : Nat} {f : Nat → Int} (hz : ∀ v, t ≤ rk o v → f v % 10007 = 0) (r : Nat) (hf : Vr o (Rw n G l) r f) : Vr o (Rw n G l) t f := by
  induction r with
  | zero => exact Vr_m (fun _ _ h => h) (Nat.zero_le _) hf
  | succ r ih =>
    by_cases c : r < t
    · exact Vr_m (fun _ _ h => h) c hf
    · refine ih ?_
      have hv := rk_unr o r
      rw [← hv]
      exact crit h (by rw [hv]; exact hf) (hz _ (by rw [hv]; omega))
/-- the rows that aren't 0, with their leads -/
def Gs (o : Int) (n : Nat) (F : Nat → Nat → Int) : (Nat → Int) → Nat → Prop := fun g l => ∃ k, k < n ∧ g = F k ∧ led o (F k) = (l : Nat)
theorem Gs_w {o : Int} {ld : Nat → Nat} {b n : Nat} {B : Nat → Nat → Int} (h : Rl o b B ld) (hb : b ≤ n) {g : Nat → Int} {l : Nat} (hg : Rw b B ld g l) : Gs o n B g l := by
  obtain ⟨k, hk, eg, el⟩ := hg
  exact ⟨k, by omega, eg, by rw [el]; exact (h k hk).2⟩
/-- rows in another order -/
def Pm (n : Nat) (F H : Nat → Nat → Int) : Prop := (∀ k, k < n → ∃ m, m < n ∧ H m = F k) ∧ ∀ k, k < n → ∃ m, m < n ∧ H k = F m
theorem Pm_t {n : Nat} {F G H : Nat → Nat → Int} (h1 : Pm n F G) (h2 : Pm n G H) : Pm n F H := ⟨fun k hk => by
  obtain ⟨m, hm, e⟩ := h1.1 k hk
  obtain ⟨m', hm', e'⟩ := h2.1 m hm
  exact ⟨m', hm', e'.trans e⟩, fun k hk => by
  obtain ⟨m, hm, e⟩ := h2.2 k hk
  obtain ⟨m', hm', e'⟩ := h1.2 m hm
  exact ⟨m', hm', e.trans e'⟩⟩
theorem Pm_r (n : Nat) (F : Nat → Nat → Int) : Pm n F F := ⟨fun k hk => ⟨k, hk, rfl⟩, fun k hk => ⟨k, hk, rfl⟩⟩
theorem Gs_p {o : Int} {n : Nat} {F H : Nat → Nat → Int} (h : Pm n F H) {g : Nat → Int} {l : Nat} (hg : Gs o n F g l) : Gs o n H g l := by
  obtain ⟨k, hk, eg, el⟩ := hg
  obtain ⟨m, hm, e⟩ := h.1 k hk
  exact ⟨m, hm, by rw [e]; exact eg, by rw [e]; exact el⟩
