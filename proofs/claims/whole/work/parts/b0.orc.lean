/-! The completion's invariant. -/
/-- degrees, by the leads -/
def Dg (s : C6) : Prop := (s.1 = 0 ∧ ∀ k, k < s.1 + s.2.1 → ∀ w, s.2.2.1 k w ≠ 0 → wn w ≤ 3) ∨ ∃ X Y, Jnv (Jw s) X Y ∧ (∃ k, k < s.1 ∧ s.2.2.2.1 k + s.2.2.2.2.1 k ≤ 3) ∧ ∀ k, k < s.1 + s.2.1 → ∀ w, s.2.2.1 k w ≠ 0 → wn w + X + Y ≤ 6
/-- the rows that an ideal is given by -/
def Sc (m : Nat) (A : Nat → Nat → Int) : (Nat → Int) → Nat → Prop := fun g _ => ∃ k, k < m ∧ g = A k
/-- what the completion keeps -/
def Pc (o : Int) (m : Nat) (A : Nat → Nat → Int) (s : C6) : Prop := (∀ k, k < s.1 + s.2.1 → Rg (s.2.2.1 k)) ∧ Kp o s ∧ Sv o (Gs o (s.1 + s.2.1) s.2.2.1) s ∧ Dg s ∧ (∀ k, k < m → Idl o (Gs o (s.1 + s.2.1) s.2.2.1) (A k)) ∧ ∀ k, k < s.1 + s.2.1 → Idl o (Sc m A) (s.2.2.1 k)
/-- how far it is from its end -/
noncomputable def muc (s : C6) : Nat := 100 * (28 - cnP (fun w => Jw s (xw w) (dw w)) 28) + 10 * cnP (fun k => k + 1 < s.1 ∧ s.2.2.2.2.2 k = 0) 6 + s.2.1
theorem cnP_m {p q : Nat → Prop} {n : Nat} (h : ∀ k, k < n → p k → q k) : cnP p n ≤ cnP q n := by
  induction n with
  | zero => exact Nat.le_refl 0
  | succ n ih =>
    have := ih (fun k hk => h k (by omega))
    show cnP p n + @ite _ (p n) (Classical.propDecidable _) 1 0 ≤ cnP q n + @ite _ (q n) (Classical.propDecidable _) 1 0
    by_cases e : p n
    · rw [if_pos e, if_pos (h n (by omega) e)]; omega
    · rw [if_neg e]; omega
theorem muc_b (s : C6) : muc s ≤ 2860 + s.2.1 := by
  have h1 := cnP_b (p := fun k => k + 1 < s.1 ∧ s.2.2.2.2.2 k = 0) (n := 6)
  unfold muc
  omega
theorem Jnv_c {J J' : Nat → Nat → Prop} {X Y : Nat} (h : Jnv J X Y) (e : ∀ p q, J p q ↔ J' p q) : Jnv J' X Y := ⟨fun p q z => h.1 p q ((e p q).mpr z), fun p q a b z => h.2 p q a b (fun y => z ((e p q).mp y))⟩
theorem stc_y2 {y : Nat → Nat} {n : Nat} (h : ∀ k, k + 1 < n → y k < y (k + 1)) (m t : Nat) (ht : m + t < n) : y m + t ≤ y (m + t) := by
  induction t with
  | zero => exact Nat.le_refl _
  | succ t ih =>
    have h1 := ih (by omega)
    have h2 := h (m + t) (by omega)
    rw [show m + (t + 1) = m + t + 1 by omega]
    omega
/-- no lead divides another one -/
theorem kp_nd {o : Int} {s : C6} (hK : Kp o s) {a b : Nat} (ha : a < s.1) (hb : b < s.1) (h1 : s.2.2.2.1 a ≤ s.2.2.2.1 b) (h2 : s.2.2.2.2.1 a ≤ s.2.2.2.2.1 b) : a = b := by
  rcases Nat.lt_trichotomy a b with c | c | c
  · have := stc_x (x := s.2.2.2.1) (fun k hk => (hK.2 k hk).1) a (b - a) (by omega)
    rw [show a + (b - a) = b by omega] at this
    omega
  · exact c
  · have := stc_y2 (y := s.2.2.2.2.1) (fun k hk => (hK.2 k hk).2) b (a - b) (by omega)
    rw [show b + (a - b) = a by omega] at this
    omega
theorem kp_lcm {o : Int} {s : C6} (hK : Kp o s) {X Y : Nat} (hJ : Jnv (Jw s) X Y) {k : Nat} (hk : k + 1 < s.1) : s.2.2.2.1 k + s.2.2.2.2.1 (k + 1) + X + Y ≤ 6 := by
  obtain ⟨a1, a2⟩ := hK.2 k hk
  refine Jnv_lcm hJ (x := s.2.2.2.1 k) (y := s.2.2.2.2.1 k) (x' := s.2.2.2.1 (k + 1)) (y' := s.2.2.2.2.1 (k + 1)) ⟨k, by omega, Nat.le_refl _, Nat.le_refl _⟩ ⟨k + 1, hk, Nat.le_refl _, Nat.le_refl _⟩ a1 a2 ?_
  rintro ⟨m, hm, h1, h2⟩
  by_cases c : m ≤ k
  · have := stc_x (x := s.2.2.2.1) (fun k hk => (hK.2 k hk).1) m (k - m) (by omega)
    rw [show m + (k - m) = k by omega] at this
    omega
  · have := stc_y2 (y := s.2.2.2.2.1) (fun k hk => (hK.2 k hk).2) (k + 1) (m - (k + 1)) (by omega)
    rw [show k + 1 + (m - (k + 1)) = m by omega] at this
    omega
theorem kp_4 {o : Int} {s : C6} (hK : Kp o s) (hD : Dg s) : s.1 ≤ 4 := by
  rcases hD with ⟨h, _⟩ | ⟨X, Y, _, ⟨k, hk, h⟩, _⟩
  · omega
  · exact stc_4 (x := s.2.2.2.1) (y := s.2.2.2.2.1) (fun k hk => (hK.2 k hk).1) (fun k hk => (hK.2 k hk).2) hk h
theorem pc_1 {o : Int} {m : Nat} {A : Nat → Nat → Int} {s : C6} (h : Pc o m A s) : Cgd o s := by
  obtain ⟨hR, hK, _, hD, _⟩ := h
  refine ⟨fun k hk => (hK.1 k hk).1, fun k hk => (hR k hk).2, fun _ => by have := kp_4 hK hD; omega, fun k hk => ?_⟩
  obtain ⟨a1, a2⟩ := hK.2 k hk
  rcases hD with ⟨h, _⟩ | ⟨X, Y, hJ, _, hw⟩
  · omega
  · have h6 := kp_lcm hK hJ hk
    refine ⟨by omega, by omega, by omega, fun w _ hne => ?_, fun w _ hne => ?_⟩
    · have := hw k (by omega) w hne; omega
    · have := hw (k + 1) (by omega) w hne; omega
theorem kp_Rl {o : Int} {s : C6} (hR : ∀ k, k < s.1 + s.2.1 → Rg (s.2.2.1 k)) (hK : Kp o s) : Rl o s.1 s.2.2.1 (fun k => pl (s.2.2.2.1 k) (s.2.2.2.2.1 k)) := fun k hk => ⟨hR k (by omega), (hK.1 k hk).1⟩
theorem led_z {o : Int} {f : Nat → Int} (hf : Rg f) (h : led o f < 0) (v : Nat) : f v = 0 := by
  by_cases c : v < 91
  · exact led_neg.mp h v (by omega)
  · exact hf.2 v (by omega)
/-- a word of the remainder has no more letters than some word of the row -/
theorem rem_w {o : Int} {ld : Nat → Nat} {b : Nat} {B : Nat → Nat → Int} {f : Nat → Int} (h : Rl o b B ld) (hf : Rg f) {v : Nat} (hv : rdC o ld b B f v ≠ 0) : ∃ u, led o f = (u : Nat) ∧ f u ≠ 0 ∧ rk o v ≤ rk o u ∧ wn v ≤ wn u := by
  by_cases c : led o f < 0
  · have := (rem_s h hf (r := 0) (fun v hv => absurd (by rw [led_z hf c v]; rfl) hv)).2 v ((rg_ne (rem_g hf)).mpr hv)
    omega
  · obtain ⟨h1, h2, h3, h4⟩ := lw_ok c
    have hb := rg_Bd hf h2
    have := (rem_s h hf (r := rk o (lw o f) + 1) (fun v hv => by have := hb v hv; omega)).2 v ((rg_ne (rem_g hf)).mpr hv)
    exact ⟨lw o f, h2, h3, by omega, rk_le_wn (o := o) (by omega)⟩
theorem abM_g {o : Int} {f : Nat → Int} (hf : Rg f) (h : ¬ led o f < 0) : Rg (abM o f) ∧ abM o f (lw o f) = 1 ∧ led o (abM o f) = (lw o f : Nat) ∧ (∀ v, abM o f v ≠ 0 → f v ≠ 0) ∧ ∀ v, f v % 10007 = f (lw o f) * abM o f v % 10007 := by
  obtain ⟨h1, h2, h3, h4⟩ := lw_ok h
  have hg : Rg (abM o f) := ⟨fun v => by unfold abM; omega, fun j hj => by unfold abM; rw [hf.2 j hj, Int.zero_mul]; rfl⟩
  have hz : ∀ v, abM o f v ≠ 0 → f v ≠ 0 := fun v hv e => hv (by unfold abM; rw [e, Int.zero_mul]; rfl)
  obtain ⟨m1, m2⟩ := abM_m hf.1 h3
  have e1 : abM o f (lw o f) = 1 := by have := hg.1 (lw o f); omega
  refine ⟨hg, e1, led_of h1 (by rw [e1]; decide) (fun v hv hne => h4 v hv (hz v hne)), hz, fun v => ?_⟩
  have b := hf.1 (lw o f)
  have i1 := inv_ok (v := f (lw o f)) (by omega)
  have := md_mul (c := f (lw o f)) (m2 v)
  have e2 : f (lw o f) * (inv (f (lw o f)) * f v) % 10007 = f v % 10007 := by
    rw [← Int.mul_assoc, Int.mul_comm (f (lw o f) * inv (f (lw o f))) (f v), md_mul (b := 1) (by rw [i1]; rfl), Int.mul_one]
  rw [this, e2]
