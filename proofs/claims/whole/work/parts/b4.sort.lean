/-! The reference: sums, orders, sorting. -/
def smn (f : Nat → Nat) : Nat → Nat
  | 0 => 0
  | n + 1 => smn f n + f n
theorem smn_e {f g : Nat → Nat} {n : Nat} (h : ∀ k, k < n → f k = g k) : smn f n = smn g n := by
  induction n with
  | zero => rfl
  | succ n ih =>
    show smn f n + f n = smn g n + g n
    rw [ih (fun k hk => h k (by omega)), h n (by omega)]
theorem smn_le {f g : Nat → Nat} {n : Nat} (h : ∀ k, k < n → f k ≤ g k) : smn f n ≤ smn g n := by
  induction n with
  | zero => exact Nat.le_refl _
  | succ n ih =>
    have h1 := ih (fun k hk => h k (by omega))
    have h2 := h n (by omega)
    show smn f n + f n ≤ smn g n + g n
    omega
theorem smn_lt {f g : Nat → Nat} {n r : Nat} (h : ∀ k, k < n → f k ≤ g k) (hr : r < n) (h2 : f r < g r) : smn f n < smn g n := by
  induction n with
  | zero => omega
  | succ n ih =>
    show smn f n + f n < smn g n + g n
    by_cases c : r = n
    · have h1 := smn_le (f := f) (g := g) (n := n) (fun k hk => h k (by omega))
      rw [← c] at h1 ⊢
      omega
    · have h1 := ih (fun k hk => h k (by omega)) (by omega)
      have h3 := h n (by omega)
      omega
theorem smn_b {f : Nat → Nat} {n B : Nat} (h : ∀ k, k < n → f k ≤ B) : smn f n ≤ n * B := by
  induction n with
  | zero => exact Nat.zero_le _
  | succ n ih =>
    have h1 := ih (fun k hk => h k (by omega))
    have h2 := h n (by omega)
    show smn f n + f n ≤ (n + 1) * B
    rw [Nat.succ_mul]
    omega
theorem smn_s {f : Nat → Nat} {n r : Nat} (hr : r < n) : smn (fun j => f (skp r j)) (n - 1) + f r = smn f n := by
  induction n with
  | zero => omega
  | succ n ih =>
    show smn (fun j => f (skp r j)) n + f r = smn f n + f n
    by_cases c : r = n
    · rw [smn_e (g := f) (fun k hk => by show f (skp r k) = f k; unfold skp; rw [if_neg (by omega)]), c]
    · obtain ⟨n', rfl⟩ : ∃ n', n = n' + 1 := ⟨n - 1, by omega⟩
      have h1 := ih (by omega)
      rw [show n' + 1 - 1 = n' by omega] at h1
      show smn (fun j => f (skp r j)) n' + f (skp r n') + f r = _
      rw [show skp r n' = n' + 1 from if_pos (by omega)]
      omega
/-- rows in another order, each once -/
def Pms (n : Nat) (F H : Nat → Nat → Int) : Prop := ∃ σ : Nat → Nat, (∀ k, k < n → σ k < n) ∧ (∀ i j, i < n → j < n → σ i = σ j → i = j) ∧ ∀ k, k < n → H k = F (σ k)
theorem Pms_r (n : Nat) (F : Nat → Nat → Int) : Pms n F F := ⟨fun k => k, fun _ h => h, fun _ _ _ _ h => h, fun _ _ => rfl⟩
theorem Pms_t {n : Nat} {F G H : Nat → Nat → Int} (h1 : Pms n F G) (h2 : Pms n G H) : Pms n F H := by
  obtain ⟨σ, a1, a2, a3⟩ := h1
  obtain ⟨τ, b1, b2, b3⟩ := h2
  exact ⟨fun k => σ (τ k), fun k hk => a1 _ (b1 k hk), fun i j hi hj e => b2 i j hi hj (a2 _ _ (b1 i hi) (b1 j hj) e), fun k hk => (b3 k hk).trans (a3 _ (b1 k hk))⟩
theorem Pms_P {n : Nat} {F H : Nat → Nat → Int} (h : Pms n F H) : Pm n F H := by
  obtain ⟨σ, a1, a2, a3⟩ := h
  refine ⟨fun k hk => ?_, fun k hk => ⟨σ k, a1 k hk, a3 k hk⟩⟩
  obtain ⟨t, ht, e⟩ := surj (f := σ) (n := n) a1 a2 hk
  exact ⟨t, ht, by rw [a3 t ht, e]⟩
theorem Pm_sy {n : Nat} {F H : Nat → Nat → Int} (h : Pm n F H) : Pm n H F := ⟨fun k hk => by
  obtain ⟨m, hm, e⟩ := h.2 k hk
  exact ⟨m, hm, e.symm⟩, fun k hk => by
  obtain ⟨m, hm, e⟩ := h.1 k hk
  exact ⟨m, hm, e.symm⟩⟩
theorem ex_Pms {n t w : Nat} (G : Nat → Nat → Int) (ht : t < n) (hw : w < n) : Pms n G (exG G t w) := by
  refine ⟨swp t w, fun k hk => ?_, fun i j hi hj e => ?_, fun k hk => ?_⟩
  · unfold swp; split
    · exact hw
    · split <;> omega
  · unfold swp at e
    split at e <;> split at e <;> (try split at e) <;> (try split at e) <;> omega
  · unfold exG swp
    by_cases c : k = t
    · rw [if_pos c, if_pos c]
    · rw [if_neg c, if_neg c]
      by_cases c2 : k = w
      · rw [if_pos c2, if_pos c2]
      · rw [if_neg c2, if_neg c2]
theorem srS_p {b o : Int} {n k : Nat} (G : Nat → Nat → Int) (hk : k < n) : Pms n G (srS b o k G) := by
  unfold srS
  split
  · exact ex_Pms G (by omega) hk
  · exact Pms_r n G
theorem srP_p {b o : Int} {n r : Nat} (G : Nat → Nat → Int) (hr : r < n) (j : Nat) : Pms n G (srP b o r G j) := by
  induction j with
  | zero => exact Pms_r n G
  | succ j ih => exact Pms_t ih (srS_p _ (by omega))
theorem srO_p {b o : Int} {n : Nat} (G : Nat → Nat → Int) {m : Nat} (hm : m ≤ n - 1) : Pms n G (srO b o G m) := by
  induction m with
  | zero => exact Pms_r n G
  | succ m ih => exact Pms_t (ih (by omega)) (srP_p _ (by omega) _)
/-- a row on its way down -/
def Srv (a : Nat → Nat) (r p : Nat) : Prop := (∀ i i', i < i' → i' ≤ r → i ≠ p → i' ≠ p → a i ≤ a i') ∧ ∀ i', p < i' → i' ≤ r → a p ≤ a i'
theorem Srv_s {b o : Int} {r p : Nat} {G : Nat → Nat → Int} (hp : 0 < p) (hr : p ≤ r) (h : Srv (fun k => kyo b o (G k)) r p) : Srv (fun k => kyo b o (srS b o p G k)) r (p - 1) := by
  obtain ⟨h1, h2⟩ := h
  unfold srS
  by_cases c : kyo b o (G p) < kyo b o (G (p - 1))
  · rw [if_pos c]
    have e : ∀ k, kyo b o (exG G (p - 1) p k) = if k = p - 1 then kyo b o (G p) else if k = p then kyo b o (G (p - 1)) else kyo b o (G k) := fun k => by
      unfold exG
      split
      · rfl
      · split <;> rfl
    refine ⟨fun i i' hi hi' n1 n2 => ?_, fun i' hi hi' => ?_⟩
    · show kyo b o (exG G (p - 1) p i) ≤ kyo b o (exG G (p - 1) p i')
      rw [e, e, if_neg n1, if_neg n2]
      by_cases c1 : i = p
      · rw [if_pos c1, if_neg (by omega)]
        exact h1 (p - 1) i' (by omega) hi' (by omega) (by omega)
      · rw [if_neg c1]
        by_cases c2 : i' = p
        · rw [if_pos c2]
          exact h1 i (p - 1) (by omega) (by omega) c1 (by omega)
        · rw [if_neg c2]
          exact h1 i i' hi hi' c1 c2
    · show kyo b o (exG G (p - 1) p (p - 1)) ≤ kyo b o (exG G (p - 1) p i')
      rw [e, e, if_pos rfl, if_neg (by omega)]
      by_cases c2 : i' = p
      · rw [if_pos c2]; omega
      · rw [if_neg c2]; exact h2 i' (by omega) hi'
  · rw [if_neg c]
    refine ⟨fun i i' hi hi' n1 n2 => ?_, fun i' hi hi' => ?_⟩
    · show kyo b o (G i) ≤ kyo b o (G i')
      by_cases c1 : i = p
      · rw [c1]; exact h2 i' (by omega) hi'
      · by_cases c2 : i' = p
        · have := h1 i (p - 1) (by omega) (by omega) c1 (by omega)
          dsimp only at this
          rw [c2]; omega
        · exact h1 i i' hi hi' c1 c2
    · show kyo b o (G (p - 1)) ≤ kyo b o (G i')
      by_cases c2 : i' = p
      · rw [c2]; omega
      · exact h1 (p - 1) i' (by omega) hi' (by omega) c2
theorem srP_v {b o : Int} {r : Nat} {G : Nat → Nat → Int} (h : ∀ i i', i < i' → i' < r → kyo b o (G i) ≤ kyo b o (G i')) (j : Nat) (hj : j ≤ r) : Srv (fun k => kyo b o (srP b o r G j k)) r (r - j) := by
  induction j with
  | zero => exact ⟨fun i i' hi hi' n1 n2 => h i i' hi (by omega), fun i' hi hi' => by omega⟩
  | succ j ih =>
    have := Srv_s (b := b) (o := o) (r := r) (p := r - j) (G := srP b o r G j) (by omega) (by omega) (ih (by omega))
    rw [show r - j - 1 = r - (j + 1) by omega] at this
    exact this
/-- sorted -/
theorem srO_v {b o : Int} (G : Nat → Nat → Int) (m : Nat) : ∀ i i', i < i' → i' ≤ m → kyo b o (srO b o G m i) ≤ kyo b o (srO b o G m i') := by
  induction m with
  | zero => intro i i' h1 h2; omega
  | succ m ih =>
    have h := srP_v (b := b) (o := o) (r := m + 1) (G := srO b o G m) (fun i i' h1 h2 => ih i i' h1 (by omega)) (m + 1) (Nat.le_refl _)
    rw [Nat.sub_self] at h
    intro i i' h1 h2
    by_cases c : i = 0
    · rw [c]; exact h.2 i' (by omega) h2
    · exact h.1 i i' h1 h2 c (by omega)
