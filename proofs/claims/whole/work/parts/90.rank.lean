/-! Leads of combinations of rows: the rank of a matrix, however it is brought to rows with leads of their own. -/
theorem prm {x y : Int} (hx : x % 10007 ≠ 0) (hy : y % 10007 ≠ 0) : x * y % 10007 ≠ 0 := by
  intro h
  apply hx
  have h1 := inv_ok (v := y % 10007) (by omega)
  have h2 : x * (y % 10007 * inv (y % 10007) % 10007) % 10007 = 0 := by
    rw [em2, ← Int.mul_assoc, ← em1, em2, h, Int.zero_mul]
    rfl
  rw [h1, Int.mul_one] at h2
  exact h2
theorem smk_add (s t : Nat → Int) (n : Nat) : smk (fun k => s k + t k) n = smk s n + smk t n := by
  induction n with
  | zero => rfl
  | succ n ih =>
    show smk (fun k => s k + t k) n + (s n + t n) = (smk s n + s n) + (smk t n + t n)
    rw [ih]
    omega
theorem smk_mr (t : Nat → Int) (x : Int) (n : Nat) : smk (fun k => t k * x) n = smk t n * x := by
  induction n with
  | zero => show (0 : Int) = 0 * x; rw [Int.zero_mul]
  | succ n ih =>
    show smk (fun k => t k * x) n + t n * x = (smk t n + t n) * x
    rw [ih, Int.add_mul]
theorem smk_ml (t : Nat → Int) (x : Int) (n : Nat) : smk (fun k => x * t k) n = x * smk t n := by
  induction n with
  | zero => show (0 : Int) = x * 0; rw [Int.mul_zero]
  | succ n ih =>
    show smk (fun k => x * t k) n + x * t n = x * (smk t n + t n)
    rw [ih, Int.mul_add]
theorem smk_cong {s t : Nat → Int} {n : Nat} (h : ∀ k, k < n → s k % 10007 = t k % 10007) : smk s n % 10007 = smk t n % 10007 := by
  induction n with
  | zero => rfl
  | succ n ih =>
    have i := ih (fun k hk => h k (by omega))
    have j := h n (by omega)
    show (smk s n + s n) % 10007 = (smk t n + t n) % 10007
    omega
theorem smk_zero {t : Nat → Int} {n : Nat} (h : ∀ k, k < n → t k % 10007 = 0) : smk t n % 10007 = 0 := by
  induction n with
  | zero => rfl
  | succ n ih =>
    have i := ih (fun k hk => h k (by omega))
    have j := h n (by omega)
    show (smk t n + t n) % 10007 = 0
    omega
theorem smk_oneC {t : Nat → Int} {m n : Nat} (hm : m < n) (h : ∀ k, k < n → k ≠ m → t k % 10007 = 0) : smk t n % 10007 = t m % 10007 := by
  induction n with
  | zero => omega
  | succ n ih =>
    show (smk t n + t n) % 10007 = _
    by_cases e : m = n
    · have := smk_zero (t := t) (n := n) (fun k hk => h k (by omega) (by omega))
      subst e
      omega
    · have i := ih (by omega) (fun k hk => h k (by omega))
      have j := h n (by omega) (fun z => e z.symm)
      omega
theorem smk_au {t : Nat → Int} {i n : Nat} {x : Int} (hi : i < n) : smk (au t i x) n = smk t n - t i + x := by
  induction n with
  | zero => omega
  | succ n ih =>
    show smk (au t i x) n + au t i x n = smk t n + t n - t i + x
    by_cases e : i = n
    · subst e
      rw [au_s, smk_c (s := au t i x) (t := t) (fun k hk => au_n _ _ (by omega))]
      omega
    · rw [au_n _ _ (fun z => e z.symm), ih (by omega)]
      omega
/-- two rows change places -/
def swp (i r k : Nat) : Nat := if k = i then r else if k = r then i else k
theorem swp_lt {i r k q : Nat} (hi : i < q) (hr : r < q) (hk : k < q) : swp i r k < q := by
  unfold swp
  split
  · exact hr
  · split
    · exact hi
    · exact hk
theorem swp_swp (i r k : Nat) : swp i r (swp i r k) = k := by
  unfold swp
  by_cases e1 : k = i
  · rw [if_pos e1]
    by_cases e2 : r = i
    · rw [if_pos e2]; omega
    · rw [if_neg e2, if_pos rfl]; exact e1.symm
  · rw [if_neg e1]
    by_cases e2 : k = r
    · rw [if_pos e2, if_pos rfl]; exact e2.symm
    · rw [if_neg e2, if_neg e1, if_neg e2]
theorem smk_swp {t : Nat → Int} {i r n : Nat} (hi : i < n) (hr : r < n) : smk (fun k => t (swp i r k)) n = smk t n := by
  have e : (fun k => t (swp i r k)) = au (au t i (t r)) r (t i) := by
    funext k
    rw [au_i, au_i]
    unfold swp
    by_cases e1 : k = i
    · rw [if_pos e1]
      by_cases e2 : k = r
      · rw [if_pos e2, ← e1, e2]
      · rw [if_neg e2, if_pos e1]
    · rw [if_neg e1, if_neg e1]
      by_cases e2 : k = r
      · rw [if_pos e2, if_pos e2]
      · rw [if_neg e2, if_neg e2]
  rw [e, smk_au hr, smk_au hi, au_i]
  by_cases e2 : r = i
  · rw [if_pos e2, e2]; omega
  · rw [if_neg e2]; omega
/-- a column at which a combination of the rows begins -/
def PvC (A : Nat → Nat → Int) (q m : Nat) : Prop := ∃ c : Nat → Int, (∀ j, j < m → smk (fun k => c k * A k j) q % 10007 = 0) ∧ smk (fun k => c k * A k m) q % 10007 ≠ 0
theorem PvC_c {A B : Nat → Nat → Int} {q m : Nat} (h : ∀ k j, k < q → j ≤ m → A k j = B k j) (hp : PvC A q m) : PvC B q m := by
  obtain ⟨c, h1, h2⟩ := hp
  refine ⟨c, fun j hj => ?_, ?_⟩
  · rw [← smk_c (s := fun k => c k * A k j) (fun k hk => by rw [h k j hk (by omega)])]; exact h1 j hj
  · rw [← smk_c (s := fun k => c k * A k m) (fun k hk => by rw [h k m hk (by omega)])]; exact h2
/-- a row's multiples come to other rows -/
theorem PvC_op {A B : Nat → Nat → Int} {q m p : Nat} {f : Nat → Int} (hp : p < q) (h : ∀ k j, k < q → j ≤ m → B k j % 10007 = (A k j + f k * A p j) % 10007) (hv : PvC B q m) : PvC A q m := by
  obtain ⟨c, h1, h2⟩ := hv
  have key : ∀ j, j ≤ m → smk (fun k => c k * B k j) q % 10007 = smk (fun k => au c p (c p + smk (fun k => c k * f k) q) k * A k j) q % 10007 := fun j hj => by
    have e1 : smk (fun k => c k * B k j) q % 10007 = smk (fun k => c k * A k j + c k * f k * A p j) q % 10007 := smk_cong (fun k hk => by
      rw [← em2, h k j hk hj, em2, Int.mul_add, Int.mul_assoc])
    have e2 : (fun k => au c p (c p + smk (fun k => c k * f k) q) k * A k j) = au (fun k => c k * A k j) p ((c p + smk (fun k => c k * f k) q) * A p j) := by
      funext k
      rw [au_i]
      by_cases e : k = p
      · rw [if_pos e, e, au_s]
      · rw [if_neg e, au_n _ _ e]
    rw [e1, e2, smk_au hp, smk_add, smk_mr (fun k => c k * f k) (A p j) q, Int.add_mul]
    congr 1
    omega
  refine ⟨au c p (c p + smk (fun k => c k * f k) q), fun j hj => ?_, ?_⟩
  · rw [← key j (by omega)]; exact h1 j hj
  · rw [← key m (by omega)]; exact h2
theorem PvC_op2 {A B : Nat → Nat → Int} {q m p : Nat} {f : Nat → Int} (hp : p < q) (hf : f p = 0) (h : ∀ k j, k < q → j ≤ m → B k j % 10007 = (A k j + f k * A p j) % 10007) : PvC B q m ↔ PvC A q m := by
  refine ⟨PvC_op hp h, PvC_op (f := fun k => - f k) hp (fun k j hk hj => ?_)⟩
  have e1 := h k j hk hj
  have e2 := h p j hp hj
  rw [hf, Int.zero_mul, Int.add_zero] at e2
  have e3 : f k * B p j % 10007 = f k * A p j % 10007 := by rw [← em2, e2, em2]
  show A k j % 10007 = (B k j + - f k * B p j) % 10007
  rw [Int.neg_mul]
  omega
theorem PvC_sw {A : Nat → Nat → Int} {q m i r : Nat} (hi : i < q) (hr : r < q) (hv : PvC (fun k => A (swp i r k)) q m) : PvC A q m := by
  obtain ⟨c, h1, h2⟩ := hv
  have key : ∀ j, smk (fun k => c k * A (swp i r k) j) q = smk (fun k => c (swp i r k) * A k j) q := fun j => by
    rw [← smk_swp (t := fun k => c (swp i r k) * A k j) hi hr]
    refine smk_c (fun k _ => ?_)
    show _ = c (swp i r (swp i r k)) * A (swp i r k) j
    rw [swp_swp]
  refine ⟨fun k => c (swp i r k), fun j hj => ?_, ?_⟩
  · rw [← key j]; exact h1 j hj
  · rw [← key m]; exact h2
theorem PvC_sw2 {A : Nat → Nat → Int} {q m i r : Nat} (hi : i < q) (hr : r < q) : PvC (fun k => A (swp i r k)) q m ↔ PvC A q m := by
  refine ⟨PvC_sw hi hr, fun h => PvC_sw (A := fun k => A (swp i r k)) hi hr ?_⟩
  have : (fun k => (fun k => A (swp i r k)) (swp i r k)) = A := by
    funext k
    show A (swp i r (swp i r k)) = A k
    rw [swp_swp]
  rw [this]
  exact h
/-- the least of what is there -/
theorem least {p : Nat → Prop} {n : Nat} (h : p n) : ∃ m, p m ∧ ∀ k, k < m → ¬ p k := by
  induction n using Nat.strongRecOn with
  | ind n ih =>
    by_cases e : ∃ k, k < n ∧ p k
    · obtain ⟨k, hk, hp⟩ := e
      exact ih k hk hp
    · exact ⟨n, h, fun k hk hp => e ⟨k, hk, hp⟩⟩
/-- rows with leads of their own -/
theorem PvC_ld {B : Nat → Nat → Int} {q N : Nat} {l : Nat → Nat} (h0 : ∀ k j, k < q → j < l k → j < N → B k j % 10007 = 0) (h1 : ∀ k, k < q → l k < N → B k (l k) % 10007 ≠ 0) (h2 : ∀ k k', k < q → k' < q → l k = l k' → l k < N → k = k') {m : Nat} (hm : m < N) : PvC B q m ↔ ∃ k, k < q ∧ l k = m := by
  constructor
  · rintro ⟨c, c1, c2⟩
    have hex : ∃ x, (fun x => ∃ k, k < q ∧ c k % 10007 ≠ 0 ∧ l k = x ∧ x < N) x := by
      refine Classical.byContradiction fun no => c2 (smk_zero (fun k hk => ?_))
      by_cases e : c k % 10007 = 0
      · rw [← em1, e, Int.zero_mul]; rfl
      · by_cases e2 : l k < N
        · exact absurd ⟨l k, k, hk, e, rfl, e2⟩ no
        · rw [← em2, h0 k m hk (by omega) hm, Int.mul_zero]; rfl
    obtain ⟨x0, hx0⟩ := hex
    obtain ⟨x, ⟨k, hk, hc, hl, hx⟩, hmin⟩ := least (p := fun x => ∃ k, k < q ∧ c k % 10007 ≠ 0 ∧ l k = x ∧ x < N) hx0
    have hother : ∀ k', k' < q → k' ≠ k → ∀ j, j ≤ x → c k' * B k' j % 10007 = 0 := fun k' hk' hne j hj => by
      by_cases e : c k' % 10007 = 0
      · rw [← em1, e, Int.zero_mul]; rfl
      · by_cases e2 : l k' < N
        · have : ¬ l k' < x := fun z => hmin _ z ⟨k', hk', e, rfl, e2⟩
          have : l k' ≠ x := fun z => hne (h2 k' k hk' hk (by omega) e2)
          rw [← em2, h0 k' j hk' (by omega) (by omega), Int.mul_zero]; rfl
        · rw [← em2, h0 k' j hk' (by omega) (by omega), Int.mul_zero]; rfl
    have hval : ∀ j, j ≤ x → smk (fun k => c k * B k j) q % 10007 = c k * B k j % 10007 := fun j hj => smk_oneC (t := fun k => c k * B k j) hk (fun k' hk' hne => hother k' hk' hne j hj)
    refine ⟨k, hk, ?_⟩
    by_cases lt : x < m
    · exfalso
      have a := c1 x lt
      rw [hval x (Nat.le_refl _), ← hl] at a
      exact prm hc (h1 k hk (by omega)) a
    · by_cases gt : m < x
      · exfalso
        apply c2
        rw [hval m (by omega), ← em2, h0 k m hk (by omega) hm, Int.mul_zero]
        rfl
      · omega
  · rintro ⟨k, hk, e⟩
    have hval : ∀ j, smk (fun i => au (fun _ => 0) k 1 i * B i j) q % 10007 = B k j % 10007 := fun j => by
      rw [smk_oneC (t := fun i => au (fun _ => 0) k 1 i * B i j) hk (fun i _ hne => by
        show au (fun _ => (0 : Int)) k 1 i * B i j % 10007 = 0
        rw [au_n _ _ hne, Int.zero_mul]; rfl)]
      rw [au_s, Int.one_mul]
    refine ⟨au (fun _ => 0) k 1, fun j hj => ?_, ?_⟩
    · rw [hval, h0 k j hk (by omega) (by omega)]
    · rw [hval, ← e]; exact h1 k hk (by omega)
/-- how many of the first n -/
noncomputable def cnP (p : Nat → Prop) : Nat → Nat
  | 0 => 0
  | n + 1 => cnP p n + @ite _ (p n) (Classical.propDecidable _) 1 0
theorem cnP_c {p q : Nat → Prop} {n : Nat} (h : ∀ k, k < n → (p k ↔ q k)) : cnP p n = cnP q n := by
  induction n with
  | zero => rfl
  | succ n ih =>
    show cnP p n + @ite _ (p n) (Classical.propDecidable _) 1 0 = cnP q n + @ite _ (q n) (Classical.propDecidable _) 1 0
    rw [ih (fun k hk => h k (by omega))]
    by_cases e : p n
    · rw [if_pos e, if_pos ((h n (by omega)).mp e)]
    · rw [if_neg e, if_neg (fun z => e ((h n (by omega)).mpr z))]
theorem cnP_0 {p : Nat → Prop} {n : Nat} (h : ∀ k, k < n → ¬ p k) : cnP p n = 0 := by
  induction n with
  | zero => rfl
  | succ n ih =>
    show cnP p n + @ite _ (p n) (Classical.propDecidable _) 1 0 = 0
    rw [ih (fun k hk => h k (by omega)), if_neg (h n (by omega))]
theorem cnP_or {p : Nat → Prop} {n x : Nat} (hx : x < n) (hp : ¬ p x) : cnP (fun k => p k ∨ k = x) n = cnP p n + 1 := by
  induction n with
  | zero => omega
  | succ n ih =>
    show cnP (fun k => p k ∨ k = x) n + @ite _ (p n ∨ n = x) (Classical.propDecidable _) 1 0 = cnP p n + @ite _ (p n) (Classical.propDecidable _) 1 0 + 1
    by_cases e : n = x
    · rw [if_pos (Or.inr e), if_neg (fun z => hp (e ▸ z)), cnP_c (p := fun k => p k ∨ k = x) (q := p) (fun k hk => ⟨fun z => z.resolve_right (by omega), Or.inl⟩)]
    · rw [ih (by omega)]
      by_cases e2 : p n
      · rw [if_pos (Or.inl e2), if_pos e2]
      · rw [if_neg (fun z => z.elim e2 e), if_neg e2]
/-- leads of their own are as many as the rows that have one -/
theorem cnP_ld {q N : Nat} {l : Nat → Nat} (h2 : ∀ k k', k < q → k' < q → l k = l k' → l k < N → k = k') : cnP (fun m => ∃ k, k < q ∧ l k = m) N = cnP (fun k => l k < N) q := by
  induction q with
  | zero => exact cnP_0 (fun k _ ⟨_, h, _⟩ => by omega)
  | succ q ih =>
    have i := ih (fun k k' hk hk' => h2 k k' (by omega) (by omega))
    show _ = cnP (fun k => l k < N) q + @ite _ (l q < N) (Classical.propDecidable _) 1 0
    by_cases e : l q < N
    · rw [if_pos e, ← i, ← cnP_or (p := fun m => ∃ k, k < q ∧ l k = m) e (fun ⟨k, hk, hl⟩ => by
        have := h2 k q (by omega) (by omega) hl (by omega)
        omega)]
      refine cnP_c (fun m hm => ⟨fun ⟨k, hk, hl⟩ => ?_, fun z => ?_⟩)
      · by_cases e2 : k = q
        · right; rw [← hl, e2]
        · left; exact ⟨k, by omega, hl⟩
      · rcases z with ⟨k, hk, hl⟩ | z
        · exact ⟨k, by omega, hl⟩
        · exact ⟨q, by omega, z.symm⟩
    · rw [if_neg e, ← i, Nat.add_zero]
      refine cnP_c (fun m hm => ⟨fun ⟨k, hk, hl⟩ => ⟨k, ?_, hl⟩, fun ⟨k, hk, hl⟩ => ⟨k, by omega, hl⟩⟩)
      by_cases e2 : k = q
      · rw [e2] at hl; omega
      · omega
/-- the rank -/
noncomputable def rnk (A : Nat → Nat → Int) (q : Nat) : Nat := cnP (fun m => PvC A q m) 28
theorem rnk_ld {B : Nat → Nat → Int} {q : Nat} {l : Nat → Nat} (h0 : ∀ k j, k < q → j < l k → j < 28 → B k j % 10007 = 0) (h1 : ∀ k, k < q → l k < 28 → B k (l k) % 10007 ≠ 0) (h2 : ∀ k k', k < q → k' < q → l k = l k' → l k < 28 → k = k') : rnk B q = cnP (fun k => l k < 28) q := by
  rw [← cnP_ld h2]
  exact cnP_c (fun m hm => PvC_ld h0 h1 h2 hm)
