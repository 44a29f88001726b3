/-! Agreements: makes. Written by wip/whole/gen_9s.py. -/
theorem smk_app (t : Nat → Int) (a b : Nat) : smk t (a + b) = smk t a + smk (fun k => t (a + k)) b := by
  induction b with
  | zero => exact (Int.add_zero _).symm
  | succ b ih =>
    show smk t (a + b) + t (a + b) = smk t a + (smk (fun k => t (a + k)) b + t (a + b))
    rw [ih, Int.add_assoc]
theorem smk_blk (t : Nat → Int) (b m : Nat) : smk t (b * m) = smk (fun w => smk (fun n => t (b * w + n)) b) m := by
  induction m with
  | zero => rfl
  | succ m ih =>
    show smk t (b * m + b) = smk (fun w => smk (fun n => t (b * w + n)) b) m + smk (fun n => t (b * m + n)) b
    rw [smk_app, ih]
theorem smk_sw (F : Nat → Nat → Int) (m n : Nat) : smk (fun a => smk (fun b => F a b) n) m = smk (fun b => smk (fun a => F a b) m) n := by
  induction m with
  | zero =>
    show (0 : Int) = smk (fun _ => 0) n
    induction n with
    | zero => rfl
    | succ n ih => show (0 : Int) = smk (fun _ => 0) n + 0; rw [← ih]; rfl
  | succ m ih =>
    show smk (fun a => smk (fun b => F a b) n) m + smk (fun b => F m b) n = smk (fun b => smk (fun a => F a b) m + F m b) n
    rw [ih, smk_add]
theorem cmF_1 {f g m0 : Nat → Int} (k : Nat) : (cmF f g m0 k).1 = 1 ↔ ∀ k', k' < k → ¬ (¬ cmc f g k' = 0 ∧ dw (k' / 31) ≤ k' % 31 ∧ ¬ cmt k' < 31) := by
  induction k with
  | zero => exact ⟨fun _ k' h => absurd h (Nat.not_lt_zero _), fun _ => rfl⟩
  | succ k ih =>
    have st : (∀ k', k' < k + 1 → ¬ (¬ cmc f g k' = 0 ∧ dw (k' / 31) ≤ k' % 31 ∧ ¬ cmt k' < 31)) ↔ (∀ k', k' < k → ¬ (¬ cmc f g k' = 0 ∧ dw (k' / 31) ≤ k' % 31 ∧ ¬ cmt k' < 31)) ∧ ¬ (¬ cmc f g k = 0 ∧ dw (k / 31) ≤ k % 31 ∧ ¬ cmt k < 31) := ⟨fun h => ⟨fun k' hk => h k' (by omega), h k (by omega)⟩, fun h k' hk => by
      by_cases e : k' = k
      · rw [e]; exact h.2
      · exact h.1 k' (by omega)⟩
    rw [st, ← ih]
    show (if ¬ cmc f g k = 0 ∧ dw (k / 31) ≤ k % 31 then (if (cmF f g m0 k).1 = 1 ∧ cmt k < 31 then (1, au (cmF f g m0 k).2 (cmt k) (((cmF f g m0 k).2 (cmt k) + cmc f g k * fal (k % 31) (dw (k / 31))) % 10007)) else (0, (cmF f g m0 k).2)) else cmF f g m0 k : Int × (Nat → Int)).1 = 1 ↔ _
    by_cases c : ¬ cmc f g k = 0 ∧ dw (k / 31) ≤ k % 31
    · rw [if_pos c]
      by_cases c2 : (cmF f g m0 k).1 = 1 ∧ cmt k < 31
      · rw [if_pos c2]; exact ⟨fun _ => ⟨c2.1, fun h => h.2.2 c2.2⟩, fun _ => rfl⟩
      · rw [if_neg c2]
        exact ⟨fun h => absurd (show (0 : Int) = 1 from h) (by decide), fun h => absurd ⟨h.1, Decidable.not_not.mp (fun z => h.2 ⟨c.1, c.2, z⟩)⟩ c2⟩
    · rw [if_neg c]; exact ⟨fun h => ⟨h, fun z => c ⟨z.1, z.2.1⟩⟩, fun h => h.1⟩
/-- what the k-th pair of word and power gives to the power p -/
def cmT (f g : Nat → Int) (p k : Nat) : Int := if dw (k / 31) ≤ k % 31 ∧ cmt k = p then cmc f g k * fal (k % 31) (dw (k / 31)) else 0
theorem cmF_2 {f g m0 : Nat → Int} (h0 : ∀ p, p < 31 → m0 p = 0) (k : Nat) (h : (cmF f g m0 k).1 = 1) : ∀ p, p < 31 → (cmF f g m0 k).2 p = smk (cmT f g p) k % 10007 := by
  induction k with
  | zero => exact fun p hp => h0 p hp
  | succ k ih =>
    intro p hp
    have hk := (cmF_1 (f := f) (g := g) (m0 := m0) (k + 1)).mp h
    have h1 : (cmF f g m0 k).1 = 1 := (cmF_1 k).mpr (fun k' hk' => hk k' (by omega))
    have ih := ih h1
    show (if ¬ cmc f g k = 0 ∧ dw (k / 31) ≤ k % 31 then (if (cmF f g m0 k).1 = 1 ∧ cmt k < 31 then (1, au (cmF f g m0 k).2 (cmt k) (((cmF f g m0 k).2 (cmt k) + cmc f g k * fal (k % 31) (dw (k / 31))) % 10007)) else (0, (cmF f g m0 k).2)) else cmF f g m0 k : Int × (Nat → Int)).2 p = (smk (cmT f g p) k + cmT f g p k) % 10007
    by_cases c : ¬ cmc f g k = 0 ∧ dw (k / 31) ≤ k % 31
    · have c2 : cmt k < 31 := Decidable.not_not.mp (fun z => hk k (by omega) ⟨c.1, c.2, z⟩)
      rw [if_pos c, if_pos ⟨h1, c2⟩]
      show au (cmF f g m0 k).2 (cmt k) _ p = _
      rw [au_i]
      unfold cmT
      by_cases e : p = cmt k
      · rw [if_pos e, ih _ c2, if_pos ⟨c.2, e.symm⟩, ← e]
        show (smk (cmT f g p) k % 10007 + _) % 10007 = (smk (cmT f g p) k + _) % 10007
        generalize cmc f g k * fal (k % 31) (dw (k / 31)) = z
        generalize smk (cmT f g p) k = y
        omega
      · rw [if_neg e, if_neg (fun z => e z.2.symm), Int.add_zero]
        exact ih p hp
    · rw [if_neg c, ih p hp]
      have : cmT f g p k = 0 := by
        unfold cmT
        split
        · rename_i q
          rw [show cmc f g k = 0 from Decidable.not_not.mp (fun z => c ⟨z, q.1⟩), Int.zero_mul]
        · rfl
      rw [this, Int.add_zero]
/-- makes: the class's row is the reference's -/
theorem makes_row {f g m0 : Nat → Int} (h0 : ∀ p, p < 31 → m0 p = 0) (h : (cmF f g m0 2821).1 = 1) : ∀ p, p < 31 → (cmF f g m0 2821).2 p = imM f g 31 p := by
  intro p hp
  rw [cmF_2 h0 2821 h p hp, show 2821 = 31 * 91 from rfl, smk_blk, smk_sw]
  unfold imM imV
  refine smk_cong fun n hn => ?_
  unfold imS
  rw [← smk_ml]
  refine smk_cong fun w hw => ?_
  unfold cmT cmt cmc
  rw [show (31 * w + n) / 31 = w by omega, show (31 * w + n) % 31 = n by omega]
  by_cases c : dw w ≤ n ∧ n - dw w + xw w = p
  · rw [if_pos c, if_pos c, ← Int.mul_assoc, Int.mul_comm (g n), Int.mul_emod, Int.emod_emod, ← Int.mul_emod]
  · rw [if_neg c, if_neg c, Int.mul_zero]
theorem makes_fit {f g m0 : Nat → Int} (hf : ∀ w, w < 91 → 0 ≤ f w ∧ f w < 10007) (hg : ∀ n, n < 31 → 0 ≤ g n ∧ g n < 10007) : fitN f g = 91 ↔ (cmF f g m0 2821).1 = 1 := by
  have hzl := zp_le g
  rw [cmF_1]
  constructor
  · intro e k hk h
    have hw : k / 31 < 91 := by omega
    have hn : k % 31 < 31 := by omega
    have := fitN_no (e := f) (c := g) (w := k / 31) (by omega)
    have hfw : f (k / 31) ≠ 0 := fun z => h.1 (by unfold cmc; rw [z, Int.zero_mul]; rfl)
    have hgn : g (k % 31) ≠ 0 := fun z => h.1 (by unfold cmc; rw [z, Int.mul_zero]; rfl)
    have hnz : k % 31 ≤ 30 - zp g ∧ zp g < 31 := by
      refine Decidable.not_not.mp fun z => hgn ?_
      have := zp_no (g := g) (k := 30 - k % 31) (by omega)
      rw [show 30 - (30 - k % 31) = k % 31 by omega] at this
      exact this
    have h2 := h.2
    unfold cmt at h2
    exact this ⟨hfw, by omega, by omega⟩
  · intro h
    refine Decidable.not_not.mp fun c => ?_
    have hle := fitN_le f g
    obtain ⟨a1, a2, a3⟩ := fitN_yes (e := f) (c := g) (by omega)
    have hw : fitN f g < 91 := by omega
    generalize fitN f g = w at *
    have hz : zp g ≠ 31 := by omega
    have hgn := zp_yes hz
    refine h (31 * w + (30 - zp g)) (by omega) ⟨?_, ?_⟩
    · unfold cmc
      rw [show (31 * w + (30 - zp g)) / 31 = w by omega, show (31 * w + (30 - zp g)) % 31 = 30 - zp g by omega]
      have b1 := hf w hw
      have b2 := hg (30 - zp g) (by omega)
      exact prm (by omega) (by omega)
    · unfold cmt
      rw [show (31 * w + (30 - zp g)) / 31 = w by omega, show (31 * w + (30 - zp g)) % 31 = 30 - zp g by omega]
      omega
