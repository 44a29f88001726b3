/-! The completion's states: dismissing and admitting keep staircase, crosses and leads. -/
/-- the cross of the k-th pair -/
def crs (s : C6) (k : Nat) : Nat → Int := sbr (Wo 0 (s.2.2.2.2.1 (k + 1) - s.2.2.2.2.1 k) (s.2.2.1 k)) (Wo (s.2.2.2.1 k - s.2.2.2.1 (k + 1)) 0 (s.2.2.1 (k + 1)))
/-- settled pairs: their crosses lie below the least common multiple -/
def Sv (o : Int) (G : (Nat → Int) → Nat → Prop) (s : C6) : Prop := ∀ k, k + 1 < s.1 → s.2.2.2.2.2 k = 1 → Vr o G (rk o (pl (s.2.2.2.1 k) (s.2.2.2.2.1 (k + 1)))) (crs s k)
/-- kept rows: their leads, brought to 1, a staircase -/
def Kp (o : Int) (s : C6) : Prop := (∀ k, k < s.1 → led o (s.2.2.1 k) = (pl (s.2.2.2.1 k) (s.2.2.2.2.1 k) : Nat) ∧ s.2.2.1 k (pl (s.2.2.2.1 k) (s.2.2.2.2.1 k)) = 1) ∧ ∀ k, k + 1 < s.1 → s.2.2.2.1 (k + 1) < s.2.2.2.1 k ∧ s.2.2.2.2.1 k < s.2.2.2.2.1 (k + 1)
/-- a kept lead divides the word -/
def Jw (s : C6) (p q : Nat) : Prop := ∃ k, k < s.1 ∧ s.2.2.2.1 k ≤ p ∧ s.2.2.2.2.1 k ≤ q
theorem sg_1 {g κ k : Nat} (h : k < g) : sgi g κ k = k := if_pos h
theorem sg_2 {g κ k : Nat} (h : g ≤ k) (h2 : k < κ) : sgi g κ k = k + 1 := by unfold sgi; rw [if_neg (by omega), if_pos h2]
theorem sg_3 {g κ : Nat} (h : g ≤ κ) : sgi g κ κ = g := by unfold sgi; rw [if_neg (by omega), if_neg (by omega), if_pos rfl]
theorem sg_4 {g κ k : Nat} (h : g ≤ κ) (h2 : κ < k) : sgi g κ k = k := by unfold sgi; rw [if_neg (by omega), if_neg (by omega), if_neg (by omega)]
theorem dm_K {o : Int} {s : C6} {g : Nat} (hg : g < s.1) (hK : Kp o s) : Kp o (dmP g s) := by
  obtain ⟨κ, ω, F, lx, ld, st⟩ := s
  obtain ⟨h1, h2⟩ := hK
  dsimp only at *
  refine ⟨fun k hk => ?_, fun k hk => ?_⟩
  · have hk : k < κ - 1 := hk
    show led o (F (sgi g κ k)) = (pl (lx (sgi g κ k)) (ld (sgi g κ k)) : Nat) ∧ F (sgi g κ k) (pl (lx (sgi g κ k)) (ld (sgi g κ k))) = 1
    by_cases c : k < g
    · rw [sg_1 c]; exact h1 k (by omega)
    · rw [sg_2 (by omega) (by omega)]; exact h1 (k + 1) (by omega)
  · have hk : k + 1 < κ - 1 := hk
    show lx (sgi g κ (k + 1)) < lx (sgi g κ k) ∧ ld (sgi g κ k) < ld (sgi g κ (k + 1))
    have a1 := h2 k (by omega)
    have a2 := h2 (k + 1) (by omega)
    by_cases c : k < g
    · rw [sg_1 c]
      by_cases c2 : k + 1 < g
      · rw [sg_1 c2]; exact a1
      · rw [sg_2 (by omega) (by omega)]; omega
    · rw [sg_2 (by omega) (by omega), sg_2 (by omega) (by omega)]; exact a2
theorem dm_S {o : Int} {G : (Nat → Int) → Nat → Prop} {s : C6} {g : Nat} (hg : g < s.1) (hS : Sv o G s) : Sv o G (dmP g s) := by
  obtain ⟨κ, ω, F, lx, ld, st⟩ := s
  unfold Sv crs at *
  intro k hk hs
  dsimp only [dmP] at *
  unfold sgs at hs
  by_cases e : k + 1 = g
  · rw [if_pos e] at hs; exact absurd hs (by decide)
  · rw [if_neg e] at hs
    by_cases c : k < g
    · rw [if_neg (by omega)] at hs
      rw [sg_1 c, sg_1 (by omega)]
      exact hS k (by omega) hs
    · rw [if_pos (by omega)] at hs
      rw [sg_2 (k := k) (by omega) (by omega), sg_2 (k := k + 1) (by omega) (by omega)]
      exact hS (k + 1) (by omega) hs
theorem dm_P {s : C6} {g : Nat} (hg : g < s.1) (hω : 1 ≤ s.2.1) : Pm (s.1 + s.2.1) s.2.2.1 (dmP g s).2.2.1 := by
  obtain ⟨κ, ω, F, lx, ld, st⟩ := s
  dsimp only [dmP] at *
  refine ⟨fun k hk => ?_, fun k hk => ?_⟩
  · by_cases c : k < g
    · exact ⟨k, hk, by dsimp only; rw [sg_1 c]⟩
    · by_cases c2 : k = g
      · exact ⟨κ, by omega, by dsimp only; rw [sg_3 (by omega), c2]⟩
      · by_cases c3 : k ≤ κ
        · exact ⟨k - 1, by omega, by dsimp only; rw [sg_2 (by omega) (by omega), show k - 1 + 1 = k by omega]⟩
        · exact ⟨k, hk, by dsimp only; rw [sg_4 (by omega) (by omega)]⟩
  · by_cases c : k < g
    · exact ⟨k, hk, by dsimp only; rw [sg_1 c]⟩
    · by_cases c3 : k < κ
      · exact ⟨k + 1, by omega, by dsimp only; rw [sg_2 (by omega) c3]⟩
      · by_cases c4 : k = κ
        · exact ⟨g, by omega, by dsimp only; rw [c4, sg_3 (by omega)]⟩
        · exact ⟨k, hk, by dsimp only; rw [sg_4 (by omega) (by omega)]⟩
theorem dm_J {s : C6} {g : Nat} (hg : g < s.1) (p q : Nat) : Jw s p q ↔ Jw (dmP g s) p q ∨ (s.2.2.2.1 g ≤ p ∧ s.2.2.2.2.1 g ≤ q) := by
  obtain ⟨κ, ω, F, lx, ld, st⟩ := s
  unfold Jw
  dsimp only [dmP] at *
  constructor
  · rintro ⟨k, hk, h⟩
    by_cases c : k < g
    · exact Or.inl ⟨k, by omega, by rw [sg_1 c]; exact h⟩
    · by_cases c2 : k = g
      · rw [c2] at h; exact Or.inr h
      · exact Or.inl ⟨k - 1, by omega, by rw [sg_2 (by omega) (by omega), show k - 1 + 1 = k by omega]; exact h⟩
  · rintro (⟨k, hk, h⟩ | h)
    · by_cases c : k < g
      · rw [sg_1 c] at h; exact ⟨k, by omega, h⟩
      · rw [sg_2 (by omega) (by omega)] at h; exact ⟨k + 1, by omega, h⟩
    · exact ⟨g, hg, h⟩
/-- the kept rows that a new lead divides wait again -/
theorem ds_ok {o : Int} {G : (Nat → Int) → Nat → Prop} {i j : Nat} (k : Nat) : ∀ s : C6, k ≤ s.1 → 1 ≤ s.2.1 → Kp o s → Sv o G s → (∀ m, m < s.1 → ¬ (s.2.2.2.1 m ≤ i ∧ s.2.2.2.2.1 m ≤ j)) → (∀ m, k ≤ m → m < s.1 → ¬ (i ≤ s.2.2.2.1 m ∧ j ≤ s.2.2.2.2.1 m)) →
    (dsL i j k s).1 + (dsL i j k s).2.1 = s.1 + s.2.1 ∧ 1 ≤ (dsL i j k s).2.1 ∧ Kp o (dsL i j k s) ∧ Sv o G (dsL i j k s) ∧ (∀ m, m < (dsL i j k s).1 → ¬ ((dsL i j k s).2.2.2.1 m ≤ i ∧ (dsL i j k s).2.2.2.2.1 m ≤ j)) ∧ (∀ m, m < (dsL i j k s).1 → ¬ (i ≤ (dsL i j k s).2.2.2.1 m ∧ j ≤ (dsL i j k s).2.2.2.2.1 m)) ∧ (dsL i j k s).2.2.1 (dsL i j k s).1 = s.2.2.1 s.1 ∧ Pm (s.1 + s.2.1) s.2.2.1 (dsL i j k s).2.2.1 ∧ ∀ p q, (Jw s p q ∨ (i ≤ p ∧ j ≤ q)) ↔ (Jw (dsL i j k s) p q ∨ (i ≤ p ∧ j ≤ q)) := by
  induction k with
  | zero => intro s _ hω hK hS hn hd; exact ⟨rfl, hω, hK, hS, hn, fun m hm => hd m (Nat.zero_le _) hm, rfl, Pm_r _ _, fun p q => Iff.rfl⟩
  | succ k ih =>
    intro s hk hω hK hS hn hd
    show (dsL i j k (if i ≤ s.2.2.2.1 k ∧ j ≤ s.2.2.2.2.1 k then dmP k s else s)).1 + (dsL i j k (if i ≤ s.2.2.2.1 k ∧ j ≤ s.2.2.2.2.1 k then dmP k s else s)).2.1 = _ ∧ _
    rw [show dsL i j (k + 1) s = dsL i j k (if i ≤ s.2.2.2.1 k ∧ j ≤ s.2.2.2.2.1 k then dmP k s else s) from rfl]
    by_cases c : i ≤ s.2.2.2.1 k ∧ j ≤ s.2.2.2.2.1 k
    · rw [if_pos c]
      have e1 : (dmP k s).1 = s.1 - 1 := rfl
      have e2 : (dmP k s).2.1 = s.2.1 + 1 := rfl
      have hm : ∀ m, m < s.1 - 1 → ∃ m', m' < s.1 ∧ (k ≤ m → m' = m + 1) ∧ (dmP k s).2.2.2.1 m = s.2.2.2.1 m' ∧ (dmP k s).2.2.2.2.1 m = s.2.2.2.2.1 m' := fun m hm => by
        by_cases c2 : m < k
        · refine ⟨m, by omega, by omega, ?_, ?_⟩
          · show s.2.2.2.1 (sgi k s.1 m) = _; rw [sg_1 c2]
          · show s.2.2.2.2.1 (sgi k s.1 m) = _; rw [sg_1 c2]
        · refine ⟨m + 1, by omega, fun _ => rfl, ?_, ?_⟩
          · show s.2.2.2.1 (sgi k s.1 m) = _; rw [sg_2 (by omega) (by omega)]
          · show s.2.2.2.2.1 (sgi k s.1 m) = _; rw [sg_2 (by omega) (by omega)]
      obtain ⟨r1, r2, r3, r4, r5, r6, r7, r8, r9⟩ := ih (dmP k s) (by omega) (by omega) (dm_K (by omega) hK) (dm_S (by omega) hS) (fun m h => by
        obtain ⟨m', a1, _, a2, a3⟩ := hm m (by omega)
        rw [a2, a3]; exact hn m' a1) (fun m h1 h => by
        obtain ⟨m', a1, a4, a2, a3⟩ := hm m (by omega)
        rw [a2, a3]; exact hd m' (by have := a4 h1; omega) a1)
      rw [e1, e2] at r1 r8
      rw [show s.1 - 1 + (s.2.1 + 1) = s.1 + s.2.1 by omega] at r1 r8
      refine ⟨r1, r2, r3, r4, r5, r6, ?_, Pm_t (dm_P (by omega) hω) r8, fun p q => ?_⟩
      · rw [r7]
        show s.2.2.1 (sgi k s.1 (s.1 - 1)) = _
        rw [sg_2 (by omega) (by omega), show s.1 - 1 + 1 = s.1 by omega]
      · rw [← r9 p q, dm_J (show k < s.1 by omega) p q]
        constructor
        · rintro ((h | h) | h)
          · exact Or.inl h
          · exact Or.inr ⟨by omega, by omega⟩
          · exact Or.inr h
        · rintro (h | h)
          · exact Or.inl (Or.inl h)
          · exact Or.inr h
    · rw [if_neg c]
      exact ih s (by omega) hω hK hS hn (fun m h1 h => by
        by_cases e : m = k
        · rw [e]; exact c
        · exact hd m (by omega) h)
theorem ta_1 {p κ k : Nat} (h : k < p) : tai p κ k = k := if_pos h
theorem ta_2 (p κ : Nat) : tai p κ p = κ := by unfold tai; rw [if_neg (by omega), if_pos rfl]
theorem ta_3 {p κ k : Nat} (h : p < k) (h2 : k ≤ κ) : tai p κ k = k - 1 := by unfold tai; rw [if_neg (by omega), if_neg (by omega), if_pos h2]
theorem ta_4 {p κ k : Nat} (h : p < k) (h2 : κ < k) : tai p κ k = k := by unfold tai; rw [if_neg (by omega), if_neg (by omega), if_neg (by omega)]
theorem plc_ok {lx : Nat → Nat} {κ i : Nat} : plc lx κ i ≤ κ ∧ (∀ m, κ - plc lx κ i ≤ m → m < κ → lx m < i) ∧ (plc lx κ i < κ → i ≤ lx (κ - plc lx κ i - 1)) := by
  have h1 := fnd_le (fun t => decide (¬ lx (κ - 1 - t) < i)) κ
  refine ⟨h1, fun m hm hk => ?_, fun h => ?_⟩
  · have hm : κ - fnd (fun t => decide (¬ lx (κ - 1 - t) < i)) κ ≤ m := hm
    have := of_decide_eq_false (fnd_no (p := fun t => decide (¬ lx (κ - 1 - t) < i)) (n := κ) (k := κ - 1 - m) (by omega))
    rw [show κ - 1 - (κ - 1 - m) = m by omega] at this
    exact Decidable.not_not.mp this
  · have h : fnd (fun t => decide (¬ lx (κ - 1 - t) < i)) κ < κ := h
    have := of_decide_eq_true (fnd_yes h)
    unfold plc
    rw [show κ - fnd (fun t => decide (¬ lx (κ - 1 - t) < i)) κ - 1 = κ - 1 - fnd (fun t => decide (¬ lx (κ - 1 - t) < i)) κ by omega]
    omega
/-- a row is admitted -/
theorem ad_ok {o : Int} {G : (Nat → Int) → Nat → Prop} {s : C6} {i j : Nat} (hω : 1 ≤ s.2.1) (hK : Kp o s) (hS : Sv o G s) (hl : led o (s.2.2.1 s.1) = (pl i j : Nat)) (h1 : s.2.2.1 s.1 (pl i j) = 1) (hn : ∀ m, m < s.1 → ¬ (s.2.2.2.1 m ≤ i ∧ s.2.2.2.2.1 m ≤ j)) (hd : ∀ m, m < s.1 → ¬ (i ≤ s.2.2.2.1 m ∧ j ≤ s.2.2.2.2.1 m)) :
    Kp o (adP i j s) ∧ Sv o G (adP i j s) ∧ Pm (s.1 + s.2.1) s.2.2.1 (adP i j s).2.2.1 ∧ ∀ p q, Jw (adP i j s) p q ↔ Jw s p q ∨ (i ≤ p ∧ j ≤ q) := by
  obtain ⟨κ, ω, F, lx, ld, st⟩ := s
  obtain ⟨k1, k2⟩ := hK
  unfold Kp Sv crs Jw at *
  dsimp only [adP] at *
  obtain ⟨p1, p2, p3⟩ := plc_ok (lx := lx) (κ := κ) (i := i)
  generalize plc lx κ i = t at *
  obtain ⟨p, hp⟩ : ∃ p, p = κ - t := ⟨_, rfl⟩
  rw [← hp] at p2 p3 ⊢
  have hpk : p ≤ κ := by omega
  refine ⟨⟨fun k hk => ?_, fun k hk => ?_⟩, fun k hk hs => ?_, ⟨fun k hk => ?_, fun k hk => ?_⟩, fun a b => ⟨?_, ?_⟩⟩
  · by_cases c : k = p
    · rw [if_pos c, if_pos c, c, ta_2]; exact ⟨hl, h1⟩
    · rw [if_neg c, if_neg c]
      by_cases c2 : k < p
      · rw [ta_1 c2]; exact k1 k (by omega)
      · rw [ta_3 (by omega) (by omega)]; exact k1 (k - 1) (by omega)
  · by_cases c : k < p
    · by_cases c2 : k + 1 = p
      · rw [if_pos c2, if_pos c2, if_neg (by omega), if_neg (by omega), ta_1 c]
        have a1 := p3 (by omega)
        rw [show p - 1 = k by omega] at a1
        have a2 := hn k (by omega)
        have a3 := hd k (by omega)
        omega
      · rw [if_neg c2, if_neg c2, if_neg (by omega), if_neg (by omega), ta_1 c, ta_1 (by omega)]
        exact k2 k (by omega)
    · by_cases c2 : k = p
      · rw [if_neg (show ¬ k + 1 = p by omega), if_neg (show ¬ k + 1 = p by omega), if_pos c2, if_pos c2, ta_3 (by omega) (by omega), show k + 1 - 1 = k by omega]
        have a1 := p2 k (by omega) (by omega)
        have a2 := hn k (by omega)
        omega
      · rw [if_neg (show ¬ k + 1 = p by omega), if_neg (show ¬ k + 1 = p by omega), if_neg c2, if_neg c2, ta_3 (k := k) (by omega) (by omega), ta_3 (k := k + 1) (by omega) (by omega)]
        have := k2 (k - 1) (by omega)
        rw [show k - 1 + 1 = k by omega] at this
        rw [show k + 1 - 1 = k by omega]
        exact this
  · unfold tas at hs
    by_cases e : k = p ∨ k + 1 = p
    · rw [if_pos e] at hs; exact absurd hs (by decide)
    · rw [if_neg e] at hs
      by_cases c : p < k
      · rw [if_pos (by omega)] at hs
        rw [if_neg (by omega), if_neg (by omega), if_neg (by omega), if_neg (by omega), ta_3 (k := k) (by omega) (by omega), ta_3 (k := k + 1) (by omega) (by omega), show k + 1 - 1 = k by omega]
        have := hS (k - 1) (by omega) hs
        rw [show k - 1 + 1 = k by omega] at this
        exact this
      · rw [if_neg (by omega)] at hs
        rw [if_neg (by omega), if_neg (by omega), if_neg (by omega), if_neg (by omega), ta_1 (by omega), ta_1 (by omega)]
        exact hS k (by omega) hs
  · by_cases c : k < p
    · exact ⟨k, hk, by dsimp only; rw [ta_1 c]⟩
    · by_cases c2 : k < κ
      · exact ⟨k + 1, by omega, by dsimp only; rw [ta_3 (by omega) (by omega), show k + 1 - 1 = k by omega]⟩
      · by_cases c3 : k = κ
        · exact ⟨p, by omega, by dsimp only; rw [ta_2, c3]⟩
        · exact ⟨k, hk, by dsimp only; rw [ta_4 (by omega) (by omega)]⟩
  · by_cases c : k < p
    · exact ⟨k, hk, by dsimp only; rw [ta_1 c]⟩
    · by_cases c2 : k = p
      · exact ⟨κ, by omega, by dsimp only; rw [c2, ta_2]⟩
      · by_cases c3 : k ≤ κ
        · exact ⟨k - 1, by omega, by dsimp only; rw [ta_3 (by omega) c3]⟩
        · exact ⟨k, hk, by dsimp only; rw [ta_4 (by omega) (by omega)]⟩
  · rintro ⟨k, hk, h⟩
    by_cases c : k = p
    · rw [if_pos c, if_pos c] at h; exact Or.inr h
    · rw [if_neg c, if_neg c] at h
      by_cases c2 : k < p
      · rw [ta_1 c2] at h; exact Or.inl ⟨k, by omega, h⟩
      · rw [ta_3 (by omega) (by omega)] at h; exact Or.inl ⟨k - 1, by omega, h⟩
  · rintro (⟨k, hk, h⟩ | h)
    · by_cases c : k < p
      · exact ⟨k, by omega, by rw [if_neg (by omega), if_neg (by omega), ta_1 c]; exact h⟩
      · exact ⟨k + 1, by omega, by rw [if_neg (by omega), if_neg (by omega), ta_3 (by omega) (by omega), show k + 1 - 1 = k by omega]; exact h⟩
    · exact ⟨p, by omega, by rw [if_pos rfl, if_pos rfl]; exact h⟩
