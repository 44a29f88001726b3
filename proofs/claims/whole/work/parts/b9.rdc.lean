/-! Readers: where a text is no expression. -/
theorem skb_u {T : Nat → Int} {b p q : Nat} (h1 : p ≤ q) (h2 : q ≤ b) (h3 : ∀ k, p ≤ k → k < q → T k = 32) (h4 : q = b ∨ ¬ T q = 32) : skb T b p = q := by
  obtain ⟨a1, a2⟩ := skb_le (T := T) (show p ≤ b by omega)
  rcases Nat.lt_trichotomy (skb T b p) q with c | c | c
  · exact absurd (h3 _ a1 c) (skb_yes (by omega))
  · exact c
  · have h5 := skb_no (T := T) (b := b) (p := p) (k := q - p) (by omega)
    rw [show p + (q - p) = q by omega] at h5
    rcases h4 with z | z
    · omega
    · exact absurd h5 z
theorem skb_0 {T : Nat → Int} {b p : Nat} (h : p ≤ b) (h2 : p = b ∨ ¬ T p = 32) : skb T b p = p := skb_u (Nat.le_refl _) h (fun k a c => by omega) h2
theorem skb_s {T : Nat → Int} {b p : Nat} (h : p < b) (h2 : T p = 32) : skb T b p = skb T b (p + 1) := by
  obtain ⟨a1, a2⟩ := skb_le (T := T) (show p + 1 ≤ b by omega)
  refine skb_u (by omega) a2 (fun k h3 h4 => ?_) ?_
  · by_cases c : k = p
    · rw [c]; exact h2
    · have := skb_no (T := T) (b := b) (p := p + 1) (k := k - (p + 1)) (by omega)
      rw [show p + 1 + (k - (p + 1)) = k by omega] at this
      exact this
  · by_cases c : skb T b (p + 1) = b
    · exact Or.inl c
    · exact Or.inr (skb_yes (by omega))
theorem skb_e {T : Nat → Int} {b p : Nat} (h : p ≤ b) : skb T b p = b ∨ ¬ T (skb T b p) = 32 := by
  have := (skb_le (T := T) h).2
  by_cases c : skb T b p = b
  · exact Or.inl c
  · exact Or.inr (skb_yes (by omega))
theorem skb_i {T : Nat → Int} {b p : Nat} (h : p ≤ b) : skb T b (skb T b p) = skb T b p := skb_0 (skb_le h).2 (skb_e h)
theorem bt_s {T : Nat → Int} {b p : Nat} (h : p < b) : bt T b p = T p := if_pos h
theorem bt_n {T : Nat → Int} {b p : Nat} (h : ¬ p < b) : bt T b p = -1 := if_neg h
/-- figures, at most n -/
theorem cdg_dgc {T : Nat → Int} {b n p : Nat} : cdg T b n p = min n (dgc T b p) := by
  have h1 := cdg_le T b n p
  have h2 := dgc_le T b p
  have h3 : cdg T b n p ≤ dgc T b p := Nat.le_of_not_lt fun z => by
    have a1 := cdg_no z
    have a2 := bt_t (show 0 ≤ bt T b (p + dgc T b p) by omega)
    rw [a2.2] at a1
    exact dgc_yes (by omega) a1
  by_cases c : cdg T b n p = n
  · omega
  · have a1 := cdg_yes (T := T) (b := b) (n := n) (p := p) (by omega)
    have h4 : ¬ cdg T b n p < dgc T b p := fun z => by
      have a2 := dgc_no z
      rw [bt_s (by omega)] at a1
      exact a1 a2
    omega
/-- the fault of a text from a place on -/
def FL (T : Nat → Int) (b p m o : Nat) : Int := flG T b (b - p + 1) p m o
theorem flG_f {T : Nat → Int} {b : Nat} (hb : b ≤ 120) (N : Nat) : ∀ p m o n n', b - p ≤ N → b - p < n → b - p < n' → p ≤ b → m ≤ 4 → o ≤ 8 → flG T b n p m o = flG T b n' p m o := by
  induction N with
  | zero =>
    intro p m o n n' h1 h2 h3 h4 h5 h6
    obtain ⟨n, rfl⟩ : ∃ k, n = k + 1 := ⟨n - 1, by omega⟩
    obtain ⟨n', rfl⟩ : ∃ k, n' = k + 1 := ⟨n' - 1, by omega⟩
    unfold flG
    rw [if_neg (show ¬ p < b by omega), if_neg (show ¬ p < b by omega)]
  | succ N ih =>
    intro p m o n n' h1 h2 h3 h4 h5 h6
    obtain ⟨n, rfl⟩ : ∃ k, n = k + 1 := ⟨n - 1, by omega⟩
    obtain ⟨n', rfl⟩ : ∃ k, n' = k + 1 := ⟨n' - 1, by omega⟩
    unfold flG
    by_cases c : p < b
    · rw [if_pos c, if_pos c]
      obtain ⟨a1, a2, a3, a4⟩ := stp_ok (T := T) hb c h5 h6
      by_cases c2 : (stp T b p m o).1 < 0
      · rw [if_pos c2, if_pos c2]
      · rw [if_neg c2, if_neg c2]
        have := a1 (by omega)
        exact ih _ _ _ _ _ (by omega) (by omega) (by omega) (by omega) a3 a4
    · rw [if_neg c, if_neg c]
theorem FL_e {T : Nat → Int} {b m o : Nat} : FL T b b m o = if (m = 2 ∨ m = 4) ∧ o = 0 then (-1 : Int) else ((b : Nat) : Int) := by
  unfold FL
  rw [Nat.sub_self]
  unfold flG
  rw [if_neg (Nat.lt_irrefl b)]
theorem FL_s {T : Nat → Int} {b p m o : Nat} (hb : b ≤ 120) (hp : p < b) (hm : m ≤ 4) (ho : o ≤ 8) : FL T b p m o = if (stp T b p m o).1 < 0 then -1 - (stp T b p m o).1 else FL T b (stp T b p m o).1.toNat (stp T b p m o).2.1 (stp T b p m o).2.2 := by
  obtain ⟨a1, a2, a3, a4⟩ := stp_ok (T := T) hb hp hm ho
  unfold FL
  rw [show b - p + 1 = (b - p) + 1 from rfl]
  rw [show flG T b (b - p + 1) p m o = if p < b then (if (stp T b p m o).1 < 0 then -1 - (stp T b p m o).1 else flG T b (b - p) (stp T b p m o).1.toNat (stp T b p m o).2.1 (stp T b p m o).2.2) else (if (m = 2 ∨ m = 4) ∧ o = 0 then (-1 : Int) else ((b : Nat) : Int)) from rfl, if_pos hp]
  by_cases c2 : (stp T b p m o).1 < 0
  · rw [if_pos c2, if_pos c2]
  · rw [if_neg c2, if_neg c2]
    have := a1 (by omega)
    exact flG_f hb _ _ _ _ _ _ (Nat.le_refl _) (by omega) (by omega) (by omega) a3 a4
theorem FL_k {T : Nat → Int} {b m o : Nat} (hb : b ≤ 120) (hm : m ≤ 4) (ho : o ≤ 8) (N : Nat) : ∀ p, b - p ≤ N → p ≤ b → FL T b p m o = FL T b (skb T b p) m o := by
  induction N with
  | zero => intro p h1 h2; rw [skb_0 h2 (Or.inl (by omega))]
  | succ N ih =>
    intro p h1 h2
    by_cases c : p < b ∧ T p = 32
    · rw [skb_s c.1 c.2, ← ih (p + 1) (by omega) (by omega), FL_s hb c.1 hm ho]
      have e : stp T b p m o = ((p : Int) + 1, m, o) := by
        unfold stp
        rw [bt_s c.1, if_pos c.2]
      rw [e, if_neg (by show ¬ (p : Int) + 1 < 0; omega)]
      show FL T b ((p : Int) + 1).toNat m o = _
      rw [show ((p : Int) + 1).toNat = p + 1 by omega]
    · rw [skb_0 h2 (by
        by_cases c2 : p = b
        · exact Or.inl c2
        · exact Or.inr fun z => c ⟨by omega, z⟩)]
/-- a step at a byte that is no blank -/
theorem FL_p {T : Nat → Int} {b p m o : Nat} (hb : b ≤ 120) (hp : p < b) (hm : m ≤ 4) (ho : o ≤ 8) (hn : ¬ T p = 32) {r : Int × Nat × Nat} (hr : psR T b p m o = r) : FL T b p m o = if r.1 < 0 then -1 - r.1 else FL T b r.1.toNat r.2.1 r.2.2 := by
  have e : stp T b p m o = r := by
    unfold stp
    rw [bt_s hp, if_neg hn, hr]
  rw [FL_s hb hp hm ho, e]
/-- the reference's state and the class's mode -/
def Cor (T : Nat → Int) (b p : Nat) (la mm : Int) (m : Nat) : Prop := (la = 1 ∧ mm = 1 ∧ m = 0) ∨ (la = 1 ∧ mm = 0 ∧ m = 1) ∨ (la = 0 ∧ (m = 4 ∨ (m = 2 ∧ ¬ (p < b ∧ T p = 94))))
theorem Cor_m {T : Nat → Int} {b p : Nat} {la mm : Int} {m : Nat} (h : Cor T b p la mm m) : m ≤ 4 := by
  rcases h with h | h | h <;> omega
/-- behind a base -/
theorem pw_ctl {w : Int} {T : Nat → Int} {b p e : Nat} {mm fu : Int} {mi hp : Nat → Int} {su pr : Nat → Nat → Int} {y : Nat → Int} (hb : b ≤ 120) (hp0 : p ≤ b) (he : e ≤ 8) : ((pwR w T b p e mm fu mi hp su pr y).1 = 0 ∧ FL T b p 2 e = ((pwR w T b p e mm fu mi hp su pr y).2.1 : Nat)) ∨ ((pwR w T b p e mm fu mi hp su pr y).1 = 1 ∧ ∃ m', p ≤ (pwR w T b p e mm fu mi hp su pr y).2.2.1 ∧ (pwR w T b p e mm fu mi hp su pr y).2.2.1 ≤ b ∧ (pwR w T b p e mm fu mi hp su pr y).2.2.2.1 = e ∧ FL T b p 2 e = FL T b (skb T b (pwR w T b p e mm fu mi hp su pr y).2.2.1) m' e ∧ Cor T b (skb T b (pwR w T b p e mm fu mi hp su pr y).2.2.1) (pwR w T b p e mm fu mi hp su pr y).2.2.2.2.1 (pwR w T b p e mm fu mi hp su pr y).2.2.2.2.2.1 m') := by
  obtain ⟨k1, k2⟩ := skb_le (T := T) hp0
  have f1 := FL_k (T := T) (m := 2) (o := e) hb (by decide) he _ p (Nat.le_refl _) hp0
  unfold pwR
  by_cases c : pwc T b p
  · rw [if_pos c]
    have c1 : skb T b p < b := c.1
    have c2 : T (skb T b p) = 94 := c.2
    have f2 := FL_p (T := T) (p := skb T b p) (m := 2) (o := e) hb c1 (by decide) he (by omega) (r := (((skb T b p : Nat) : Int) + 1, 3, e)) (by
      unfold psR plR
      rw [bt_s c1, if_neg (by decide), if_neg (by decide), if_neg (by decide), if_pos ⟨c2, rfl⟩])
    rw [if_neg (by show ¬ ((skb T b p : Nat) : Int) + 1 < 0; omega)] at f2
    have f2 : FL T b (skb T b p) 2 e = FL T b (((skb T b p : Nat) : Int) + 1).toNat 3 e := f2
    rw [show (((skb T b p : Nat) : Int) + 1).toNat = skb T b p + 1 by omega] at f2
    have f3 := FL_k (T := T) (m := 3) (o := e) hb (by decide) he _ (skb T b p + 1) (Nat.le_refl _) (by omega)
    obtain ⟨l1, l2⟩ := skb_le (T := T) (show skb T b p + 1 ≤ b by omega)
    have l3 := skb_e (T := T) (show skb T b p + 1 ≤ b by omega)
    have e3 : pw3 T b p = skb T b (skb T b p + 1) := rfl
    rw [← e3] at f3 l1 l2 l3
    rw [f1, f2, f3]
    have hd := dgc_le T b (pw3 T b p)
    by_cases cb : pw3 T b p = b
    · rw [if_neg (show ¬ pwk T b p from fun z => by have := z.1; omega)]
      refine Or.inl ⟨rfl, ?_⟩
      show _ = ((pww T b p : Nat) : Int)
      rw [show pww T b p = pw3 T b p from if_neg (by omega), cb, FL_e]
      exact if_neg (by omega)
    · have hlt : pw3 T b p < b := by omega
      have f4 := FL_p (T := T) (p := pw3 T b p) (m := 3) (o := e) hb hlt (by decide) he (l3.resolve_left cb) (r := peR T b (pw3 T b p) 3 e) (by
        unfold psR
        rw [if_neg (by decide), if_neg (by decide), if_pos rfl])
      have f5 : peR T b (pw3 T b p) 3 e = if cdg T b 3 (pw3 T b p) = 0 then (-1 - ((pw3 T b p : Nat) : Int), 3, e) else if cdg T b 3 (pw3 T b p) = 3 then (-1 - (((pw3 T b p : Nat) : Int) + 2), 3, e) else if 12 < fgv T (pw3 T b p) (cdg T b 3 (pw3 T b p)) then (-1 - ((pw3 T b p : Nat) : Int), 3, e) else (((pw3 T b p : Nat) : Int) + (cdg T b 3 (pw3 T b p) : Nat), 4, e) := rfl
      rw [cdg_dgc] at f5
      by_cases d0 : dgc T b (pw3 T b p) = 0
      · rw [if_pos (show min 3 (dgc T b (pw3 T b p)) = 0 by omega)] at f5
        rw [f5] at f4
        rw [if_neg (show ¬ pwk T b p from fun z => by have := z.1; omega)]
        refine Or.inl ⟨rfl, f4.trans ?_⟩
        show (if -1 - ((pw3 T b p : Nat) : Int) < 0 then -1 - (-1 - ((pw3 T b p : Nat) : Int)) else _) = ((pww T b p : Nat) : Int)
        rw [show pww T b p = pw3 T b p from if_neg (by omega), if_pos (by omega)]
        omega
      · rw [if_neg (show ¬ min 3 (dgc T b (pw3 T b p)) = 0 by omega)] at f5
        by_cases d3 : 2 < dgc T b (pw3 T b p)
        · rw [if_pos (show min 3 (dgc T b (pw3 T b p)) = 3 by omega)] at f5
          rw [f5] at f4
          rw [if_neg (show ¬ pwk T b p from fun z => by have := z.2.1; omega)]
          refine Or.inl ⟨rfl, f4.trans ?_⟩
          show (if -1 - (((pw3 T b p : Nat) : Int) + 2) < 0 then -1 - (-1 - (((pw3 T b p : Nat) : Int) + 2)) else _) = ((pww T b p : Nat) : Int)
          rw [show pww T b p = pw3 T b p + 2 from if_pos d3, if_pos (by omega)]
          omega
        · rw [if_neg (show ¬ min 3 (dgc T b (pw3 T b p)) = 3 by omega), show min 3 (dgc T b (pw3 T b p)) = dgc T b (pw3 T b p) by omega] at f5
          by_cases d4 : 12 < fgv T (pw3 T b p) (dgc T b (pw3 T b p))
          · rw [if_pos d4] at f5
            rw [f5] at f4
            rw [if_neg (show ¬ pwk T b p from fun z => by have := z.2.2; omega)]
            refine Or.inl ⟨rfl, f4.trans ?_⟩
            show (if -1 - ((pw3 T b p : Nat) : Int) < 0 then -1 - (-1 - ((pw3 T b p : Nat) : Int)) else _) = ((pww T b p : Nat) : Int)
            rw [show pww T b p = pw3 T b p from if_neg (by omega), if_pos (by omega)]
            omega
          · rw [if_neg d4] at f5
            rw [f5] at f4
            rw [if_pos (show pwk T b p from ⟨by omega, by omega, by omega⟩)]
            refine Or.inr ⟨rfl, 4, ?_, ?_, rfl, f4.trans ?_, Or.inr (Or.inr ⟨rfl, Or.inl rfl⟩)⟩
            · show p ≤ pw3 T b p + dgc T b (pw3 T b p); omega
            · show pw3 T b p + dgc T b (pw3 T b p) ≤ b; omega
            · show (if ((pw3 T b p : Nat) : Int) + (dgc T b (pw3 T b p) : Nat) < 0 then _ else FL T b (((pw3 T b p : Nat) : Int) + (dgc T b (pw3 T b p) : Nat)).toNat 4 e) = FL T b (skb T b (pw3 T b p + dgc T b (pw3 T b p))) 4 e
              rw [if_neg (by omega), show (((pw3 T b p : Nat) : Int) + (dgc T b (pw3 T b p) : Nat)).toNat = pw3 T b p + dgc T b (pw3 T b p) by omega]
              exact FL_k hb (by decide) he _ _ (Nat.le_refl _) (by omega)
  · rw [if_neg c]
    refine Or.inr ⟨rfl, 2, k1, k2, rfl, ?_, ?_⟩
    · show _ = FL T b (skb T b (skb T b p)) 2 e
      rw [skb_i hp0]; exact f1
    · show Cor T b (skb T b (skb T b p)) 0 mm 2
      rw [skb_i hp0]
      exact Or.inr (Or.inr ⟨rfl, Or.inr ⟨rfl, c⟩⟩)
