/-! Readers: a step, and the whole text's fault. -/
/-- what a step of the reference says of the class's fault -/
def Stc2 (T : Nat → Int) (b p m e : Nat) (r : Int × Nat × rdT) : Prop := (r.1 = 0 ∧ FL T b p m e = (r.2.1 : Nat)) ∨ (r.1 = 1 ∧ ∃ m', p < r.2.2.1 ∧ r.2.2.1 ≤ b ∧ r.2.2.2.1 ≤ 8 ∧ FL T b p m e = FL T b (skb T b r.2.2.1) m' r.2.2.2.1 ∧ Cor T b (skb T b r.2.2.1) r.2.2.2.2.1 r.2.2.2.2.2.1 m')
theorem st_pw {w : Int} {T : Nat → Int} {b p m e q e' : Nat} {mm fu : Int} {mi hp : Nat → Int} {su pr : Nat → Nat → Int} {y : Nat → Int} (hb : b ≤ 120) (hq : q ≤ b) (hpq : p < q) (he : e' ≤ 8) (h : FL T b p m e = FL T b q 2 e') : Stc2 T b p m e (pwR w T b q e' mm fu mi hp su pr y) := by
  rcases pw_ctl (w := w) (T := T) (b := b) (p := q) (e := e') (mm := mm) (fu := fu) (mi := mi) (hp := hp) (su := su) (pr := pr) (y := y) hb hq he with ⟨h1, h2⟩ | ⟨h1, m', h2, h3, h4, h5, h6⟩
  · exact Or.inl ⟨h1, h.trans h2⟩
  · refine Or.inr ⟨h1, m', by omega, h3, by omega, ?_, h6⟩
    rw [h4]
    exact h.trans h5
theorem FL_go {T : Nat → Int} {b p m o q m' o' : Nat} (hb : b ≤ 120) (hp : p < b) (hm : m ≤ 4) (ho : o ≤ 8) (hn : ¬ T p = 32) (hr : psR T b p m o = (((q : Nat) : Int), m', o')) : FL T b p m o = FL T b q m' o' := by
  rw [FL_p hb hp hm ho hn hr, if_neg (show ¬ ((q : Nat) : Int) < 0 by omega)]
  show FL T b (((q : Nat) : Int)).toNat m' o' = _
  rw [Int.toNat_natCast]
theorem FL_no {T : Nat → Int} {b p m o q m' o' : Nat} (hb : b ≤ 120) (hp : p < b) (hm : m ≤ 4) (ho : o ≤ 8) (hn : ¬ T p = 32) (hr : psR T b p m o = (-1 - ((q : Nat) : Int), m', o')) : FL T b p m o = ((q : Nat) : Int) := by
  rw [FL_p hb hp hm ho hn hr, if_pos (show -1 - ((q : Nat) : Int) < 0 by omega)]
  show -1 - (-1 - ((q : Nat) : Int)) = _
  omega
theorem dgc_0 {T : Nat → Int} {b p : Nat} (h : p < b) (h2 : ¬ (48 ≤ T p ∧ T p ≤ 57)) : dgc T b p = 0 := by
  refine Nat.eq_zero_of_not_pos fun z => h2 ?_
  have := dgc_no (T := T) (b := b) (p := p) (k := 0) z
  exact this
theorem dgc_p {T : Nat → Int} {b p : Nat} (h : p < b) (h2 : 48 ≤ T p ∧ T p ≤ 57) : 0 < dgc T b p := Nat.pos_of_ne_zero fun z => by
  have := dgc_yes (T := T) (b := b) (p := p) (by omega)
  rw [z] at this
  exact this h2
theorem st_ctl {w : Int} {T : Nat → Int} {b : Nat} {s : rdT} {m : Nat} (hb : b ≤ 120) (hp : s.1 < b) (hn : ¬ T s.1 = 32) (he : s.2.1 ≤ 8) (hc : Cor T b s.1 s.2.2.1 s.2.2.2.1 m) : Stc2 T b s.1 m s.2.1 (stR w T b s) := by
  obtain ⟨p, e, la, mm, fu, mi, hp', su, pr⟩ := s
  dsimp only at hp hn he hc ⊢
  have hm := Cor_m hc
  have hk := fun (m o q : Nat) (h1 : m ≤ 4) (h2 : o ≤ 8) (h3 : q ≤ b) => FL_k (T := T) (m := m) (o := o) hb h1 h2 _ q (Nat.le_refl _) h3
  have hbt : bt T b p = T p := bt_s hp
  unfold stR
  dsimp only
  have hop : (m = 0 ∨ m = 1) → ¬ (m = 0 ∧ T p = 45) → psR T b p m e = poR T b p m e := fun h1 h2 => by
    unfold psR
    rw [hbt]
    rcases h1 with z | z
    · rw [if_pos z, if_neg (fun q => h2 ⟨z, q⟩)]
    · rw [if_neg (by omega), if_pos z]
  by_cases cl : la = 1
  · rw [if_pos cl]
    have hm01 : m = 0 ∨ m = 1 := by rcases hc with h | h | h <;> omega
    have hmm : (mm = 1 ↔ m = 0) := by rcases hc with h | h | h <;> omega
    unfold fcR
    by_cases c1 : T p = 45 ∧ mm = 1
    · rw [if_pos c1]
      have hm0 := hmm.mp c1.2
      have f := FL_go hb hp hm he hn (q := p + 1) (m' := 1) (o' := e) (by
        unfold psR
        rw [hbt, if_pos hm0, if_pos c1.1]
        rfl)
      refine Or.inr ⟨rfl, 1, Nat.lt_succ_self _, hp, he, ?_, Or.inr (Or.inl ⟨cl, rfl, rfl⟩)⟩
      rw [f]
      exact hk 1 e (p + 1) (by decide) he hp
    · rw [if_neg c1]
      have hq := hop hm01 (fun z => c1 ⟨z.2, hmm.mpr z.1⟩)
      unfold poR at hq
      rw [hbt, cdg_dgc] at hq
      by_cases c2 : T p = 40
      · rw [if_pos c2]
        rw [if_pos c2] at hq
        by_cases c3 : e = 8
        · rw [if_pos c3]
          rw [if_pos (by omega)] at hq
          exact Or.inl ⟨rfl, FL_no hb hp hm he hn hq⟩
        · rw [if_neg c3]
          rw [if_neg (by omega)] at hq
          have f := FL_go hb hp hm he hn (q := p + 1) (m' := 0) (o' := e + 1) hq
          refine Or.inr ⟨rfl, 0, Nat.lt_succ_self _, hp, by show e + 1 ≤ 8; omega, ?_, Or.inl ⟨rfl, rfl, rfl⟩⟩
          rw [f]
          exact hk 0 (e + 1) (p + 1) (by decide) (by omega) hp
      · rw [if_neg c2]
        rw [if_neg c2] at hq
        by_cases c4 : 48 ≤ T p ∧ T p ≤ 57
        · rw [if_pos c4]
          rw [if_neg (by omega)] at hq
          have d0 := dgc_p hp c4
          have dl := dgc_le T b p
          rw [if_neg (show ¬ min 5 (dgc T b p) = 0 by omega)] at hq
          by_cases c5 : 4 < dgc T b p
          · rw [if_pos c5]
            rw [if_pos (show min 5 (dgc T b p) = 5 by omega)] at hq
            exact Or.inl ⟨rfl, FL_no hb hp hm he hn (q := p + 4) hq⟩
          · rw [if_neg c5]
            rw [if_neg (show ¬ min 5 (dgc T b p) = 5 by omega), show min 5 (dgc T b p) = dgc T b p by omega] at hq
            exact st_pw hb (by omega) (by omega) he (FL_go hb hp hm he hn (q := p + dgc T b p) hq)
        · rw [if_neg c4]
          by_cases c6 : T p = 120
          · rw [if_pos c6]
            rw [if_pos (Or.inl c6)] at hq
            exact st_pw hb hp (by omega) he (FL_go hb hp hm he hn (q := p + 1) hq)
          · rw [if_neg c6]
            by_cases c7 : T p = 100
            · rw [if_pos c7]
              rw [if_pos (Or.inr c7)] at hq
              exact st_pw hb hp (by omega) he (FL_go hb hp hm he hn (q := p + 1) hq)
            · rw [if_neg c7]
              rw [if_neg (by omega), if_pos (show min 5 (dgc T b p) = 0 by rw [dgc_0 hp c4]; rfl)] at hq
              exact Or.inl ⟨rfl, FL_no hb hp hm he hn hq⟩
  · rw [if_neg cl]
    have hm24 : m = 4 ∨ (m = 2 ∧ ¬ T p = 94) := by
      rcases hc with h | h | h
      · omega
      · omega
      · rcases h.2 with z | ⟨z, q⟩
        · exact Or.inl z
        · exact Or.inr ⟨z, fun y => q ⟨hp, y⟩⟩
    have hq : psR T b p m e = plR T b p m e := by
      unfold psR
      rw [if_neg (by omega), if_neg (by omega), if_neg (by omega)]
    unfold plR at hq
    rw [hbt, if_neg (show ¬ (T p = 94 ∧ m = 2) by omega)] at hq
    unfold sgR
    by_cases c1 : T p = 42
    · rw [if_pos c1]
      rw [if_pos (by omega)] at hq
      refine Or.inr ⟨rfl, 1, Nat.lt_succ_self _, hp, he, ?_, Or.inr (Or.inl ⟨rfl, rfl, rfl⟩)⟩
      rw [FL_go hb hp hm he hn (q := p + 1) hq]
      exact hk 1 e (p + 1) (by decide) he hp
    · rw [if_neg c1]
      by_cases c2 : T p = 43 ∨ T p = 45
      · rw [if_pos c2]
        rw [if_pos (by omega)] at hq
        refine Or.inr ⟨rfl, 1, Nat.lt_succ_self _, hp, he, ?_, Or.inr (Or.inl ⟨rfl, rfl, rfl⟩)⟩
        rw [FL_go hb hp hm he hn (q := p + 1) hq]
        exact hk 1 e (p + 1) (by decide) he hp
      · rw [if_neg c2]
        rw [if_neg (by omega)] at hq
        by_cases c3 : T p = 41 ∧ ¬ e = 0
        · rw [if_pos c3]
          rw [if_pos (by omega)] at hq
          exact st_pw hb hp (by omega) (by omega) (FL_go hb hp hm he hn (q := p + 1) hq)
        · rw [if_neg c3]
          rw [if_neg (by omega)] at hq
          exact Or.inl ⟨rfl, FL_no hb hp hm he hn hq⟩
/-- the reference's reading says the class's fault -/
theorem rd_ctl {w : Int} {T : Nat → Int} {b : Nat} (hb : b ≤ 120) (n : Nat) : ∀ (s : rdT) (m : Nat), s.1 ≤ b → skb T b s.1 = s.1 → b - s.1 < n → s.2.1 ≤ 8 → Cor T b s.1 s.2.2.1 s.2.2.2.1 m → ((rdG w T b n s).1 = 0 ∧ FL T b s.1 m s.2.1 = ((rdG w T b n s).2.1 : Nat)) ∨ ((rdG w T b n s).1 = 1 ∧ ((rdG w T b n s).2.2.2.2.1 = 0 ∨ (rdG w T b n s).2.2.2.2.1 = 1) ∧ FL T b s.1 m s.2.1 = if (rdG w T b n s).2.2.2.2.1 = 0 ∧ (rdG w T b n s).2.2.2.1 = 0 then (-1 : Int) else (b : Nat)) := by
  induction n with
  | zero => intro s m h1 h2 h3; omega
  | succ n ih =>
    intro s m h1 h2 h3 he hc
    have e : rdG w T b (n + 1) s = if s.1 < b then (if (stR w T b s).1 = 0 then stR w T b s else rdG w T b n (skS T b (stR w T b s).2.2)) else (1, 0, s) := rfl
    by_cases c : s.1 < b
    · rw [if_pos c] at e
      have hn : ¬ T s.1 = 32 := by
        have := skb_e (T := T) h1
        rw [h2] at this
        exact this.resolve_left (by omega)
      rcases st_ctl (w := w) hb c hn he hc with ⟨a1, a2⟩ | ⟨a1, m', a2, a3, a4, a5, a6⟩
      · rw [if_pos a1] at e
        rw [e]
        exact Or.inl ⟨a1, a2⟩
      · rw [if_neg (by omega)] at e
        rw [e, a5]
        obtain ⟨k1, k2⟩ := skb_le (T := T) a3
        exact ih (skS T b (stR w T b s).2.2) m' k2 (skb_i a3) (by show b - skb T b (stR w T b s).2.2.1 < n; omega) a4 a6
    · rw [if_neg c] at e
      rw [e]
      have hpb : s.1 = b := by omega
      refine Or.inr ⟨rfl, ?_, ?_⟩
      · show s.2.2.1 = 0 ∨ s.2.2.1 = 1
        rcases hc with h | h | h
        · exact Or.inr h.1
        · exact Or.inr h.1
        · exact Or.inl h.1
      · show _ = if s.2.2.1 = 0 ∧ s.2.1 = 0 then (-1 : Int) else (b : Nat)
        rw [hpb, FL_e]
        rcases hc with h | h | h
        · rw [if_neg (by omega), if_neg (by omega)]
        · rw [if_neg (by omega), if_neg (by omega)]
        · by_cases c0 : s.2.1 = 0
          · rw [if_pos (by omega), if_pos (by omega)]
          · rw [if_neg (by omega), if_neg (by omega)]
theorem rdR_ctl {w : Int} {T : Nat → Int} {b : Nat} (hb : b ≤ 120) (mi hp : Nat → Int) (su pr : Nat → Nat → Int) : ((rdR w T b mi hp su pr).1 = 0 ∧ FL T b 0 0 0 = ((rdR w T b mi hp su pr).2.1 : Nat)) ∨ ((rdR w T b mi hp su pr).1 = 1 ∧ ((rdR w T b mi hp su pr).2.2.2.2.1 = 0 ∨ (rdR w T b mi hp su pr).2.2.2.2.1 = 1) ∧ FL T b 0 0 0 = if (rdR w T b mi hp su pr).2.2.2.2.1 = 0 ∧ (rdR w T b mi hp su pr).2.2.2.1 = 0 then (-1 : Int) else (b : Nat)) := by
  obtain ⟨k1, k2⟩ := skb_le (T := T) (Nat.zero_le b)
  rw [FL_k (T := T) (m := 0) (o := 0) hb (by decide) (by decide) _ 0 (Nat.le_refl _) (Nat.zero_le _)]
  exact rd_ctl (w := w) hb (b + 1) (skS T b (0, 0, 1, 1, 0, au mi 0 0, au hp 0 0, au su 0 (fun _ => 0), pr)) 0 k2 (skb_i (Nat.zero_le _)) (by show b - skb T b 0 < b + 1; omega) (Nat.zero_le _) (Or.inl ⟨rfl, rfl, rfl⟩)
/-- a text with a fault -/
theorem rd_no {w : Int} {T : Nat → Int} {b : Nat} (hb : b ≤ 120) {q : Nat} (h : flG T b (b + 1) 0 0 0 = (q : Nat)) : RdNo w T b q := fun mi hp su pr => by
  have h0 : FL T b 0 0 0 = (q : Nat) := h
  rcases rdR_ctl (w := w) (T := T) hb mi hp su pr with ⟨a1, a2⟩ | ⟨a1, a2, a3⟩
  · exact Or.inl ⟨a1, by omega⟩
  · by_cases c : (rdR w T b mi hp su pr).2.2.2.2.1 = 0 ∧ (rdR w T b mi hp su pr).2.2.2.1 = 0
    · rw [if_pos c] at a3; omega
    · rw [if_neg c] at a3
      exact Or.inr ⟨a1, by omega, by omega⟩
/-- a text without one -/
theorem rd_yes {w : Int} {T : Nat → Int} {b : Nat} (hb : b ≤ 120) (h : flG T b (b + 1) 0 0 0 = -1) : RdYes w T b := fun mi hp su pr => by
  have h0 : FL T b 0 0 0 = -1 := h
  rcases rdR_ctl (w := w) (T := T) hb mi hp su pr with ⟨a1, a2⟩ | ⟨a1, a2, a3⟩
  · omega
  · by_cases c : (rdR w T b mi hp su pr).2.2.2.2.1 = 0 ∧ (rdR w T b mi hp su pr).2.2.2.1 = 0
    · exact ⟨a1, c.1, c.2⟩
    · rw [if_neg c] at a3; omega
theorem stp_f {T : Nat → Int} {b p m o : Nat} (hp : p < b) (h : (stp T b p m o).1 < 0) : 0 ≤ -1 - (stp T b p m o).1 ∧ -1 - (stp T b p m o).1 ≤ (b : Nat) := by
  have c5 := cdg_b (T := T) (n := 5) hp
  have c3 := cdg_b (T := T) (n := 3) hp
  revert h
  unfold stp psR poR peR plR
  split
  · intro h; dsimp only at h; omega
  repeat' split
  all_goals (intro h; dsimp only at h ⊢; omega)
theorem FL_b {T : Nat → Int} {b : Nat} (hb : b ≤ 120) (N : Nat) : ∀ p m o, b - p ≤ N → p ≤ b → m ≤ 4 → o ≤ 8 → -1 ≤ FL T b p m o ∧ FL T b p m o ≤ (b : Nat) := by
  have h0 : ∀ m o, -1 ≤ FL T b b m o ∧ FL T b b m o ≤ (b : Nat) := fun m o => by
    rw [FL_e]
    split <;> omega
  induction N with
  | zero => intro p m o h1 h2 _ _; rw [show p = b by omega]; exact h0 m o
  | succ N ih =>
    intro p m o h1 h2 h3 h4
    by_cases c : p < b
    · obtain ⟨a1, a2, a3, a4⟩ := stp_ok (T := T) hb c h3 h4
      have a5 := stp_f (T := T) (m := m) (o := o) c
      rw [FL_s hb c h3 h4]
      by_cases c2 : (stp T b p m o).1 < 0
      · rw [if_pos c2]; have := a5 c2; omega
      · rw [if_neg c2]
        have := a1 (by omega)
        exact ih _ _ _ (by omega) (by omega) a3 a4
    · rw [show p = b by omega]; exact h0 m o
/-- one of both -/
theorem flG_or {T : Nat → Int} {b : Nat} (hb : b ≤ 120) : flG T b (b + 1) 0 0 0 = -1 ∨ ∃ q : Nat, q ≤ 120 ∧ flG T b (b + 1) 0 0 0 = (q : Nat) := by
  have := FL_b (T := T) hb _ 0 0 0 (Nat.le_refl _) (Nat.zero_le _) (by decide) (by decide)
  have e : FL T b 0 0 0 = flG T b (b + 1) 0 0 0 := rfl
  rw [e] at this
  by_cases c : flG T b (b + 1) 0 0 0 = -1
  · exact Or.inl c
  · exact Or.inr ⟨(flG T b (b + 1) 0 0 0).toNat, by omega, by omega⟩
