/-! Agreements: kills. Written by wip/whole/gen_9r.py. -/
theorem pl_iff {w i j : Nat} : w = pl i j ↔ xw w = i ∧ dw w = j := ⟨fun e => by rw [e, dw_pl, xw_pl]; exact ⟨rfl, rfl⟩, fun e => by rw [← pl_w w, e.1, e.2]⟩
theorem kiF_v {g : Nat → Int} (hg : ∀ j, j < 31 → 0 ≤ g j ∧ g j < 10007) {m : Nat} (hm : m ≤ 31) : ∀ w, kiF g m w = kiC g m w := by
  induction m with
  | zero =>
    intro w
    show (0 : Int) = kiC g 0 w
    unfold kiC
    rw [if_neg (by omega), if_neg (by omega)]
  | succ m ih =>
    intro w
    have ih := ih (by omega)
    have hgm := hg m (by omega)
    have e1 : ∀ w, ki1 g m (kiF g m) w = if w = pl m 1 then g m else kiC g m w := by
      intro w
      unfold ki1
      rw [au_i]
      split
      · rw [ih, show kiC g m (pl m 1) = 0 by unfold kiC; rw [dw_pl, xw_pl, if_neg (by omega), if_neg (by omega)], Int.zero_add]
        exact Int.emod_eq_of_lt hgm.1 hgm.2
      · exact ih w
    have e2 : ki2 g m (ki1 g m (kiF g m)) w = if m ≠ 0 ∧ w = pl (m - 1) 0 then (10007 - g m) * (m : Int) % 10007 else if w = pl m 1 then g m else kiC g m w := by
      unfold ki2
      by_cases c : m = 0
      · rw [if_pos c, if_neg (fun h => h.1 c), e1]
      · rw [if_neg c, au_i]
        by_cases c2 : w = pl (m - 1) 0
        · rw [if_pos c2, if_pos ⟨c, c2⟩, e1, if_neg (fun h => by have := pl_iff.mp h; rw [dw_pl] at this; omega), show kiC g m (pl (m - 1) 0) = 0 by unfold kiC; rw [dw_pl, xw_pl, if_neg (by omega), if_neg (by omega)], Int.zero_add]
        · rw [if_neg c2, if_neg (fun h => c2 h.2), e1]
    show ki2 g m (ki1 g m (kiF g m)) w = _
    rw [e2]
    unfold kiC
    by_cases a1 : dw w = 1 ∧ xw w < m + 1
    · rw [if_pos a1, if_neg (fun h => by have := pl_iff.mp h.2; omega)]
      by_cases a2 : xw w = m
      · rw [if_pos (pl_iff.mpr ⟨a2, a1.1⟩), a2]
      · rw [if_neg (fun h => a2 (pl_iff.mp h).1), if_pos (by omega)]
    · rw [if_neg a1]
      by_cases a2 : dw w = 0 ∧ xw w + 1 < m + 1
      · rw [if_pos a2]
        by_cases a3 : xw w + 1 = m
        · rw [if_pos ⟨by omega, pl_iff.mpr ⟨by omega, a2.1⟩⟩, a3, Int.sub_mul, Int.neg_mul, Int.mul_comm (g m)]
          generalize (m : Int) * g m = z
          omega
        · rw [if_neg (fun h => by have := pl_iff.mp h.2; omega), if_neg (fun h => by have := pl_iff.mp h; omega), if_neg (by omega), if_pos (by omega)]
      · rw [if_neg a2, if_neg (fun h => by have := pl_iff.mp h.2; omega), if_neg (fun h => by have := pl_iff.mp h; omega), if_neg (by omega), if_neg (by omega)]
/-- kills: the class's row is the reference's -/
theorem kills_eq {g : Nat → Int} (hg : ∀ j, j < 31 → 0 ≤ g j ∧ g j < 10007) (hz : 19 ≤ zp g) : kiC g 12 = kiF g (31 - zp g) := by
  have hzl := zp_le g
  funext w
  rw [kiF_v hg (by omega)]
  have z : ∀ j, 31 - zp g ≤ j → j ≤ 12 → g j = 0 := fun j h1 h2 => by
    have := zp_no (g := g) (k := 30 - j) (by omega)
    rw [show 30 - (30 - j) = j by omega] at this
    exact this
  unfold kiC
  by_cases a1 : dw w = 1
  · by_cases a2 : xw w < 31 - zp g
    · rw [if_pos (by omega), if_pos (by omega)]
    · rw [if_neg (c := dw w = 1 ∧ xw w < 31 - zp g) (by omega), if_neg (c := dw w = 0 ∧ xw w + 1 < 31 - zp g) (by omega)]
      split
      · exact z _ (by omega) (by omega)
      · rw [if_neg (by omega)]
  · rw [if_neg (by omega), if_neg (c := dw w = 1 ∧ xw w < 31 - zp g) (by omega)]
    by_cases a2 : dw w = 0 ∧ xw w + 1 < 31 - zp g
    · rw [if_pos (by omega), if_pos (by omega)]
    · rw [if_neg (c := dw w = 0 ∧ xw w + 1 < 31 - zp g) (by omega)]
      split
      · rw [z (xw w + 1) (by omega) (by omega), Int.mul_zero]; rfl
      · rfl
