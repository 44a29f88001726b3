/-! The class: copies of cells, the count of terms, the lead. Written by wip/whole/gen_75.py. -/
section ACP
variable {G : am_G} {L : Nat} {I : Nat → Nat → Int} {R : Nat → Nat → Option Nat} {u : Int64} {ls st : List am_V} {rr : List am_I} {Y : Option am_S}
theorem LH_cp {s t n : Nat} (hs : tg s = 20) (ht : tg t = 20) : am_put (LH L I R u) t (20, ln L t, am_cpy (vv I R u s) (vv I R u t) (0 : Int).toNat (0 : Int).toNat ((n : Nat) : Int).toNat) = LH L (au I t (fun j => if j < n then I s j else I t j)) R u := by
  have k0 : ∀ j, sk 20 j = 0 := fun _ => rfl
  unfold am_put
  refine congrArg (fun f => (318, f)) ?_
  funext k
  by_cases e : k = t
  · subst e
    rw [au_s]
    show _ = (tg k, ln L k, vv _ R u k)
    rw [ht]
    congr 2
    funext j
    rw [vv_i (k := k) (by rw [ht]; exact k0 j), au_s]
    show (if 0 ≤ j ∧ j < 0 + n then vv I R u s (0 + (j - 0)) else vv I R u k j) = _
    by_cases c : j < n
    · rw [if_pos (by omega), if_pos c, vv_i (by rw [hs]; exact k0 _)]
      congr 2
      omega
    · rw [if_neg (by omega), if_neg c, vv_i (by rw [ht]; exact k0 _)]
  · rw [au_n _ _ e]
    show (tg k, ln L k, vv I R u k) = (tg k, ln L k, vv _ R u k)
    congr 2
    funext j
    unfold vv
    rw [au_n _ _ e]
theorem x_acp {s t n i x : Nat} (hs : tg s = 20) (ht : tg t = 20) (h1 : n ≤ ln L s ∧ ln L s ≤ 100000) (h2 : n ≤ ln L t ∧ ln L t ≤ 100000) (hc : am_cats st ≤ 8) (k : am_L G rr (ls, st, LH L (au I t (fun j => if j < n then I s j else I t j)) R u) = Y) : am_L G ((.invokestatic i, 999, 5, x) :: rr) (ls, vI (n : Nat) :: vI 0 :: vR t :: vI 0 :: vR s :: st, LH L I R u) = Y := by
  refine x_go (y := (ls, st, LH L (au I t (fun j => if j < n then I s j else I t j)) R u)) ?_ k
  rw [← LH_cp hs ht]
  show (if tg s = 20 ∧ tg t = 20 ∧ (0 : Int) ≤ 0 ∧ (0 : Int) ≤ 0 ∧ (0 : Int) ≤ (n : Nat) ∧ (0 : Int) + (n : Nat) ≤ (ln L s : Nat) ∧ (0 : Int) + (n : Nat) ≤ (ln L t : Nat) ∧ ln L s ≤ 100000 ∧ ln L t ≤ 100000 ∧ am_cats st ≤ 8 then some (ls, st, am_put (LH L I R u) t (20, ln L t, am_cpy (vv I R u s) (vv I R u t) (0 : Int).toNat (0 : Int).toNat ((n : Nat) : Int).toNat)) else none) = _
  rw [if_pos ⟨hs, ht, by omega, by omega, by omega, by omega, by omega, by omega, by omega, hc⟩]
end ACP
set_option maxRecDepth 10000 in
theorem s6_copyFrom {d L : Nat} {I : Nat → Nat → Int} {R : Nat → Nat → Option Nat} {u : Int64} {a c b e : Nat} (ha : Opx R a c) (hb : Opx R b e) : am_run am_tb (d + 1) 55 [vR a, vR b] (LH L I R u) = some ([], LH L (stc I c (I e)) R u) := by
  refine run_of tb_X6_copyFrom (Nat.le_of_ble_eq_true rfl) ?_
  show ∃ ls', am_ev (am_run am_tb (d + 0)) tX6_copyFrom ([vR a, vR b], [], (LH L I R u)) = some (1, ls', [], LH L (stc I c (I e)) R u)
  apply Exists.intro
  unfold tX6_copyFrom
  apply t_B
  · refine x_aload_n rfl ?_
    refine x_gr hb.1 rfl hb.2.1 ?_
    refine x_iconst ?_
    refine x_aload_n rfl ?_
    refine x_gr ha.1 rfl ha.2.1 ?_
    refine x_iconst ?_
    refine x_bipush ?_
    refine x_acp (n := 91) hb.2.2.1 ha.2.2.1 (by rw [hb.2.2.2 L]; omega) (by rw [ha.2.2.2 L]; omega) (Nat.le_of_ble_eq_true rfl) ?_
    exact rfl
  exact rfl
def cv5 (f : Nat → Int) : Nat → am_V
  | 0 => vU
  | k + 1 => vI (f k)
set_option maxRecDepth 10000 in
theorem lp6_count {d L : Nat} {I : Nat → Nat → Int} {R : Nat → Nat → Option Nat} {u : Int64} {a c : Nat} (ha : Opx R a c) (hc : Rsc I c) : am_lp (am_ev (am_run am_tb (d)) wX6_countTerms_13) 13 am_F ([vR a, vI 0, vR c, vI 91, vI 0, vU], [], LH L I R u) = some (41, ([vR a, vI (cnt (cl I c) 91 : Nat), vR c, vI 91, vI 91, cv5 (cl I c) 91], [], LH L I R u)) := by
  skip
  refine lp_up0 (fun k => ([vR a, vI (cnt (cl I c) k : Nat), vR c, vI 91, vI k, cv5 (cl I c) k], [], LH L I R u)) (91) rfl (ltF (by first | decide | omega)) (by show ¬ 41 = 13 + 2; decide) (fun k hk => ?_) ?_
  · have hv := cl_a hc k
    have hle := cnt_le (cl I c) k
    have e0 : cnt (cl I c) (k + 1) = cnt (cl I c) k + (if cl I c k = 0 then 0 else 1) := rfl
    by_cases q : cl I c k = 0
    · rw [if_pos q] at e0
      unfold wX6_countTerms_13
      apply t_Q
      · apply t_B
        · refine x_iload rfl ?_
          refine x_iload_n rfl ?_
          exact rfl
        exact t_ic_ge_f (by omega)
      apply t_Q
      · apply t_S
        refine x_aload_n rfl ?_
        refine x_iload rfl ?_
        refine x_ialdv (Or.inl ha.2.2.1) (ha.2.2.2 L) (by omega) (show _ = cl I c k from (cl_s hk).symm) ?_
        refine x_istore rfl ?_
        refine x_iload rfl ?_
        exact rfl
      apply t_Q
      · apply t_K
        apply t_Qs
        apply t_B
        · exact rfl
        exact t_if_eq_t (by omega)
      apply t_B
      · refine x_iinc rfl rfl ?_
        exact rfl
      exact t_goeq (by rw [e0]; rfl)
    rw [if_neg q] at e0
    unfold wX6_countTerms_13
    apply t_Q
    · apply t_B
      · refine x_iload rfl ?_
        refine x_iload_n rfl ?_
        exact rfl
      exact t_ic_ge_f (by omega)
    apply t_Q
    · apply t_S
      refine x_aload_n rfl ?_
      refine x_iload rfl ?_
      refine x_ialdv (Or.inl ha.2.2.1) (ha.2.2.2 L) (by omega) (show _ = cl I c k from (cl_s hk).symm) ?_
      refine x_istore rfl ?_
      refine x_iload rfl ?_
      exact rfl
    apply t_Q
    · apply t_Ks
      · apply t_Q
        · apply t_B
          · exact rfl
          exact t_if_eq_f (by omega)
        apply t_S
        refine x_iinc rfl rfl ?_
        exact rfl
      · decide
    apply t_B
    · refine x_iinc rfl rfl ?_
      exact rfl
    exact t_goeq (by rw [e0]; rfl)
  · unfold wX6_countTerms_13
    apply t_Qs
    apply t_B
    · refine x_iload rfl ?_
      refine x_iload_n rfl ?_
      exact rfl
    exact t_ic_ge_t (by omega)
set_option maxRecDepth 10000 in
theorem s6_countTerms {d L : Nat} {I : Nat → Nat → Int} {R : Nat → Nat → Option Nat} {u : Int64} {a c : Nat} (ha : Opx R a c) (hc : Rsc I c) : am_run am_tb (d + 1) 58 [vR a] (LH L I R u) = some ([vI (cnt (cl I c) 496 : Nat)], LH L I R u) := by
  refine run_of tb_X6_countTerms (Nat.le_of_ble_eq_true rfl) ?_
  show ∃ ls', am_ev (am_run am_tb (d + 0)) tX6_countTerms ([vR a, vU, vU, vU, vU, vU], [], (LH L I R u)) = some (1, ls', [vI (cnt (cl I c) 496 : Nat)], LH L I R u)
  rw [cnt_cl (I := I) (c := c) (n := 496) (by decide)]
  apply Exists.intro
  unfold tX6_countTerms
  apply t_Q
  · apply t_S
    refine x_iconst ?_
    refine x_istore_n rfl ?_
    refine x_aload_n rfl ?_
    refine x_gr ha.1 rfl ha.2.1 ?_
    refine x_astore_n rfl ?_
    refine x_aload_n rfl ?_
    refine x_alen (Or.inl ha.2.2.1) ?_
    rw [ha.2.2.2 L]
    refine x_istore_n rfl ?_
    refine x_iconst ?_
    refine x_istore rfl ?_
    exact rfl
  apply t_Q
  · apply t_K
    apply t_W
    exact lp6_count (d := d) ha hc
  apply t_B
  · refine x_iload_n rfl ?_
    exact rfl
  exact t_ireq (Or.inl rfl) rfl rfl
