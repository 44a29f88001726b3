/-! The reference: writesTerm, in pieces. Written by wip/whole/gen_44.py. -/
def sgn (v : Int) (l : List Int) : List Int := if v < 0 then [45] else if l.length = 0 then [] else [43]
set_option maxRecDepth 10000 in
theorem wt_sign {d L : Nat} {I : Nat → Nat → Int} {R : Nat → Nat → Option Nat} {u : Int64} (hF : FixR R) {w : Nat} {v : Int} {a3 a4 : am_V} {l : List Int} (hv : -5003 ≤ v ∧ v ≤ 5003) (hl : l.length < 1500) : am_ev (am_run am_tb (d + 1)) (tK 26 (tQ (tK 11 (tQ (tB [] (.ifCond .lt 10) [11]) (tB [(.aload_n 0, 0, 0, 0), (.getfield 313, 12, 29, 0)] (.ifCond .le 18) [26]))) (tQ (tS [(.aload_n 0, 0, 0, 0), (.iload_n 2, 0, 0, 0)]) (tQ (tK 23 (tQ (tK 21 (tQ (tB [] (.ifCond .ge 8) [21]) (tB [(.bipush 45, 0, 0, 0)] (.goto 5) [23]))) (tS [(.bipush 43, 0, 0, 0)]))) (tS [(.invokevirtual 316, 220, 2, 12)]))))) ([vR 301, vI w, vI v, a3, a4], [vI v], LH L (wrs I l) R u) = some (0, ([vR 301, vI w, vI v, a3, a4], [], LH L (wrs I (l ++ sgn v l)) R u)) := by
  by_cases c : v < 0
  · apply t_Ks
    · apply t_Q
      · apply t_K
        apply t_Qs
        apply t_B
        · exact rfl
        exact t_if_lt_t (by omega)
      apply t_Q
      · apply t_S
        refine x_aload_n rfl ?_
        refine x_iload_n rfl ?_
        exact rfl
      apply t_Q
      · apply t_K
        apply t_Qs
        apply t_Ks
        · apply t_Q
          · apply t_B
            · exact rfl
            exact t_if_ge_f (by omega)
          apply t_B
          · refine x_bipush ?_
            exact rfl
          exact t_goto
        · decide
      apply t_S
      refine x_V2v tg_301 (Nat.le_of_ble_eq_true rfl) (s_writes (d := d) hF hl) ?_
      exact congrArg (fun z => some ([vR 301, vI w, vI v, a3, a4], [], LH L (wrs I z) R u)) (show _ = l ++ sgn v l from by unfold sgn; rw [if_pos c])
    · decide
  by_cases c2 : l.length = 0
  · rw [show l ++ sgn v l = l from by unfold sgn; rw [if_neg c, if_pos c2, List.append_nil]]
    apply t_K
    apply t_Qs
    apply t_Ks
    · apply t_Q
      · apply t_B
        · exact rfl
        exact t_if_lt_f (by omega)
      apply t_B
      · refine x_aload_n rfl ?_
        refine x_giv tg_301 rfl (show _ = ((l.length : Nat) : Int) from rfl) ?_
        exact rfl
      exact t_if_le_t (by omega)
    · decide
  apply t_Ks
  · apply t_Q
    · apply t_Ks
      · apply t_Q
        · apply t_B
          · exact rfl
          exact t_if_lt_f (by omega)
        apply t_B
        · refine x_aload_n rfl ?_
          refine x_giv tg_301 rfl (show _ = ((l.length : Nat) : Int) from rfl) ?_
          exact rfl
        exact t_if_le_f (by omega)
      · decide
    apply t_Q
    · apply t_S
      refine x_aload_n rfl ?_
      refine x_iload_n rfl ?_
      exact rfl
    apply t_Q
    · apply t_Ks
      · apply t_Q
        · apply t_K
          apply t_Qs
          apply t_B
          · exact rfl
          exact t_if_ge_t (by omega)
        apply t_S
        refine x_bipush ?_
        exact rfl
      · decide
    apply t_S
    refine x_V2v tg_301 (Nat.le_of_ble_eq_true rfl) (s_writes (d := d) hF hl) ?_
    exact congrArg (fun z => some ([vR 301, vI w, vI v, a3, a4], [], LH L (wrs I z) R u)) (show _ = l ++ sgn v l from by unfold sgn; rw [if_neg c, if_neg c2])
  · decide
