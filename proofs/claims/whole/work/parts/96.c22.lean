/-! The class: what is written. Written by wip/whole/gen_96.py. -/
/-- the writer holds l -/
def wrc (I : Nat → Nat → Int) (l : List Int) : Nat → Nat → Int := au (au I 298 (fun j => if j < l.length then l.getD j 0 else I 298 j)) 297 (au (I 297) 1 (l.length : Nat))
theorem wrc_s {I : Nat → Nat → Int} {l : List Int} {c : Int} : au (au (wrc I l) 298 (au ((wrc I l) 298) ((l.length : Nat) : Int).toNat c)) 297 (au ((au (wrc I l) 298 (au ((wrc I l) 298) ((l.length : Nat) : Int).toNat c)) 297) 1 (((l.length : Nat) : Int) + 1)) = wrc I (l ++ [c]) := by
  have hl : (l ++ [c]).length = l.length + 1 := by rw [List.length_append]; rfl
  funext a j
  unfold wrc
  rw [hl]
  simp only [au2, au_i, ↓reduceIte, Nat.reduceEqDiff, Int.toNat_natCast]
  by_cases a1 : a = 297
  · subst a1
    simp only [↓reduceIte, Nat.reduceEqDiff]
    by_cases j1 : j = 1
    · rw [if_pos j1, if_pos j1]; rfl
    · rw [if_neg j1, if_neg j1, if_neg j1]
  · by_cases a2 : a = 298
    · subst a2
      simp only [↓reduceIte, Nat.reduceEqDiff]
      by_cases j1 : j = l.length
      · rw [if_pos j1, if_pos (by omega), j1, getD_e]
      · rw [if_neg j1]
        by_cases j2 : j < l.length
        · rw [if_pos j2, if_pos (by omega), getD_l j2]
        · rw [if_neg j2, if_neg (by omega)]
    · simp only [if_neg a1, if_neg a2]
theorem wrc_o {I : Nat → Nat → Int} {l : List Int} {a : Nat} (h1 : a ≠ 297) (h2 : a ≠ 298) : wrc I l a = I a := by
  unfold wrc
  rw [au_n _ _ h1, au_n _ _ h2]
theorem wrc_0 {I : Nat → Nat → Int} : au I 297 (au (I 297) 1 0) = wrc I [] := by
  unfold wrc
  rw [show (fun j => if j < ([] : List Int).length then ([] : List Int).getD j 0 else I 298 j) = I 298 by funext j; exact if_neg (Nat.not_lt_zero j), au_id]
  rfl
theorem wrc_n {I : Nat → Nat → Int} {l : List Int} : wrc I l 297 1 = (l.length : Nat) := by
  unfold wrc
  rw [au_s, au_s]
theorem wrc_g {I : Nat → Nat → Int} {l : List Int} {j : Nat} (h : j < l.length) : wrc I l 298 j = l.getD j 0 := by
  unfold wrc
  rw [au_n _ _ (by decide), au_s]
  exact if_pos h
set_option maxRecDepth 10000 in
theorem s10_write {d L : Nat} {I : Nat → Nat → Int} {R : Nat → Nat → Option Nat} {u : Int64} (hF : FixR R) {l : List Int} {c : Int} (hl : l.length < 20) : am_run am_tb (d + 1) 91 [vR 297, vI c] (LH L (wrc I l) R u) = some ([], LH L (wrc I (l ++ [c])) R u) := by
  refine run_of tb_X10_write (Nat.le_of_ble_eq_true rfl) ?_
  show ∃ ls', am_ev (am_run am_tb (d + 0)) tX10_write ([vR 297, vI c], [], (LH L (wrc I l) R u)) = some (1, ls', [], LH L (wrc I (l ++ [c])) R u)
  apply Exists.intro
  unfold tX10_write
  apply t_Q
  · apply t_S
    refine x_aload_n rfl ?_
    refine x_giv tg_297 rfl (show _ = ((l.length : Nat) : Int) from wrc_n) ?_
    refine x_aload_n rfl ?_
    refine x_gr tg_297 rfl (fx_297_0 hF) ?_
    refine x_alen (Or.inl tg_298) ?_
    rw [ln_298 L]
    exact rfl
  apply t_Q
  · apply t_Ks
    · apply t_Q
      · apply t_B
        · exact rfl
        exact t_ic_ge_f (by omega)
      apply t_S
      refine x_aload_n rfl ?_
      refine x_gr tg_297 rfl (fx_297_0 hF) ?_
      refine x_aload_n rfl ?_
      refine x_giv tg_297 rfl (show _ = ((l.length : Nat) : Int) from wrc_n) ?_
      refine x_iload_n rfl ?_
      refine x_iast tg_298 (ln_298 L) (by omega) ?_
      refine x_aload_n rfl ?_
      refine x_dup rfl ?_
      refine x_giv tg_297 rfl (show _ = ((l.length : Nat) : Int) by rw [au_n _ _ (by decide)]; exact wrc_n) ?_
      refine x_iconst ?_
      refine x_iadd ?_
      refine x_pi tg_297 rfl rfl ?_
      exact rfl
    · decide
  apply t_B
  · exact rfl
  exact t_vreq (LH_c wrc_s)
theorem tpf_m {a b : Nat} (h : a ≤ b) (hb : b ≤ 4) : tpf a ≤ tpf b := by
  rcases (show b = 0 ∨ b = 1 ∨ b = 2 ∨ b = 3 ∨ b = 4 by omega) with e | e | e | e | e <;> subst e
  · rw [show a = 0 by omega]; exact Int.le_refl _
  · rcases (show a = 0 ∨ a = 1 by omega) with e | e <;> subst e <;> decide
  · rcases (show a = 0 ∨ a = 1 ∨ a = 2 by omega) with e | e | e <;> subst e <;> decide
  · rcases (show a = 0 ∨ a = 1 ∨ a = 2 ∨ a = 3 by omega) with e | e | e | e <;> subst e <;> decide
  · rcases (show a = 0 ∨ a = 1 ∨ a = 2 ∨ a = 3 ∨ a = 4 by omega) with e | e | e | e | e <;> subst e <;> decide
def wbg (v : Int) (i : Nat) : Int := if i ≤ 3 - nd v then 0 else 1
def wnl (v : Int) (i : Nat) : List Int := if i ≤ 3 - nd v then [] else dgp v (nd v) (i - (3 - nd v))
theorem wnl_s {v : Int} {i : Nat} (h : 3 - nd v ≤ i) (hi : i < 4) : wnl v (i + 1) = wnl v i ++ [48 + v / tpf (3 - i) % 10] := by
  have hb := nd_b v
  unfold wnl
  rw [if_neg (by omega), show i + 1 - (3 - nd v) = (i - (3 - nd v)) + 1 by omega]
  show dgp v (nd v) (i - (3 - nd v)) ++ [48 + v / tpf (nd v - (i - (3 - nd v))) % 10] = _
  rw [show nd v - (i - (3 - nd v)) = 3 - i by omega]
  by_cases e : i = 3 - nd v
  · rw [if_pos (by omega), e, Nat.sub_self]
    rfl
  · rw [if_neg (by omega)]
theorem wnl_l {v : Int} {i : Nat} (hi : i ≤ 4) : (wnl v i).length ≤ 4 := by
  have hb := nd_b v
  unfold wnl
  split
  · show 0 ≤ 4; omega
  · rw [dgp_l]; omega
theorem wnl_4 {v : Int} : wnl v 4 = num v := by
  have hb := nd_b v
  unfold wnl num
  rw [if_neg (by omega), show 4 - (3 - nd v) = nd v + 1 by omega]
theorem dg_0 {v : Int} {i : Nat} (hv : 1 ≤ v ∧ v < 10000) (h : i < 3 - nd v) : v / tpf (3 - i) = 0 := by
  have h1 := nd_gt hv.2
  have h2 := tpf_m (show nd v + 1 ≤ 3 - i by omega) (by omega)
  exact Int.ediv_eq_zero_of_lt (by omega) (by omega)
theorem dg_1 {v : Int} (hv : 1 ≤ v ∧ v < 10000) : 1 ≤ v / tpf (nd v) ∧ v / tpf (nd v) < 10 := by
  have hb := nd_b v
  have h1 := nd_gt hv.2
  have h2 := tpf_s hb
  have h3 := tpf_p (nd v)
  have h4 : tpf (nd v) ≤ v := by
    by_cases e : nd v = 0
    · rw [e]; exact hv.1
    · have := nd_le (v := v) (k := nd v - 1) (by omega)
      rw [show nd v - 1 + 1 = nd v by omega] at this
      exact this
  exact ⟨Int.le_ediv_of_mul_le (by omega) (by omega), Int.ediv_lt_of_lt_mul (by omega) (by rw [Int.mul_comm, h2]; exact h1)⟩
set_option maxRecDepth 10000 in
theorem lp10_num {d L : Nat} {I : Nat → Nat → Int} {R : Nat → Nat → Option Nat} {u : Int64} (hF : FixR R) {v : Int} (hv : 1 ≤ v ∧ v < 10000) {l : List Int} (hl : l.length + (num v).length ≤ 20) : ∃ r, am_lp (am_ev (am_run am_tb (d + 1)) wX10_writeNumber_6) 6 am_F ([vR 297, vI v, vI 0, vI 1000, vU], [], LH L (wrc I l) R u) = some r ∧ ∃ l4, r = (56, [vR 297, vI v, vI (wbg v 4), vI (tdf 3 4), l4], [], LH L (wrc I (l ++ num v)) R u) := by
  have hb := nd_b v
  refine lp_inv (fun i y => ∃ l4, y = ([vR 297, vI v, vI (wbg v i), vI (tdf 3 i), l4], [], LH L (wrc I (l ++ wnl v i)) R u)) _ 4 ⟨vU, ?_⟩ (ltF (by omega)) (fun i y hi hy => ?_) (fun y hy => ?_)
  · rw [show wnl v 0 = [] from if_pos (by omega), List.append_nil, show wbg v 0 = 0 from if_pos (by omega)]
    rfl
  · obtain ⟨l4, e0⟩ := hy
    subst e0
    have ht := tpf_p (3 - i)
    have hts := tdf_s (n := 3) (k := i) (by omega) (by omega)
    have htd : tdf 3 i = tpf (3 - i) := if_pos (by omega)
    have hq : 0 ≤ v / tpf (3 - i) ∧ v / tpf (3 - i) ≤ v := ⟨Int.ediv_nonneg (by omega) (by omega), Int.ediv_le_self _ (by omega)⟩
    rw [htd]
    rw [htd] at hts
    by_cases c1 : i < 3 - nd v
    · have hd := dg_0 hv c1
      have hw : wnl v (i + 1) = wnl v i := by unfold wnl; rw [if_pos (by omega), if_pos (by omega)]
      have e1 : wbg v i = 0 := if_pos (by omega)
      have e2 : wbg v (i + 1) = 0 := if_pos (by omega)
      rw [hd] at hq
      refine inv_e1 (ls := fun l4 => [vR 297, vI v, vI (wbg v (i + 1)), vI (tdf 3 (i + 1)), l4]) (h := LH L (wrc I (l ++ wnl v (i + 1))) R u) ?_ (fun _ => ⟨_, rfl⟩)
      apply Exists.intro
      rw [hw, e1, e2]
      unfold wX10_writeNumber_6
      apply t_Q
      · apply t_B
        · refine x_iload_n rfl ?_
          exact rfl
        exact t_if_le_f (by omega)
      apply t_Q
      · apply t_S
        refine x_iload_n rfl ?_
        refine x_iload_n rfl ?_
        refine x_idiv0 (by omega) ?_
        refine x_bipush ?_
        refine x_irem0 (by omega) ?_
        refine x_istore rfl ?_
        refine x_iload_n rfl ?_
        exact rfl
      apply t_Q
      · apply t_Ks
        · apply t_Q
          · apply t_K
            apply t_Qs
            apply t_Ks
            · apply t_Q
              · apply t_B
                · exact rfl
                exact t_if_ne_f (by omega)
              apply t_B
              · refine x_iload rfl ?_
                exact rfl
              exact t_if_le_t (by omega)
            · decide
          apply t_S
          refine x_iconst ?_
          exact rfl
        · decide
      apply t_Q
      · apply t_S
        refine x_istore_n rfl ?_
        refine x_iload_n rfl ?_
        exact rfl
      apply t_Q
      · apply t_K
        apply t_Qs
        apply t_B
        · exact rfl
        exact t_if_eq_t (by omega)
      apply t_B
      · refine x_iload_n rfl ?_
        refine x_bipush ?_
        refine x_idiv0 (by omega) ?_
        refine x_istore_n rfl ?_
        exact rfl
      exact t_goeq (s3 (by rw [← hts]; rfl) rfl)
    · have hw := wnl_s (v := v) (i := i) (by omega) hi
      have hwl : (l ++ wnl v i).length < 20 := by
        rw [List.length_append]
        have h4 := wnl_4 (v := v)
        have hll : (wnl v (i + 1)).length ≤ (num v).length := by
          rw [← h4]
          unfold wnl
          rw [if_neg (by omega), if_neg (by omega), dgp_l, dgp_l]
          omega
        rw [hw, List.length_append] at hll
        have : ([48 + v / tpf (3 - i) % 10] : List Int).length = 1 := rfl
        omega
      have hcall := s10_write (d := d) (L := L) (I := I) (u := u) hF (l := l ++ wnl v i) (c := 48 + v / tpf (3 - i) % 10) hwl
      rw [List.append_assoc, ← hw] at hcall
      have e2 : wbg v (i + 1) = 1 := if_neg (by omega)
      by_cases c2 : i = 3 - nd v
      · have e1 : wbg v i = 0 := if_pos (by omega)
        have hd := dg_1 hv
        rw [show nd v = 3 - i by omega] at hd
        refine inv_e1 (ls := fun l4 => [vR 297, vI v, vI (wbg v (i + 1)), vI (tdf 3 (i + 1)), l4]) (h := LH L (wrc I (l ++ wnl v (i + 1))) R u) ?_ (fun _ => ⟨_, rfl⟩)
        apply Exists.intro
        rw [e1, e2]
        unfold wX10_writeNumber_6
        apply t_Q
        · apply t_B
          · refine x_iload_n rfl ?_
            exact rfl
          exact t_if_le_f (by omega)
        apply t_Q
        · apply t_S
          refine x_iload_n rfl ?_
          refine x_iload_n rfl ?_
          refine x_idiv0 (by omega) ?_
          refine x_bipush ?_
          refine x_irem0 (by omega) ?_
          refine x_istore rfl ?_
          refine x_iload_n rfl ?_
          exact rfl
        apply t_Q
        · apply t_K
          apply t_Qs
          apply t_Ks
          · apply t_Q
            · apply t_Ks
              · apply t_Q
                · apply t_B
                  · exact rfl
                  exact t_if_ne_f (by omega)
                apply t_B
                · refine x_iload rfl ?_
                  exact rfl
                exact t_if_le_f (by omega)
              · decide
            apply t_B
            · refine x_iconst ?_
              exact rfl
            exact t_goto
          · decide
        apply t_Q
        · apply t_S
          refine x_istore_n rfl ?_
          refine x_iload_n rfl ?_
          exact rfl
        apply t_Q
        · apply t_Ks
          · apply t_Q
            · apply t_B
              · exact rfl
              exact t_if_eq_f (by omega)
            apply t_S
            refine x_aload_n rfl ?_
            refine x_bipush ?_
            refine x_iload rfl ?_
            refine x_iadd ?_
            refine x_V2v tg_297 (Nat.le_of_ble_eq_true rfl) (hcall) ?_
            exact rfl
          · decide
        apply t_B
        · refine x_iload_n rfl ?_
          refine x_bipush ?_
          refine x_idiv0 (by omega) ?_
          refine x_istore_n rfl ?_
          exact rfl
        exact t_goeq (s3 (by rw [← hts]; rfl) rfl)
      · have e1 : wbg v i = 1 := if_neg (by omega)
        refine inv_e1 (ls := fun l4 => [vR 297, vI v, vI (wbg v (i + 1)), vI (tdf 3 (i + 1)), l4]) (h := LH L (wrc I (l ++ wnl v (i + 1))) R u) ?_ (fun _ => ⟨_, rfl⟩)
        apply Exists.intro
        rw [e1, e2]
        unfold wX10_writeNumber_6
        apply t_Q
        · apply t_B
          · refine x_iload_n rfl ?_
            exact rfl
          exact t_if_le_f (by omega)
        apply t_Q
        · apply t_S
          refine x_iload_n rfl ?_
          refine x_iload_n rfl ?_
          refine x_idiv0 (by omega) ?_
          refine x_bipush ?_
          refine x_irem0 (by omega) ?_
          refine x_istore rfl ?_
          refine x_iload_n rfl ?_
          exact rfl
        apply t_Q
        · apply t_K
          apply t_Qs
          apply t_Ks
          · apply t_Q
            · apply t_K
              apply t_Qs
              apply t_B
              · exact rfl
              exact t_if_ne_t (by omega)
            apply t_B
            · refine x_iconst ?_
              exact rfl
            exact t_goto
          · decide
        apply t_Q
        · apply t_S
          refine x_istore_n rfl ?_
          refine x_iload_n rfl ?_
          exact rfl
        apply t_Q
        · apply t_Ks
          · apply t_Q
            · apply t_B
              · exact rfl
              exact t_if_eq_f (by omega)
            apply t_S
            refine x_aload_n rfl ?_
            refine x_bipush ?_
            refine x_iload rfl ?_
            refine x_iadd ?_
            refine x_V2v tg_297 (Nat.le_of_ble_eq_true rfl) (hcall) ?_
            exact rfl
          · decide
        apply t_B
        · refine x_iload_n rfl ?_
          refine x_bipush ?_
          refine x_idiv0 (by omega) ?_
          refine x_istore_n rfl ?_
          exact rfl
        exact t_goeq (s3 (by rw [← hts]; rfl) rfl)
  · obtain ⟨l4, e0⟩ := hy
    subst e0
    have h4 : tdf 3 4 = 0 := rfl
    refine ⟨(56, [vR 297, vI v, vI (wbg v 4), vI (tdf 3 4), l4], [], LH L (wrc I (l ++ wnl v 4)) R u), ?_, by show ¬ 56 = 6 + 2; decide, ⟨l4, by rw [wnl_4]⟩⟩
    unfold wX10_writeNumber_6
    apply t_Qs
    apply t_B
    · refine x_iload_n rfl ?_
      exact rfl
    exact t_if_le_t (by omega)
set_option maxRecDepth 10000 in
theorem s10_number {d L : Nat} {I : Nat → Nat → Int} {R : Nat → Nat → Option Nat} {u : Int64} (hF : FixR R) {v : Int} (hv : 1 ≤ v ∧ v < 10000) {l : List Int} (hl : l.length + (num v).length ≤ 20) : am_run am_tb (d + 2) 90 [vR 297, vI v] (LH L (wrc I l) R u) = some ([], LH L (wrc I (l ++ num v)) R u) := by
  refine run_of tb_X10_writeNumber (Nat.le_of_ble_eq_true rfl) ?_
  show ∃ ls', am_ev (am_run am_tb (d + 1)) tX10_writeNumber ([vR 297, vI v, vU, vU, vU], [], (LH L (wrc I l) R u)) = some (1, ls', [], LH L (wrc I (l ++ num v)) R u)
  obtain ⟨r, hlp, l4, er⟩ := lp10_num (d := d) (L := L) (I := I) (u := u) hF hv hl
  subst er
  apply Exists.intro
  unfold tX10_writeNumber
  apply t_Q
  · apply t_S
    refine x_iconst ?_
    refine x_istore_n rfl ?_
    refine x_sipush ?_
    refine x_istore_n rfl ?_
    exact rfl
  apply t_Q
  · apply t_K
    apply t_W
    exact hlp
  apply t_B
  · exact rfl
  exact rfl
/-- a letter with its exponent, behind something or not -/
def wlt (c n b : Int) : List Int := if n = 0 then [] else (if b = 1 then [42] else []) ++ ltr c n
theorem wlt_l {c n b : Int} (h : n < 100) : (wlt c n b).length ≤ 5 := by
  have := num_2 h
  unfold wlt ltr
  split
  · show 0 ≤ 5; omega
  · rw [List.length_append]
    have e1 : (if b = 1 then ([42] : List Int) else []).length ≤ 1 := by split <;> decide
    have e2 : (c :: if 1 < n then 94 :: num n else []).length ≤ 4 := by
      rw [List.length_cons]
      split
      · rw [List.length_cons]; omega
      · show 0 + 1 ≤ 4; omega
    omega
theorem ap1 {l : List Int} {c : Int} : (l ++ [c]).length = l.length + 1 := by rw [List.length_append]; rfl
set_option maxRecDepth 10000 in
theorem s10_letter {d L : Nat} {I : Nat → Nat → Int} {R : Nat → Nat → Option Nat} {u : Int64} (hF : FixR R) {c n b : Int} (hn : 0 ≤ n ∧ n ≤ 12) (hb : b = 0 ∨ b = 1) {l : List Int} (hl : l.length ≤ 15) : am_run am_tb (d + 3) 89 [vR 297, vI c, vI n, vI b] (LH L (wrc I l) R u) = some ([], LH L (wrc I (l ++ wlt c n b)) R u) := by
  refine run_of tb_X10_writeLetter (Nat.le_of_ble_eq_true rfl) ?_
  show ∃ ls', am_ev (am_run am_tb (d + 2)) tX10_writeLetter ([vR 297, vI c, vI n, vI b], [], (LH L (wrc I l) R u)) = some (1, ls', [], LH L (wrc I (l ++ wlt c n b)) R u)
  have hn2 := num_2 (v := n) (by omega)
  by_cases c0 : n = 0
  · rw [show wlt c n b = [] from if_pos c0, List.append_nil]
    apply Exists.intro
    unfold tX10_writeLetter
    apply t_Q
    · apply t_S
      refine x_iload_n rfl ?_
      exact rfl
    apply t_Qs
    apply t_Ks
    · apply t_Q
      · apply t_B
        · exact rfl
        exact t_if_ne_f (by omega)
      apply t_B
      · exact rfl
      exact rfl
    · decide
  have ew : wlt c n b = (if b = 1 then [42] else []) ++ ltr c n := if_neg c0
  rw [ew]
  by_cases c1 : b = 1
  · rw [if_pos c1]
    by_cases c2 : 1 < n
    · rw [show ltr c n = c :: 94 :: num n by unfold ltr; rw [if_pos c2], show l ++ ([42] ++ c :: 94 :: num n) = ((l ++ [42]) ++ [c] ++ [94]) ++ num n by simp only [List.append_assoc, List.cons_append, List.nil_append]]
      apply Exists.intro
      unfold tX10_writeLetter
      apply t_Q
      · apply t_S
        refine x_iload_n rfl ?_
        exact rfl
      apply t_Q
      · apply t_K
        apply t_Qs
        apply t_B
        · exact rfl
        exact t_if_ne_t (by omega)
      apply t_Q
      · apply t_S
        refine x_iload_n rfl ?_
        exact rfl
      apply t_Q
      · apply t_Ks
        · apply t_Q
          · apply t_B
            · exact rfl
            exact t_if_eq_f (by omega)
          apply t_S
          refine x_aload_n rfl ?_
          refine x_bipush ?_
          refine x_V2v tg_297 (Nat.le_of_ble_eq_true rfl) (s10_write (d := d + 1) hF (by omega)) ?_
          exact rfl
        · decide
      apply t_Q
      · apply t_S
        refine x_aload_n rfl ?_
        refine x_iload_n rfl ?_
        refine x_V2v tg_297 (Nat.le_of_ble_eq_true rfl) (s10_write (d := d + 1) hF (by rw [ap1]; omega)) ?_
        refine x_iload_n rfl ?_
        refine x_iconst ?_
        exact rfl
      apply t_Q
      · apply t_Ks
        · apply t_Q
          · apply t_B
            · exact rfl
            exact t_ic_le_f (by omega)
          apply t_S
          refine x_aload_n rfl ?_
          refine x_bipush ?_
          refine x_V2v tg_297 (Nat.le_of_ble_eq_true rfl) (s10_write (d := d + 1) hF (by rw [ap1, ap1]; omega)) ?_
          refine x_aload_n rfl ?_
          refine x_iload_n rfl ?_
          refine x_V2v tg_297 (Nat.le_of_ble_eq_true rfl) (s10_number (d := d) hF (by omega) (by rw [ap1, ap1, ap1]; omega)) ?_
          exact rfl
        · decide
      apply t_B
      · exact rfl
      exact rfl
    · rw [show ltr c n = [c] by unfold ltr; rw [if_neg c2], show l ++ ([42] ++ [c]) = (l ++ [42]) ++ [c] by simp only [List.append_assoc, List.cons_append, List.nil_append]]
      apply Exists.intro
      unfold tX10_writeLetter
      apply t_Q
      · apply t_S
        refine x_iload_n rfl ?_
        exact rfl
      apply t_Q
      · apply t_K
        apply t_Qs
        apply t_B
        · exact rfl
        exact t_if_ne_t (by omega)
      apply t_Q
      · apply t_S
        refine x_iload_n rfl ?_
        exact rfl
      apply t_Q
      · apply t_Ks
        · apply t_Q
          · apply t_B
            · exact rfl
            exact t_if_eq_f (by omega)
          apply t_S
          refine x_aload_n rfl ?_
          refine x_bipush ?_
          refine x_V2v tg_297 (Nat.le_of_ble_eq_true rfl) (s10_write (d := d + 1) hF (by omega)) ?_
          exact rfl
        · decide
      apply t_Q
      · apply t_S
        refine x_aload_n rfl ?_
        refine x_iload_n rfl ?_
        refine x_V2v tg_297 (Nat.le_of_ble_eq_true rfl) (s10_write (d := d + 1) hF (by rw [ap1]; omega)) ?_
        refine x_iload_n rfl ?_
        refine x_iconst ?_
        exact rfl
      apply t_Q
      · apply t_K
        apply t_Qs
        apply t_B
        · exact rfl
        exact t_ic_le_t (by omega)
      apply t_B
      · exact rfl
      exact rfl
  · rw [if_neg c1, List.nil_append]
    by_cases c2 : 1 < n
    · rw [show ltr c n = c :: 94 :: num n by unfold ltr; rw [if_pos c2], show l ++ (c :: 94 :: num n) = ((l ++ [c]) ++ [94]) ++ num n by simp only [List.append_assoc, List.cons_append, List.nil_append]]
      apply Exists.intro
      unfold tX10_writeLetter
      apply t_Q
      · apply t_S
        refine x_iload_n rfl ?_
        exact rfl
      apply t_Q
      · apply t_K
        apply t_Qs
        apply t_B
        · exact rfl
        exact t_if_ne_t (by omega)
      apply t_Q
      · apply t_S
        refine x_iload_n rfl ?_
        exact rfl
      apply t_Q
      · apply t_K
        apply t_Qs
        apply t_B
        · exact rfl
        exact t_if_eq_t (by omega)
      apply t_Q
      · apply t_S
        refine x_aload_n rfl ?_
        refine x_iload_n rfl ?_
        refine x_V2v tg_297 (Nat.le_of_ble_eq_true rfl) (s10_write (d := d + 1) hF (by omega)) ?_
        refine x_iload_n rfl ?_
        refine x_iconst ?_
        exact rfl
      apply t_Q
      · apply t_Ks
        · apply t_Q
          · apply t_B
            · exact rfl
            exact t_ic_le_f (by omega)
          apply t_S
          refine x_aload_n rfl ?_
          refine x_bipush ?_
          refine x_V2v tg_297 (Nat.le_of_ble_eq_true rfl) (s10_write (d := d + 1) hF (by rw [ap1]; omega)) ?_
          refine x_aload_n rfl ?_
          refine x_iload_n rfl ?_
          refine x_V2v tg_297 (Nat.le_of_ble_eq_true rfl) (s10_number (d := d) hF (by omega) (by rw [ap1, ap1]; omega)) ?_
          exact rfl
        · decide
      apply t_B
      · exact rfl
      exact rfl
    · rw [show ltr c n = [c] by unfold ltr; rw [if_neg c2]]
      apply Exists.intro
      unfold tX10_writeLetter
      apply t_Q
      · apply t_S
        refine x_iload_n rfl ?_
        exact rfl
      apply t_Q
      · apply t_K
        apply t_Qs
        apply t_B
        · exact rfl
        exact t_if_ne_t (by omega)
      apply t_Q
      · apply t_S
        refine x_iload_n rfl ?_
        exact rfl
      apply t_Q
      · apply t_K
        apply t_Qs
        apply t_B
        · exact rfl
        exact t_if_eq_t (by omega)
      apply t_Q
      · apply t_S
        refine x_aload_n rfl ?_
        refine x_iload_n rfl ?_
        refine x_V2v tg_297 (Nat.le_of_ble_eq_true rfl) (s10_write (d := d + 1) hF (by omega)) ?_
        refine x_iload_n rfl ?_
        refine x_iconst ?_
        exact rfl
      apply t_Q
      · apply t_K
        apply t_Qs
        apply t_B
        · exact rfl
        exact t_ic_le_t (by omega)
      apply t_B
      · exact rfl
      exact rfl
