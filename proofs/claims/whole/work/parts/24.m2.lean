/-! The reference's rows of work, searches, tables. Written by wip/whole/gen_24.py. -/
/-- the least place below n where p holds; n: there is none -/
def fnd (p : Nat → Bool) : Nat → Nat
  | 0 => 0
  | n + 1 => if fnd p n < n then fnd p n else if p n = true then n else n + 1
theorem fnd_le (p : Nat → Bool) (n : Nat) : fnd p n ≤ n := by
  induction n with
  | zero => exact Nat.le_refl 0
  | succ n ih =>
    show (if fnd p n < n then fnd p n else if p n = true then n else n + 1) ≤ n + 1
    split
    · omega
    · split <;> omega
theorem fnd_no {p : Nat → Bool} {n k : Nat} (h : k < fnd p n) : p k = false := by
  induction n with
  | zero => exact absurd h (Nat.not_lt_zero k)
  | succ n ih =>
    have hl := fnd_le p n
    change k < (if fnd p n < n then fnd p n else if p n = true then n else n + 1) at h
    split at h
    · exact ih h
    · split at h
      · exact ih (by omega)
      · by_cases hk : k = n
        · subst hk
          rename_i h1 h2
          exact Bool.eq_false_iff.mpr h2
        · exact ih (by omega)
theorem fnd_yes {p : Nat → Bool} {n : Nat} (h : fnd p n < n) : p (fnd p n) = true := by
  induction n with
  | zero => exact absurd h (Nat.not_lt_zero _)
  | succ n ih =>
    have hl := fnd_le p n
    change (if fnd p n < n then fnd p n else if p n = true then n else n + 1) < n + 1 at h
    change p (if fnd p n < n then fnd p n else if p n = true then n else n + 1) = true
    split
    · rename_i h1; exact ih h1
    · rename_i h1
      rw [if_neg h1] at h
      split
      · rename_i h2; exact h2
      · rename_i h2
        rw [if_neg h2] at h
        omega
/-- triangles, words -/
def tri (n : Nat) : Nat := n * (n + 1) / 2
def pl (i j : Nat) : Nat := tri (i + j) + j
theorem tri_s (n : Nat) : tri (n + 1) = tri n + (n + 1) := by
  unfold tri
  rw [show (n + 1) * (n + 1 + 1) = n * (n + 1) + 2 * (n + 1) by
    rw [Nat.mul_add (n + 1) (n + 1) 1, Nat.mul_one, Nat.add_mul n 1 (n + 1), Nat.one_mul]; omega, Nat.add_mul_div_left _ _ (by decide)]
theorem tri_m {n m : Nat} (h : n ≤ m) : tri n ≤ tri m := by
  induction m with
  | zero => rw [show n = 0 by omega]; exact Nat.le_refl _
  | succ m ih =>
    by_cases e : n = m + 1
    · rw [e]; exact Nat.le_refl _
    · have := ih (by omega)
      rw [tri_s]; omega
/-- the degree of a word -/
def wn : Nat → Nat
  | 0 => 0
  | k + 1 => if k + 1 = tri (wn k + 1) then wn k + 1 else wn k
theorem wn_b (k : Nat) : tri (wn k) ≤ k ∧ k < tri (wn k + 1) := by
  induction k with
  | zero => exact ⟨Nat.le_refl 0, by decide⟩
  | succ k ih =>
    change tri (if k + 1 = tri (wn k + 1) then wn k + 1 else wn k) ≤ k + 1 ∧ k + 1 < tri ((if k + 1 = tri (wn k + 1) then wn k + 1 else wn k) + 1)
    split
    · rename_i h
      rw [tri_s (wn k + 1)]
      omega
    · rename_i h
      omega
theorem wn_u {n k : Nat} (h1 : tri n ≤ k) (h2 : k < tri (n + 1)) : wn k = n := by
  have b := wn_b k
  by_cases c : wn k < n
  · have := tri_m (show wn k + 1 ≤ n from c)
    omega
  · by_cases c2 : n < wn k
    · have := tri_m (show n + 1 ≤ wn k from c2)
      omega
    · omega
def dw (k : Nat) : Nat := k - tri (wn k)
def xw (k : Nat) : Nat := wn k - dw k
theorem dw_le (k : Nat) : dw k ≤ wn k := by
  have b := wn_b k
  rw [tri_s] at b
  unfold dw; omega
theorem xw_dw (k : Nat) : xw k + dw k = wn k := by
  have := dw_le k
  unfold xw; omega
theorem wn_pl (i j : Nat) : wn (pl i j) = i + j := wn_u (Nat.le_add_right _ _) (by rw [tri_s]; unfold pl; omega)
theorem dw_pl (i j : Nat) : dw (pl i j) = j := by unfold dw; rw [wn_pl]; unfold pl; omega
theorem xw_pl (i j : Nat) : xw (pl i j) = i := by unfold xw; rw [wn_pl, dw_pl]; omega
theorem pl_w (k : Nat) : pl (xw k) (dw k) = k := by
  have b := wn_b k
  unfold pl; rw [xw_dw]; unfold dw; omega
theorem wn_lt {k n : Nat} (h : k < tri (n + 1)) : wn k ≤ n := by
  have b := wn_b k
  by_cases c : n < wn k
  · have := tri_m (show n + 1 ≤ wn k from c)
    omega
  · omega
theorem pl_lt {i j n : Nat} (h : i + j ≤ n) : pl i j < tri (n + 1) := by
  have := tri_m (show i + j + 1 ≤ n + 1 by omega)
  rw [tri_s] at this
  unfold pl; omega
theorem pl_int (i j : Nat) : ((i : Int) + j) * ((i : Int) + j + 1) / 2 + j = (pl i j : Nat) := by
  show _ = (((i + j) * (i + j + 1) / 2 + j : Nat) : Int)
  rw [Int.natCast_add, Int.natCast_ediv, Int.natCast_mul, Int.natCast_add, Int.natCast_add]
  rfl
/-- binomials modulo 10007 -/
def ch : Nat → Nat → Int
  | _, 0 => 1
  | 0, _ + 1 => 0
  | n + 1, j + 1 => (ch n (j + 1) + ch n j) % 10007
theorem ch_b (n j : Nat) : 0 ≤ ch n j ∧ ch n j < 10007 := by
  cases j with
  | zero => cases n <;> exact ⟨show (0 : Int) ≤ 1 by decide, show (1 : Int) < 10007 by decide⟩
  | succ j =>
    cases n with
    | zero => exact ⟨show (0 : Int) ≤ 0 by decide, show (0 : Int) < 10007 by decide⟩
    | succ n =>
      show 0 ≤ (ch n (j + 1) + ch n j) % 10007 ∧ (ch n (j + 1) + ch n j) % 10007 < 10007
      omega
/-- rows of work -/
def gro (I : Nat → Nat → Int) (r k : Nat) : Int := I 306 (496 * r + k)
def sro (I : Nat → Nat → Int) (r : Nat) (f : Nat → Int) : Nat → Nat → Int := au I 306 (fun j => if j / 496 = r then f (j % 496) else I 306 j)
section SRO
variable {I : Nat → Nat → Int} {r q k : Nat} {f g : Nat → Int} {v : Int}
theorem sro_o {a : Nat} (h : a ≠ 306) : sro I r f a = I a := au_n _ _ h
theorem gro_s (h : k < 496) : gro (sro I r f) r k = f k := by
  unfold gro sro
  rw [au_s, if_pos (by omega)]
  exact congrArg f (by omega)
theorem gro_n (h : k < 496) (hq : q ≠ r) : gro (sro I r f) q k = gro I q k := by
  unfold gro sro
  rw [au_s, if_neg (by omega)]
theorem sro_c (h : ∀ k, k < 496 → f k = g k) : sro I r f = sro I r g := by
  unfold sro
  refine au_c ?_
  funext j
  split
  · exact h _ (Nat.mod_lt _ (by decide))
  · rfl
theorem sro_id (h : ∀ k, k < 496 → f k = gro I r k) : sro I r f = I := by
  unfold sro
  refine (au_c ?_).trans au_id
  funext j
  split
  · rename_i e
    rw [h _ (Nat.mod_lt _ (by decide))]
    show I 306 _ = I 306 _
    exact congrArg _ (by omega)
  · rfl
theorem sro_sro : sro (sro I r f) r g = sro I r g := by
  unfold sro
  rw [au_au, au_s]
  refine au_c ?_
  funext j
  split
  · rfl
  · rfl
theorem sro_w {i : Int} (hi : i = 496 * (r : Int) + k) (hk : k < 496) : au (sro I r f) 306 (au (sro I r f 306) i.toNat v) = sro I r (au f k v) := by
  unfold sro
  rw [au_au, au_s]
  refine au_c ?_
  funext j
  unfold au
  by_cases e : j = i.toNat
  · rw [if_pos e, if_pos (by omega), if_pos (by omega)]
  · rw [if_neg e]
    show (if j / 496 = r then f (j % 496) else I 306 j) = (if j / 496 = r then (if j % 496 = k then v else f (j % 496)) else I 306 j)
    split
    · rw [if_neg (by omega)]
    · rfl
theorem gro_i {i : Int} (hi : i = 496 * (r : Int) + k) : I 306 i.toNat = gro I r k := by
  unfold gro
  exact congrArg _ (by omega)
end SRO
def Tabs (I : Nat → Nat → Int) : Prop := (∀ w, w < 496 → I 307 w = (xw w : Nat)) ∧ (∀ w, w < 496 → I 308 w = (dw w : Nat)) ∧ ∀ n j, n ≤ 30 → j ≤ n → I 309 (31 * n + j) = ch n j
def Res (I : Nat → Nat → Int) : Prop := ∀ j, 0 ≤ I 306 j ∧ I 306 j < 10007
theorem Res_s {I : Nat → Nat → Int} {r : Nat} {f : Nat → Int} (h : Res I) (hf : ∀ k, k < 496 → 0 ≤ f k ∧ f k < 10007) : Res (sro I r f) := by
  intro j
  unfold sro
  rw [au_s]
  split
  · exact hf _ (Nat.mod_lt _ (by decide))
  · exact h j
theorem Res_g {I : Nat → Nat → Int} (h : Res I) (r k : Nat) : 0 ≤ gro I r k ∧ gro I r k < 10007 := h _
theorem Tabs_s {I : Nat → Nat → Int} {r : Nat} {f : Nat → Int} (h : Tabs I) : Tabs (sro I r f) := by
  unfold Tabs
  rw [sro_o (by decide), sro_o (by decide), sro_o (by decide)]
  exact h
section XW
variable {G : am_G} {L : Nat} {I : Nat → Nat → Int} {R : Nat → Nat → Option Nat} {u : Int64} {ls st : List am_V} {z : Nat × Nat × Nat} {rr : List am_I} {Y : Option am_S}
/-- a field, an element that is known by a name -/
theorem x_giv {a c f i x : Nat} {v : Int} (ht : tg a = c) (hs : sk c f = 0) (hv : I a f = v) (k : am_L G rr (ls, vI v :: st, LH L I R u) = Y) : am_L G ((.getfield i, c, f, x) :: rr) (ls, vR a :: st, LH L I R u) = Y := by
  subst hv; exact x_gi ht hs k
theorem x_ialdv {a n : Nat} {i v : Int} (ht : tg a = 20 ∨ tg a = 30) (hn : ln L a = n) (hi : 0 ≤ i ∧ i < n ∧ n ≤ 100000) (hv : I a i.toNat = v) (k : am_L G rr (ls, vI v :: st, LH L I R u) = Y) : am_L G ((.iaload, z) :: rr) (ls, vI i :: vR a :: st, LH L I R u) = Y := by
  subst hv; exact x_iald ht hn hi k
theorem x_wld {i v : Int} (r k : Nat) (hi : i = 496 * (r : Int) + k ∧ r < 46 ∧ k < 496) (hv : gro I r k = v) (kk : am_L G rr (ls, vI v :: st, LH L I R u) = Y) : am_L G ((.iaload, z) :: rr) (ls, vI i :: vR 306 :: st, LH L I R u) = Y :=
  x_ialdv (Or.inl tg_306) (ln_306 L) (by omega) ((gro_i hi.1).trans hv) kk
theorem x_wst {i v : Int} {r : Nat} {f : Nat → Int} (k : Nat) (hi : i = 496 * (r : Int) + k ∧ r < 46 ∧ k < 496) (kk : am_L G rr (ls, st, LH L (sro I r (au f k v)) R u) = Y) : am_L G ((.iastore, z) :: rr) (ls, vI v :: vI i :: vR 306 :: st, LH L (sro I r f) R u) = Y := by
  refine x_iast tg_306 (ln_306 L) (by omega) ?_
  rw [sro_w hi.1 hi.2.2]
  exact kk
/-- the first write into a row -/
theorem x_wst0 {i v : Int} (r k : Nat) (hi : i = 496 * (r : Int) + k ∧ r < 46 ∧ k < 496) (kk : am_L G rr (ls, st, LH L (sro I r (au (gro I r) k v)) R u) = Y) : am_L G ((.iastore, z) :: rr) (ls, vI v :: vI i :: vR 306 :: st, LH L I R u) = Y := by
  rw [← sro_id (I := I) (r := r) (f := gro I r) (fun _ _ => rfl)]
  exact x_wst k hi kk
end XW
set_option maxRecDepth 10000 in
theorem s_bad {d L : Nat} {I : Nat → Nat → Int} {R : Nat → Nat → Option Nat} {u : Int64} (hF : FixR R) : am_run am_tb (d + 1) 135 [vR 301] (LH L I R u) = some ([vI (-20002)], LH L (au I 304 (au (I 304) 0 (I 304 0 + 1))) R u) := by
  refine run_of tb_X12_bad (Nat.le_of_ble_eq_true rfl) ?_
  show ∃ ls', am_ev (am_run am_tb (d + 0)) tX12_bad ([vR 301], [], (LH L I R u)) = some (1, ls', [vI (-20002)], LH L (au I 304 (au (I 304) 0 (I 304 0 + 1))) R u)
  apply Exists.intro
  unfold tX12_bad
  apply t_B
  · refine x_aload_n rfl ?_
    refine x_gr tg_301 rfl (fx_301_3 hF) ?_
    refine x_iconst ?_
    refine x_dup2 ⟨rfl, rfl⟩ ?_
    refine x_iald (Or.inl tg_304) (ln_304 L) (by omega) ?_
    refine x_iconst ?_
    refine x_iadd ?_
    refine x_iast tg_304 (ln_304 L) (by omega) ?_
    refine x_sipush ?_
    exact rfl
  exact t_ireq (Or.inl rfl) rfl rfl
set_option maxRecDepth 10000 in
theorem s_no {d L : Nat} {I : Nat → Nat → Int} {R : Nat → Nat → Option Nat} {u : Int64} (hF : FixR R) : am_run am_tb (d + 1) 136 [vR 301] (LH L I R u) = some ([vI (-20003)], LH L (au I 304 (au (I 304) 1 (I 304 1 + 1))) R u) := by
  refine run_of tb_X12_no (Nat.le_of_ble_eq_true rfl) ?_
  show ∃ ls', am_ev (am_run am_tb (d + 0)) tX12_no ([vR 301], [], (LH L I R u)) = some (1, ls', [vI (-20003)], LH L (au I 304 (au (I 304) 1 (I 304 1 + 1))) R u)
  apply Exists.intro
  unfold tX12_no
  apply t_B
  · refine x_aload_n rfl ?_
    refine x_gr tg_301 rfl (fx_301_3 hF) ?_
    refine x_iconst ?_
    refine x_dup2 ⟨rfl, rfl⟩ ?_
    refine x_iald (Or.inl tg_304) (ln_304 L) (by omega) ?_
    refine x_iconst ?_
    refine x_iadd ?_
    refine x_iast tg_304 (ln_304 L) (by omega) ?_
    refine x_sipush ?_
    exact rfl
  exact t_ireq (Or.inl rfl) rfl rfl
set_option maxRecDepth 10000 in
theorem s_full {d L : Nat} {I : Nat → Nat → Int} {R : Nat → Nat → Option Nat} {u : Int64} (hF : FixR R) : am_run am_tb (d + 1) 137 [vR 301] (LH L I R u) = some ([vI (-20004)], LH L (au I 304 (au (I 304) 2 (I 304 2 + 1))) R u) := by
  refine run_of tb_X12_full (Nat.le_of_ble_eq_true rfl) ?_
  show ∃ ls', am_ev (am_run am_tb (d + 0)) tX12_full ([vR 301], [], (LH L I R u)) = some (1, ls', [vI (-20004)], LH L (au I 304 (au (I 304) 2 (I 304 2 + 1))) R u)
  apply Exists.intro
  unfold tX12_full
  apply t_B
  · refine x_aload_n rfl ?_
    refine x_gr tg_301 rfl (fx_301_3 hF) ?_
    refine x_iconst ?_
    refine x_dup2 ⟨rfl, rfl⟩ ?_
    refine x_iald (Or.inl tg_304) (ln_304 L) (by omega) ?_
    refine x_iconst ?_
    refine x_iadd ?_
    refine x_iast tg_304 (ln_304 L) (by omega) ?_
    refine x_sipush ?_
    exact rfl
  exact t_ireq (Or.inl rfl) rfl rfl
theorem au2 {I : Nat → Nat → Int} {a b j : Nat} {f : Nat → Int} : au I a f b j = if b = a then f j else I b j := by
  unfold au; split <;> rfl
theorem au_i {f : Nat → Int} {k j : Nat} {v : Int} : au f k v j = if j = k then v else f j := rfl
def m_past (I : Nat → Nat → Int) (n : Nat) : Nat → Int := fun j => if n = 5 then (if j < 2436 then I 303 (j + 609) else if j < 3045 then I 302 (j - 2436) else I 303 j) else if 609 * n ≤ j ∧ j < 609 * n + 609 then I 302 (j - 609 * n) else I 303 j
def m_rem (I : Nat → Nat → Int) (n : Nat) : Nat → Nat → Int := au (au I 303 (m_past I n)) 301 (au (au (I 301) 17 0) 2 (if n = 5 then 5 else (n : Int) + 1))
set_option maxRecDepth 10000 in
theorem lp_rem1 {d L : Nat} {I : Nat → Nat → Int} {R : Nat → Nat → Option Nat} {u : Int64} (hF : FixR R) {a : Nat} : am_lp (am_ev (am_run am_tb d) wX12_remembers_15) 15 am_F ([vR 301, vI 0], [], LH L I R u) = some (46, [vR 301, vI 2436], [], LH L (au I 303 (fun j => if j < 2436 then I 303 (j + 609) else I 303 j)) R u) := by
  refine lp_up0 (fun k => ([vR 301, vI k], [], LH L (au I 303 (fun j => if j < k then I 303 (j + 609) else I 303 j)) R u)) 2436 (s3 rfl (au_id.symm.trans (au_c (by funext j; rw [if_neg (by omega)])))) (by decide) (by show ¬ 46 = 15 + 2; decide) (fun k hk => ?_) ?_
  · unfold wX12_remembers_15
    apply t_Q
    · apply t_B
      · refine x_iload_n rfl ?_
        refine x_sipush ?_
        exact rfl
      exact t_ic_ge_f (by omega)
    apply t_B
    · refine x_aload_n rfl ?_
      refine x_gr tg_301 rfl (fx_301_1 hF) ?_
      refine x_iload_n rfl ?_
      refine x_aload_n rfl ?_
      refine x_gr tg_301 rfl (fx_301_1 hF) ?_
      refine x_iload_n rfl ?_
      refine x_sipush ?_
      refine x_iadd ?_
      refine x_iald (Or.inl tg_303) (ln_303 L) (by omega) ?_
      refine x_iast tg_303 (ln_303 L) (by omega) ?_
      refine x_iinc rfl rfl ?_
      exact rfl
    exact t_goeq (s3 rfl (au_w (by funext j; simp only [au2, au_i, ↓reduceIte, Nat.reduceEqDiff, Nat.reduceMul, Nat.reduceAdd, Nat.reduceSub]; (repeat' split) <;> first | rfl | omega | (congr 1; omega) | (exfalso; omega))))
  · unfold wX12_remembers_15
    apply t_Qs
    apply t_B
    · refine x_iload_n rfl ?_
      refine x_sipush ?_
      exact rfl
    exact t_ic_ge_t (by omega)
set_option maxRecDepth 10000 in
theorem lp_rem2 {d L : Nat} {I : Nat → Nat → Int} {R : Nat → Nat → Option Nat} {u : Int64} (hF : FixR R) {n : Nat} (hn : I 301 2 = n) (h5 : n < 5) : am_lp (am_ev (am_run am_tb d) wX12_remembers_56) 56 am_F ([vR 301, vI 0], [], LH L I R u) = some (92, [vR 301, vI 609], [], LH L (au I 303 (fun j => if 609 * n ≤ j ∧ j < 609 * n + 609 then I 302 (j - 609 * n) else I 303 j)) R u) := by
  refine lp_up0 (fun k => ([vR 301, vI k], [], LH L (au I 303 (fun j => if 609 * n ≤ j ∧ j < 609 * n + k then I 302 (j - 609 * n) else I 303 j)) R u)) 609 (s3 rfl (au_id.symm.trans (au_c (by funext j; rw [if_neg (by omega)])))) (by decide) (by show ¬ 92 = 56 + 2; decide) (fun k hk => ?_) ?_
  · unfold wX12_remembers_56
    apply t_Q
    · apply t_B
      · refine x_iload_n rfl ?_
        refine x_sipush ?_
        exact rfl
      exact t_ic_ge_f (by omega)
    apply t_B
    · refine x_aload_n rfl ?_
      refine x_gr tg_301 rfl (fx_301_1 hF) ?_
      refine x_sipush ?_
      refine x_aload_n rfl ?_
      refine x_giv tg_301 rfl (show _ = (n : Int) from hn) ?_
      refine x_imul ?_
      refine x_iload_n rfl ?_
      refine x_iadd ?_
      refine x_aload_n rfl ?_
      refine x_gr tg_301 rfl (fx_301_0 hF) ?_
      refine x_iload_n rfl ?_
      refine x_iald (Or.inl tg_302) (ln_302 L) (by omega) ?_
      refine x_iast tg_303 (ln_303 L) (by omega) ?_
      refine x_iinc rfl rfl ?_
      exact rfl
    exact t_goeq (s3 rfl (au_w (by funext j; simp only [au2, au_i, ↓reduceIte, Nat.reduceEqDiff, Nat.reduceMul, Nat.reduceAdd, Nat.reduceSub]; (repeat' split) <;> first | rfl | omega | (congr 1; omega) | (exfalso; omega))))
  · unfold wX12_remembers_56
    apply t_Qs
    apply t_B
    · refine x_iload_n rfl ?_
      refine x_sipush ?_
      exact rfl
    exact t_ic_ge_t (by omega)
set_option maxRecDepth 10000 in
theorem s_remembers {d L : Nat} {I : Nat → Nat → Int} {R : Nat → Nat → Option Nat} {u : Int64} (hF : FixR R) {n : Nat} (hn : I 301 2 = n) (h5 : n ≤ 5) : am_run am_tb (d + 1) 138 [vR 301] (LH L I R u) = some ([], LH L (m_rem I n) R u) := by
  refine run_of tb_X12_remembers (Nat.le_of_ble_eq_true rfl) ?_
  show ∃ ls', am_ev (am_run am_tb (d + 0)) tX12_remembers ([vR 301, vU], [], (LH L I R u)) = some (1, ls', [], LH L (m_rem I n) R u)
  by_cases c : n = 5
  · subst c
    apply Exists.intro
    unfold tX12_remembers
    apply t_Q
    · apply t_S
      refine x_aload_n rfl ?_
      refine x_iconst ?_
      refine x_pi tg_301 rfl rfl ?_
      refine x_aload_n rfl ?_
      refine x_giv tg_301 rfl (show _ = (5 : Int) from hn) ?_
      refine x_iconst ?_
      exact rfl
    apply t_Q
    · apply t_Ks
      · apply t_Q
        · apply t_B
          · exact rfl
          exact t_ic_ne_f (by omega)
        apply t_Q
        · apply t_S
          refine x_iconst ?_
          refine x_istore_n rfl ?_
          exact rfl
        apply t_Q
        · apply t_K
          apply t_W
          exact lp_rem1 hF (a := 0)
        apply t_S
        refine x_aload_n rfl ?_
        refine x_dup rfl ?_
        refine x_giv tg_301 rfl (show _ = (5 : Int) from hn) ?_
        refine x_iconst ?_
        refine x_isub ?_
        refine x_pi tg_301 rfl rfl ?_
        exact rfl
      · decide
    apply t_Q
    · apply t_S
      refine x_iconst ?_
      refine x_istore_n rfl ?_
      exact rfl
    apply t_Q
    · apply t_K
      apply t_W
      exact lp_rem2 hF (n := 4) (show (5 : Int) - 1 = _ from rfl) (by decide)
    apply t_B
    · refine x_aload_n rfl ?_
      refine x_dup rfl ?_
      refine x_gi tg_301 rfl ?_
      refine x_iconst ?_
      refine x_iadd ?_
      refine x_pi tg_301 rfl rfl ?_
      exact rfl
    exact t_vreq (LH_c (by funext a j; simp only [m_rem, m_past, au2, au_i, ↓reduceIte, Nat.reduceEqDiff, Nat.reduceMul, Nat.reduceAdd, Nat.reduceSub]; (repeat' split) <;> first | rfl | omega | (congr 1; omega) | (exfalso; omega) | (subst_vars; rfl) | trace_state))
  apply Exists.intro
  unfold tX12_remembers
  apply t_Q
  · apply t_S
    refine x_aload_n rfl ?_
    refine x_iconst ?_
    refine x_pi tg_301 rfl rfl ?_
    refine x_aload_n rfl ?_
    refine x_giv tg_301 rfl (show _ = (n : Int) from hn) ?_
    refine x_iconst ?_
    exact rfl
  apply t_Q
  · apply t_K
    apply t_Qs
    apply t_B
    · exact rfl
    exact t_ic_ne_t (by omega)
  apply t_Q
  · apply t_S
    refine x_iconst ?_
    refine x_istore_n rfl ?_
    exact rfl
  apply t_Q
  · apply t_K
    apply t_W
    exact lp_rem2 hF hn (by omega)
  apply t_B
  · refine x_aload_n rfl ?_
    refine x_dup rfl ?_
    refine x_giv tg_301 rfl (show _ = (n : Int) from hn) ?_
    refine x_iconst ?_
    refine x_iadd ?_
    refine x_pi tg_301 rfl rfl ?_
    exact rfl
  exact t_vreq (LH_c (by funext a j; simp only [m_rem, m_past, au2, au_i, ↓reduceIte, Nat.reduceEqDiff, Nat.reduceMul, Nat.reduceAdd, Nat.reduceSub]; (repeat' split) <;> first | rfl | omega | (congr 1; omega) | (exfalso; omega) | (subst_vars; rfl) | trace_state))
