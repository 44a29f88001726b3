/-! The class: kernel. Written by wip/whole/gen_92.py. -/
/-- the rows of the matrix, in some order -/
def Prm (R : Nat → Nat → Option Nat) (ρ : Nat → Nat) : Prop := (∀ k, k < 16 → R 236 k = some (ρ k) ∧ 237 ≤ ρ k ∧ ρ k ≤ 252) ∧ ∀ k l, k < 16 → l < 16 → ρ k = ρ l → k = l
theorem ar_act {a : Nat} (h : 237 ≤ a ∧ a ≤ 252) : Arx a 31 := by
  obtain ⟨k, rfl⟩ : ∃ k, a = 237 + k := ⟨a - 237, by omega⟩
  obtain ⟨b2, b3⟩ := (by decide +kernel : ∀ k, k < 16 → tg (237 + k) = 20 ∧ (237 + k ≠ 0 ∧ ly_n.getD (237 + k) 0 = 31)) k (by omega)
  exact ⟨b2, fun L => ln_of L b3, by decide⟩
theorem FixR_m {R : Nat → Nat → Option Nat} (hF : FixR R) {R' : Nat → Nat → Option Nat} (h : ∀ a, a ≠ 160 → a ≠ 167 → a ≠ 236 → R' a = R a) : FixR R' := by
  have key : ∀ e ∈ ly_c, e.1 ≠ 160 ∧ e.1 ≠ 167 ∧ e.1 ≠ 236 := by decide +kernel
  intro e he
  obtain ⟨h1, h2, h3⟩ := key e he
  rw [h e.1 h1 h2 h3]
  exact hF e he
theorem Prm_sw {R : Nat → Nat → Option Nat} {ρ : Nat → Nat} (h : Prm R ρ) {i r : Nat} (hi : i < 16) (hr : r < 16) {R' : Nat → Nat → Option Nat} (e : R' 236 = au (au (R 236) i (some (ρ r))) r (some (ρ i))) : Prm R' (fun k => ρ (swp i r k)) := by
  refine ⟨fun k hk => ?_, fun k l hk hl he => ?_⟩
  · have h2 := h.1 (swp i r k) (swp_lt hi hr hk)
    refine ⟨?_, h2.2⟩
    rw [e]
    show _ = some (ρ (if k = i then r else if k = r then i else k))
    by_cases e1 : k = r
    · rw [e1, au_s]
      by_cases e2 : r = i
      · rw [if_pos e2, e2]
      · rw [if_neg e2, if_pos rfl]
    · rw [au_n _ _ e1]
      by_cases e2 : k = i
      · rw [e2, au_s, if_pos rfl]
      · rw [au_n _ _ e2, if_neg e2, if_neg e1]; exact (h.1 k hk).1
  · have := h.2 _ _ (swp_lt hi hr hk) (swp_lt hi hr hl) he
    rw [← swp_swp i r k, this, swp_swp]
def pvN (A : Nat → Nat → Int) (r n c : Nat) : Nat := fnd (fun i => decide (¬ A (r + i) c = 0)) n
theorem pvN_le (A : Nat → Nat → Int) (r n c : Nat) : pvN A r n c ≤ n := fnd_le _ _
theorem pvN_no {A : Nat → Nat → Int} {r n c k : Nat} (h : k < pvN A r n c) : A (r + k) c = 0 := Decidable.not_not.mp (of_decide_eq_false (fnd_no (p := fun i => decide (¬ A (r + i) c = 0)) h))
theorem pvN_yes {A : Nat → Nat → Int} {r n c : Nat} (h : pvN A r n c < n) : A (r + pvN A r n c) c ≠ 0 := of_decide_eq_true (fnd_yes (p := fun i => decide (¬ A (r + i) c = 0)) h)
set_option maxRecDepth 10000 in
theorem lp0_pivot {d L : Nat} {I : Nat → Nat → Int} {R : Nat → Nat → Option Nat} {u : Int64} (hF : FixR R) {ρ : Nat → Nat} (hP : Prm R ρ) {q : Nat} (hq : q ≤ 16) (hr : ∀ k m, k < q → m < 31 → 0 ≤ I (ρ k) m ∧ I (ρ k) m < 10007) {r c : Nat} (hrq : r ≤ q) (hc : c < 28) : ∃ x, am_lp (am_ev (am_run am_tb d) wX0_pivotRow_3) 3 am_F ([vR 235, vI r, vI q, vI c, vI ((r + 0 : Nat) : Int)], [], LH L I R u) = some x ∧ ((pvN (fun k => I (ρ k)) r (q - r) c = q - r ∧ ∃ ls, x = (32, ls, [], LH L I R u)) ∨ (pvN (fun k => I (ρ k)) r (q - r) c < q - r ∧ ∃ ls, x = (1, ls, [vI ((r + pvN (fun k => I (ρ k)) r (q - r) c : Nat) : Int)], LH L I R u))) := by
  have hl := pvN_le (fun k => I (ρ k)) r (q - r) c
  refine lp_inv (fun i y => y = ([vR 235, vI r, vI q, vI c, vI ((r + i : Nat) : Int)], [], LH L I R u)) _ (pvN (fun k => I (ρ k)) r (q - r) c) rfl (ltF (by omega)) (fun i y hi hp => ?_) (fun y hp => ?_)
  · subst hp
    have h0 : I (ρ (r + i)) c = 0 := pvN_no hi
    refine ⟨([vR 235, vI r, vI q, vI c, vI ((r + (i + 1) : Nat) : Int)], [], LH L I R u), ?_, rfl⟩
    unfold wX0_pivotRow_3
    apply t_Q
    · apply t_B
      · refine x_iload rfl ?_
        refine x_iload_n rfl ?_
        exact rfl
      exact t_ic_ge_f (by omega)
    apply t_Q
    · apply t_S
      refine x_aload_n rfl ?_
      refine x_gr tg_235 rfl (fx_235_1 hF) ?_
      refine x_iload rfl ?_
      refine x_aald (by rw [tg_236]; decide) (ln_236 L) (by omega) ((hP.1 (r + i) (by omega)).1 : R 236 (r + i) = some (ρ (r + i))) ?_
      refine x_iload_n rfl ?_
      refine x_ialdv (Or.inl (ar_act (hP.1 (r + i) (by omega)).2).1) ((ar_act (hP.1 (r + i) (by omega)).2).2.1 L) (by omega) (show _ = I (ρ (r + i)) c from congrArg (I (ρ (r + i))) (Int.toNat_natCast c)) ?_
      exact rfl
    apply t_Q
    · apply t_K
      apply t_Qs
      apply t_B
      · exact rfl
      exact t_if_eq_t (by omega)
    apply t_B
    · refine x_iinc rfl rfl ?_
      exact rfl
    exact t_goeq rfl
  · subst hp
    by_cases e : pvN (fun k => I (ρ k)) r (q - r) c = q - r
    · refine ⟨(32, [vR 235, vI r, vI q, vI c, vI ((r + pvN (fun k => I (ρ k)) r (q - r) c : Nat) : Int)], [], LH L I R u), ?_, by show ¬ 32 = 3 + 2; decide, Or.inl ⟨e, _, rfl⟩⟩
      rw [e]
      unfold wX0_pivotRow_3
      apply t_Qs
      apply t_B
      · refine x_iload rfl ?_
        refine x_iload_n rfl ?_
        exact rfl
      exact t_ic_ge_t (by omega)
    · have hy := pvN_yes (A := fun k => I (ρ k)) (r := r) (n := q - r) (c := c) (by omega)
      have hlt : pvN (fun k => I (ρ k)) r (q - r) c < q - r := by omega
      generalize pvN (fun k => I (ρ k)) r (q - r) c = z at *
      have hz := hr (r + z) c (by omega) (by omega)
      have hy2 : I (ρ (r + z)) c ≠ 0 := hy
      refine ⟨(1, [vR 235, vI r, vI q, vI c, vI ((r + z : Nat) : Int)], [vI ((r + z : Nat) : Int)], LH L I R u), ?_, by show ¬ 1 = 3 + 2; decide, Or.inr ⟨hlt, _, rfl⟩⟩
      unfold wX0_pivotRow_3
      apply t_Q
      · apply t_B
        · refine x_iload rfl ?_
          refine x_iload_n rfl ?_
          exact rfl
        exact t_ic_ge_f (by omega)
      apply t_Q
      · apply t_S
        refine x_aload_n rfl ?_
        refine x_gr tg_235 rfl (fx_235_1 hF) ?_
        refine x_iload rfl ?_
        refine x_aald (by rw [tg_236]; decide) (ln_236 L) (by omega) ((hP.1 (r + z) (by omega)).1 : R 236 (r + z) = some (ρ (r + z))) ?_
        refine x_iload_n rfl ?_
        refine x_ialdv (Or.inl (ar_act (hP.1 (r + z) (by omega)).2).1) ((ar_act (hP.1 (r + z) (by omega)).2).2.1 L) (by omega) (show _ = I (ρ (r + z)) c from congrArg (I (ρ (r + z))) (Int.toNat_natCast c)) ?_
        exact rfl
      apply t_Qs
      apply t_Ks
      · apply t_Q
        · apply t_B
          · exact rfl
          exact t_if_eq_f (by omega)
        apply t_B
        · refine x_iload rfl ?_
          exact rfl
        exact t_ireq (Or.inl rfl) rfl rfl
      · decide
set_option maxRecDepth 10000 in
theorem s0_pivot {d L : Nat} {I : Nat → Nat → Int} {R : Nat → Nat → Option Nat} {u : Int64} (hF : FixR R) {ρ : Nat → Nat} (hP : Prm R ρ) {q : Nat} (hq : q ≤ 16) (hr : ∀ k m, k < q → m < 31 → 0 ≤ I (ρ k) m ∧ I (ρ k) m < 10007) {r c : Nat} (hrq : r ≤ q) (hc : c < 28) : am_run am_tb (d + 1) 6 [vR 235, vI r, vI q, vI c] (LH L I R u) = some ([vI (if pvN (fun k => I (ρ k)) r (q - r) c = q - r then -1 else ((r + pvN (fun k => I (ρ k)) r (q - r) c : Nat) : Int))], LH L I R u) := by
  refine run_of tb_X0_pivotRow (Nat.le_of_ble_eq_true rfl) ?_
  show ∃ ls', am_ev (am_run am_tb (d + 0)) tX0_pivotRow ([vR 235, vI r, vI q, vI c, vU], [], (LH L I R u)) = some (1, ls', [vI (if pvN (fun k => I (ρ k)) r (q - r) c = q - r then -1 else ((r + pvN (fun k => I (ρ k)) r (q - r) c : Nat) : Int))], LH L I R u)
  obtain ⟨x, hl, h⟩ := lp0_pivot (d := d) (L := L) (u := u) hF hP hq hr hrq hc
  rcases h with ⟨e, ls, ex⟩ | ⟨e, ls, ex⟩
  · subst ex
    rw [if_pos e]
    apply Exists.intro
    unfold tX0_pivotRow
    apply t_Q
    · apply t_S
      refine x_iload_n rfl ?_
      refine x_istore rfl ?_
      exact rfl
    apply t_Q
    · apply t_K
      apply t_W
      exact hl
    apply t_B
    · refine x_iconst ?_
      exact rfl
    exact t_ireq (Or.inl rfl) rfl rfl
  · subst ex
    rw [if_neg (by omega)]
    apply Exists.intro
    unfold tX0_pivotRow
    apply t_Q
    · apply t_S
      refine x_iload_n rfl ?_
      refine x_istore rfl ?_
      exact rfl
    apply t_Qs
    apply t_Ks
    · apply t_W
      exact hl
    · decide
set_option maxRecDepth 10000 in
theorem lp0_clri {d L : Nat} {I : Nat → Nat → Int} {R : Nat → Nat → Option Nat} {u : Int64} (hF : FixR R) {ρ : Nat → Nat} (hP : Prm R ρ) {q : Nat} (hq : q ≤ 16) (hr : ∀ k m, k < q → m < 31 → 0 ≤ I (ρ k) m ∧ I (ρ k) m < 10007) {p c k : Nat} (hp : p < q) (hk : k < q) (hkp : k ≠ p) (hc : c < 28) {b f : Int} (hf : 0 ≤ f ∧ f < 10007) : am_lp (am_ev (am_run am_tb d) wX0_clearBelow_54) 54 am_F ([vR 235, vI p, vI q, vI c, vI b, vI k, vI f, vI ((c + 0 : Nat) : Int)], [], LH L I R u) = some (106, [vR 235, vI p, vI q, vI c, vI b, vI k, vI f, vI ((c + (28 - c) : Nat) : Int)], [], LH L (au I (ρ k) (fun m => if c ≤ m ∧ m < c + (28 - c) then (I (ρ k) m + f * I (ρ p) m) % 10007 else I (ρ k) m)) R u) := by
  have hne : ρ p ≠ ρ k := fun z => hkp (hP.2 p k (by omega) (by omega) z).symm
  refine lp_up0 (fun j => ([vR 235, vI p, vI q, vI c, vI b, vI k, vI f, vI ((c + j : Nat) : Int)], [], LH L (au I (ρ k) (fun m => if c ≤ m ∧ m < c + j then (I (ρ k) m + f * I (ρ p) m) % 10007 else I (ρ k) m)) R u)) (28 - c) (s3 rfl (au_id.symm.trans (au_c (by funext m; rw [if_neg (by omega)])))) (ltF (by omega)) (by show ¬ 106 = 54 + 2; decide) (fun j hj => ?_) ?_
  · have h1 := hr k (c + j) hk (by omega)
    have h2 := hr p (c + j) hp (by omega)
    have m1 := mul_b (a := f) (b := I (ρ p) (c + j)) (m := 10006) (n := 10006) (by omega) (by omega)
    unfold wX0_clearBelow_54
    apply t_Q
    · apply t_B
      · refine x_iload rfl ?_
        refine x_bipush ?_
        exact rfl
      exact t_ic_ge_f (by omega)
    apply t_B
    · refine x_aload_n rfl ?_
      refine x_gr tg_235 rfl (fx_235_1 hF) ?_
      refine x_iload rfl ?_
      refine x_aald (by rw [tg_236]; decide) (ln_236 L) (by omega) ((hP.1 k (by omega)).1 : R 236 k = some (ρ k)) ?_
      refine x_iload rfl ?_
      refine x_aload_n rfl ?_
      refine x_gr tg_235 rfl (fx_235_1 hF) ?_
      refine x_iload rfl ?_
      refine x_aald (by rw [tg_236]; decide) (ln_236 L) (by omega) ((hP.1 k (by omega)).1 : R 236 k = some (ρ k)) ?_
      refine x_iload rfl ?_
      refine x_ialdv (Or.inl (ar_act (hP.1 k (by omega)).2).1) ((ar_act (hP.1 k (by omega)).2).2.1 L) (by omega) (show _ = I (ρ k) (c + j) by rw [au_s, Int.toNat_natCast, if_neg (by omega)]) ?_
      refine x_iload rfl ?_
      refine x_aload_n rfl ?_
      refine x_gr tg_235 rfl (fx_235_1 hF) ?_
      refine x_iload_n rfl ?_
      refine x_aald (by rw [tg_236]; decide) (ln_236 L) (by omega) ((hP.1 p (by omega)).1 : R 236 p = some (ρ p)) ?_
      refine x_iload rfl ?_
      refine x_ialdv (Or.inl (ar_act (hP.1 p (by omega)).2).1) ((ar_act (hP.1 p (by omega)).2).2.1 L) (by omega) (show _ = I (ρ p) (c + j) by rw [au_n _ _ hne, Int.toNat_natCast]) ?_
      refine x_imul ?_
      refine x_iadd ?_
      refine x_sipush ?_
      refine x_irem0 (by omega) ?_
      refine x_iast (ar_act (hP.1 k (by omega)).2).1 ((ar_act (hP.1 k (by omega)).2).2.1 L) (by omega) ?_
      refine x_iinc rfl rfl ?_
      exact rfl
    exact t_goeq (s3 rfl (by
        rw [au_au, au_s]
        refine au_c ?_
        funext m
        rw [au_i, Int.toNat_natCast]
        by_cases e : m = c + j
        · rw [if_pos e, if_pos (by omega), e]
        · rw [if_neg e]
          by_cases e2 : c ≤ m ∧ m < c + j
          · rw [if_pos e2, if_pos (by omega)]
          · rw [if_neg e2, if_neg (by omega)]))
  · rw [show c + (28 - c) = 28 by omega]
    unfold wX0_clearBelow_54
    apply t_Qs
    apply t_B
    · refine x_iload rfl ?_
      refine x_bipush ?_
      exact rfl
    exact t_ic_ge_t (by omega)
set_option maxRecDepth 10000 in
theorem lp0_clro {d L : Nat} {I : Nat → Nat → Int} {R : Nat → Nat → Option Nat} {u : Int64} (hF : FixR R) {ρ : Nat → Nat} (hP : Prm R ρ) {q : Nat} (hq : q ≤ 16) (hr : ∀ k m, k < q → m < 31 → 0 ≤ I (ρ k) m ∧ I (ρ k) m < 10007) {p c : Nat} (hp : p < q) (hc : c < 28) (hn : I (ρ p) c ≠ 0) : ∃ x, am_lp (am_ev (am_run am_tb d) wX0_clearBelow_18) 18 am_F ([vR 235, vI p, vI q, vI c, vI (inv (I (ρ p) c)), vI ((p + 1 + 0 : Nat) : Int), vU, vU], [], LH L I R u) = some x ∧ ∃ J l6 l7, x = (112, [vR 235, vI p, vI q, vI c, vI (inv (I (ρ p) c)), vI ((p + 1 + (q - (p + 1)) : Nat) : Int), l6, l7], [], LH L J R u) ∧ (∀ o m, o < 16 → J (ρ o) m = if (p < o ∧ o ≤ p + (q - (p + 1))) ∧ c ≤ m ∧ m < 28 then (I (ρ o) m + ((10007 - I (ρ o) c) * inv (I (ρ p) c) % 10007) * I (ρ p) m) % 10007 else I (ρ o) m) ∧ ∀ a, ¬ (237 ≤ a ∧ a ≤ 252) → J a = I a := by
  have hib := inv_b (v := I (ρ p) c)
  refine lp_inv (fun i y => ∃ J l6 l7, y = ([vR 235, vI p, vI q, vI c, vI (inv (I (ρ p) c)), vI ((p + 1 + i : Nat) : Int), l6, l7], [], LH L J R u) ∧ (∀ o m, o < 16 → J (ρ o) m = if (p < o ∧ o ≤ p + i) ∧ c ≤ m ∧ m < 28 then (I (ρ o) m + ((10007 - I (ρ o) c) * inv (I (ρ p) c) % 10007) * I (ρ p) m) % 10007 else I (ρ o) m) ∧ ∀ a, ¬ (237 ≤ a ∧ a ≤ 252) → J a = I a) _ (q - (p + 1)) ⟨I, _, _, rfl, fun o m ho => (if_neg (by omega)).symm, fun a _ => rfl⟩ (ltF (by omega)) (fun i y hi hy => ?_) (fun y hy => ?_)
  · obtain ⟨J, l6, l7, e0, j1, j2⟩ := hy
    subst e0
    have eJ : ∀ m, J (ρ (p + 1 + i)) m = I (ρ (p + 1 + i)) m := fun m => by rw [j1 _ m (by omega), if_neg (by omega)]
    have eP : ∀ m, J (ρ p) m = I (ρ p) m := fun m => by rw [j1 _ m (by omega), if_neg (by omega)]
    have hx := hr (p + 1 + i) c (by omega) (by omega)
    have m1 := mul_b (a := 10007 - I (ρ (p + 1 + i)) c) (b := inv (I (ρ p) c)) (m := 10007) (n := 10006) (by omega) (by omega)
    have hrJ : ∀ k m, k < q → m < 31 → 0 ≤ J (ρ k) m ∧ J (ρ k) m < 10007 := fun k m hk hm => by
      rw [j1 k m (by omega)]
      split
      · omega
      · exact hr k m hk hm
    by_cases q0 : ((10007 - I (ρ (p + 1 + i)) c) * inv (I (ρ p) c) % 10007) = 0
    · have key : ∃ w6 w7, am_ev (am_run am_tb d) wX0_clearBelow_18 ([vR 235, vI p, vI q, vI c, vI (inv (I (ρ p) c)), vI ((p + 1 + i : Nat) : Int), l6, l7], [], LH L J R u) = some (18 + 2, [vR 235, vI p, vI q, vI c, vI (inv (I (ρ p) c)), vI ((p + 1 + (i + 1) : Nat) : Int), w6, w7], [], LH L J R u) := by
        apply Exists.intro
        apply Exists.intro
        unfold wX0_clearBelow_18
        apply t_Q
        · apply t_B
          · refine x_iload rfl ?_
            refine x_iload_n rfl ?_
            exact rfl
          exact t_ic_ge_f (by omega)
        apply t_Q
        · apply t_S
          refine x_sipush ?_
          refine x_aload_n rfl ?_
          refine x_gr tg_235 rfl (fx_235_1 hF) ?_
          refine x_iload rfl ?_
          refine x_aald (by rw [tg_236]; decide) (ln_236 L) (by omega) ((hP.1 (p + 1 + i) (by omega)).1 : R 236 (p + 1 + i) = some (ρ (p + 1 + i))) ?_
          refine x_iload_n rfl ?_
          refine x_ialdv (Or.inl (ar_act (hP.1 (p + 1 + i) (by omega)).2).1) ((ar_act (hP.1 (p + 1 + i) (by omega)).2).2.1 L) (by omega) (show _ = I (ρ (p + 1 + i)) c from eJ c) ?_
          refine x_isub ?_
          refine x_iload rfl ?_
          refine x_imul ?_
          refine x_sipush ?_
          refine x_irem0 (by omega) ?_
          refine x_istore rfl ?_
          refine x_iload rfl ?_
          exact rfl
        apply t_Q
        · apply t_K
          apply t_Qs
          apply t_B
          · exact rfl
          exact t_if_eq_t (by omega)
        apply t_B
        · refine x_iinc rfl rfl ?_
          exact rfl
        exact t_goeq rfl
      obtain ⟨w6, w7, key⟩ := key
      refine ⟨_, key, J, w6, w7, rfl, fun o m ho => ?_, j2⟩
      rw [j1 o m ho]
      by_cases e : o = p + 1 + i
      · rw [if_neg (by omega)]
        by_cases e2 : c ≤ m ∧ m < 28
        · rw [if_pos (by omega), e, q0, Int.zero_mul, Int.add_zero]
          have := hr (p + 1 + i) m (by omega) (by omega)
          omega
        · rw [if_neg (fun z => e2 z.2)]
      · by_cases e2 : (p < o ∧ o ≤ p + i) ∧ c ≤ m ∧ m < 28
        · rw [if_pos e2, if_pos (by omega)]
        · rw [if_neg e2, if_neg (by omega)]
    · have hl := lp0_clri (d := d) (L := L) (u := u) (I := J) hF hP hq hrJ (p := p) (c := c) (k := p + 1 + i) hp (by omega) (by omega) hc (b := inv (I (ρ p) c)) (f := ((10007 - I (ρ (p + 1 + i)) c) * inv (I (ρ p) c) % 10007)) (by omega)
      refine ⟨([vR 235, vI p, vI q, vI c, vI (inv (I (ρ p) c)), vI ((p + 1 + (i + 1) : Nat) : Int), vI ((10007 - I (ρ (p + 1 + i)) c) * inv (I (ρ p) c) % 10007), vI ((c + (28 - c) : Nat) : Int)], [], LH L (au J (ρ (p + 1 + i)) (fun m => if c ≤ m ∧ m < c + (28 - c) then (J (ρ (p + 1 + i)) m + ((10007 - I (ρ (p + 1 + i)) c) * inv (I (ρ p) c) % 10007) * J (ρ p) m) % 10007 else J (ρ (p + 1 + i)) m)) R u), ?_, _, _, _, rfl, fun o m ho => ?_, fun a ha => ?_⟩
      · unfold wX0_clearBelow_18
        apply t_Q
        · apply t_B
          · refine x_iload rfl ?_
            refine x_iload_n rfl ?_
            exact rfl
          exact t_ic_ge_f (by omega)
        apply t_Q
        · apply t_S
          refine x_sipush ?_
          refine x_aload_n rfl ?_
          refine x_gr tg_235 rfl (fx_235_1 hF) ?_
          refine x_iload rfl ?_
          refine x_aald (by rw [tg_236]; decide) (ln_236 L) (by omega) ((hP.1 (p + 1 + i) (by omega)).1 : R 236 (p + 1 + i) = some (ρ (p + 1 + i))) ?_
          refine x_iload_n rfl ?_
          refine x_ialdv (Or.inl (ar_act (hP.1 (p + 1 + i) (by omega)).2).1) ((ar_act (hP.1 (p + 1 + i) (by omega)).2).2.1 L) (by omega) (show _ = I (ρ (p + 1 + i)) c from eJ c) ?_
          refine x_isub ?_
          refine x_iload rfl ?_
          refine x_imul ?_
          refine x_sipush ?_
          refine x_irem0 (by omega) ?_
          refine x_istore rfl ?_
          refine x_iload rfl ?_
          exact rfl
        apply t_Q
        · apply t_K
          apply t_Q
          · apply t_B
            · exact rfl
            exact t_if_eq_f (by omega)
          apply t_Q
          · apply t_S
            refine x_iload_n rfl ?_
            refine x_istore rfl ?_
            exact rfl
          apply t_W
          exact hl
        apply t_B
        · refine x_iinc rfl rfl ?_
          exact rfl
        exact t_goeq rfl
      · by_cases e : o = p + 1 + i
        · rw [e, au_s]
          by_cases e2 : c ≤ m ∧ m < 28
          · rw [if_pos (by omega), if_pos (by omega), eJ m, eP m]
          · rw [if_neg (by omega), if_neg (fun z => e2 z.2), eJ m]
        · rw [au_n _ _ (fun z => e (hP.2 _ _ ho (by omega) z)), j1 o m ho]
          by_cases e2 : (p < o ∧ o ≤ p + i) ∧ c ≤ m ∧ m < 28
          · rw [if_pos e2, if_pos (by omega)]
          · rw [if_neg e2, if_neg (by omega)]
      · rw [au_n _ _ (fun z => ha (by rw [z]; exact (hP.1 _ (by omega)).2))]; exact j2 a ha
  · obtain ⟨J, l6, l7, e0, j⟩ := hy
    subst e0
    refine ⟨(112, [vR 235, vI p, vI q, vI c, vI (inv (I (ρ p) c)), vI ((p + 1 + (q - (p + 1)) : Nat) : Int), l6, l7], [], LH L J R u), ?_, by show ¬ 112 = 18 + 2; decide, J, l6, l7, rfl, j⟩
    rw [show p + 1 + (q - (p + 1)) = q by omega]
    unfold wX0_clearBelow_18
    apply t_Qs
    apply t_B
    · refine x_iload rfl ?_
      refine x_iload_n rfl ?_
      exact rfl
    exact t_ic_ge_t (by omega)
set_option maxRecDepth 10000 in
theorem s0_clear {d L : Nat} {I : Nat → Nat → Int} {R : Nat → Nat → Option Nat} {u : Int64} (hF : FixR R) {ρ : Nat → Nat} (hP : Prm R ρ) {q : Nat} (hq : q ≤ 16) (hr : ∀ k m, k < q → m < 31 → 0 ≤ I (ρ k) m ∧ I (ρ k) m < 10007) {p c : Nat} (hp : p < q) (hc : c < 28) (hn : I (ρ p) c ≠ 0) : ∃ J, am_run am_tb (d + 3) 7 [vR 235, vI p, vI q, vI c] (LH L I R u) = some ([], LH L J R u) ∧ (∀ o m, o < 16 → J (ρ o) m = if (p < o ∧ o < q) ∧ c ≤ m ∧ m < 28 then (I (ρ o) m + ((10007 - I (ρ o) c) * inv (I (ρ p) c) % 10007) * I (ρ p) m) % 10007 else I (ρ o) m) ∧ ∀ a, ¬ (237 ≤ a ∧ a ≤ 252) → J a = I a := by
  obtain ⟨x, hl, J, l6, l7, ex, j1, j2⟩ := lp0_clro (d := d + 2) (L := L) (u := u) hF hP hq hr hp hc hn
  subst ex
  have hpc := hr p c hp (by omega)
  refine ⟨J, ?_, fun o m ho => ?_, j2⟩
  · refine run_of tb_X0_clearBelow (Nat.le_of_ble_eq_true rfl) ?_
    show ∃ ls', am_ev (am_run am_tb (d + 2)) tX0_clearBelow ([vR 235, vI p, vI q, vI c, vU, vU, vU, vU], [], LH L I R u) = _
    apply Exists.intro
    unfold tX0_clearBelow
    apply t_Q
    · apply t_S
      refine x_aload_n rfl ?_
      refine x_gr tg_235 rfl (fx_235_1 hF) ?_
      refine x_iload_n rfl ?_
      refine x_aald (by rw [tg_236]; decide) (ln_236 L) (by omega) ((hP.1 p (by omega)).1 : R 236 p = some (ρ p)) ?_
      refine x_iload_n rfl ?_
      refine x_ialdv (Or.inl (ar_act (hP.1 p (by omega)).2).1) ((ar_act (hP.1 p (by omega)).2).2.1 L) (by omega) (show _ = I (ρ p) c from congrArg (I (ρ p)) (Int.toNat_natCast c)) ?_
      refine x_S1i (by decide) (Nat.le_of_ble_eq_true rfl) (s1_inverse (d := d) hF hpc) ?_
      refine x_istore rfl ?_
      refine x_iload_n rfl ?_
      refine x_iconst ?_
      refine x_iadd ?_
      refine x_istore rfl ?_
      exact rfl
    apply t_Q
    · apply t_K
      apply t_W
      exact hl
    apply t_B
    · exact rfl
    exact rfl
  · rw [j1 o m ho]
    by_cases e : (p < o ∧ o < q) ∧ c ≤ m ∧ m < 28
    · rw [if_pos e, if_pos (by omega)]
    · rw [if_neg e, if_neg (by omega)]
