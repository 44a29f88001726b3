/-! The class: the reader, its small methods; what it reads. Written by wip/whole/gen_9a.py. -/
/-- the reader's position -/
def atI (I : Nat → Nat → Int) (p : Nat) : Nat → Nat → Int := au I 254 (au (I 254) 6 (p : Nat))
theorem atI_o {I : Nat → Nat → Int} {p a : Nat} (h : a ≠ 254) : atI I p a = I a := au_n _ _ h
theorem atI_6 {I : Nat → Nat → Int} {p : Nat} : atI I p 254 6 = (p : Nat) := by unfold atI; rw [au_s, au_s]
theorem atI_id {I : Nat → Nat → Int} {p : Nat} (h : I 254 6 = (p : Nat)) : atI I p = I := by
  unfold atI
  refine (au_c ?_).trans au_id
  funext j
  rw [au_i]
  by_cases e : j = 6
  · rw [if_pos e, e, h]
  · rw [if_neg e]
theorem atI_w {I : Nat → Nat → Int} {p q : Nat} {v : Int} (h : v = (q : Nat)) : au (atI I p) 254 (au (atI I p 254) 6 v) = atI I q := by
  subst h
  unfold atI
  rw [au_au, au_s]
  refine au_c ?_
  funext j
  rw [au_i, au_i, au_i]
  by_cases e : j = 6
  · rw [if_pos e, if_pos e]
  · rw [if_neg e, if_neg e, if_neg e]
theorem atI_x {I : Nat → Nat → Int} {q : Nat} {v : Int} (h : v = (q : Nat)) : au I 254 (au (I 254) 6 v) = atI I q := by subst h; rfl
theorem Txc_o {I J : Nat → Nat → Int} {b : Nat} (h : Txc I b) (h8 : J 108 = I 108) (h9 : J 109 = I 109) : Txc J b := ⟨by rw [h8]; exact h.1, h.2.1, by rw [h9]; exact h.2.2⟩
theorem atI_C {I : Nat → Nat → Int} {b p : Nat} (h : Txc I b) : Txc (atI I p) b := Txc_o h (atI_o (by decide)) (atI_o (by decide))
theorem skb_no {T : Nat → Int} {b p k : Nat} (h : p + k < skb T b p) : T (p + k) = 32 := by
  unfold skb at h
  exact Decidable.not_not.mp (of_decide_eq_false (fnd_no (p := fun m => decide (¬ T (p + m) = 32)) (show k < fnd (fun m => decide (¬ T (p + m) = 32)) (b - p) by omega)))
theorem skb_yes {T : Nat → Int} {b p : Nat} (h : skb T b p < b) : ¬ T (skb T b p) = 32 := by
  unfold skb at h ⊢
  exact of_decide_eq_true (fnd_yes (p := fun m => decide (¬ T (p + m) = 32)) (by omega))
theorem skb_max {T : Nat → Int} {b p : Nat} : p ≤ skb T b p ∧ skb T b p ≤ max p b := by
  have := fnd_le (fun m => decide (¬ T (p + m) = 32)) (b - p)
  unfold skb
  omega
set_option maxRecDepth 10000 in
theorem lp7_peek {d L : Nat} {I : Nat → Nat → Int} {R : Nat → Nat → Option Nat} {u : Int64} (hF : FixR R) {b : Nat} (hx : Txc I b) {p : Nat} (hp : p ≤ 5000) : am_lp (am_ev (am_run am_tb (d + 1)) wX7_peek_0) 0 am_F ([vR 254], [], LH L (atI I p) R u) = some (45, [vR 254], [], LH L (atI I (skb (I 109) b p)) R u) := by
  have hb := hx.2.1
  have hm := skb_max (T := I 109) (b := b) (p := p)
  obtain ⟨n, hn⟩ : ∃ n, skb (I 109) b p = p + n := ⟨skb (I 109) b p - p, by omega⟩
  refine lp_up0 (fun k => ([vR 254], [], LH L (atI I (p + k)) R u)) n rfl (ltF (by omega)) (by show ¬ 45 = 0 + 2; decide) (fun k hk => ?_) ?_
  · have h32 := skb_no (T := I 109) (b := b) (p := p) (k := k) (by omega)
    have hx2 : Txc (atI I (p + k)) b := atI_C hx
    have hby := s9_byteAt (d := d) (L := L) (u := u) hF hx2 (p := p + k) (by omega)
    rw [atI_o (by decide), show bt (I 109) b (p + k) = 32 by unfold bt; rw [if_pos (by omega)]; exact h32] at hby
    unfold wX7_peek_0
    apply t_Q
    · apply t_B
      · refine x_aload_n rfl ?_
        refine x_giv tg_254 rfl (show _ = ((p + k : Nat) : Int) from atI_6) ?_
        refine x_aload_n rfl ?_
        refine x_gr tg_254 rfl (fx_254_1 hF) ?_
        refine x_giv tg_108 rfl (show _ = (b : Int) from hx2.1) ?_
        exact rfl
      exact t_ic_ge_f (by omega)
    apply t_Q
    · apply t_B
      · refine x_aload_n rfl ?_
        refine x_gr tg_254 rfl (fx_254_1 hF) ?_
        refine x_aload_n rfl ?_
        refine x_giv tg_254 rfl (show _ = ((p + k : Nat) : Int) from atI_6) ?_
        refine x_V2i tg_108 (Nat.le_of_ble_eq_true rfl) (hby) ?_
        refine x_bipush ?_
        exact rfl
      exact t_ic_ne_f (by omega)
    apply t_B
    · refine x_aload_n rfl ?_
      refine x_dup rfl ?_
      refine x_giv tg_254 rfl (show _ = ((p + k : Nat) : Int) from atI_6) ?_
      refine x_iconst ?_
      refine x_iadd ?_
      refine x_pi tg_254 rfl rfl ?_
      rw [atI_w (q := p + (k + 1)) (by omega)]
      exact rfl
    exact t_goeq rfl
  · rw [← hn]
    have hx2 : Txc (atI I (skb (I 109) b p)) b := atI_C hx
    by_cases c : skb (I 109) b p < b
    · have hby := s9_byteAt (d := d) (L := L) (u := u) hF hx2 (p := skb (I 109) b p) (by omega)
      have hbt := bt_b hx (skb (I 109) b p)
      have hne : bt (I 109) b (skb (I 109) b p) ≠ 32 := by unfold bt; rw [if_pos c]; exact skb_yes c
      rw [atI_o (by decide)] at hby
      generalize skb (I 109) b p = q at *
      unfold wX7_peek_0
      apply t_Q
      · apply t_B
        · refine x_aload_n rfl ?_
          refine x_giv tg_254 rfl (show _ = ((q : Nat) : Int) from atI_6) ?_
          refine x_aload_n rfl ?_
          refine x_gr tg_254 rfl (fx_254_1 hF) ?_
          refine x_giv tg_108 rfl (show _ = (b : Int) from hx2.1) ?_
          exact rfl
        exact t_ic_ge_f (by omega)
      apply t_Qs
      apply t_B
      · refine x_aload_n rfl ?_
        refine x_gr tg_254 rfl (fx_254_1 hF) ?_
        refine x_aload_n rfl ?_
        refine x_giv tg_254 rfl (show _ = ((q : Nat) : Int) from atI_6) ?_
        refine x_V2i tg_108 (Nat.le_of_ble_eq_true rfl) (hby) ?_
        refine x_bipush ?_
        exact rfl
      exact t_ic_ne_t (by omega)
    · generalize skb (I 109) b p = q at *
      unfold wX7_peek_0
      apply t_Qs
      apply t_B
      · refine x_aload_n rfl ?_
        refine x_giv tg_254 rfl (show _ = ((q : Nat) : Int) from atI_6) ?_
        refine x_aload_n rfl ?_
        refine x_gr tg_254 rfl (fx_254_1 hF) ?_
        refine x_giv tg_108 rfl (show _ = (b : Int) from hx2.1) ?_
        exact rfl
      exact t_ic_ge_t (by omega)
set_option maxRecDepth 10000 in
theorem s7_peek {d L : Nat} {I : Nat → Nat → Int} {R : Nat → Nat → Option Nat} {u : Int64} (hF : FixR R) {b : Nat} (hx : Txc I b) {p : Nat} (hp : p ≤ 5000) (ha : I 254 6 = (p : Nat)) : am_run am_tb (d + 2) 72 [vR 254] (LH L I R u) = some ([vI (bt (I 109) b (skb (I 109) b p))], LH L (atI I (skb (I 109) b p)) R u) := by
  refine run_of tb_X7_peek (Nat.le_of_ble_eq_true rfl) ?_
  show ∃ ls', am_ev (am_run am_tb (d + 1)) tX7_peek ([vR 254], [], (LH L I R u)) = some (1, ls', [vI (bt (I 109) b (skb (I 109) b p))], LH L (atI I (skb (I 109) b p)) R u)
  have hb := hx.2.1
  have hm := skb_max (T := I 109) (b := b) (p := p)
  have hl := lp7_peek (d := d) (L := L) (u := u) hF hx hp
  rw [atI_id ha] at hl
  have hx2 : Txc (atI I (skb (I 109) b p)) b := atI_C hx
  have hby := s9_byteAt (d := d) (L := L) (u := u) hF hx2 (p := skb (I 109) b p) (by omega)
  rw [atI_o (by decide)] at hby
  have hbt := bt_b hx (skb (I 109) b p)
  generalize skb (I 109) b p = q at *
  apply Exists.intro
  unfold tX7_peek
  apply t_Q
  · apply t_K
    apply t_W
    exact hl
  apply t_B
  · refine x_aload_n rfl ?_
    refine x_gr tg_254 rfl (fx_254_1 hF) ?_
    refine x_aload_n rfl ?_
    refine x_giv tg_254 rfl (show _ = ((q : Nat) : Int) from atI_6) ?_
    refine x_V2i tg_108 (Nat.le_of_ble_eq_true rfl) (hby) ?_
    exact rfl
  exact t_ireq (Or.inl rfl) rfl rfl
set_option maxRecDepth 10000 in
theorem s7_number {d L : Nat} {I : Nat → Nat → Int} {R : Nat → Nat → Option Nat} {u : Int64} (hF : FixR R) {b : Nat} (hx : Txc I b) {p n : Nat} (hp : p ≤ 5000) (hn : n ≤ 4) (ha : I 254 6 = (p : Nat)) : am_run am_tb (d + 4) 71 [vR 254, vI n] (LH L I R u) = some ([vI (fgv (I 109) p (cdg (I 109) b n p))], LH L (atI I (p + cdg (I 109) b n p)) R u) := by
  refine run_of tb_X7_readNumber (Nat.le_of_ble_eq_true rfl) ?_
  show ∃ ls', am_ev (am_run am_tb (d + 3)) tX7_readNumber ([vR 254, vI n, vU, vU], [], (LH L I R u)) = some (1, ls', [vI (fgv (I 109) p (cdg (I 109) b n p))], LH L (atI I (p + cdg (I 109) b n p)) R u)
  have hle := cdg_le (I 109) b n p
  have hcd := s9_countDigits (d := d) (L := L) (u := u) hF hx (p := p) (n := n) (by omega)
  have hvo := s9_valueOf (d := d + 1) (L := L) (u := u) hF hx (p := p) (n := cdg (I 109) b n p) (m := n) (by omega) (Nat.le_refl _) (by omega)
  have f1 := fgc_b (T := I 109) (b := b) (n := n) (p := p) (k := cdg (I 109) b n p) (Nat.le_refl _)
  have f2 := tnp_5 (k := cdg (I 109) b n p) (by omega)
  generalize cdg (I 109) b n p = c at *
  apply Exists.intro
  unfold tX7_readNumber
  apply t_B
  · refine x_aload_n rfl ?_
    refine x_gr tg_254 rfl (fx_254_1 hF) ?_
    refine x_aload_n rfl ?_
    refine x_giv tg_254 rfl (show _ = ((p : Nat) : Int) from ha) ?_
    refine x_iload_n rfl ?_
    refine x_V3i tg_108 (Nat.le_of_ble_eq_true rfl) (hcd) ?_
    refine x_istore_n rfl ?_
    refine x_aload_n rfl ?_
    refine x_gr tg_254 rfl (fx_254_1 hF) ?_
    refine x_aload_n rfl ?_
    refine x_giv tg_254 rfl (show _ = ((p : Nat) : Int) from ha) ?_
    refine x_iload_n rfl ?_
    refine x_V3i tg_108 (Nat.le_of_ble_eq_true rfl) (hvo) ?_
    refine x_istore_n rfl ?_
    refine x_aload_n rfl ?_
    refine x_dup rfl ?_
    refine x_giv tg_254 rfl (show _ = ((p : Nat) : Int) from ha) ?_
    refine x_iload_n rfl ?_
    refine x_iadd ?_
    refine x_pi tg_254 rfl rfl ?_
    rw [atI_x (q := p + c) (by omega)]
    refine x_iload_n rfl ?_
    exact rfl
  exact t_ireq (Or.inl rfl) rfl rfl
/-- what is read at a position: the value and where it goes on; none: it is too great -/
abbrev rdO : Type := Option ((Nat → Int) × Nat)
def wrd (i j : Nat) : Nat → Int := au (fun _ => 0) (pl i j) 1
def nbr (T : Nat → Int) (b n p : Nat) : Nat → Int := au (fun _ => 0) 0 (fgv T p (cdg T b n p))
/-- a factor without its exponent, at a byte that is no space -/
def fcB (T : Nat → Int) (b : Nat) (ev : Nat → rdO) (q : Nat) : rdO := if bt T b q = 40 then (ev (q + 1)).map (fun x => (x.1, skb T b x.2 + 1)) else if bt T b q = 120 then some (wrd 1 0, q + 1) else if bt T b q = 100 then some (wrd 0 1, q + 1) else some (nbr T b 4 q, q + cdg T b 4 q)
/-- the exponent behind it -/
noncomputable def fcP (T : Nat → Int) (b : Nat) (g : Nat → Int) (p : Nat) : rdO := if bt T b (skb T b p) = 94 then (if dgr g < 0 ∨ dgr g * (((fgv T (skb T b (skb T b p + 1)) (cdg T b 2 (skb T b (skb T b p + 1)))).toNat : Nat) : Int) ≤ 12 then some (powL g (fgv T (skb T b (skb T b p + 1)) (cdg T b 2 (skb T b (skb T b p + 1)))).toNat, skb T b (skb T b p + 1) + cdg T b 2 (skb T b (skb T b p + 1))) else none) else some (g, skb T b p)
noncomputable def fcC (T : Nat → Int) (b : Nat) (ev : Nat → rdO) (p : Nat) : rdO := (fcB T b ev (skb T b p)).bind (fun x => fcP T b x.1 x.2)
/-- a term -/
noncomputable def tmC (T : Nat → Int) (b : Nat) (ev : Nat → rdO) : Nat → (Nat → Int) → Nat → rdO
  | 0, g, p => some (g, p)
  | n + 1, g, p => (fcC T b ev p).bind (fun x => if dgr g < 0 ∨ dgr x.1 < 0 ∨ dgr g + dgr x.1 ≤ 12 then (if bt T b (skb T b x.2) = 42 then tmC T b ev n (mul g x.1) (skb T b x.2 + 1) else some (mul g x.1, skb T b x.2)) else none)
/-- an expression -/
noncomputable def exC (T : Nat → Int) (b : Nat) (ev : Nat → rdO) : Nat → Int → (Nat → Int) → Nat → rdO
  | 0, _, t, p => some (t, p)
  | n + 1, sg, t, p => (tmC T b ev 120 one p).bind (fun x => if bt T b (skb T b x.2) = 43 ∨ bt T b (skb T b x.2) = 45 then exC T b ev n (if bt T b (skb T b x.2) = 45 then 10006 else 1) (mixF 1 t sg x.1) (skb T b x.2 + 1) else some (mixF 1 t sg x.1, skb T b x.2))
/-- an expression, so many parentheses deep at most -/
noncomputable def evE (T : Nat → Int) (b : Nat) : Nat → Nat → rdO
  | 0, _ => none
  | n + 1, p => if bt T b (skb T b p) = 45 then exC T b (evE T b n) 120 10006 (fun _ => 0) (skb T b p + 1) else exC T b (evE T b n) 120 1 (fun _ => 0) (skb T b p)
