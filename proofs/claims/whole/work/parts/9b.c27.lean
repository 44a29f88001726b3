/-! The class: readFactor. Written by wip/whole/gen_9b.py. -/
/-- the reader at depth e and deeper -/
def Fre (e : Nat) (I J : Nat → Nat → Int) : Prop := ∀ a, ¬ (a = 158 ∨ a = 254 ∨ a = 258 ∨ a = 260 ∨ (262 + 4 * e ≤ a ∧ a ≤ 296)) → J a = I a
theorem Fre_r (e : Nat) (I : Nat → Nat → Int) : Fre e I I := fun _ _ => rfl
theorem Fre_t {e : Nat} {I J K : Nat → Nat → Int} (h1 : Fre e I J) (h2 : Fre e J K) : Fre e I K := fun a ha => (h2 a ha).trans (h1 a ha)
theorem Fre_m {e e' : Nat} {I J : Nat → Nat → Int} (h : Fre e' I J) (he : e ≤ e') : Fre e I J := fun a ha => h a (by omega)
theorem Fre_a {e p : Nat} {I J : Nat → Nat → Int} (h : Fre e I J) : Fre e I (atI J p) := Fre_t h (fun a ha => atI_o (by omega))
theorem Fre_s {e c : Nat} {f : Nat → Int} {I J : Nat → Nat → Int} (h : Fre e I J) (hc : c = 158 ∨ c = 258 ∨ c = 260 ∨ (262 + 4 * e ≤ c ∧ c ≤ 296)) : Fre e I (stc J c f) := Fre_t h (fun a ha => stc_o (by omega))
theorem Fre_B {e : Nat} {I J : Nat → Nat → Int} (h : Fre e I J) (hB : Tbc I) : Tbc J := Tbc_o hB (fun a ha => h a (by unfold Nt at ha; omega))
theorem Fre_C {e b : Nat} {I J : Nat → Nat → Int} (h : Fre e I J) (hx : Txc I b) : Txc J b := Txc_o hx (h 108 (by omega)) (h 109 (by omega))
theorem Fre_9 {e : Nat} {I J : Nat → Nat → Int} (h : Fre e I J) : J 109 = I 109 := h 109 (by omega)
theorem op_257 {R : Nat → Nat → Option Nat} (hF : FixR R) : Opx R 257 258 := ⟨tg_257, fx_257_0 hF, tg_258, ln_258⟩
theorem op_259 {R : Nat → Nat → Option Nat} (hF : FixR R) : Opx R 259 260 := ⟨tg_259, fx_259_0 hF, tg_260, ln_260⟩
theorem rd_all : ∀ k, k < 9 → (cstf 255 k = some (261 + 4 * k) ∧ tg (261 + 4 * k) = 6 ∧ cstf (261 + 4 * k) 0 = some (262 + 4 * k) ∧ tg (262 + 4 * k) = 20 ∧ (262 + 4 * k ≠ 0 ∧ ly_n.getD (262 + 4 * k) 0 = 91)) ∧ (cstf 256 k = some (263 + 4 * k) ∧ tg (263 + 4 * k) = 6 ∧ cstf (263 + 4 * k) 0 = some (264 + 4 * k) ∧ tg (264 + 4 * k) = 20 ∧ (264 + 4 * k ≠ 0 ∧ ly_n.getD (264 + 4 * k) 0 = 91)) := by decide +kernel
theorem fx_to {R : Nat → Nat → Option Nat} (hF : FixR R) {k : Nat} (h : k < 9) : R 255 k = some (261 + 4 * k) := hF.get (rd_all k h).1.1
theorem fx_pr {R : Nat → Nat → Option Nat} (hF : FixR R) {k : Nat} (h : k < 9) : R 256 k = some (263 + 4 * k) := hF.get (rd_all k h).2.1
theorem op_to {R : Nat → Nat → Option Nat} (hF : FixR R) {k : Nat} (h : k < 9) : Opx R (261 + 4 * k) (262 + 4 * k) := by
  obtain ⟨⟨_, a2, a3, a4, a5⟩, _⟩ := rd_all k h
  exact ⟨a2, hF.get a3, a4, fun L => ln_of L a5⟩
theorem op_pr {R : Nat → Nat → Option Nat} (hF : FixR R) {k : Nat} (h : k < 9) : Opx R (263 + 4 * k) (264 + 4 * k) := by
  obtain ⟨_, ⟨_, a2, a3, a4, a5⟩⟩ := rd_all k h
  exact ⟨a2, hF.get a3, a4, fun L => ln_of L a5⟩
/-- an operator's value -/
def Gv (f : Nat → Int) : Prop := resd f ∧ dgr f ≤ 12
theorem powL_c {g g' : Nat → Int} (h : ∀ k, k < 496 → g k = g' k) (n : Nat) : powL g n = powL g' n := by
  induction n with
  | zero => rfl
  | succ n ih =>
    show mul g (powL g n) = mul g' (powL g' n)
    rw [ih]
    exact mul_c h (fun _ _ => rfl)
theorem wrd_G {i j : Nat} (h : i + j ≤ 12) : Gv (wrd i j) := by
  refine ⟨fun k _ => ?_, dgr_le (by decide) (fun w hw q => ?_)⟩
  · unfold wrd
    rw [au_i]
    split <;> omega
  · unfold wrd
    rw [au_n]
    intro e
    rw [e, wn_pl] at q
    omega
theorem nbr_G {T : Nat → Int} {b n p : Nat} (hn : n ≤ 4) : Gv (nbr T b n p) := by
  have f1 := fgc_b (T := T) (b := b) (n := n) (p := p) (k := cdg T b n p) (Nat.le_refl _)
  have hle := cdg_le T b n p
  have f2 := tnp_4 (k := cdg T b n p) (by omega)
  refine ⟨fun k _ => ?_, dgr_le (by decide) (fun w hw q => ?_)⟩
  · unfold nbr
    rw [au_i]
    split <;> omega
  · unfold nbr
    rw [au_n]
    intro e
    rw [e] at q
    have : wn 0 = 0 := rfl
    omega
theorem powL_12 {g : Nat → Int} {n : Nat} (h : dgr g < 0 ∨ dgr g * (n : Int) ≤ 12) : dgr (powL g n) ≤ 12 := by
  have a := powL_d (g := g) n
  have b := dgr_b g
  by_cases c : 0 ≤ dgr g
  · rw [show max 0 (dgr g) = dgr g by omega, Int.mul_comm] at a
    omega
  · rw [show max 0 (dgr g) = 0 by omega, Int.mul_zero] at a
    omega
/-- what a call of the reader leaves: its cells, its position -/
theorem cdg_m {T : Nat → Int} {b n p : Nat} : p + cdg T b n p ≤ max p b := by
  refine Nat.not_lt.mp fun q => ?_
  have c := cdg_no (T := T) (b := b) (n := n) (p := p) (k := max p b - p) (by omega)
  have := bt_t (T := T) (b := b) (p := p + (max p b - p)) (by omega)
  omega
def Rdd (J : Nat → Nat → Int) (N c : Nat) (o : rdO) : Prop := ∀ f q, o = some (f, q) → J 254 6 = (q : Nat) ∧ q ≤ N ∧ Gv f ∧ ∀ j, j < 91 → J c j = f j
set_option maxRecDepth 10000 in
theorem rf_tail {d L : Nat} {I : Nat → Nat → Int} {R : Nat → Nat → Option Nat} {u : Int64} (hF : FixR R) {b : Nat} (hx : Txc I b) (hB : Tbc I) {p e N : Nat} (hp : p ≤ N) (hN : b ≤ N) (hN2 : N ≤ b + 10) (ha : I 254 6 = (p : Nat)) {g : Nat → Int} (hg : Gv g) (hc : ∀ j, j < 91 → I 258 j = g j) {c : Int} {l1 l3 : am_V} : ∃ J ls', am_ev (am_run am_tb (d + 4)) (tQ (tS [(.aload_n 0, 0, 0, 0), (.invokevirtual 51, 72, 1, 7), (.bipush 94, 0, 0, 0)]) (tQ (tK 151 (tQ (tB [] (.if_icmp .eq 5) [151]) (tB [(.iconst 1, 0, 0, 0)] (.ireturn) [1]))) (tQ (tS [(.aload_n 0, 0, 0, 0), (.dup, 0, 0, 0), (.getfield 28, 7, 6, 0), (.iconst 1, 0, 0, 0), (.iadd, 0, 0, 0), (.putfield 28, 7, 6, 0), (.aload_n 0, 0, 0, 0), (.invokevirtual 51, 72, 1, 7), (.pop, 0, 0, 0), (.aload_n 0, 0, 0, 0), (.iconst 2, 0, 0, 0), (.invokevirtual 83, 71, 2, 7), (.istore_n 3, 0, 0, 0), (.aload_n 0, 0, 0, 0), (.getfield 21, 7, 4, 0), (.iload_n 3, 0, 0, 0), (.invokestatic 87, 13, 2, 0)]) (tQ (tK 185 (tQ (tB [] (.ifCond .ne 5) [185]) (tB [(.iconst 0, 0, 0, 0)] (.ireturn) [1]))) (tB [(.aload_n 0, 0, 0, 0), (.getfield 32, 7, 0, 0), (.aload_n 0, 0, 0, 0), (.getfield 25, 7, 5, 0), (.aload_n 0, 0, 0, 0), (.getfield 21, 7, 4, 0), (.iload_n 3, 0, 0, 0), (.invokevirtual 91, 16, 4, 1), (.aload_n 0, 0, 0, 0), (.getfield 21, 7, 4, 0), (.aload_n 0, 0, 0, 0), (.getfield 25, 7, 5, 0), (.invokevirtual 44, 55, 2, 6), (.iconst 1, 0, 0, 0)] (.ireturn) [1]))))) ([vR 254, l1, vI c, l3], [], LH L I R u) = some (1, ls', [vI (if (fcP (I 109) b g p).isSome then 1 else 0)], LH L J R u) ∧ (∀ a, a ≠ 158 → a ≠ 254 → a ≠ 258 → a ≠ 260 → J a = I a) ∧ Rdd J N 258 (fcP (I 109) b g p) := by
  have hb := hx.2.1
  have hm := skb_max (T := I 109) (b := b) (p := p)
  have hpk := s7_peek (d := d + 2) (L := L) (u := u) hF hx (p := p) (by omega) ha
  have hbt := bt_b hx (skb (I 109) b p)
  by_cases c1 : bt (I 109) b (skb (I 109) b p) = 94
  · have hq : skb (I 109) b p < b := (bt_t (T := I 109) (b := b) (p := skb (I 109) b p) (by omega)).1
    have hm2 := skb_max (T := I 109) (b := b) (p := skb (I 109) b p + 1)
    have hx1 : Txc (atI I (skb (I 109) b p + 1)) b := atI_C hx
    have hpk2 := s7_peek (d := d + 2) (L := L) (u := u) hF hx1 (p := skb (I 109) b p + 1) (by omega) atI_6
    rw [atI_o (by decide)] at hpk2
    rw [show atI (atI I (skb (I 109) b p + 1)) (skb (I 109) b (skb (I 109) b p + 1)) = atI I (skb (I 109) b (skb (I 109) b p + 1)) from atI_w rfl] at hpk2
    have hx2 : Txc (atI I (skb (I 109) b (skb (I 109) b p + 1))) b := atI_C hx
    have hnu := s7_number (d := d) (L := L) (u := u) hF hx2 (p := skb (I 109) b (skb (I 109) b p + 1)) (n := 2) (by omega) (by omega) atI_6
    rw [atI_o (by decide)] at hnu
    rw [show atI (atI I (skb (I 109) b (skb (I 109) b p + 1))) (skb (I 109) b (skb (I 109) b p + 1) + cdg (I 109) b 2 (skb (I 109) b (skb (I 109) b p + 1))) = atI I (skb (I 109) b (skb (I 109) b p + 1) + cdg (I 109) b 2 (skb (I 109) b (skb (I 109) b p + 1))) from atI_w rfl] at hnu
    have f1 := fgc_b (T := I 109) (b := b) (n := 2) (p := skb (I 109) b (skb (I 109) b p + 1)) (k := cdg (I 109) b 2 (skb (I 109) b (skb (I 109) b p + 1))) (Nat.le_refl _)
    have hle := cdg_le (I 109) b 2 (skb (I 109) b (skb (I 109) b p + 1))
    have hcm := cdg_m (T := I 109) (b := b) (n := 2) (p := skb (I 109) b (skb (I 109) b p + 1))
    have f2 : tnp (cdg (I 109) b 2 (skb (I 109) b (skb (I 109) b p + 1))) ≤ 100 := by
      rcases (show cdg (I 109) b 2 (skb (I 109) b (skb (I 109) b p + 1)) = 0 ∨ cdg (I 109) b 2 (skb (I 109) b (skb (I 109) b p + 1)) = 1 ∨ cdg (I 109) b 2 (skb (I 109) b (skb (I 109) b p + 1)) = 2 by omega) with z | z | z <;> rw [z] <;> decide
    have efp : fcP (I 109) b g p = if dgr g < 0 ∨ dgr g * (((fgv (I 109) (skb (I 109) b (skb (I 109) b p + 1)) (cdg (I 109) b 2 (skb (I 109) b (skb (I 109) b p + 1)))).toNat : Nat) : Int) ≤ 12 then some (powL g (fgv (I 109) (skb (I 109) b (skb (I 109) b p + 1)) (cdg (I 109) b 2 (skb (I 109) b (skb (I 109) b p + 1)))).toNat, skb (I 109) b (skb (I 109) b p + 1) + cdg (I 109) b 2 (skb (I 109) b (skb (I 109) b p + 1))) else none := if_pos c1
    rw [efp]
    generalize skb (I 109) b (skb (I 109) b p + 1) = q1 at *
    generalize hcq : cdg (I 109) b 2 q1 = cn at *
    have hq1 : q1 + cn ≤ b := by omega
    obtain ⟨ex, hex⟩ : ∃ ex : Nat, fgv (I 109) q1 cn = (ex : Nat) := ⟨(fgv (I 109) q1 cn).toNat, by omega⟩
    rw [hex, Int.toNat_natCast]
    rw [hex] at hnu
    have he99 : ex ≤ 99 := by omega
    have hcl : ∀ k, k < 496 → cl (atI I (q1 + cn)) 258 k = g k := cl_a2 (fun j hj => by rw [atI_o (by decide)]; exact hc j hj) hg.2
    have hr8 : Rsc (atI I (q1 + cn)) 258 := fun j hj => by rw [atI_o (by decide), hc j hj]; exact hg.1 j (by omega)
    have hB2 : Tbc (atI I (q1 + cn)) := Tbc_o hB (fun a ha => atI_o (by unfold Nt at ha; omega))
    have hpf := s1_powerFits (d := d + 1) (L := L) (u := u) (I := atI I (q1 + cn)) hB2.1 (op_257 hF) hr8 (n := ex) he99
    rw [dgr_c hcl] at hpf
    by_cases c2 : dgr g < 0 ∨ dgr g * ((ex : Nat) : Int) ≤ 12
    · rw [if_pos c2]
      have hra := s1_raise (d := d) (L := L) (u := u) (I := atI I (q1 + cn)) hF hB2 (op_259 hF) (op_257 hF) (by unfold Nt; omega) (by omega) (by omega) (by omega) hr8 (n := ex) he99 (by rw [dgr_c hcl]; exact c2)
      rw [powL_c hcl] at hra
      have hcp := s6_copyFrom (d := d + 3) (L := L) (u := u) (I := stc (stc (atI I (q1 + cn)) 158 (if ex = 0 then atI I (q1 + cn) 158 else powL g ex)) 260 (powL g ex)) (R := R) (op_257 hF) (op_259 hF)
      refine ⟨stc (stc (stc (atI I (q1 + cn)) 158 (if ex = 0 then atI I (q1 + cn) 158 else powL g ex)) 260 (powL g ex)) 258 (stc (stc (atI I (q1 + cn)) 158 (if ex = 0 then atI I (q1 + cn) 158 else powL g ex)) 260 (powL g ex) 260), ?_⟩
      have fin : ∀ J, J = stc (stc (stc (atI I (q1 + cn)) 158 (if ex = 0 then atI I (q1 + cn) 158 else powL g ex)) 260 (powL g ex)) 258 (stc (stc (atI I (q1 + cn)) 158 (if ex = 0 then atI I (q1 + cn) 158 else powL g ex)) 260 (powL g ex) 260) → (∀ a, a ≠ 158 → a ≠ 254 → a ≠ 258 → a ≠ 260 → J a = I a) ∧ Rdd J N 258 (some (powL g ex, q1 + cn)) := fun J hJ => by
        subst hJ
        refine ⟨fun a a1 a2 a3 a4 => by rw [stc_o a3, stc_o a4, stc_o a1, atI_o a2], fun f q e => ?_⟩
        cases e
        refine ⟨by rw [stc_o (by decide), stc_o (by decide), stc_o (by decide)]; exact atI_6, by omega, ⟨powL_b ex, powL_12 c2⟩, fun j hj => by rw [stc_s hj, stc_s hj]⟩
      replace fin := fin _ rfl
      generalize stc (stc (stc (atI I (q1 + cn)) 158 (if ex = 0 then atI I (q1 + cn) 158 else powL g ex)) 260 (powL g ex)) 258 (stc (stc (atI I (q1 + cn)) 158 (if ex = 0 then atI I (q1 + cn) 158 else powL g ex)) 260 (powL g ex) 260) = Z at *
      generalize stc (stc (atI I (q1 + cn)) 158 (if ex = 0 then atI I (q1 + cn) 158 else powL g ex)) 260 (powL g ex) = Y at *
      have key : ∃ ls', am_ev (am_run am_tb (d + 4)) (tQ (tS [(.aload_n 0, 0, 0, 0), (.invokevirtual 51, 72, 1, 7), (.bipush 94, 0, 0, 0)]) (tQ (tK 151 (tQ (tB [] (.if_icmp .eq 5) [151]) (tB [(.iconst 1, 0, 0, 0)] (.ireturn) [1]))) (tQ (tS [(.aload_n 0, 0, 0, 0), (.dup, 0, 0, 0), (.getfield 28, 7, 6, 0), (.iconst 1, 0, 0, 0), (.iadd, 0, 0, 0), (.putfield 28, 7, 6, 0), (.aload_n 0, 0, 0, 0), (.invokevirtual 51, 72, 1, 7), (.pop, 0, 0, 0), (.aload_n 0, 0, 0, 0), (.iconst 2, 0, 0, 0), (.invokevirtual 83, 71, 2, 7), (.istore_n 3, 0, 0, 0), (.aload_n 0, 0, 0, 0), (.getfield 21, 7, 4, 0), (.iload_n 3, 0, 0, 0), (.invokestatic 87, 13, 2, 0)]) (tQ (tK 185 (tQ (tB [] (.ifCond .ne 5) [185]) (tB [(.iconst 0, 0, 0, 0)] (.ireturn) [1]))) (tB [(.aload_n 0, 0, 0, 0), (.getfield 32, 7, 0, 0), (.aload_n 0, 0, 0, 0), (.getfield 25, 7, 5, 0), (.aload_n 0, 0, 0, 0), (.getfield 21, 7, 4, 0), (.iload_n 3, 0, 0, 0), (.invokevirtual 91, 16, 4, 1), (.aload_n 0, 0, 0, 0), (.getfield 21, 7, 4, 0), (.aload_n 0, 0, 0, 0), (.getfield 25, 7, 5, 0), (.invokevirtual 44, 55, 2, 6), (.iconst 1, 0, 0, 0)] (.ireturn) [1]))))) ([vR 254, l1, vI c, l3], [], LH L I R u) = some (1, ls', [vI 1], LH L Z R u) := by
        apply Exists.intro
        apply t_Q
        · apply t_S
          refine x_aload_n rfl ?_
          refine x_V1i tg_254 (Nat.le_of_ble_eq_true rfl) (hpk) ?_
          refine x_bipush ?_
          exact rfl
        apply t_Q
        · apply t_K
          apply t_Qs
          apply t_B
          · exact rfl
          exact t_ic_eq_t (by omega)
        apply t_Q
        · apply t_S
          refine x_aload_n rfl ?_
          refine x_dup rfl ?_
          refine x_giv tg_254 rfl (show _ = ((skb (I 109) b p : Nat) : Int) from atI_6) ?_
          refine x_iconst ?_
          refine x_iadd ?_
          refine x_pi tg_254 rfl rfl ?_
          rw [atI_w (q := skb (I 109) b p + 1) (by omega)]
          refine x_aload_n rfl ?_
          refine x_V1i tg_254 (Nat.le_of_ble_eq_true rfl) (hpk2) ?_
          refine x_pop rfl ?_
          refine x_aload_n rfl ?_
          refine x_iconst ?_
          refine x_V2i tg_254 (Nat.le_of_ble_eq_true rfl) (hnu) ?_
          refine x_istore_n rfl ?_
          refine x_aload_n rfl ?_
          refine x_gr tg_254 rfl (fx_254_4 hF) ?_
          refine x_iload_n rfl ?_
          refine x_S2i (by decide) (Nat.le_of_ble_eq_true rfl) (ret_t c2 hpf) ?_
          exact rfl
        apply t_Q
        · apply t_K
          apply t_Qs
          apply t_B
          · exact rfl
          exact t_if_ne_t (by omega)
        apply t_B
        · refine x_aload_n rfl ?_
          refine x_gr tg_254 rfl (fx_254_0 hF) ?_
          refine x_aload_n rfl ?_
          refine x_gr tg_254 rfl (fx_254_5 hF) ?_
          refine x_aload_n rfl ?_
          refine x_gr tg_254 rfl (fx_254_4 hF) ?_
          refine x_iload_n rfl ?_
          refine x_V4v tg_110 (Nat.le_of_ble_eq_true rfl) (hra) ?_
          refine x_aload_n rfl ?_
          refine x_gr tg_254 rfl (fx_254_4 hF) ?_
          refine x_aload_n rfl ?_
          refine x_gr tg_254 rfl (fx_254_5 hF) ?_
          refine x_V2v tg_257 (Nat.le_of_ble_eq_true rfl) (hcp) ?_
          refine x_iconst ?_
          exact rfl
        exact t_ireq (Or.inr (by first | exact Or.inl rfl | exact Or.inr rfl)) rfl rfl
      obtain ⟨ls', key⟩ := key
      exact ⟨ls', key, fin⟩
    · rw [if_neg c2]
      have key : ∃ ls', am_ev (am_run am_tb (d + 4)) (tQ (tS [(.aload_n 0, 0, 0, 0), (.invokevirtual 51, 72, 1, 7), (.bipush 94, 0, 0, 0)]) (tQ (tK 151 (tQ (tB [] (.if_icmp .eq 5) [151]) (tB [(.iconst 1, 0, 0, 0)] (.ireturn) [1]))) (tQ (tS [(.aload_n 0, 0, 0, 0), (.dup, 0, 0, 0), (.getfield 28, 7, 6, 0), (.iconst 1, 0, 0, 0), (.iadd, 0, 0, 0), (.putfield 28, 7, 6, 0), (.aload_n 0, 0, 0, 0), (.invokevirtual 51, 72, 1, 7), (.pop, 0, 0, 0), (.aload_n 0, 0, 0, 0), (.iconst 2, 0, 0, 0), (.invokevirtual 83, 71, 2, 7), (.istore_n 3, 0, 0, 0), (.aload_n 0, 0, 0, 0), (.getfield 21, 7, 4, 0), (.iload_n 3, 0, 0, 0), (.invokestatic 87, 13, 2, 0)]) (tQ (tK 185 (tQ (tB [] (.ifCond .ne 5) [185]) (tB [(.iconst 0, 0, 0, 0)] (.ireturn) [1]))) (tB [(.aload_n 0, 0, 0, 0), (.getfield 32, 7, 0, 0), (.aload_n 0, 0, 0, 0), (.getfield 25, 7, 5, 0), (.aload_n 0, 0, 0, 0), (.getfield 21, 7, 4, 0), (.iload_n 3, 0, 0, 0), (.invokevirtual 91, 16, 4, 1), (.aload_n 0, 0, 0, 0), (.getfield 21, 7, 4, 0), (.aload_n 0, 0, 0, 0), (.getfield 25, 7, 5, 0), (.invokevirtual 44, 55, 2, 6), (.iconst 1, 0, 0, 0)] (.ireturn) [1]))))) ([vR 254, l1, vI c, l3], [], LH L I R u) = some (1, ls', [vI 0], LH L (atI I (q1 + cn)) R u) := by
        apply Exists.intro
        apply t_Q
        · apply t_S
          refine x_aload_n rfl ?_
          refine x_V1i tg_254 (Nat.le_of_ble_eq_true rfl) (hpk) ?_
          refine x_bipush ?_
          exact rfl
        apply t_Q
        · apply t_K
          apply t_Qs
          apply t_B
          · exact rfl
          exact t_ic_eq_t (by omega)
        apply t_Q
        · apply t_S
          refine x_aload_n rfl ?_
          refine x_dup rfl ?_
          refine x_giv tg_254 rfl (show _ = ((skb (I 109) b p : Nat) : Int) from atI_6) ?_
          refine x_iconst ?_
          refine x_iadd ?_
          refine x_pi tg_254 rfl rfl ?_
          rw [atI_w (q := skb (I 109) b p + 1) (by omega)]
          refine x_aload_n rfl ?_
          refine x_V1i tg_254 (Nat.le_of_ble_eq_true rfl) (hpk2) ?_
          refine x_pop rfl ?_
          refine x_aload_n rfl ?_
          refine x_iconst ?_
          refine x_V2i tg_254 (Nat.le_of_ble_eq_true rfl) (hnu) ?_
          refine x_istore_n rfl ?_
          refine x_aload_n rfl ?_
          refine x_gr tg_254 rfl (fx_254_4 hF) ?_
          refine x_iload_n rfl ?_
          refine x_S2i (by decide) (Nat.le_of_ble_eq_true rfl) (ret_f c2 hpf) ?_
          exact rfl
        apply t_Qs
        apply t_Ks
        · apply t_Q
          · apply t_B
            · exact rfl
            exact t_if_ne_f (by omega)
          apply t_B
          · refine x_iconst ?_
            exact rfl
          exact t_ireq (Or.inr (by first | exact Or.inl rfl | exact Or.inr rfl)) rfl rfl
        · decide
      obtain ⟨ls', key⟩ := key
      exact ⟨_, ls', key, fun a _ a2 _ _ => atI_o a2, fun f q e => by cases e⟩
  · have efp : fcP (I 109) b g p = some (g, skb (I 109) b p) := if_neg c1
    rw [efp]
    have key : ∃ ls', am_ev (am_run am_tb (d + 4)) (tQ (tS [(.aload_n 0, 0, 0, 0), (.invokevirtual 51, 72, 1, 7), (.bipush 94, 0, 0, 0)]) (tQ (tK 151 (tQ (tB [] (.if_icmp .eq 5) [151]) (tB [(.iconst 1, 0, 0, 0)] (.ireturn) [1]))) (tQ (tS [(.aload_n 0, 0, 0, 0), (.dup, 0, 0, 0), (.getfield 28, 7, 6, 0), (.iconst 1, 0, 0, 0), (.iadd, 0, 0, 0), (.putfield 28, 7, 6, 0), (.aload_n 0, 0, 0, 0), (.invokevirtual 51, 72, 1, 7), (.pop, 0, 0, 0), (.aload_n 0, 0, 0, 0), (.iconst 2, 0, 0, 0), (.invokevirtual 83, 71, 2, 7), (.istore_n 3, 0, 0, 0), (.aload_n 0, 0, 0, 0), (.getfield 21, 7, 4, 0), (.iload_n 3, 0, 0, 0), (.invokestatic 87, 13, 2, 0)]) (tQ (tK 185 (tQ (tB [] (.ifCond .ne 5) [185]) (tB [(.iconst 0, 0, 0, 0)] (.ireturn) [1]))) (tB [(.aload_n 0, 0, 0, 0), (.getfield 32, 7, 0, 0), (.aload_n 0, 0, 0, 0), (.getfield 25, 7, 5, 0), (.aload_n 0, 0, 0, 0), (.getfield 21, 7, 4, 0), (.iload_n 3, 0, 0, 0), (.invokevirtual 91, 16, 4, 1), (.aload_n 0, 0, 0, 0), (.getfield 21, 7, 4, 0), (.aload_n 0, 0, 0, 0), (.getfield 25, 7, 5, 0), (.invokevirtual 44, 55, 2, 6), (.iconst 1, 0, 0, 0)] (.ireturn) [1]))))) ([vR 254, l1, vI c, l3], [], LH L I R u) = some (1, ls', [vI 1], LH L (atI I (skb (I 109) b p)) R u) := by
      apply Exists.intro
      apply t_Q
      · apply t_S
        refine x_aload_n rfl ?_
        refine x_V1i tg_254 (Nat.le_of_ble_eq_true rfl) (hpk) ?_
        refine x_bipush ?_
        exact rfl
      apply t_Qs
      apply t_Ks
      · apply t_Q
        · apply t_B
          · exact rfl
          exact t_ic_eq_f (by omega)
        apply t_B
        · refine x_iconst ?_
          exact rfl
        exact t_ireq (Or.inr (by first | exact Or.inl rfl | exact Or.inr rfl)) rfl rfl
      · decide
    obtain ⟨ls', key⟩ := key
    refine ⟨_, ls', key, fun a _ a2 _ _ => atI_o a2, fun f q e => ?_⟩
    cases e
    exact ⟨atI_6, by omega, hg, fun j hj => by rw [atI_o (by decide)]; exact hc j hj⟩
/-- a call of readExpression -/
def RdE (D L : Nat) (u : Int64) (R : Nat → Nat → Option Nat) (T : Nat → Int) (b e : Nat) (ev : Nat → rdO) : Prop := ∀ I p, p ≤ b → Txc I b → I 109 = T → Tbc I → I 254 6 = (p : Nat) → ∃ J, am_run am_tb D 68 [vR 254, vI (e : Nat)] (LH L I R u) = some ([vI (if (ev p).isSome then 1 else 0)], LH L J R u) ∧ Fre e I J ∧ Rdd J (b + (9 - e)) (262 + 4 * e) (ev p)
theorem isS_n {α : Type} {o : Option α} (h : o = none) : (if o.isSome then (1 : Int) else 0) = 0 := by rw [h]; rfl
theorem isS_s {α : Type} {o : Option α} {x : α} (h : o = some x) : (if o.isSome then (1 : Int) else 0) = 1 := by rw [h]; rfl
set_option maxRecDepth 10000 in
theorem s7_factor {d L : Nat} {I : Nat → Nat → Int} {R : Nat → Nat → Option Nat} {u : Int64} (hF : FixR R) {b : Nat} (hx : Txc I b) (hB : Tbc I) {p e : Nat} (he : e ≤ 8) (hp : p ≤ b) (ha : I 254 6 = (p : Nat)) {ev : Nat → rdO} (hE : RdE (d + 8) L u R (I 109) b (e + 1) ev) (hE0 : e = 8 → ∀ q, ev q = none) : ∃ J, am_run am_tb (d + 9) 70 [vR 254, vI (e : Nat)] (LH L I R u) = some ([vI (if (fcC (I 109) b ev p).isSome then 1 else 0)], LH L J R u) ∧ Fre (e + 1) I J ∧ Rdd J (b + (9 - e)) 258 (fcC (I 109) b ev p) := by
  have hb := hx.2.1
  have hm := skb_max (T := I 109) (b := b) (p := p)
  have hpk := s7_peek (d := d + 6) (L := L) (u := u) hF hx (p := p) (by omega) ha
  have hbt := bt_b hx (skb (I 109) b p)
  by_cases c1 : bt (I 109) b (skb (I 109) b p) = 40
  · have hq := (bt_t (T := I 109) (b := b) (p := skb (I 109) b p) (by omega)).1
    obtain ⟨K, hrun, hFK, hdK⟩ := hE (atI I (skb (I 109) b p + 1)) (skb (I 109) b p + 1) (by omega) (atI_C hx) (atI_o (by decide)) (Tbc_o hB (fun a ha => atI_o (by unfold Nt at ha; omega))) atI_6
    cases hev : ev (skb (I 109) b p + 1) with
    | none =>
      rw [isS_n hev] at hrun
      have hfc : fcC (I 109) b ev p = none := by unfold fcC fcB; rw [if_pos c1, hev]; rfl
      rw [hfc]
      have key : ∃ ls', am_ev (am_run am_tb (d + 8)) tX7_readFactor ([vR 254, vI (e : Nat), vU, vU], [], LH L I R u) = some (1, ls', [vI 0], LH L K R u) := by
        apply Exists.intro
        unfold tX7_readFactor
        apply t_Q
        · apply t_S
          refine x_aload_n rfl ?_
          refine x_V1i tg_254 (Nat.le_of_ble_eq_true rfl) (hpk) ?_
          refine x_istore_n rfl ?_
          refine x_iload_n rfl ?_
          refine x_bipush ?_
          exact rfl
        apply t_Qs
        apply t_Ks
        · apply t_Qs
          apply t_Ks
          · apply t_Q
            · apply t_B
              · exact rfl
              exact t_ic_ne_f (by omega)
            apply t_Q
            · apply t_S
              refine x_aload_n rfl ?_
              refine x_dup rfl ?_
              refine x_giv tg_254 rfl (show _ = ((skb (I 109) b p : Nat) : Int) from atI_6) ?_
              refine x_iconst ?_
              refine x_iadd ?_
              refine x_pi tg_254 rfl rfl ?_
              rw [atI_w (q := skb (I 109) b p + 1) (by omega)]
              refine x_aload_n rfl ?_
              refine x_iload_n rfl ?_
              refine x_iconst ?_
              refine x_iadd ?_
              rw [show ((e : Nat) : Int) + 1 = ((e + 1 : Nat) : Int) by omega]
              refine x_V2i tg_254 (Nat.le_of_ble_eq_true rfl) (hrun) ?_
              exact rfl
            apply t_Qs
            apply t_Ks
            · apply t_Q
              · apply t_B
                · exact rfl
                exact t_if_ne_f (by omega)
              apply t_B
              · refine x_iconst ?_
                exact rfl
              exact t_ireq (Or.inr (Or.inl rfl)) rfl rfl
            · decide
          · decide
        · decide
      exact ⟨K, run_of tb_X7_readFactor (Nat.le_of_ble_eq_true rfl) key, Fre_t (Fre_a (Fre_r _ _)) hFK, fun f q z => by cases z⟩
    | some x =>
      have he7 : e ≤ 7 := by
        refine Nat.not_lt.mp fun z => ?_
        rw [hE0 (by omega)] at hev
        cases hev
      obtain ⟨v, r⟩ := x
      rw [isS_s hev] at hrun
      obtain ⟨k1, k2, k3, k4⟩ := hdK v r hev
      have hxK : Txc K b := Fre_C hFK (atI_C hx)
      have hK9 : K 109 = I 109 := (Fre_9 hFK).trans (atI_o (by decide))
      have hmr := skb_max (T := I 109) (b := b) (p := r)
      have hpk3 := s7_peek (d := d + 6) (L := L) (u := u) hF hxK (p := r) (by omega) k1
      rw [hK9] at hpk3
      have hcp := s6_copyFrom (d := d + 7) (L := L) (u := u) (I := atI K (skb (I 109) b r + 1)) (op_257 hF) (op_to hF (k := e + 1) (by omega))
      have hfb : fcB (I 109) b ev (skb (I 109) b p) = some (v, skb (I 109) b r + 1) := by unfold fcB; rw [if_pos c1, hev]; rfl
      have hfc : fcC (I 109) b ev p = fcP (I 109) b v (skb (I 109) b r + 1) := by unfold fcC; rw [hfb]; rfl
      rw [hfc]
      obtain ⟨M, hMe⟩ : ∃ M, M = stc (atI K (skb (I 109) b r + 1)) 258 (atI K (skb (I 109) b r + 1) (262 + 4 * (e + 1))) := ⟨_, rfl⟩
      rw [← hMe] at hcp
      obtain ⟨pM, hpMe⟩ : ∃ q, q = skb (I 109) b r + 1 := ⟨_, rfl⟩
      obtain ⟨gM, hgMe⟩ : ∃ g, g = v := ⟨_, rfl⟩
      rw [← hgMe, ← hpMe]
      have hFM : Fre (e + 1) K M := by rw [hMe]; exact Fre_s (Fre_a (Fre_r _ _)) (by omega)
      have hxM : Txc M b := Fre_C hFM hxK
      have hBM : Tbc M := Fre_B hFM (Fre_B hFK (Tbc_o hB (fun a ha => atI_o (by unfold Nt at ha; omega))))
      have hM9 : M 109 = I 109 := (Fre_9 hFM).trans hK9
      have haM : M 254 6 = (pM : Nat) := by rw [hMe, hpMe, stc_o (by decide)]; exact atI_6
      have hpM : pM ≤ b + (9 - e) := by omega
      have hgM : Gv gM := by rw [hgMe]; exact k3
      have hcM : ∀ j, j < 91 → M 258 j = gM j := fun j hj => by rw [hMe, hgMe, stc_s hj, atI_o (by omega)]; exact k4 j hj
      obtain ⟨J, ls', ht, tj1, tj2⟩ := rf_tail (d := d + 4) (L := L) (u := u) (I := M) hF hxM hBM (p := pM) (e := e) (N := b + (9 - e)) hpM (by omega) (by omega) haM (g := gM) hgM hcM (c := bt (I 109) b (skb (I 109) b p)) (l1 := vI (e : Nat)) (l3 := vU)
      rw [hM9] at ht tj2
      have key : am_ev (am_run am_tb (d + 8)) tX7_readFactor ([vR 254, vI (e : Nat), vU, vU], [], LH L I R u) = some (1, ls', [vI (if (fcP (I 109) b gM pM).isSome then 1 else 0)], LH L J R u) := by
        unfold tX7_readFactor
        apply t_Q
        · apply t_S
          refine x_aload_n rfl ?_
          refine x_V1i tg_254 (Nat.le_of_ble_eq_true rfl) (hpk) ?_
          refine x_istore_n rfl ?_
          refine x_iload_n rfl ?_
          refine x_bipush ?_
          exact rfl
        apply t_Q
        · apply t_K
          apply t_Qs
          apply t_Ks
          · apply t_Q
            · apply t_B
              · exact rfl
              exact t_ic_ne_f (by omega)
            apply t_Q
            · apply t_S
              refine x_aload_n rfl ?_
              refine x_dup rfl ?_
              refine x_giv tg_254 rfl (show _ = ((skb (I 109) b p : Nat) : Int) from atI_6) ?_
              refine x_iconst ?_
              refine x_iadd ?_
              refine x_pi tg_254 rfl rfl ?_
              rw [atI_w (q := skb (I 109) b p + 1) (by omega)]
              refine x_aload_n rfl ?_
              refine x_iload_n rfl ?_
              refine x_iconst ?_
              refine x_iadd ?_
              rw [show ((e : Nat) : Int) + 1 = ((e + 1 : Nat) : Int) by omega]
              refine x_V2i tg_254 (Nat.le_of_ble_eq_true rfl) (hrun) ?_
              exact rfl
            apply t_Q
            · apply t_K
              apply t_Qs
              apply t_B
              · exact rfl
              exact t_if_ne_t (by omega)
            apply t_B
            · refine x_aload_n rfl ?_
              refine x_V1i tg_254 (Nat.le_of_ble_eq_true rfl) (hpk3) ?_
              refine x_pop rfl ?_
              refine x_aload_n rfl ?_
              refine x_dup rfl ?_
              refine x_giv tg_254 rfl (show _ = ((skb (I 109) b r : Nat) : Int) from atI_6) ?_
              refine x_iconst ?_
              refine x_iadd ?_
              refine x_pi tg_254 rfl rfl ?_
              rw [atI_w (q := skb (I 109) b r + 1) (by omega)]
              refine x_aload_n rfl ?_
              refine x_gr tg_254 rfl (fx_254_4 hF) ?_
              refine x_aload_n rfl ?_
              refine x_gr tg_254 rfl (fx_254_2 hF) ?_
              refine x_iload_n rfl ?_
              refine x_iconst ?_
              refine x_iadd ?_
              rw [show ((e : Nat) : Int) + 1 = ((e + 1 : Nat) : Int) by omega]
              refine x_aald (by rw [tg_255]; decide) (ln_255 L) (by omega) (fx_to hF (k := e + 1) (by omega) : R 255 (e + 1) = some (261 + 4 * (e + 1))) ?_
              refine x_V2v tg_257 (Nat.le_of_ble_eq_true rfl) (hcp) ?_
              exact rfl
            exact t_goto
          · decide
        exact ht
      exact ⟨J, run_of tb_X7_readFactor (Nat.le_of_ble_eq_true rfl) ⟨ls', key⟩, Fre_t (Fre_t (Fre_a (Fre_r _ _)) (Fre_t hFK hFM)) (fun a ha => tj1 a (by omega) (by omega) (by omega) (by omega)), tj2⟩
  by_cases c2 : bt (I 109) b (skb (I 109) b p) = 120
  · have hq := (bt_t (T := I 109) (b := b) (p := skb (I 109) b p) (by omega)).1
    have hz := s6_makeZero (d := d + 6) (L := L) (u := u) (I := atI I (skb (I 109) b p + 1)) (op_257 hF)
    have hse := s6_setIn (d := d + 5) (L := L) (u := u) (I := stc (atI I (skb (I 109) b p + 1)) 258 (fun _ => 0)) (op_257 hF) (i := 1) (j := 0) (by omega) (v := 1)
    have hst : au (stc (atI I (skb (I 109) b p + 1)) 258 (fun _ => 0)) 258 (au (stc (atI I (skb (I 109) b p + 1)) 258 (fun _ => 0) 258) (pl 1 0) 1) = stc (atI I (skb (I 109) b p + 1)) 258 (wrd 1 0) := stc_w (t := pl 1 0) (i := ((pl 1 0 : Nat) : Int)) rfl (pl_91 (by omega)) (fun w hw => by unfold wrd; rw [au_i])
    rw [hst] at hse
    have hfb : fcB (I 109) b ev (skb (I 109) b p) = some (wrd 1 0, skb (I 109) b p + 1) := by unfold fcB; rw [if_neg c1, if_pos c2]
    have hfc : fcC (I 109) b ev p = fcP (I 109) b (wrd 1 0) (skb (I 109) b p + 1) := by unfold fcC; rw [hfb]; rfl
    rw [hfc]
    obtain ⟨M, hMe⟩ : ∃ M, M = stc (atI I (skb (I 109) b p + 1)) 258 (wrd 1 0) := ⟨_, rfl⟩
    obtain ⟨gM, hgMe⟩ : ∃ g, g = wrd 1 0 := ⟨_, rfl⟩
    obtain ⟨pM, hpMe⟩ : ∃ q, q = skb (I 109) b p + 1 := ⟨_, rfl⟩
    rw [← hMe] at hse
    rw [← hgMe, ← hpMe]
    have hMf : ∀ a, a ≠ 254 → a ≠ 258 → M a = I a := fun a a1 a2 => by rw [hMe, stc_o a2, atI_o a1]
    have hxM : Txc M b := Txc_o hx (hMf 108 (by decide) (by decide)) (hMf 109 (by decide) (by decide))
    have hBM : Tbc M := Tbc_o hB (fun a ha => hMf a (by unfold Nt at ha; omega) (by unfold Nt at ha; omega))
    have hM9 : M 109 = I 109 := hMf 109 (by decide) (by decide)
    have haM : M 254 6 = (pM : Nat) := by rw [hMe, hpMe, stc_o (by decide)]; exact atI_6
    have hpM : pM ≤ b + (9 - e) := by omega
    have hgM : Gv gM := by rw [hgMe]; exact wrd_G (by omega)
    have hcM : ∀ j, j < 91 → M 258 j = gM j := fun j hj => by rw [hMe, hgMe, stc_s hj]
    obtain ⟨J, ls', ht, tj1, tj2⟩ := rf_tail (d := d + 4) (L := L) (u := u) (I := M) hF hxM hBM (p := pM) (e := e) (N := b + (9 - e)) hpM (by omega) (by omega) haM (g := gM) hgM hcM (c := bt (I 109) b (skb (I 109) b p)) (l1 := vI (e : Nat)) (l3 := vU)
    rw [hM9] at ht tj2
    have key : am_ev (am_run am_tb (d + 8)) tX7_readFactor ([vR 254, vI (e : Nat), vU, vU], [], LH L I R u) = some (1, ls', [vI (if (fcP (I 109) b gM pM).isSome then 1 else 0)], LH L J R u) := by
      unfold tX7_readFactor
      apply t_Q
      · apply t_S
        refine x_aload_n rfl ?_
        refine x_V1i tg_254 (Nat.le_of_ble_eq_true rfl) (hpk) ?_
        refine x_istore_n rfl ?_
        refine x_iload_n rfl ?_
        refine x_bipush ?_
        exact rfl
      apply t_Q
      · apply t_K
        apply t_Q
        · apply t_K
          apply t_Qs
          apply t_B
          · exact rfl
          exact t_ic_ne_t (by omega)
        apply t_Q
        · apply t_S
          refine x_iload_n rfl ?_
          refine x_bipush ?_
          exact rfl
        apply t_Qs
        apply t_Ks
        · apply t_Q
          · apply t_K
            apply t_Qs
            apply t_B
            · exact rfl
            exact t_ic_eq_t (by omega)
          apply t_Q
          · apply t_S
            refine x_aload_n rfl ?_
            refine x_dup rfl ?_
            refine x_giv tg_254 rfl (show _ = ((skb (I 109) b p : Nat) : Int) from atI_6) ?_
            refine x_iconst ?_
            refine x_iadd ?_
            refine x_pi tg_254 rfl rfl ?_
            rw [atI_w (q := skb (I 109) b p + 1) (by omega)]
            refine x_aload_n rfl ?_
            refine x_gr tg_254 rfl (fx_254_4 hF) ?_
            refine x_V1v tg_257 (Nat.le_of_ble_eq_true rfl) (hz) ?_
            refine x_aload_n rfl ?_
            refine x_gr tg_254 rfl (fx_254_4 hF) ?_
            refine x_iload_n rfl ?_
            refine x_bipush ?_
            exact rfl
          apply t_Q
          · apply t_K
            apply t_Qs
            apply t_Ks
            · apply t_Q
              · apply t_B
                · exact rfl
                exact t_ic_ne_f (by omega)
              apply t_B
              · refine x_iconst ?_
                exact rfl
              exact t_goto
            · decide
          apply t_Q
          · apply t_S
            refine x_iload_n rfl ?_
            refine x_bipush ?_
            exact rfl
          apply t_Q
          · apply t_Ks
            · apply t_Q
              · apply t_K
                apply t_Qs
                apply t_B
                · exact rfl
                exact t_ic_ne_t (by omega)
              apply t_S
              refine x_iconst ?_
              exact rfl
            · decide
          apply t_B
          · refine x_iconst ?_
            refine x_V4v tg_257 (Nat.le_of_ble_eq_true rfl) (hse) ?_
            exact rfl
          exact t_goto
        · decide
      exact ht
    exact ⟨J, run_of tb_X7_readFactor (Nat.le_of_ble_eq_true rfl) ⟨ls', key⟩, fun a ha => (tj1 a (by omega) (by omega) (by omega) (by omega)).trans (hMf a (by omega) (by omega)), tj2⟩
  by_cases c3 : bt (I 109) b (skb (I 109) b p) = 100
  · have hq := (bt_t (T := I 109) (b := b) (p := skb (I 109) b p) (by omega)).1
    have hz := s6_makeZero (d := d + 6) (L := L) (u := u) (I := atI I (skb (I 109) b p + 1)) (op_257 hF)
    have hse := s6_setIn (d := d + 5) (L := L) (u := u) (I := stc (atI I (skb (I 109) b p + 1)) 258 (fun _ => 0)) (op_257 hF) (i := 0) (j := 1) (by omega) (v := 1)
    have hst : au (stc (atI I (skb (I 109) b p + 1)) 258 (fun _ => 0)) 258 (au (stc (atI I (skb (I 109) b p + 1)) 258 (fun _ => 0) 258) (pl 0 1) 1) = stc (atI I (skb (I 109) b p + 1)) 258 (wrd 0 1) := stc_w (t := pl 0 1) (i := ((pl 0 1 : Nat) : Int)) rfl (pl_91 (by omega)) (fun w hw => by unfold wrd; rw [au_i])
    rw [hst] at hse
    have hfb : fcB (I 109) b ev (skb (I 109) b p) = some (wrd 0 1, skb (I 109) b p + 1) := by unfold fcB; rw [if_neg c1, if_neg c2, if_pos c3]
    have hfc : fcC (I 109) b ev p = fcP (I 109) b (wrd 0 1) (skb (I 109) b p + 1) := by unfold fcC; rw [hfb]; rfl
    rw [hfc]
    obtain ⟨M, hMe⟩ : ∃ M, M = stc (atI I (skb (I 109) b p + 1)) 258 (wrd 0 1) := ⟨_, rfl⟩
    obtain ⟨gM, hgMe⟩ : ∃ g, g = wrd 0 1 := ⟨_, rfl⟩
    obtain ⟨pM, hpMe⟩ : ∃ q, q = skb (I 109) b p + 1 := ⟨_, rfl⟩
    rw [← hMe] at hse
    rw [← hgMe, ← hpMe]
    have hMf : ∀ a, a ≠ 254 → a ≠ 258 → M a = I a := fun a a1 a2 => by rw [hMe, stc_o a2, atI_o a1]
    have hxM : Txc M b := Txc_o hx (hMf 108 (by decide) (by decide)) (hMf 109 (by decide) (by decide))
    have hBM : Tbc M := Tbc_o hB (fun a ha => hMf a (by unfold Nt at ha; omega) (by unfold Nt at ha; omega))
    have hM9 : M 109 = I 109 := hMf 109 (by decide) (by decide)
    have haM : M 254 6 = (pM : Nat) := by rw [hMe, hpMe, stc_o (by decide)]; exact atI_6
    have hpM : pM ≤ b + (9 - e) := by omega
    have hgM : Gv gM := by rw [hgMe]; exact wrd_G (by omega)
    have hcM : ∀ j, j < 91 → M 258 j = gM j := fun j hj => by rw [hMe, hgMe, stc_s hj]
    obtain ⟨J, ls', ht, tj1, tj2⟩ := rf_tail (d := d + 4) (L := L) (u := u) (I := M) hF hxM hBM (p := pM) (e := e) (N := b + (9 - e)) hpM (by omega) (by omega) haM (g := gM) hgM hcM (c := bt (I 109) b (skb (I 109) b p)) (l1 := vI (e : Nat)) (l3 := vU)
    rw [hM9] at ht tj2
    have key : am_ev (am_run am_tb (d + 8)) tX7_readFactor ([vR 254, vI (e : Nat), vU, vU], [], LH L I R u) = some (1, ls', [vI (if (fcP (I 109) b gM pM).isSome then 1 else 0)], LH L J R u) := by
      unfold tX7_readFactor
      apply t_Q
      · apply t_S
        refine x_aload_n rfl ?_
        refine x_V1i tg_254 (Nat.le_of_ble_eq_true rfl) (hpk) ?_
        refine x_istore_n rfl ?_
        refine x_iload_n rfl ?_
        refine x_bipush ?_
        exact rfl
      apply t_Q
      · apply t_K
        apply t_Q
        · apply t_K
          apply t_Qs
          apply t_B
          · exact rfl
          exact t_ic_ne_t (by omega)
        apply t_Q
        · apply t_S
          refine x_iload_n rfl ?_
          refine x_bipush ?_
          exact rfl
        apply t_Qs
        apply t_Ks
        · apply t_Q
          · apply t_Ks
            · apply t_Q
              · apply t_B
                · exact rfl
                exact t_ic_eq_f (by omega)
              apply t_B
              · refine x_iload_n rfl ?_
                refine x_bipush ?_
                exact rfl
              exact t_ic_ne_f (by omega)
            · decide
          apply t_Q
          · apply t_S
            refine x_aload_n rfl ?_
            refine x_dup rfl ?_
            refine x_giv tg_254 rfl (show _ = ((skb (I 109) b p : Nat) : Int) from atI_6) ?_
            refine x_iconst ?_
            refine x_iadd ?_
            refine x_pi tg_254 rfl rfl ?_
            rw [atI_w (q := skb (I 109) b p + 1) (by omega)]
            refine x_aload_n rfl ?_
            refine x_gr tg_254 rfl (fx_254_4 hF) ?_
            refine x_V1v tg_257 (Nat.le_of_ble_eq_true rfl) (hz) ?_
            refine x_aload_n rfl ?_
            refine x_gr tg_254 rfl (fx_254_4 hF) ?_
            refine x_iload_n rfl ?_
            refine x_bipush ?_
            exact rfl
          apply t_Q
          · apply t_Ks
            · apply t_Q
              · apply t_K
                apply t_Qs
                apply t_B
                · exact rfl
                exact t_ic_ne_t (by omega)
              apply t_S
              refine x_iconst ?_
              exact rfl
            · decide
          apply t_Q
          · apply t_S
            refine x_iload_n rfl ?_
            refine x_bipush ?_
            exact rfl
          apply t_Q
          · apply t_K
            apply t_Qs
            apply t_Ks
            · apply t_Q
              · apply t_B
                · exact rfl
                exact t_ic_ne_f (by omega)
              apply t_B
              · refine x_iconst ?_
                exact rfl
              exact t_goto
            · decide
          apply t_B
          · refine x_iconst ?_
            refine x_V4v tg_257 (Nat.le_of_ble_eq_true rfl) (hse) ?_
            exact rfl
          exact t_goto
        · decide
      exact ht
    exact ⟨J, run_of tb_X7_readFactor (Nat.le_of_ble_eq_true rfl) ⟨ls', key⟩, fun a ha => (tj1 a (by omega) (by omega) (by omega) (by omega)).trans (hMf a (by omega) (by omega)), tj2⟩
  have hnu := s7_number (d := d + 4) (L := L) (u := u) hF (I := atI I (skb (I 109) b p)) (b := b) (atI_C hx) (p := skb (I 109) b p) (n := 4) (by omega) (by omega) atI_6
  rw [atI_o (by decide)] at hnu
  rw [show atI (atI I (skb (I 109) b p)) (skb (I 109) b p + cdg (I 109) b 4 (skb (I 109) b p)) = atI I (skb (I 109) b p + cdg (I 109) b 4 (skb (I 109) b p)) from atI_w rfl] at hnu
  have hmn := s6_makeNumber (d := d + 5) (L := L) (u := u) (I := atI I (skb (I 109) b p + cdg (I 109) b 4 (skb (I 109) b p))) (op_257 hF) (v := fgv (I 109) (skb (I 109) b p) (cdg (I 109) b 4 (skb (I 109) b p)))
  have hfb : fcB (I 109) b ev (skb (I 109) b p) = some (nbr (I 109) b 4 (skb (I 109) b p), skb (I 109) b p + cdg (I 109) b 4 (skb (I 109) b p)) := by unfold fcB; rw [if_neg c1, if_neg c2, if_neg c3]
  have hfc : fcC (I 109) b ev p = fcP (I 109) b (nbr (I 109) b 4 (skb (I 109) b p)) (skb (I 109) b p + cdg (I 109) b 4 (skb (I 109) b p)) := by unfold fcC; rw [hfb]; rfl
  rw [hfc]
  have hle := cdg_le (I 109) b 4 (skb (I 109) b p)
  have hcm := cdg_m (T := I 109) (b := b) (n := 4) (p := skb (I 109) b p)
  obtain ⟨M, hMe⟩ : ∃ M, M = stc (atI I (skb (I 109) b p + cdg (I 109) b 4 (skb (I 109) b p))) 258 (au (fun _ => 0) 0 (fgv (I 109) (skb (I 109) b p) (cdg (I 109) b 4 (skb (I 109) b p)))) := ⟨_, rfl⟩
  rw [← hMe] at hmn
  obtain ⟨gM, hgMe⟩ : ∃ g, g = nbr (I 109) b 4 (skb (I 109) b p) := ⟨_, rfl⟩
  obtain ⟨pM, hpMe⟩ : ∃ q, q = skb (I 109) b p + cdg (I 109) b 4 (skb (I 109) b p) := ⟨_, rfl⟩
  rw [← hgMe, ← hpMe]
  have hMf : ∀ a, a ≠ 254 → a ≠ 258 → M a = I a := fun a a1 a2 => by rw [hMe, stc_o a2, atI_o a1]
  have hxM : Txc M b := Txc_o hx (hMf 108 (by decide) (by decide)) (hMf 109 (by decide) (by decide))
  have hBM : Tbc M := Tbc_o hB (fun a ha => hMf a (by unfold Nt at ha; omega) (by unfold Nt at ha; omega))
  have hM9 : M 109 = I 109 := hMf 109 (by decide) (by decide)
  have haM : M 254 6 = (pM : Nat) := by rw [hMe, hpMe, stc_o (by decide)]; exact atI_6
  have hpM : pM ≤ b + (9 - e) := by omega
  have hgM : Gv gM := by rw [hgMe]; exact nbr_G (by omega)
  have hcM : ∀ j, j < 91 → M 258 j = gM j := fun j hj => by rw [hMe, hgMe, stc_s hj]; rfl
  obtain ⟨J, ls', ht, tj1, tj2⟩ := rf_tail (d := d + 4) (L := L) (u := u) (I := M) hF hxM hBM (p := pM) (e := e) (N := b + (9 - e)) hpM (by omega) (by omega) haM (g := gM) hgM hcM (c := bt (I 109) b (skb (I 109) b p)) (l1 := vI (e : Nat)) (l3 := vU)
  rw [hM9] at ht tj2
  have key : am_ev (am_run am_tb (d + 8)) tX7_readFactor ([vR 254, vI (e : Nat), vU, vU], [], LH L I R u) = some (1, ls', [vI (if (fcP (I 109) b gM pM).isSome then 1 else 0)], LH L J R u) := by
    unfold tX7_readFactor
    apply t_Q
    · apply t_S
      refine x_aload_n rfl ?_
      refine x_V1i tg_254 (Nat.le_of_ble_eq_true rfl) (hpk) ?_
      refine x_istore_n rfl ?_
      refine x_iload_n rfl ?_
      refine x_bipush ?_
      exact rfl
    apply t_Q
    · apply t_Ks
      · apply t_Q
        · apply t_K
          apply t_Qs
          apply t_B
          · exact rfl
          exact t_ic_ne_t (by omega)
        apply t_Q
        · apply t_S
          refine x_iload_n rfl ?_
          refine x_bipush ?_
          exact rfl
        apply t_Q
        · apply t_K
          apply t_Qs
          apply t_Ks
          · apply t_Q
            · apply t_B
              · exact rfl
              exact t_ic_eq_f (by omega)
            apply t_B
            · refine x_iload_n rfl ?_
              refine x_bipush ?_
              exact rfl
            exact t_ic_ne_t (by omega)
          · decide
        apply t_S
        refine x_aload_n rfl ?_
        refine x_gr tg_254 rfl (fx_254_4 hF) ?_
        refine x_aload_n rfl ?_
        refine x_iconst ?_
        refine x_V2i tg_254 (Nat.le_of_ble_eq_true rfl) (hnu) ?_
        refine x_V2v tg_257 (Nat.le_of_ble_eq_true rfl) (hmn) ?_
        exact rfl
      · decide
    exact ht
  exact ⟨J, run_of tb_X7_readFactor (Nat.le_of_ble_eq_true rfl) ⟨ls', key⟩, fun a ha => (tj1 a (by omega) (by omega) (by omega) (by omega)).trans (hMf a (by omega) (by omega)), tj2⟩
