/-! The reference's reader: takesFactor. Written by wip/whole/gen_69.py. -/
theorem ab1 {P : Prop} (z : (1 : Int) = 0) : P := absurd z (by decide)
theorem ab0 {P : Prop} (z : (0 : Int) = 1) : P := absurd z (by decide)
abbrev rdT : Type := Nat × Nat × Int × Int × Int × (Nat → Int) × (Nat → Int) × (Nat → Nat → Int) × (Nat → Nat → Int)
def Rd (I : Nat → Nat → Int) (w : Int) (s : rdT) : Prop := RdF I w s.1 s.2.1 s.2.2.1 s.2.2.2.1 s.2.2.2.2.1 s.2.2.2.2.2.1 s.2.2.2.2.2.2.1 ∧ RdB w s.2.1 s.2.2.1 s.2.2.2.1 s.2.2.2.2.1 s.2.2.2.2.2.1 s.2.2.2.2.2.2.1 ∧ RdW I w s.2.2.2.2.1 s.2.1 s.2.2.2.2.2.2.1 s.2.2.2.2.2.2.2.1 s.2.2.2.2.2.2.2.2
/-- a base with what may stand behind it: whether it can be, where it can't, the state behind it -/
noncomputable def pwR (w : Int) (T : Nat → Int) (b p e : Nat) (mm fu : Int) (mi hp : Nat → Int) (su pr : Nat → Nat → Int) (y : Nat → Int) : Int × Nat × rdT :=
  if pwc T b p then
    (if pwk T b p then (1, 0, (pwe T b p, e, 0, mm, tkU w fu hp e pr y (pwn T b p), mi, au hp e 1, su, tkQ hp e pr y (pwn T b p)))
     else (0, pww T b p, (p, e, 0, mm, fu, mi, hp, su, pr)))
  else (1, 0, (pw1 T b p, e, 0, mm, tkU w fu hp e pr y 1, mi, au hp e 1, su, tkQ hp e pr y 1))
/-- truths are truths -/
def Bol (I : Nat → Nat → Int) : Prop := ∀ k, k ≤ 8 → (I 315 k = 0 ∨ I 315 k = 1) ∧ (I 316 k = 0 ∨ I 316 k = 1)
theorem Bol_of {I : Nat → Nat → Int} {w : Int} {p e : Nat} {la mm fu : Int} {mi hp : Nat → Int} (h1 : RdF I w p e la mm fu mi hp) (h2 : RdB w e la mm fu mi hp) : Bol I := fun k hk => by
  rw [h1.2.2.2.2.2.2.1 k hk, h1.2.2.2.2.2.2.2 k hk]
  exact ⟨h2.2.2.2.2.2.1 k, h2.2.2.2.2.2.2 k⟩
/-- what a step of the reader says and leaves -/
def Ans (I J : Nat → Nat → Int) (w : Int) (b : Nat) (r : Int × Nat × rdT) : Prop := Fr I J ∧ (r.1 = 0 ∨ r.1 = 1) ∧ (r.1 = 1 → Rd J w r.2.2 ∧ r.2.2.1 ≤ b) ∧ (r.1 = 0 → J 301 19 = (r.2.1 : Nat) ∧ r.2.1 ≤ b ∧ Bol J)
theorem Ans_Fr {I J K : Nat → Nat → Int} {w : Int} {b : Nat} {r : Int × Nat × rdT} (h : Fr I J) (h2 : Ans J K w b r) : Ans I K w b r := ⟨Fr_t h h2.1, h2.2⟩
theorem pwe_le {T : Nat → Int} {b p : Nat} (h : pwc T b p) : pwe T b p ≤ b ∧ pww T b p ≤ b := by
  have a := skb_le (T := T) (b := b) (p := pw1 T b p + 1) (by have := h.1; omega)
  have c := dgc_le T b (pw3 T b p)
  have e : pw3 T b p = skb T b (pw1 T b p + 1) := rfl
  unfold pwe pww
  constructor
  · omega
  · split <;> omega
theorem s_power {d L : Nat} {I : Nat → Nat → Int} {R : Nat → Nat → Option Nat} {u : Int64} (hF : FixR R) {w : Int} {p e b : Nat} {la mm fu : Int} {mi hp : Nat → Int} {su pr : Nat → Nat → Int} (hR : Res I) (hT : Tabs I) (hx : Txt I b) (hpb : p ≤ b) (h1 : RdF I w p e la mm fu mi hp) (h2 : RdB w e la mm fu mi hp) (h3 : RdW I w fu e hp su pr) {y : Nat → Int} (hy : w = 1 → fu = 0 → ∀ v, v < 496 → gro I 27 v = y v) : ∃ J, am_run am_tb (d + 7) 214 [vR 301] (LH L I R u) = some ([vI (pwR w (I 305) b p e mm fu mi hp su pr y).1], LH L J R u) ∧ Ans I J w b (pwR w (I 305) b p e mm fu mi hp su pr y) := by
  by_cases c : pwc (I 305) b p
  · have hle := pwe_le c
    by_cases k : pwk (I 305) b p
    · have e : pwR w (I 305) b p e mm fu mi hp su pr y = (1, 0, (pwe (I 305) b p, e, 0, mm, tkU w fu hp e pr y (pwn (I 305) b p), mi, au hp e 1, su, tkQ hp e pr y (pwn (I 305) b p))) := by unfold pwR; rw [if_pos c, if_pos k]
      obtain ⟨J, er, hf, j1, j2, j3⟩ := s_pow1 (d := d) (L := L) (u := u) (I := I) hF hR hT hx hpb h1 h2 h3 hy c k
      rw [e]
      exact ⟨J, er, hf, Or.inr rfl, fun _ => ⟨⟨j1, j2, j3⟩, hle.1⟩, fun z => ab1 z⟩
    · have e : pwR w (I 305) b p e mm fu mi hp su pr y = (0, pww (I 305) b p, (p, e, 0, mm, fu, mi, hp, su, pr)) := by unfold pwR; rw [if_pos c, if_neg k]
      obtain ⟨J, er, hf, j1, q1, q2⟩ := s_powx (d := d) (L := L) (u := u) (I := I) hF hR hT hx hpb h1 h2 h3 hy c k
      rw [e]
      exact ⟨J, er, hf, Or.inl rfl, fun z => ab0 z, fun _ => ⟨j1, hle.2, by unfold Bol; rw [q1, q2]; exact Bol_of h1 h2⟩⟩
  · have hle := skb_le (T := I 305) hpb
    have e : pwR w (I 305) b p e mm fu mi hp su pr y = (1, 0, (pw1 (I 305) b p, e, 0, mm, tkU w fu hp e pr y 1, mi, au hp e 1, su, tkQ hp e pr y 1)) := by unfold pwR; rw [if_neg c]
    obtain ⟨J, er, hf, j1, j2, j3⟩ := s_pow0 (d := d) (L := L) (u := u) (I := I) hF hR hT hx hpb h1 h2 h3 hy c
    rw [e]
    exact ⟨J, er, hf, Or.inr rfl, fun _ => ⟨⟨j1, j2, j3⟩, hle.2⟩, fun z => ab1 z⟩
/-- one factor -/
def nuV (T : Nat → Int) (b p : Nat) : Nat → Int := au (fun _ => 0) (pl 0 0) (fgv T p (dgc T b p) % 10007)
noncomputable def fcR (w : Int) (T : Nat → Int) (b p e : Nat) (la mm fu : Int) (mi hp : Nat → Int) (su pr : Nat → Nat → Int) : Int × Nat × rdT :=
  if T p = 45 ∧ mm = 1 then (1, 0, (p + 1, e, la, 0, fu, au mi e 1, hp, su, pr))
  else if T p = 40 then (if e = 8 then (0, p, (p, e, la, mm, fu, mi, hp, su, pr)) else (1, 0, (p + 1, e + 1, 1, 1, fu, au mi (e + 1) 0, au hp (e + 1) 0, au su (e + 1) (fun _ => 0), pr)))
  else if 48 ≤ T p ∧ T p ≤ 57 then (if 4 < dgc T b p then (0, p + 4, (p, e, la, mm, fu, mi, hp, su, pr)) else pwR w T b (p + dgc T b p) e mm fu mi hp su pr (nuV T b p))
  else if T p = 120 then pwR w T b (p + 1) e mm fu mi hp su pr (au (fun _ => 0) (pl 1 0) 1)
  else if T p = 100 then pwR w T b (p + 1) e mm fu mi hp su pr (au (fun _ => 0) (pl 0 1) 1)
  else (0, p, (p, e, la, mm, fu, mi, hp, su, pr))
theorem au0_d {i j : Nat} {c : Int} (hc : 0 ≤ c ∧ c < 10007) : resd (au (fun _ => 0) (pl i j) c) := fun k _ => by
  rw [au_i]
  split <;> omega
set_option maxRecDepth 10000 in
theorem s_factor {d L : Nat} {I : Nat → Nat → Int} {R : Nat → Nat → Option Nat} {u : Int64} (hF : FixR R) {w : Int} {p e b : Nat} {la mm fu : Int} {mi hp : Nat → Int} {su pr : Nat → Nat → Int} (hR : Res I) (hT : Tabs I) (hx : Txt I b) (hpb : p ≤ b) (h1 : RdF I w p e la mm fu mi hp) (h2 : RdB w e la mm fu mi hp) (h3 : RdW I w fu e hp su pr) (hpl : p < b) : ∃ J, am_run am_tb (d + 8) 216 [vR 301] (LH L I R u) = some ([vI (fcR w (I 305) b p e la mm fu mi hp su pr).1], LH L J R u) ∧ Ans I J w b (fcR w (I 305) b p e la mm fu mi hp su pr) := by
  have he8 := h2.1
  have hb2 := hx.2.1
  have htp := hx.2.2 p hpl
  have hmm := h2.2.2.2.1
  by_cases c1 : I 305 p = 45 ∧ mm = 1
  · have ex : fcR w (I 305) b p e la mm fu mi hp su pr = (1, 0, (p + 1, e, la, 0, fu, au mi e 1, hp, su, pr)) := by unfold fcR; rw [if_pos c1]
    rw [ex]
    refine ⟨au (au (au I 301 (au (I 301) 22 0)) 315 (au (I 315) e 1)) 301 (au (au (I 301) 22 0) 18 ((p : Int) + 1)), ?_, ?_, Or.inr rfl, fun _ => ⟨⟨⟨by show (p : Int) + 1 = ((p + 1 : Nat) : Int); omega, h1.2.1, h1.2.2.1, rfl, h1.2.2.2.2.1, h1.2.2.2.2.2.1, fun k hk => by
        show (if k = e then (1 : Int) else I 315 k) = (if k = e then 1 else mi k)
        rw [h1.2.2.2.2.2.2.1 k hk], h1.2.2.2.2.2.2.2⟩, ⟨he8, h2.2.1, h2.2.2.1, Or.inl rfl, h2.2.2.2.2.1, b_au h2.2.2.2.2.2.1 (Or.inr rfl), h2.2.2.2.2.2.2⟩, h3⟩, hpl⟩, fun z => ab1 z⟩
    · have c45 := c1.1
      have cmm := c1.2
      refine run_of tb_X12_takesFactor (Nat.le_of_ble_eq_true rfl) ?_
      show ∃ ls', am_ev (am_run am_tb (d + 7)) tX12_takesFactor ([vR 301, vU], [], LH L I R u) = some (1, ls', [vI (1)], LH L (au (au (au I 301 (au (I 301) 22 0)) 315 (au (I 315) e 1)) 301 (au (au (I 301) 22 0) 18 ((p : Int) + 1))) R u)
      apply Exists.intro
      unfold tX12_takesFactor
      apply t_Q
      · apply t_S
        refine x_aload_n rfl ?_
        refine x_bipush ?_
        refine x_bipush ?_
        refine x_V3i tg_301 (Nat.le_of_ble_eq_true rfl) (ret_t (show p < b ∧ 45 ≤ I 305 p ∧ I 305 p ≤ 45 from by omega) (s_isAt (d := d + 5) (I := I) hF (p := p) (b := b) h1.1 hx.1 hx.2.1 hpb hx.2.2 (lo := 45) (hi := 45) (by omega) (by omega))) ?_
        exact rfl
      apply t_Qs
      apply t_Ks
      · apply t_Q
        · apply t_B
          · exact rfl
          exact t_if_eq_f (by omega)
        apply t_Q
        · apply t_B
          · refine x_aload_n rfl ?_
            refine x_giv tg_301 rfl (show _ = mm from h1.2.2.2.1) ?_
            exact rfl
          exact t_if_eq_f (by omega)
        apply t_B
        · refine x_aload_n rfl ?_
          refine x_iconst ?_
          refine x_pi tg_301 rfl (by first | rfl | exact decide_eq_true (by omega)) ?_
          refine x_aload_n rfl ?_
          refine x_gr tg_301 rfl (fx_301_25 hF) ?_
          refine x_aload_n rfl ?_
          refine x_giv tg_301 rfl (show _ = ((e : Nat) : Int) from h1.2.1) ?_
          refine x_iconst ?_
          refine x_bast tg_315 (ln_315 L) (by omega) (by first | decide | omega) ?_
          refine x_aload_n rfl ?_
          refine x_dup rfl ?_
          refine x_giv tg_301 rfl (show _ = ((p : Nat) : Int) from h1.1) ?_
          refine x_iconst ?_
          refine x_iadd ?_
          refine x_pi tg_301 rfl rfl ?_
          refine x_iconst ?_
          exact rfl
        exact t_ireq (Or.inr (Or.inr rfl)) rfl rfl
      · decide
    · have f1 : Fr I (au I 301 (au (I 301) 22 0)) := Fr_f (Fr_r hR) (by omega)
      have f2 : Fr I (au (au I 301 (au (I 301) 22 0)) 315 (au (I 315) e 1)) := Fr_a f1 (by omega)
      exact Fr_f (f := 18) (v := (p : Int) + 1) f2 (by omega)
  · by_cases c2 : I 305 p = 40
    · by_cases c3 : e = 8
      · have ex : fcR w (I 305) b p e la mm fu mi hp su pr = (0, p, (p, e, la, mm, fu, mi, hp, su, pr)) := by unfold fcR; rw [if_neg c1, if_pos c2, if_pos c3]
        rw [ex]
        refine ⟨au I 301 (au (I 301) 19 (p : Int)), ?_, Fr_f (Fr_r hR) (by omega), Or.inl rfl, fun z => ab0 z, fun _ => ⟨rfl, hpb, (show Bol I from Bol_of h1 h2)⟩⟩
        refine run_of tb_X12_takesFactor (Nat.le_of_ble_eq_true rfl) ?_
        show ∃ ls', am_ev (am_run am_tb (d + 7)) tX12_takesFactor ([vR 301, vU], [], LH L I R u) = some (1, ls', [vI (0)], LH L (au I 301 (au (I 301) 19 (p : Int))) R u)
        apply Exists.intro
        unfold tX12_takesFactor
        apply t_Q
        · apply t_S
          refine x_aload_n rfl ?_
          refine x_bipush ?_
          refine x_bipush ?_
          refine x_V3i tg_301 (Nat.le_of_ble_eq_true rfl) (ret_f (show ¬ (p < b ∧ 45 ≤ I 305 p ∧ I 305 p ≤ 45) from by omega) (s_isAt (d := d + 5) (I := I) hF (p := p) (b := b) h1.1 hx.1 hx.2.1 hpb hx.2.2 (lo := 45) (hi := 45) (by omega) (by omega))) ?_
          exact rfl
        apply t_Q
        · apply t_K
          apply t_Qs
          apply t_B
          · exact rfl
          exact t_if_eq_t (by omega)
        apply t_Q
        · apply t_S
          refine x_aload_n rfl ?_
          refine x_bipush ?_
          refine x_bipush ?_
          refine x_V3i tg_301 (Nat.le_of_ble_eq_true rfl) (ret_t (show p < b ∧ 40 ≤ I 305 p ∧ I 305 p ≤ 40 from by omega) (s_isAt (d := d + 5) (I := I) hF (p := p) (b := b) h1.1 hx.1 hx.2.1 hpb hx.2.2 (lo := 40) (hi := 40) (by omega) (by omega))) ?_
          exact rfl
        apply t_Qs
        apply t_Ks
        · apply t_Q
          · apply t_B
            · exact rfl
            exact t_if_eq_f (by omega)
          apply t_Q
          · apply t_S
            refine x_aload_n rfl ?_
            refine x_giv tg_301 rfl (show _ = ((e : Nat) : Int) from h1.2.1) ?_
            refine x_bipush ?_
            exact rfl
          apply t_Qs
          apply t_Ks
          · apply t_Q
            · apply t_B
              · exact rfl
              exact t_ic_ne_f (by omega)
            apply t_B
            · refine x_aload_n rfl ?_
              refine x_aload_n rfl ?_
              refine x_giv tg_301 rfl (show _ = ((p : Nat) : Int) from h1.1) ?_
              refine x_V2i tg_301 (Nat.le_of_ble_eq_true rfl) (s_fails (d := d + 6) hF) ?_
              exact rfl
            exact t_ireq (Or.inr (Or.inl rfl)) rfl rfl
          · decide
        · decide
      · have ex : fcR w (I 305) b p e la mm fu mi hp su pr = (1, 0, (p + 1, e + 1, 1, 1, fu, au mi (e + 1) 0, au hp (e + 1) 0, au su (e + 1) (fun _ => 0), pr)) := by unfold fcR; rw [if_neg c1, if_pos c2, if_neg c3]
        rw [ex]
        have hop := s_opens (d := d + 5) (L := L) (u := u) (I := au (au I 301 (au (I 301) 20 ((e : Int) + 1))) 301 (au (au (I 301) 20 ((e : Int) + 1)) 18 ((p : Int) + 1))) hF (e := e + 1) (by show (e : Int) + 1 = ((e + 1 : Nat) : Int); omega) (by omega)
        have f1 : Fr I (au (au I 301 (au (I 301) 20 ((e : Int) + 1))) 301 (au (au (I 301) 20 ((e : Int) + 1)) 18 ((p : Int) + 1))) := Fr_f (f := 18) (v := (p : Int) + 1) (Fr_f (f := 20) (v := (e : Int) + 1) (Fr_r hR) (by omega)) (by omega)
        refine ⟨opI (au (au I 301 (au (I 301) 20 ((e : Int) + 1))) 301 (au (au (I 301) 20 ((e : Int) + 1)) 18 ((p : Int) + 1))) (e + 1), ?_, ?_, Or.inr rfl, fun _ => ⟨⟨⟨by show (p : Int) + 1 = ((p + 1 : Nat) : Int); omega, by show (e : Int) + 1 = ((e + 1 : Nat) : Int); omega, rfl, rfl, h1.2.2.2.2.1, h1.2.2.2.2.2.1, fun k hk => by
            show (if k = e + 1 then (0 : Int) else I 315 k) = (if k = e + 1 then 0 else mi k)
            rw [h1.2.2.2.2.2.2.1 k hk], fun k hk => by
            show (if k = e + 1 then (0 : Int) else I 316 k) = (if k = e + 1 then 0 else hp k)
            rw [h1.2.2.2.2.2.2.2 k hk]⟩, ⟨by show e + 1 ≤ 8; omega, h2.2.1, Or.inr rfl, Or.inr rfl, h2.2.2.2.2.1, b_au h2.2.2.2.2.2.1 (Or.inl rfl), b_au h2.2.2.2.2.2.2 (Or.inl rfl)⟩, fun zw zf k hk => ?_⟩, hpl⟩, fun z => ab1 z⟩
        · refine run_of tb_X12_takesFactor (Nat.le_of_ble_eq_true rfl) ?_
          show ∃ ls', am_ev (am_run am_tb (d + 7)) tX12_takesFactor ([vR 301, vU], [], LH L I R u) = some (1, ls', [vI (1)], LH L (opI (au (au I 301 (au (I 301) 20 ((e : Int) + 1))) 301 (au (au (I 301) 20 ((e : Int) + 1)) 18 ((p : Int) + 1))) (e + 1)) R u)
          apply Exists.intro
          unfold tX12_takesFactor
          apply t_Q
          · apply t_S
            refine x_aload_n rfl ?_
            refine x_bipush ?_
            refine x_bipush ?_
            refine x_V3i tg_301 (Nat.le_of_ble_eq_true rfl) (ret_f (show ¬ (p < b ∧ 45 ≤ I 305 p ∧ I 305 p ≤ 45) from by omega) (s_isAt (d := d + 5) (I := I) hF (p := p) (b := b) h1.1 hx.1 hx.2.1 hpb hx.2.2 (lo := 45) (hi := 45) (by omega) (by omega))) ?_
            exact rfl
          apply t_Q
          · apply t_K
            apply t_Qs
            apply t_B
            · exact rfl
            exact t_if_eq_t (by omega)
          apply t_Q
          · apply t_S
            refine x_aload_n rfl ?_
            refine x_bipush ?_
            refine x_bipush ?_
            refine x_V3i tg_301 (Nat.le_of_ble_eq_true rfl) (ret_t (show p < b ∧ 40 ≤ I 305 p ∧ I 305 p ≤ 40 from by omega) (s_isAt (d := d + 5) (I := I) hF (p := p) (b := b) h1.1 hx.1 hx.2.1 hpb hx.2.2 (lo := 40) (hi := 40) (by omega) (by omega))) ?_
            exact rfl
          apply t_Qs
          apply t_Ks
          · apply t_Q
            · apply t_B
              · exact rfl
              exact t_if_eq_f (by omega)
            apply t_Q
            · apply t_S
              refine x_aload_n rfl ?_
              refine x_giv tg_301 rfl (show _ = ((e : Nat) : Int) from h1.2.1) ?_
              refine x_bipush ?_
              exact rfl
            apply t_Q
            · apply t_K
              apply t_Qs
              apply t_B
              · exact rfl
              exact t_ic_ne_t (by omega)
            apply t_B
            · refine x_aload_n rfl ?_
              refine x_dup rfl ?_
              refine x_giv tg_301 rfl (show _ = ((e : Nat) : Int) from h1.2.1) ?_
              refine x_iconst ?_
              refine x_iadd ?_
              refine x_pi tg_301 rfl rfl ?_
              refine x_aload_n rfl ?_
              refine x_dup rfl ?_
              refine x_giv tg_301 rfl (show _ = ((p : Nat) : Int) from h1.1) ?_
              refine x_iconst ?_
              refine x_iadd ?_
              refine x_pi tg_301 rfl rfl ?_
              refine x_aload_n rfl ?_
              refine x_V1v tg_301 (Nat.le_of_ble_eq_true rfl) (hop) ?_
              refine x_iconst ?_
              exact rfl
            exact t_ireq (Or.inr (Or.inr rfl)) rfl rfl
          · decide
        · unfold opI
          refine Fr_s (Fr_a (Fr_a ?_ (by omega)) (by omega)) (by omega) zer_d
          exact Fr_t f1 ⟨fun a _ q => au_n _ _ q, ⟨rfl, rfl, rfl⟩, ⟨rfl, rfl, rfl, rfl⟩, fun _ _ _ _ => rfl, hR⟩
        · show (∀ v, v < 496 → gro (sro I (28 + (e + 1)) (fun _ => 0)) (28 + k) v = (au su (e + 1) (fun _ => 0)) k v) ∧ dgr ((au su (e + 1) (fun _ => 0)) k) ≤ 12 ∧ ((au hp (e + 1) 0) k = 1 → (∀ v, v < 496 → gro (sro I (28 + (e + 1)) (fun _ => 0)) (37 + k) v = pr k v) ∧ dgr (pr k) ≤ 12)
          have hk' : k ≤ e + 1 := hk
          by_cases ck : k = e + 1
          · subst ck
            rw [au_s, au_s]
            exact ⟨fun v hv => gro_s hv, dgr_le (by omega) (fun _ _ _ => rfl), fun z => absurd z (by decide)⟩
          · rw [au_n _ _ ck, au_n _ _ ck]
            have a := h3 zw zf k (by omega)
            exact ⟨fun v hv => (gro_n hv (by omega)).trans (a.1 v hv), a.2.1, fun z => ⟨fun v hv => (gro_n hv (by omega)).trans ((a.2.2 z).1 v hv), (a.2.2 z).2⟩⟩
    · by_cases c4 : 48 ≤ I 305 p ∧ I 305 p ≤ 57
      · have hd1 : 0 < dgc (I 305) b p := by
          refine Nat.pos_of_ne_zero fun z => ?_
          have := dgc_yes (T := I 305) (b := b) (p := p) (by omega)
          rw [z, Nat.add_zero] at this
          exact this c4
        have hdl := dgc_le (I 305) b p
        by_cases c5 : 4 < dgc (I 305) b p
        · have ex : fcR w (I 305) b p e la mm fu mi hp su pr = (0, p + 4, (p, e, la, mm, fu, mi, hp, su, pr)) := by unfold fcR; rw [if_neg c1, if_neg c2, if_pos c4, if_pos c5]
          rw [ex]
          have hfg := s_figs_l (d := d + 4) (L := L) (u := u) (I := I) hF (p := p) (b := b) h1.1 hx.1 hx.2.1 hpb hx.2.2 (m := 4) (by omega) c5
          refine ⟨au (fgI I p 4) 301 (au (fgI I p 4 301) 19 ((p + 4 : Nat) : Int)), ?_, Fr_f (Fr_fg (Fr_r hR)) (by omega), Or.inl rfl, fun z => ab0 z, fun _ => ⟨rfl, by show p + 4 ≤ b; omega, (show Bol I from Bol_of h1 h2)⟩⟩
          refine run_of tb_X12_takesFactor (Nat.le_of_ble_eq_true rfl) ?_
          show ∃ ls', am_ev (am_run am_tb (d + 7)) tX12_takesFactor ([vR 301, vU], [], LH L I R u) = some (1, ls', [vI (0)], LH L (au (fgI I p 4) 301 (au (fgI I p 4 301) 19 ((p + 4 : Nat) : Int))) R u)
          apply Exists.intro
          unfold tX12_takesFactor
          apply t_Q
          · apply t_S
            refine x_aload_n rfl ?_
            refine x_bipush ?_
            refine x_bipush ?_
            refine x_V3i tg_301 (Nat.le_of_ble_eq_true rfl) (ret_f (show ¬ (p < b ∧ 45 ≤ I 305 p ∧ I 305 p ≤ 45) from by omega) (s_isAt (d := d + 5) (I := I) hF (p := p) (b := b) h1.1 hx.1 hx.2.1 hpb hx.2.2 (lo := 45) (hi := 45) (by omega) (by omega))) ?_
            exact rfl
          apply t_Q
          · apply t_K
            apply t_Qs
            apply t_B
            · exact rfl
            exact t_if_eq_t (by omega)
          apply t_Q
          · apply t_S
            refine x_aload_n rfl ?_
            refine x_bipush ?_
            refine x_bipush ?_
            refine x_V3i tg_301 (Nat.le_of_ble_eq_true rfl) (ret_f (show ¬ (p < b ∧ 40 ≤ I 305 p ∧ I 305 p ≤ 40) from by omega) (s_isAt (d := d + 5) (I := I) hF (p := p) (b := b) h1.1 hx.1 hx.2.1 hpb hx.2.2 (lo := 40) (hi := 40) (by omega) (by omega))) ?_
            exact rfl
          apply t_Q
          · apply t_K
            apply t_Qs
            apply t_B
            · exact rfl
            exact t_if_eq_t (by omega)
          apply t_Q
          · apply t_S
            refine x_aload_n rfl ?_
            refine x_bipush ?_
            refine x_bipush ?_
            refine x_V3i tg_301 (Nat.le_of_ble_eq_true rfl) (ret_t (show p < b ∧ 48 ≤ I 305 p ∧ I 305 p ≤ 57 from by omega) (s_isAt (d := d + 5) (I := I) hF (p := p) (b := b) h1.1 hx.1 hx.2.1 hpb hx.2.2 (lo := 48) (hi := 57) (by omega) (by omega))) ?_
            exact rfl
          apply t_Qs
          apply t_Ks
          · apply t_Q
            · apply t_B
              · exact rfl
              exact t_if_eq_f (by omega)
            apply t_Q
            · apply t_S
              refine x_aload_n rfl ?_
              refine x_iconst ?_
              refine x_V2i tg_301 (Nat.le_of_ble_eq_true rfl) (hfg) ?_
              exact rfl
            apply t_Qs
            apply t_Ks
            · apply t_Q
              · apply t_B
                · exact rfl
                exact t_if_ne_f (by omega)
              apply t_B
              · refine x_iconst ?_
                exact rfl
              exact t_ireq (Or.inr (Or.inl rfl)) rfl rfl
            · decide
          · decide
        · have ex : fcR w (I 305) b p e la mm fu mi hp su pr = pwR w (I 305) b (p + dgc (I 305) b p) e mm fu mi hp su pr (nuV (I 305) b p) := by unfold fcR; rw [if_neg c1, if_neg c2, if_pos c4, if_neg c5]
          rw [ex]
          have hfg := s_figs_k (d := d + 4) (L := L) (u := u) (I := I) hF (p := p) (b := b) h1.1 hx.1 hx.2.1 hpb hx.2.2 (m := 4) (by omega) ⟨hd1, by omega⟩
          have hfb := fgv_b (T := I 305) (b := b) (p := p) (Nat.le_refl _)
          have ht4 := tnp_4 (k := dgc (I 305) b p) (by omega)
          have hvl := s_values (d := d + 5) (L := L) (u := u) (I := fgI I p (dgc (I 305) b p)) hF (i := 0) (j := 0) (c := fgv (I 305) p (dgc (I 305) b p) % 10007) (by omega)
          have f1 : Fr I (sro (fgI I p (dgc (I 305) b p)) 27 (nuV (I 305) b p)) := Fr_s (Fr_fg (Fr_r hR)) (by omega) (au0_d (by omega))
          obtain ⟨J, hpw, hA⟩ := s_power (d := d) (L := L) (u := u) (I := sro (fgI I p (dgc (I 305) b p)) 27 (nuV (I 305) b p)) hF f1.2.2.2.2 (Fr_T f1 hT) (Txt_Fr hx f1) (p := p + dgc (I 305) b p) (by omega) (RdF_fg h1) h2 (fun zw zf k hk => by
            have a := h3 zw zf k hk
            exact ⟨fun v hv => (gro_n hv (by omega)).trans (a.1 v hv), a.2.1, fun z => ⟨fun v hv => (gro_n hv (by omega)).trans ((a.2.2 z).1 v hv), (a.2.2 z).2⟩⟩) (y := nuV (I 305) b p) (fun _ _ v hv => gro_s hv)
          have q305 : (sro (fgI I p (dgc (I 305) b p)) 27 (nuV (I 305) b p)) 305 = I 305 := rfl
          rw [q305] at hpw hA
          have hab := hA.2.1
          refine ⟨J, ?_, Ans_Fr f1 hA⟩
          generalize pwR w (I 305) b (p + dgc (I 305) b p) e mm fu mi hp su pr (nuV (I 305) b p) = PR at *
          refine run_of tb_X12_takesFactor (Nat.le_of_ble_eq_true rfl) ?_
          show ∃ ls', am_ev (am_run am_tb (d + 7)) tX12_takesFactor ([vR 301, vU], [], LH L I R u) = some (1, ls', [vI (PR.1)], LH L (J) R u)
          apply Exists.intro
          unfold tX12_takesFactor
          apply t_Q
          · apply t_S
            refine x_aload_n rfl ?_
            refine x_bipush ?_
            refine x_bipush ?_
            refine x_V3i tg_301 (Nat.le_of_ble_eq_true rfl) (ret_f (show ¬ (p < b ∧ 45 ≤ I 305 p ∧ I 305 p ≤ 45) from by omega) (s_isAt (d := d + 5) (I := I) hF (p := p) (b := b) h1.1 hx.1 hx.2.1 hpb hx.2.2 (lo := 45) (hi := 45) (by omega) (by omega))) ?_
            exact rfl
          apply t_Q
          · apply t_K
            apply t_Qs
            apply t_B
            · exact rfl
            exact t_if_eq_t (by omega)
          apply t_Q
          · apply t_S
            refine x_aload_n rfl ?_
            refine x_bipush ?_
            refine x_bipush ?_
            refine x_V3i tg_301 (Nat.le_of_ble_eq_true rfl) (ret_f (show ¬ (p < b ∧ 40 ≤ I 305 p ∧ I 305 p ≤ 40) from by omega) (s_isAt (d := d + 5) (I := I) hF (p := p) (b := b) h1.1 hx.1 hx.2.1 hpb hx.2.2 (lo := 40) (hi := 40) (by omega) (by omega))) ?_
            exact rfl
          apply t_Q
          · apply t_K
            apply t_Qs
            apply t_B
            · exact rfl
            exact t_if_eq_t (by omega)
          apply t_Q
          · apply t_S
            refine x_aload_n rfl ?_
            refine x_bipush ?_
            refine x_bipush ?_
            refine x_V3i tg_301 (Nat.le_of_ble_eq_true rfl) (ret_t (show p < b ∧ 48 ≤ I 305 p ∧ I 305 p ≤ 57 from by omega) (s_isAt (d := d + 5) (I := I) hF (p := p) (b := b) h1.1 hx.1 hx.2.1 hpb hx.2.2 (lo := 48) (hi := 57) (by omega) (by omega))) ?_
            exact rfl
          apply t_Qs
          apply t_Ks
          · apply t_Q
            · apply t_B
              · exact rfl
              exact t_if_eq_f (by omega)
            apply t_Q
            · apply t_S
              refine x_aload_n rfl ?_
              refine x_iconst ?_
              refine x_V2i tg_301 (Nat.le_of_ble_eq_true rfl) (hfg) ?_
              exact rfl
            apply t_Q
            · apply t_K
              apply t_Qs
              apply t_B
              · exact rfl
              exact t_if_ne_t (by omega)
            apply t_B
            · refine x_aload_n rfl ?_
              refine x_iconst ?_
              refine x_iconst ?_
              refine x_aload_n rfl ?_
              refine x_giv tg_301 rfl (show _ = fgv (I 305) p (dgc (I 305) b p) from rfl) ?_
              refine x_S1i (by decide) (Nat.le_of_ble_eq_true rfl) (s_restOf (d := d + 6) (by omega)) ?_
              refine x_V4v tg_301 (Nat.le_of_ble_eq_true rfl) (hvl) ?_
              refine x_aload_n rfl ?_
              refine x_V1i tg_301 (Nat.le_of_ble_eq_true rfl) (hpw) ?_
              exact rfl
            exact t_ireq (Or.inr hab) rfl rfl
          · decide
      · by_cases c6 : I 305 p = 120 ∨ I 305 p = 100
        · have hvl := fun i j (hij : i + j ≤ 30) => s_values (d := d + 5) (L := L) (u := u) (I := I) hF (i := i) (j := j) (c := 1) hij
          have f0 : ∀ i j : Nat, Fr I (sro I 27 (au (fun _ => 0) (pl i j) 1)) := fun i j => Fr_s (Fr_r hR) (by omega) (au0_d (by omega))
          have f1 : ∀ i j : Nat, Fr I (spI (sro I 27 (au (fun _ => 0) (pl i j) 1)) (p + 1)) := fun i j => Fr_sp (f0 i j)
          have hpwr := fun i j : Nat => s_power (d := d) (L := L) (u := u) (I := spI (sro I 27 (au (fun _ => 0) (pl i j) 1)) (p + 1)) hF (f1 i j).2.2.2.2 (Fr_T (f1 i j) hT) (Txt_Fr hx (f1 i j)) (p := p + 1) (by omega) (w := w) (e := e) (la := la) (mm := mm) (fu := fu) (mi := mi) (hp := hp) (su := su) (pr := pr) ⟨rfl, h1.2⟩ h2 (fun zw zf k hk => by
            have a := h3 zw zf k hk
            exact ⟨fun v hv => (gro_n hv (by omega)).trans (a.1 v hv), a.2.1, fun z => ⟨fun v hv => (gro_n hv (by omega)).trans ((a.2.2 z).1 v hv), (a.2.2 z).2⟩⟩) (y := au (fun _ => 0) (pl i j) 1) (fun _ _ v hv => gro_s hv)
          have q305 : ∀ i j : Nat, (spI (sro I 27 (au (fun _ => 0) (pl i j) 1)) (p + 1)) 305 = I 305 := fun _ _ => rfl
          by_cases c7 : I 305 p = 120
          · have ex : fcR w (I 305) b p e la mm fu mi hp su pr = pwR w (I 305) b (p + 1) e mm fu mi hp su pr (au (fun _ => 0) (pl 1 0) 1) := by unfold fcR; rw [if_neg c1, if_neg c2, if_neg c4, if_pos c7]
            rw [ex]
            have hv2 := hvl 1 0 (by omega)
            obtain ⟨J, hpw, hA⟩ := hpwr 1 0
            rw [q305] at hpw hA
            have hab := hA.2.1
            refine ⟨J, ?_, Ans_Fr (f1 1 0) hA⟩
            generalize pwR w (I 305) b (p + 1) e mm fu mi hp su pr (au (fun _ => 0) (pl 1 0) 1) = PR at *
            refine run_of tb_X12_takesFactor (Nat.le_of_ble_eq_true rfl) ?_
            show ∃ ls', am_ev (am_run am_tb (d + 7)) tX12_takesFactor ([vR 301, vU], [], LH L I R u) = some (1, ls', [vI (PR.1)], LH L (J) R u)
            apply Exists.intro
            unfold tX12_takesFactor
            apply t_Q
            · apply t_S
              refine x_aload_n rfl ?_
              refine x_bipush ?_
              refine x_bipush ?_
              refine x_V3i tg_301 (Nat.le_of_ble_eq_true rfl) (ret_f (show ¬ (p < b ∧ 45 ≤ I 305 p ∧ I 305 p ≤ 45) from by omega) (s_isAt (d := d + 5) (I := I) hF (p := p) (b := b) h1.1 hx.1 hx.2.1 hpb hx.2.2 (lo := 45) (hi := 45) (by omega) (by omega))) ?_
              exact rfl
            apply t_Q
            · apply t_K
              apply t_Qs
              apply t_B
              · exact rfl
              exact t_if_eq_t (by omega)
            apply t_Q
            · apply t_S
              refine x_aload_n rfl ?_
              refine x_bipush ?_
              refine x_bipush ?_
              refine x_V3i tg_301 (Nat.le_of_ble_eq_true rfl) (ret_f (show ¬ (p < b ∧ 40 ≤ I 305 p ∧ I 305 p ≤ 40) from by omega) (s_isAt (d := d + 5) (I := I) hF (p := p) (b := b) h1.1 hx.1 hx.2.1 hpb hx.2.2 (lo := 40) (hi := 40) (by omega) (by omega))) ?_
              exact rfl
            apply t_Q
            · apply t_K
              apply t_Qs
              apply t_B
              · exact rfl
              exact t_if_eq_t (by omega)
            apply t_Q
            · apply t_S
              refine x_aload_n rfl ?_
              refine x_bipush ?_
              refine x_bipush ?_
              refine x_V3i tg_301 (Nat.le_of_ble_eq_true rfl) (ret_f (show ¬ (p < b ∧ 48 ≤ I 305 p ∧ I 305 p ≤ 57) from by omega) (s_isAt (d := d + 5) (I := I) hF (p := p) (b := b) h1.1 hx.1 hx.2.1 hpb hx.2.2 (lo := 48) (hi := 57) (by omega) (by omega))) ?_
              exact rfl
            apply t_Q
            · apply t_K
              apply t_Qs
              apply t_B
              · exact rfl
              exact t_if_eq_t (by omega)
            apply t_Q
            · apply t_S
              refine x_aload_n rfl ?_
              refine x_bipush ?_
              refine x_bipush ?_
              refine x_V3i tg_301 (Nat.le_of_ble_eq_true rfl) (ret_t (show p < b ∧ 120 ≤ I 305 p ∧ I 305 p ≤ 120 from by omega) (s_isAt (d := d + 5) (I := I) hF (p := p) (b := b) h1.1 hx.1 hx.2.1 hpb hx.2.2 (lo := 120) (hi := 120) (by omega) (by omega))) ?_
              exact rfl
            apply t_Q
            · apply t_K
              apply t_Qs
              apply t_B
              · exact rfl
              exact t_if_ne_t (by omega)
            apply t_Q
            · apply t_S
              refine x_aload_n rfl ?_
              refine x_gr tg_301 rfl (fx_301_4 hF) ?_
              refine x_aload_n rfl ?_
              refine x_giv tg_301 rfl (show _ = ((p : Nat) : Int) from h1.1) ?_
              refine x_ialdv (Or.inl tg_305) (ln_305 L) (by omega) (show _ = I 305 p from rfl) ?_
              refine x_bipush ?_
              exact rfl
            apply t_Q
            · apply t_K
              apply t_Qs
              apply t_Ks
              · apply t_Q
                · apply t_B
                  · exact rfl
                  exact t_ic_ne_f (by omega)
                apply t_B
                · refine x_iconst ?_
                  exact rfl
                exact t_goto
              · decide
            apply t_Q
            · apply t_S
              refine x_istore_n rfl ?_
              refine x_aload_n rfl ?_
              refine x_iload_n rfl ?_
              exact rfl
            apply t_Q
            · apply t_K
              apply t_Qs
              apply t_Ks
              · apply t_Q
                · apply t_B
                  · exact rfl
                  exact t_if_eq_f (by omega)
                apply t_B
                · refine x_iconst ?_
                  exact rfl
                exact t_goto
              · decide
            apply t_Q
            · apply t_S
              refine x_iload_n rfl ?_
              exact rfl
            apply t_Q
            · apply t_K
              apply t_Qs
              apply t_Ks
              · apply t_Q
                · apply t_B
                  · exact rfl
                  exact t_if_eq_f (by omega)
                apply t_B
                · refine x_iconst ?_
                  exact rfl
                exact t_goto
              · decide
            apply t_B
            · refine x_iconst ?_
              refine x_V4v tg_301 (Nat.le_of_ble_eq_true rfl) (hv2) ?_
              refine x_aload_n rfl ?_
              refine x_dup rfl ?_
              refine x_giv tg_301 rfl (show _ = ((p : Nat) : Int) from h1.1) ?_
              refine x_iconst ?_
              refine x_iadd ?_
              refine x_pi tg_301 rfl rfl ?_
              rw [show ((p : Nat) : Int) + 1 = ((p + 1 : Nat) : Int) by omega]
              show am_L _ _ (_, _, LH L (spI (sro I 27 (au (fun _ => 0) (pl 1 0) 1)) (p + 1)) R u) = _
              refine x_aload_n rfl ?_
              refine x_V1i tg_301 (Nat.le_of_ble_eq_true rfl) (hpw) ?_
              exact rfl
            exact t_ireq (Or.inr hab) rfl rfl
          · have c8 : I 305 p = 100 := by omega
            have ex : fcR w (I 305) b p e la mm fu mi hp su pr = pwR w (I 305) b (p + 1) e mm fu mi hp su pr (au (fun _ => 0) (pl 0 1) 1) := by unfold fcR; rw [if_neg c1, if_neg c2, if_neg c4, if_neg c7, if_pos c8]
            rw [ex]
            have hv2 := hvl 0 1 (by omega)
            obtain ⟨J, hpw, hA⟩ := hpwr 0 1
            rw [q305] at hpw hA
            have hab := hA.2.1
            refine ⟨J, ?_, Ans_Fr (f1 0 1) hA⟩
            generalize pwR w (I 305) b (p + 1) e mm fu mi hp su pr (au (fun _ => 0) (pl 0 1) 1) = PR at *
            refine run_of tb_X12_takesFactor (Nat.le_of_ble_eq_true rfl) ?_
            show ∃ ls', am_ev (am_run am_tb (d + 7)) tX12_takesFactor ([vR 301, vU], [], LH L I R u) = some (1, ls', [vI (PR.1)], LH L (J) R u)
            apply Exists.intro
            unfold tX12_takesFactor
            apply t_Q
            · apply t_S
              refine x_aload_n rfl ?_
              refine x_bipush ?_
              refine x_bipush ?_
              refine x_V3i tg_301 (Nat.le_of_ble_eq_true rfl) (ret_f (show ¬ (p < b ∧ 45 ≤ I 305 p ∧ I 305 p ≤ 45) from by omega) (s_isAt (d := d + 5) (I := I) hF (p := p) (b := b) h1.1 hx.1 hx.2.1 hpb hx.2.2 (lo := 45) (hi := 45) (by omega) (by omega))) ?_
              exact rfl
            apply t_Q
            · apply t_K
              apply t_Qs
              apply t_B
              · exact rfl
              exact t_if_eq_t (by omega)
            apply t_Q
            · apply t_S
              refine x_aload_n rfl ?_
              refine x_bipush ?_
              refine x_bipush ?_
              refine x_V3i tg_301 (Nat.le_of_ble_eq_true rfl) (ret_f (show ¬ (p < b ∧ 40 ≤ I 305 p ∧ I 305 p ≤ 40) from by omega) (s_isAt (d := d + 5) (I := I) hF (p := p) (b := b) h1.1 hx.1 hx.2.1 hpb hx.2.2 (lo := 40) (hi := 40) (by omega) (by omega))) ?_
              exact rfl
            apply t_Q
            · apply t_K
              apply t_Qs
              apply t_B
              · exact rfl
              exact t_if_eq_t (by omega)
            apply t_Q
            · apply t_S
              refine x_aload_n rfl ?_
              refine x_bipush ?_
              refine x_bipush ?_
              refine x_V3i tg_301 (Nat.le_of_ble_eq_true rfl) (ret_f (show ¬ (p < b ∧ 48 ≤ I 305 p ∧ I 305 p ≤ 57) from by omega) (s_isAt (d := d + 5) (I := I) hF (p := p) (b := b) h1.1 hx.1 hx.2.1 hpb hx.2.2 (lo := 48) (hi := 57) (by omega) (by omega))) ?_
              exact rfl
            apply t_Q
            · apply t_K
              apply t_Qs
              apply t_B
              · exact rfl
              exact t_if_eq_t (by omega)
            apply t_Q
            · apply t_S
              refine x_aload_n rfl ?_
              refine x_bipush ?_
              refine x_bipush ?_
              refine x_V3i tg_301 (Nat.le_of_ble_eq_true rfl) (ret_f (show ¬ (p < b ∧ 120 ≤ I 305 p ∧ I 305 p ≤ 120) from by omega) (s_isAt (d := d + 5) (I := I) hF (p := p) (b := b) h1.1 hx.1 hx.2.1 hpb hx.2.2 (lo := 120) (hi := 120) (by omega) (by omega))) ?_
              exact rfl
            apply t_Q
            · apply t_K
              apply t_Q
              · apply t_B
                · exact rfl
                exact t_if_ne_f (by omega)
              apply t_Qs
              apply t_B
              · refine x_aload_n rfl ?_
                refine x_bipush ?_
                refine x_bipush ?_
                refine x_V3i tg_301 (Nat.le_of_ble_eq_true rfl) (ret_t (show p < b ∧ 100 ≤ I 305 p ∧ I 305 p ≤ 100 from by omega) (s_isAt (d := d + 5) (I := I) hF (p := p) (b := b) h1.1 hx.1 hx.2.1 hpb hx.2.2 (lo := 100) (hi := 100) (by omega) (by omega))) ?_
                exact rfl
              exact t_if_ne_t (by omega)
            apply t_Q
            · apply t_S
              refine x_aload_n rfl ?_
              refine x_gr tg_301 rfl (fx_301_4 hF) ?_
              refine x_aload_n rfl ?_
              refine x_giv tg_301 rfl (show _ = ((p : Nat) : Int) from h1.1) ?_
              refine x_ialdv (Or.inl tg_305) (ln_305 L) (by omega) (show _ = I 305 p from rfl) ?_
              refine x_bipush ?_
              exact rfl
            apply t_Q
            · apply t_Ks
              · apply t_Q
                · apply t_K
                  apply t_Qs
                  apply t_B
                  · exact rfl
                  exact t_ic_ne_t (by omega)
                apply t_S
                refine x_iconst ?_
                exact rfl
              · decide
            apply t_Q
            · apply t_S
              refine x_istore_n rfl ?_
              refine x_aload_n rfl ?_
              refine x_iload_n rfl ?_
              exact rfl
            apply t_Q
            · apply t_Ks
              · apply t_Q
                · apply t_K
                  apply t_Qs
                  apply t_B
                  · exact rfl
                  exact t_if_eq_t (by omega)
                apply t_S
                refine x_iconst ?_
                exact rfl
              · decide
            apply t_Q
            · apply t_S
              refine x_iload_n rfl ?_
              exact rfl
            apply t_Q
            · apply t_Ks
              · apply t_Q
                · apply t_K
                  apply t_Qs
                  apply t_B
                  · exact rfl
                  exact t_if_eq_t (by omega)
                apply t_S
                refine x_iconst ?_
                exact rfl
              · decide
            apply t_B
            · refine x_iconst ?_
              refine x_V4v tg_301 (Nat.le_of_ble_eq_true rfl) (hv2) ?_
              refine x_aload_n rfl ?_
              refine x_dup rfl ?_
              refine x_giv tg_301 rfl (show _ = ((p : Nat) : Int) from h1.1) ?_
              refine x_iconst ?_
              refine x_iadd ?_
              refine x_pi tg_301 rfl rfl ?_
              rw [show ((p : Nat) : Int) + 1 = ((p + 1 : Nat) : Int) by omega]
              show am_L _ _ (_, _, LH L (spI (sro I 27 (au (fun _ => 0) (pl 0 1) 1)) (p + 1)) R u) = _
              refine x_aload_n rfl ?_
              refine x_V1i tg_301 (Nat.le_of_ble_eq_true rfl) (hpw) ?_
              exact rfl
            exact t_ireq (Or.inr hab) rfl rfl
        · have ex : fcR w (I 305) b p e la mm fu mi hp su pr = (0, p, (p, e, la, mm, fu, mi, hp, su, pr)) := by unfold fcR; rw [if_neg c1, if_neg c2, if_neg c4, if_neg (fun z => c6 (Or.inl z)), if_neg (fun z => c6 (Or.inr z))]
          rw [ex]
          refine ⟨au I 301 (au (I 301) 19 (p : Int)), ?_, Fr_f (Fr_r hR) (by omega), Or.inl rfl, fun z => ab0 z, fun _ => ⟨rfl, hpb, (show Bol I from Bol_of h1 h2)⟩⟩
          refine run_of tb_X12_takesFactor (Nat.le_of_ble_eq_true rfl) ?_
          show ∃ ls', am_ev (am_run am_tb (d + 7)) tX12_takesFactor ([vR 301, vU], [], LH L I R u) = some (1, ls', [vI (0)], LH L (au I 301 (au (I 301) 19 (p : Int))) R u)
          by_cases c45 : I 305 p = 45
          · have cmm : mm = 0 := by omega
            apply Exists.intro
            unfold tX12_takesFactor
            apply t_Q
            · apply t_S
              refine x_aload_n rfl ?_
              refine x_bipush ?_
              refine x_bipush ?_
              refine x_V3i tg_301 (Nat.le_of_ble_eq_true rfl) (ret_t (show p < b ∧ 45 ≤ I 305 p ∧ I 305 p ≤ 45 from by omega) (s_isAt (d := d + 5) (I := I) hF (p := p) (b := b) h1.1 hx.1 hx.2.1 hpb hx.2.2 (lo := 45) (hi := 45) (by omega) (by omega))) ?_
              exact rfl
            apply t_Q
            · apply t_K
              apply t_Q
              · apply t_B
                · exact rfl
                exact t_if_eq_f (by omega)
              apply t_Qs
              apply t_B
              · refine x_aload_n rfl ?_
                refine x_giv tg_301 rfl (show _ = mm from h1.2.2.2.1) ?_
                exact rfl
              exact t_if_eq_t (by omega)
            apply t_Q
            · apply t_S
              refine x_aload_n rfl ?_
              refine x_bipush ?_
              refine x_bipush ?_
              refine x_V3i tg_301 (Nat.le_of_ble_eq_true rfl) (ret_f (show ¬ (p < b ∧ 40 ≤ I 305 p ∧ I 305 p ≤ 40) from by omega) (s_isAt (d := d + 5) (I := I) hF (p := p) (b := b) h1.1 hx.1 hx.2.1 hpb hx.2.2 (lo := 40) (hi := 40) (by omega) (by omega))) ?_
              exact rfl
            apply t_Q
            · apply t_K
              apply t_Qs
              apply t_B
              · exact rfl
              exact t_if_eq_t (by omega)
            apply t_Q
            · apply t_S
              refine x_aload_n rfl ?_
              refine x_bipush ?_
              refine x_bipush ?_
              refine x_V3i tg_301 (Nat.le_of_ble_eq_true rfl) (ret_f (show ¬ (p < b ∧ 48 ≤ I 305 p ∧ I 305 p ≤ 57) from by omega) (s_isAt (d := d + 5) (I := I) hF (p := p) (b := b) h1.1 hx.1 hx.2.1 hpb hx.2.2 (lo := 48) (hi := 57) (by omega) (by omega))) ?_
              exact rfl
            apply t_Q
            · apply t_K
              apply t_Qs
              apply t_B
              · exact rfl
              exact t_if_eq_t (by omega)
            apply t_Q
            · apply t_S
              refine x_aload_n rfl ?_
              refine x_bipush ?_
              refine x_bipush ?_
              refine x_V3i tg_301 (Nat.le_of_ble_eq_true rfl) (ret_f (show ¬ (p < b ∧ 120 ≤ I 305 p ∧ I 305 p ≤ 120) from by omega) (s_isAt (d := d + 5) (I := I) hF (p := p) (b := b) h1.1 hx.1 hx.2.1 hpb hx.2.2 (lo := 120) (hi := 120) (by omega) (by omega))) ?_
              exact rfl
            apply t_Qs
            apply t_Ks
            · apply t_Q
              · apply t_B
                · exact rfl
                exact t_if_ne_f (by omega)
              apply t_Q
              · apply t_B
                · refine x_aload_n rfl ?_
                  refine x_bipush ?_
                  refine x_bipush ?_
                  refine x_V3i tg_301 (Nat.le_of_ble_eq_true rfl) (ret_f (show ¬ (p < b ∧ 100 ≤ I 305 p ∧ I 305 p ≤ 100) from by omega) (s_isAt (d := d + 5) (I := I) hF (p := p) (b := b) h1.1 hx.1 hx.2.1 hpb hx.2.2 (lo := 100) (hi := 100) (by omega) (by omega))) ?_
                  exact rfl
                exact t_if_ne_f (by omega)
              apply t_B
              · refine x_aload_n rfl ?_
                refine x_aload_n rfl ?_
                refine x_giv tg_301 rfl (show _ = ((p : Nat) : Int) from h1.1) ?_
                refine x_V2i tg_301 (Nat.le_of_ble_eq_true rfl) (s_fails (d := d + 6) hF) ?_
                exact rfl
              exact t_ireq (Or.inr (Or.inl rfl)) rfl rfl
            · decide
          apply Exists.intro
          unfold tX12_takesFactor
          apply t_Q
          · apply t_S
            refine x_aload_n rfl ?_
            refine x_bipush ?_
            refine x_bipush ?_
            refine x_V3i tg_301 (Nat.le_of_ble_eq_true rfl) (ret_f (show ¬ (p < b ∧ 45 ≤ I 305 p ∧ I 305 p ≤ 45) from by omega) (s_isAt (d := d + 5) (I := I) hF (p := p) (b := b) h1.1 hx.1 hx.2.1 hpb hx.2.2 (lo := 45) (hi := 45) (by omega) (by omega))) ?_
            exact rfl
          apply t_Q
          · apply t_K
            apply t_Qs
            apply t_B
            · exact rfl
            exact t_if_eq_t (by omega)
          apply t_Q
          · apply t_S
            refine x_aload_n rfl ?_
            refine x_bipush ?_
            refine x_bipush ?_
            refine x_V3i tg_301 (Nat.le_of_ble_eq_true rfl) (ret_f (show ¬ (p < b ∧ 40 ≤ I 305 p ∧ I 305 p ≤ 40) from by omega) (s_isAt (d := d + 5) (I := I) hF (p := p) (b := b) h1.1 hx.1 hx.2.1 hpb hx.2.2 (lo := 40) (hi := 40) (by omega) (by omega))) ?_
            exact rfl
          apply t_Q
          · apply t_K
            apply t_Qs
            apply t_B
            · exact rfl
            exact t_if_eq_t (by omega)
          apply t_Q
          · apply t_S
            refine x_aload_n rfl ?_
            refine x_bipush ?_
            refine x_bipush ?_
            refine x_V3i tg_301 (Nat.le_of_ble_eq_true rfl) (ret_f (show ¬ (p < b ∧ 48 ≤ I 305 p ∧ I 305 p ≤ 57) from by omega) (s_isAt (d := d + 5) (I := I) hF (p := p) (b := b) h1.1 hx.1 hx.2.1 hpb hx.2.2 (lo := 48) (hi := 57) (by omega) (by omega))) ?_
            exact rfl
          apply t_Q
          · apply t_K
            apply t_Qs
            apply t_B
            · exact rfl
            exact t_if_eq_t (by omega)
          apply t_Q
          · apply t_S
            refine x_aload_n rfl ?_
            refine x_bipush ?_
            refine x_bipush ?_
            refine x_V3i tg_301 (Nat.le_of_ble_eq_true rfl) (ret_f (show ¬ (p < b ∧ 120 ≤ I 305 p ∧ I 305 p ≤ 120) from by omega) (s_isAt (d := d + 5) (I := I) hF (p := p) (b := b) h1.1 hx.1 hx.2.1 hpb hx.2.2 (lo := 120) (hi := 120) (by omega) (by omega))) ?_
            exact rfl
          apply t_Qs
          apply t_Ks
          · apply t_Q
            · apply t_B
              · exact rfl
              exact t_if_ne_f (by omega)
            apply t_Q
            · apply t_B
              · refine x_aload_n rfl ?_
                refine x_bipush ?_
                refine x_bipush ?_
                refine x_V3i tg_301 (Nat.le_of_ble_eq_true rfl) (ret_f (show ¬ (p < b ∧ 100 ≤ I 305 p ∧ I 305 p ≤ 100) from by omega) (s_isAt (d := d + 5) (I := I) hF (p := p) (b := b) h1.1 hx.1 hx.2.1 hpb hx.2.2 (lo := 100) (hi := 100) (by omega) (by omega))) ?_
                exact rfl
              exact t_if_ne_f (by omega)
            apply t_B
            · refine x_aload_n rfl ?_
              refine x_aload_n rfl ?_
              refine x_giv tg_301 rfl (show _ = ((p : Nat) : Int) from h1.1) ?_
              refine x_V2i tg_301 (Nat.le_of_ble_eq_true rfl) (s_fails (d := d + 6) hF) ?_
              exact rfl
            exact t_ireq (Or.inr (Or.inl rfl)) rfl rfl
          · decide
