/-! The reference's reader: takesPower. Written by wip/whole/gen_68.py. -/
/-- the text of the reader -/
def Txt (I : Nat → Nat → Int) (b : Nat) : Prop := I 301 5 = (b : Nat) ∧ b ≤ 120 ∧ ∀ j, j < b → 0 ≤ I 305 j ∧ I 305 j ≤ 127
theorem Txt_Fr {I J : Nat → Nat → Int} {b : Nat} (h : Txt I b) (hF : Fr I J) : Txt J b := ⟨hF.2.2.1.2.1.trans h.1, h.2.1, by rw [hF.1 305 (by decide) (by decide)]; exact h.2.2⟩
theorem Fr_sp {I J : Nat → Nat → Int} {p : Nat} (h : Fr I J) : Fr I (spI J p) := Fr_f h (by omega)
theorem Fr_fg {I J : Nat → Nat → Int} {p k : Nat} (h : Fr I J) : Fr I (fgI J p k) := by
  have e : fgI J p k = au (au J 301 (au (J 301) 27 (fgv (J 305) p k))) 301 (au (au J 301 (au (J 301) 27 (fgv (J 305) p k)) 301) 18 ((p + k : Nat) : Int)) := by
    unfold fgI
    rw [au_au, au_s]
  rw [e]
  exact Fr_f (Fr_f h (by omega)) (by omega)
theorem RdF_sp {I : Nat → Nat → Int} {w : Int} {p e q : Nat} {la mm fu : Int} {mi hp : Nat → Int} (h : RdF I w p e la mm fu mi hp) : RdF (spI I q) w q e la mm fu mi hp := ⟨rfl, h.2⟩
theorem RdF_fg {I : Nat → Nat → Int} {w : Int} {p e q k : Nat} {la mm fu : Int} {mi hp : Nat → Int} (h : RdF I w p e la mm fu mi hp) : RdF (fgI I q k) w (q + k) e la mm fu mi hp := ⟨rfl, h.2⟩
theorem RdF_la {I : Nat → Nat → Int} {w : Int} {p e : Nat} {la mm fu : Int} {mi hp : Nat → Int} (h : RdF I w p e la mm fu mi hp) : RdF (au I 301 (au (I 301) 21 0)) w p e 0 mm fu mi hp := ⟨h.1, h.2.1, rfl, h.2.2.2⟩
theorem RdB_la {w : Int} {e : Nat} {la mm fu : Int} {mi hp : Nat → Int} (h : RdB w e la mm fu mi hp) : RdB w e 0 mm fu mi hp := ⟨h.1, h.2.1, Or.inl rfl, h.2.2.2⟩
/-- behind a base: whether a power stands there, which one, and where it ends -/
def pw1 (T : Nat → Int) (b p : Nat) : Nat := skb T b p
abbrev pwc (T : Nat → Int) (b p : Nat) : Prop := pw1 T b p < b ∧ T (pw1 T b p) = 94
def pw3 (T : Nat → Int) (b p : Nat) : Nat := skb T b (pw1 T b p + 1)
abbrev pwk (T : Nat → Int) (b p : Nat) : Prop := 0 < dgc T b (pw3 T b p) ∧ dgc T b (pw3 T b p) ≤ 2 ∧ fgv T (pw3 T b p) (dgc T b (pw3 T b p)) ≤ 12
def pww (T : Nat → Int) (b p : Nat) : Nat := if 2 < dgc T b (pw3 T b p) then pw3 T b p + 2 else pw3 T b p
def pwn (T : Nat → Int) (b p : Nat) : Nat := (fgv T (pw3 T b p) (dgc T b (pw3 T b p))).toNat
def pwe (T : Nat → Int) (b p : Nat) : Nat := pw3 T b p + dgc T b (pw3 T b p)
set_option maxRecDepth 10000 in
theorem s_pow0 {d L : Nat} {I : Nat → Nat → Int} {R : Nat → Nat → Option Nat} {u : Int64} (hF : FixR R) {w : Int} {p e b : Nat} {la mm fu : Int} {mi hp : Nat → Int} {su pr : Nat → Nat → Int} (hR : Res I) (hT : Tabs I) (hx : Txt I b) (hpb : p ≤ b) (h1 : RdF I w p e la mm fu mi hp) (h2 : RdB w e la mm fu mi hp) (h3 : RdW I w fu e hp su pr) {y : Nat → Int} (hy : w = 1 → fu = 0 → ∀ v, v < 496 → gro I 27 v = y v) (hc : ¬ pwc (I 305) b p) : ∃ J, am_run am_tb (d + 7) 214 [vR 301] (LH L I R u) = some ([vI 1], LH L J R u) ∧ Fr I J ∧ RdF J w ((pw1 (I 305) b p)) e 0 mm (tkU w fu hp e pr y (1)) mi (au hp e 1) ∧ RdB w e 0 mm (tkU w fu hp e pr y (1)) mi (au hp e 1) ∧ RdW J w (tkU w fu hp e pr y (1)) e (au hp e 1) su (tkQ hp e pr y (1)) := by
  have hb2 := hx.2.1
  have hs1 := skb_le (T := (I 305)) hpb
  have hbl := s_blanks (d := d + 3) (L := L) (u := u) (I := I) hF h1.1 hx.1 hx.2.1 hpb hx.2.2
  rw [show p + nbl I p b = (pw1 (I 305) b p) from rfl] at hbl
  have hp1b : (pw1 (I 305) b p) ≤ b := hs1.2
  have hat := s_isAt (d := d + 4) (L := L) (u := u) (I := spI I (pw1 (I 305) b p)) hF (p := (pw1 (I 305) b p)) (b := b) rfl hx.1 hx.2.1 hp1b hx.2.2 (lo := 94) (hi := 94) (by omega) (by omega)

  have hat := ret_f (show ¬ ((pw1 (I 305) b p) < b ∧ 94 ≤ (spI I (pw1 (I 305) b p)) 305 (pw1 (I 305) b p) ∧ (spI I (pw1 (I 305) b p)) 305 (pw1 (I 305) b p) ≤ 94) from fun z => hc ⟨z.1, by have z2 : 94 ≤ I 305 (pw1 (I 305) b p) ∧ I 305 (pw1 (I 305) b p) ≤ 94 := z.2; omega⟩) hat
  have hFs : Fr I (au (spI I (pw1 (I 305) b p)) 301 (au ((spI I (pw1 (I 305) b p)) 301) 21 0)) := Fr_f (Fr_sp (Fr_r hR)) (by omega)
  obtain ⟨J, htk, hFJ, j1, j2, j3⟩ := s_takes (d := d) (L := L) (u := u) (I := au (spI I (pw1 (I 305) b p)) 301 (au ((spI I (pw1 (I 305) b p)) 301) 21 0)) hF hFs.2.2.2.2 (Fr_T hFs hT) (RdF_la (RdF_sp h1)) (RdB_la h2) h3 hy (n := 1) (by omega)
  refine ⟨J, ?_, Fr_t hFs hFJ, j1, j2, j3⟩
  refine run_of tb_X12_takesPower (Nat.le_of_ble_eq_true rfl) ?_
  show ∃ ls', am_ev (am_run am_tb (d + 6)) tX12_takesPower ([vR 301, vU, vU], [], LH L I R u) = some (1, ls', [vI 1], LH L (J) R u)
  apply Exists.intro
  unfold tX12_takesPower
  apply t_Q
  · apply t_S
    refine x_iconst ?_
    refine x_istore_n rfl ?_
    refine x_aload_n rfl ?_
    refine x_V1v tg_301 (Nat.le_of_ble_eq_true rfl) (hbl) ?_
    refine x_aload_n rfl ?_
    refine x_bipush ?_
    refine x_bipush ?_
    refine x_V3i tg_301 (Nat.le_of_ble_eq_true rfl) (hat) ?_
    exact rfl
  apply t_Q
  · apply t_K
    apply t_Qs
    apply t_B
    · exact rfl
    exact t_if_eq_t (by omega)
  apply t_B
  · refine x_aload_n rfl ?_
    refine x_iconst ?_
    refine x_pi tg_301 rfl (by first | rfl | exact decide_eq_true (by omega)) ?_
    refine x_aload_n rfl ?_
    refine x_iload_n rfl ?_
    refine x_V2v tg_301 (Nat.le_of_ble_eq_true rfl) (htk) ?_
    refine x_iconst ?_
    exact rfl
  exact t_ireq (Or.inr (Or.inr rfl)) rfl rfl
set_option maxRecDepth 10000 in
theorem s_pow1 {d L : Nat} {I : Nat → Nat → Int} {R : Nat → Nat → Option Nat} {u : Int64} (hF : FixR R) {w : Int} {p e b : Nat} {la mm fu : Int} {mi hp : Nat → Int} {su pr : Nat → Nat → Int} (hR : Res I) (hT : Tabs I) (hx : Txt I b) (hpb : p ≤ b) (h1 : RdF I w p e la mm fu mi hp) (h2 : RdB w e la mm fu mi hp) (h3 : RdW I w fu e hp su pr) {y : Nat → Int} (hy : w = 1 → fu = 0 → ∀ v, v < 496 → gro I 27 v = y v) (hc : pwc (I 305) b p) (hk : pwk (I 305) b p) : ∃ J, am_run am_tb (d + 7) 214 [vR 301] (LH L I R u) = some ([vI 1], LH L J R u) ∧ Fr I J ∧ RdF J w (pwe (I 305) b p) e 0 mm (tkU w fu hp e pr y (pwn (I 305) b p)) mi (au hp e 1) ∧ RdB w e 0 mm (tkU w fu hp e pr y (pwn (I 305) b p)) mi (au hp e 1) ∧ RdW J w (tkU w fu hp e pr y (pwn (I 305) b p)) e (au hp e 1) su (tkQ hp e pr y (pwn (I 305) b p)) := by
  have hb2 := hx.2.1
  have hs1 := skb_le (T := (I 305)) hpb
  have hbl := s_blanks (d := d + 3) (L := L) (u := u) (I := I) hF h1.1 hx.1 hx.2.1 hpb hx.2.2
  rw [show p + nbl I p b = (pw1 (I 305) b p) from rfl] at hbl
  have hp1b : (pw1 (I 305) b p) ≤ b := hs1.2
  have hat := s_isAt (d := d + 4) (L := L) (u := u) (I := spI I (pw1 (I 305) b p)) hF (p := (pw1 (I 305) b p)) (b := b) rfl hx.1 hx.2.1 hp1b hx.2.2 (lo := 94) (hi := 94) (by omega) (by omega)

  have hat := ret_t (show (pw1 (I 305) b p) < b ∧ 94 ≤ (spI I (pw1 (I 305) b p)) 305 (pw1 (I 305) b p) ∧ (spI I (pw1 (I 305) b p)) 305 (pw1 (I 305) b p) ≤ 94 from ⟨hc.1, by show 94 ≤ I 305 (pw1 (I 305) b p) ∧ I 305 (pw1 (I 305) b p) ≤ 94; have := hc.2; omega⟩) hat
  have hp1 := hc.1
  have hs3 := skb_le (T := (I 305)) (b := b) (p := (pw1 (I 305) b p) + 1) (by omega)
  have hbl2 := s_blanks (d := d + 3) (L := L) (u := u) (I := spI (spI I (pw1 (I 305) b p)) ((pw1 (I 305) b p) + 1)) hF (p := (pw1 (I 305) b p) + 1) rfl hx.1 hx.2.1 (by omega) hx.2.2
  rw [show (pw1 (I 305) b p) + 1 + nbl (spI (spI I (pw1 (I 305) b p)) ((pw1 (I 305) b p) + 1)) ((pw1 (I 305) b p) + 1) b = (pw3 (I 305) b p) from rfl] at hbl2
  have hp3b : (pw3 (I 305) b p) ≤ b := hs3.2

  have hfg := s_figs_k (d := d + 3) (L := L) (u := u) (I := spI (spI (spI I (pw1 (I 305) b p)) ((pw1 (I 305) b p) + 1)) (pw3 (I 305) b p)) hF (p := (pw3 (I 305) b p)) (b := b) rfl hx.1 hx.2.1 hp3b hx.2.2 (m := 2) (by omega) ⟨hk.1, hk.2.1⟩
  have hfb := fgv_b (T := I 305) (b := b) (p := (pw3 (I 305) b p)) (Nat.le_refl _)
  have hkn : ((pwn (I 305) b p : Nat) : Int) = fgv (I 305) (pw3 (I 305) b p) (dgc (I 305) b (pw3 (I 305) b p)) := Int.toNat_of_nonneg hfb.1
  have hk12 : fgv (I 305) (pw3 (I 305) b p) (dgc (I 305) b (pw3 (I 305) b p)) ≤ 12 := hk.2.2
  have hFs : Fr I (au (fgI (spI (spI (spI I (pw1 (I 305) b p)) ((pw1 (I 305) b p) + 1)) (pw3 (I 305) b p)) (pw3 (I 305) b p) (dgc (I 305) b (pw3 (I 305) b p))) 301 (au ((fgI (spI (spI (spI I (pw1 (I 305) b p)) ((pw1 (I 305) b p) + 1)) (pw3 (I 305) b p)) (pw3 (I 305) b p) (dgc (I 305) b (pw3 (I 305) b p))) 301) 21 0)) := Fr_f (Fr_fg (Fr_sp (Fr_sp (Fr_sp (Fr_r hR))))) (by omega)
  obtain ⟨J, htk, hFJ, j1, j2, j3⟩ := s_takes (d := d) (L := L) (u := u) (I := au (fgI (spI (spI (spI I (pw1 (I 305) b p)) ((pw1 (I 305) b p) + 1)) (pw3 (I 305) b p)) (pw3 (I 305) b p) (dgc (I 305) b (pw3 (I 305) b p))) 301 (au ((fgI (spI (spI (spI I (pw1 (I 305) b p)) ((pw1 (I 305) b p) + 1)) (pw3 (I 305) b p)) (pw3 (I 305) b p) (dgc (I 305) b (pw3 (I 305) b p))) 301) 21 0)) hF hFs.2.2.2.2 (Fr_T hFs hT) (RdF_la (RdF_fg (RdF_sp (RdF_sp (RdF_sp h1))))) (RdB_la h2) h3 hy (n := pwn (I 305) b p) (by omega)
  rw [hkn] at htk
  refine ⟨J, ?_, Fr_t hFs hFJ, j1, j2, j3⟩
  refine run_of tb_X12_takesPower (Nat.le_of_ble_eq_true rfl) ?_
  show ∃ ls', am_ev (am_run am_tb (d + 6)) tX12_takesPower ([vR 301, vU, vU], [], LH L I R u) = some (1, ls', [vI 1], LH L (J) R u)
  apply Exists.intro
  unfold tX12_takesPower
  apply t_Q
  · apply t_S
    refine x_iconst ?_
    refine x_istore_n rfl ?_
    refine x_aload_n rfl ?_
    refine x_V1v tg_301 (Nat.le_of_ble_eq_true rfl) (hbl) ?_
    refine x_aload_n rfl ?_
    refine x_bipush ?_
    refine x_bipush ?_
    refine x_V3i tg_301 (Nat.le_of_ble_eq_true rfl) (hat) ?_
    exact rfl
  apply t_Q
  · apply t_Ks
    · apply t_Q
      · apply t_B
        · exact rfl
        exact t_if_eq_f (by omega)
      apply t_Q
      · apply t_S
        refine x_aload_n rfl ?_
        refine x_dup rfl ?_
        refine x_giv tg_301 rfl (show _ = (((pw1 (I 305) b p) : Nat) : Int) from rfl) ?_
        refine x_iconst ?_
        refine x_iadd ?_
        refine x_pi tg_301 rfl rfl ?_
        rw [show (((pw1 (I 305) b p) : Nat) : Int) + 1 = (((pw1 (I 305) b p) + 1 : Nat) : Int) by omega]
        show am_L _ _ (_, _, LH L (spI (spI I (pw1 (I 305) b p)) ((pw1 (I 305) b p) + 1)) R u) = _
        refine x_aload_n rfl ?_
        refine x_V1v tg_301 (Nat.le_of_ble_eq_true rfl) (hbl2) ?_
        refine x_aload_n rfl ?_
        refine x_giv tg_301 rfl (show _ = (((pw3 (I 305) b p) : Nat) : Int) from rfl) ?_
        refine x_istore_n rfl ?_
        refine x_aload_n rfl ?_
        refine x_iconst ?_
        refine x_V2i tg_301 (Nat.le_of_ble_eq_true rfl) (hfg) ?_
        exact rfl
      apply t_Q
      · apply t_K
        apply t_Qs
        apply t_B
        · exact rfl
        exact t_if_ne_t (by omega)
      apply t_Q
      · apply t_S
        refine x_aload_n rfl ?_
        refine x_giv tg_301 rfl (show _ = fgv (I 305) (pw3 (I 305) b p) (dgc (I 305) b (pw3 (I 305) b p)) from rfl) ?_
        refine x_bipush ?_
        exact rfl
      apply t_Q
      · apply t_K
        apply t_Qs
        apply t_B
        · exact rfl
        exact t_ic_le_t (by omega)
      apply t_S
      refine x_aload_n rfl ?_
      refine x_giv tg_301 rfl (show _ = fgv (I 305) (pw3 (I 305) b p) (dgc (I 305) b (pw3 (I 305) b p)) from rfl) ?_
      refine x_istore_n rfl ?_
      exact rfl
    · decide
  apply t_B
  · refine x_aload_n rfl ?_
    refine x_iconst ?_
    refine x_pi tg_301 rfl (by first | rfl | exact decide_eq_true (by omega)) ?_
    refine x_aload_n rfl ?_
    refine x_iload_n rfl ?_
    refine x_V2v tg_301 (Nat.le_of_ble_eq_true rfl) (htk) ?_
    refine x_iconst ?_
    exact rfl
  exact t_ireq (Or.inr (Or.inr rfl)) rfl rfl
set_option maxRecDepth 10000 in
theorem s_powx {d L : Nat} {I : Nat → Nat → Int} {R : Nat → Nat → Option Nat} {u : Int64} (hF : FixR R) {w : Int} {p e b : Nat} {la mm fu : Int} {mi hp : Nat → Int} {su pr : Nat → Nat → Int} (hR : Res I) (hT : Tabs I) (hx : Txt I b) (hpb : p ≤ b) (h1 : RdF I w p e la mm fu mi hp) (h2 : RdB w e la mm fu mi hp) (h3 : RdW I w fu e hp su pr) {y : Nat → Int} (hy : w = 1 → fu = 0 → ∀ v, v < 496 → gro I 27 v = y v) (hc : pwc (I 305) b p) (hk : ¬ pwk (I 305) b p) : ∃ J, am_run am_tb (d + 7) 214 [vR 301] (LH L I R u) = some ([vI 0], LH L J R u) ∧ Fr I J ∧ J 301 19 = (pww (I 305) b p : Nat) ∧ J 315 = I 315 ∧ J 316 = I 316 := by
  have hb2 := hx.2.1
  have hs1 := skb_le (T := (I 305)) hpb
  have hbl := s_blanks (d := d + 3) (L := L) (u := u) (I := I) hF h1.1 hx.1 hx.2.1 hpb hx.2.2
  rw [show p + nbl I p b = (pw1 (I 305) b p) from rfl] at hbl
  have hp1b : (pw1 (I 305) b p) ≤ b := hs1.2
  have hat := s_isAt (d := d + 4) (L := L) (u := u) (I := spI I (pw1 (I 305) b p)) hF (p := (pw1 (I 305) b p)) (b := b) rfl hx.1 hx.2.1 hp1b hx.2.2 (lo := 94) (hi := 94) (by omega) (by omega)

  have hat := ret_t (show (pw1 (I 305) b p) < b ∧ 94 ≤ (spI I (pw1 (I 305) b p)) 305 (pw1 (I 305) b p) ∧ (spI I (pw1 (I 305) b p)) 305 (pw1 (I 305) b p) ≤ 94 from ⟨hc.1, by show 94 ≤ I 305 (pw1 (I 305) b p) ∧ I 305 (pw1 (I 305) b p) ≤ 94; have := hc.2; omega⟩) hat
  have hp1 := hc.1
  have hs3 := skb_le (T := (I 305)) (b := b) (p := (pw1 (I 305) b p) + 1) (by omega)
  have hbl2 := s_blanks (d := d + 3) (L := L) (u := u) (I := spI (spI I (pw1 (I 305) b p)) ((pw1 (I 305) b p) + 1)) hF (p := (pw1 (I 305) b p) + 1) rfl hx.1 hx.2.1 (by omega) hx.2.2
  rw [show (pw1 (I 305) b p) + 1 + nbl (spI (spI I (pw1 (I 305) b p)) ((pw1 (I 305) b p) + 1)) ((pw1 (I 305) b p) + 1) b = (pw3 (I 305) b p) from rfl] at hbl2
  have hp3b : (pw3 (I 305) b p) ≤ b := hs3.2

  by_cases c2 : 2 < dgc (I 305) b (pw3 (I 305) b p)
  · have hfg := s_figs_l (d := d + 3) (L := L) (u := u) (I := spI (spI (spI I (pw1 (I 305) b p)) ((pw1 (I 305) b p) + 1)) (pw3 (I 305) b p)) hF (p := (pw3 (I 305) b p)) (b := b) rfl hx.1 hx.2.1 hp3b hx.2.2 (m := 2) (by omega) c2
    refine ⟨(au (fgI (spI (spI (spI I (pw1 (I 305) b p)) ((pw1 (I 305) b p) + 1)) (pw3 (I 305) b p)) (pw3 (I 305) b p) 2) 301 (au (fgI (spI (spI (spI I (pw1 (I 305) b p)) ((pw1 (I 305) b p) + 1)) (pw3 (I 305) b p)) (pw3 (I 305) b p) 2 301) 19 (((pw3 (I 305) b p) + 2 : Nat) : Int))), ?_, Fr_f (Fr_fg (Fr_sp (Fr_sp (Fr_sp (Fr_r hR))))) (by omega), show _ = ((pww (I 305) b p : Nat) : Int) from by unfold pww; rw [if_pos c2]; rfl, rfl, rfl⟩
    · refine run_of tb_X12_takesPower (Nat.le_of_ble_eq_true rfl) ?_
      show ∃ ls', am_ev (am_run am_tb (d + 6)) tX12_takesPower ([vR 301, vU, vU], [], LH L I R u) = some (1, ls', [vI 0], _)
      apply Exists.intro
      unfold tX12_takesPower
      apply t_Q
      · apply t_S
        refine x_iconst ?_
        refine x_istore_n rfl ?_
        refine x_aload_n rfl ?_
        refine x_V1v tg_301 (Nat.le_of_ble_eq_true rfl) (hbl) ?_
        refine x_aload_n rfl ?_
        refine x_bipush ?_
        refine x_bipush ?_
        refine x_V3i tg_301 (Nat.le_of_ble_eq_true rfl) (hat) ?_
        exact rfl
      apply t_Qs
      apply t_Ks
      · apply t_Q
        · apply t_B
          · exact rfl
          exact t_if_eq_f (by omega)
        apply t_Q
        · apply t_S
          refine x_aload_n rfl ?_
          refine x_dup rfl ?_
          refine x_giv tg_301 rfl (show _ = (((pw1 (I 305) b p) : Nat) : Int) from rfl) ?_
          refine x_iconst ?_
          refine x_iadd ?_
          refine x_pi tg_301 rfl rfl ?_
          rw [show (((pw1 (I 305) b p) : Nat) : Int) + 1 = (((pw1 (I 305) b p) + 1 : Nat) : Int) by omega]
          show am_L _ _ (_, _, LH L (spI (spI I (pw1 (I 305) b p)) ((pw1 (I 305) b p) + 1)) R u) = _
          refine x_aload_n rfl ?_
          refine x_V1v tg_301 (Nat.le_of_ble_eq_true rfl) (hbl2) ?_
          refine x_aload_n rfl ?_
          refine x_giv tg_301 rfl (show _ = (((pw3 (I 305) b p) : Nat) : Int) from rfl) ?_
          refine x_istore_n rfl ?_
          refine x_aload_n rfl ?_
          refine x_iconst ?_
          refine x_V2i tg_301 (Nat.le_of_ble_eq_true rfl) (hfg) ?_
          exact rfl
        apply t_Qs
        apply t_Ks
        · apply t_Q
          · apply t_B
            · exact rfl
            exact t_if_ne_f (by omega)
          apply t_B
          · refine x_iconst ?_
            exact rfl
          exact t_ireq (Or.inr (Or.inl rfl)) rfl rfl
        · decide
      · decide
  · by_cases c0 : dgc (I 305) b (pw3 (I 305) b p) = 0
    · have hfg := s_figs_n (d := d + 3) (L := L) (u := u) (I := spI (spI (spI I (pw1 (I 305) b p)) ((pw1 (I 305) b p) + 1)) (pw3 (I 305) b p)) hF (p := (pw3 (I 305) b p)) (b := b) rfl hx.1 hx.2.1 hp3b hx.2.2 (m := 2) (by omega) c0
      refine ⟨(au (fgI (spI (spI (spI I (pw1 (I 305) b p)) ((pw1 (I 305) b p) + 1)) (pw3 (I 305) b p)) (pw3 (I 305) b p) 0) 301 (au (fgI (spI (spI (spI I (pw1 (I 305) b p)) ((pw1 (I 305) b p) + 1)) (pw3 (I 305) b p)) (pw3 (I 305) b p) 0 301) 19 (((pw3 (I 305) b p) : Nat) : Int))), ?_, Fr_f (Fr_fg (Fr_sp (Fr_sp (Fr_sp (Fr_r hR))))) (by omega), show _ = ((pww (I 305) b p : Nat) : Int) from by unfold pww; rw [if_neg c2]; rfl, rfl, rfl⟩
      · refine run_of tb_X12_takesPower (Nat.le_of_ble_eq_true rfl) ?_
        show ∃ ls', am_ev (am_run am_tb (d + 6)) tX12_takesPower ([vR 301, vU, vU], [], LH L I R u) = some (1, ls', [vI 0], _)
        apply Exists.intro
        unfold tX12_takesPower
        apply t_Q
        · apply t_S
          refine x_iconst ?_
          refine x_istore_n rfl ?_
          refine x_aload_n rfl ?_
          refine x_V1v tg_301 (Nat.le_of_ble_eq_true rfl) (hbl) ?_
          refine x_aload_n rfl ?_
          refine x_bipush ?_
          refine x_bipush ?_
          refine x_V3i tg_301 (Nat.le_of_ble_eq_true rfl) (hat) ?_
          exact rfl
        apply t_Qs
        apply t_Ks
        · apply t_Q
          · apply t_B
            · exact rfl
            exact t_if_eq_f (by omega)
          apply t_Q
          · apply t_S
            refine x_aload_n rfl ?_
            refine x_dup rfl ?_
            refine x_giv tg_301 rfl (show _ = (((pw1 (I 305) b p) : Nat) : Int) from rfl) ?_
            refine x_iconst ?_
            refine x_iadd ?_
            refine x_pi tg_301 rfl rfl ?_
            rw [show (((pw1 (I 305) b p) : Nat) : Int) + 1 = (((pw1 (I 305) b p) + 1 : Nat) : Int) by omega]
            show am_L _ _ (_, _, LH L (spI (spI I (pw1 (I 305) b p)) ((pw1 (I 305) b p) + 1)) R u) = _
            refine x_aload_n rfl ?_
            refine x_V1v tg_301 (Nat.le_of_ble_eq_true rfl) (hbl2) ?_
            refine x_aload_n rfl ?_
            refine x_giv tg_301 rfl (show _ = (((pw3 (I 305) b p) : Nat) : Int) from rfl) ?_
            refine x_istore_n rfl ?_
            refine x_aload_n rfl ?_
            refine x_iconst ?_
            refine x_V2i tg_301 (Nat.le_of_ble_eq_true rfl) (hfg) ?_
            exact rfl
          apply t_Qs
          apply t_Ks
          · apply t_Q
            · apply t_B
              · exact rfl
              exact t_if_ne_f (by omega)
            apply t_B
            · refine x_iconst ?_
              exact rfl
            exact t_ireq (Or.inr (Or.inl rfl)) rfl rfl
          · decide
        · decide
    · have hfg := s_figs_k (d := d + 3) (L := L) (u := u) (I := spI (spI (spI I (pw1 (I 305) b p)) ((pw1 (I 305) b p) + 1)) (pw3 (I 305) b p)) hF (p := (pw3 (I 305) b p)) (b := b) rfl hx.1 hx.2.1 hp3b hx.2.2 (m := 2) (by omega) ⟨show 0 < dgc (I 305) b (pw3 (I 305) b p) from by omega, show dgc (I 305) b (pw3 (I 305) b p) ≤ 2 from by omega⟩
      have hfb := fgv_b (T := I 305) (b := b) (p := (pw3 (I 305) b p)) (Nat.le_refl _)
      have ht4 := tnp_4 (k := dgc (I 305) b (pw3 (I 305) b p)) (by omega)
      have hgt : 12 < fgv (I 305) (pw3 (I 305) b p) (dgc (I 305) b (pw3 (I 305) b p)) := by
        refine Decidable.byContradiction fun z => hk ⟨by omega, by omega, ?_⟩
        omega
      refine ⟨(au (fgI (spI (spI (spI I (pw1 (I 305) b p)) ((pw1 (I 305) b p) + 1)) (pw3 (I 305) b p)) (pw3 (I 305) b p) (dgc (I 305) b (pw3 (I 305) b p))) 301 (au ((fgI (spI (spI (spI I (pw1 (I 305) b p)) ((pw1 (I 305) b p) + 1)) (pw3 (I 305) b p)) (pw3 (I 305) b p) (dgc (I 305) b (pw3 (I 305) b p))) 301) 19 (((pw3 (I 305) b p) : Nat) : Int))), ?_, Fr_f (Fr_fg (Fr_sp (Fr_sp (Fr_sp (Fr_r hR))))) (by omega), show _ = ((pww (I 305) b p : Nat) : Int) from by unfold pww; rw [if_neg c2]; rfl, rfl, rfl⟩
      · refine run_of tb_X12_takesPower (Nat.le_of_ble_eq_true rfl) ?_
        show ∃ ls', am_ev (am_run am_tb (d + 6)) tX12_takesPower ([vR 301, vU, vU], [], LH L I R u) = some (1, ls', [vI 0], _)
        apply Exists.intro
        unfold tX12_takesPower
        apply t_Q
        · apply t_S
          refine x_iconst ?_
          refine x_istore_n rfl ?_
          refine x_aload_n rfl ?_
          refine x_V1v tg_301 (Nat.le_of_ble_eq_true rfl) (hbl) ?_
          refine x_aload_n rfl ?_
          refine x_bipush ?_
          refine x_bipush ?_
          refine x_V3i tg_301 (Nat.le_of_ble_eq_true rfl) (hat) ?_
          exact rfl
        apply t_Qs
        apply t_Ks
        · apply t_Q
          · apply t_B
            · exact rfl
            exact t_if_eq_f (by omega)
          apply t_Q
          · apply t_S
            refine x_aload_n rfl ?_
            refine x_dup rfl ?_
            refine x_giv tg_301 rfl (show _ = (((pw1 (I 305) b p) : Nat) : Int) from rfl) ?_
            refine x_iconst ?_
            refine x_iadd ?_
            refine x_pi tg_301 rfl rfl ?_
            rw [show (((pw1 (I 305) b p) : Nat) : Int) + 1 = (((pw1 (I 305) b p) + 1 : Nat) : Int) by omega]
            show am_L _ _ (_, _, LH L (spI (spI I (pw1 (I 305) b p)) ((pw1 (I 305) b p) + 1)) R u) = _
            refine x_aload_n rfl ?_
            refine x_V1v tg_301 (Nat.le_of_ble_eq_true rfl) (hbl2) ?_
            refine x_aload_n rfl ?_
            refine x_giv tg_301 rfl (show _ = (((pw3 (I 305) b p) : Nat) : Int) from rfl) ?_
            refine x_istore_n rfl ?_
            refine x_aload_n rfl ?_
            refine x_iconst ?_
            refine x_V2i tg_301 (Nat.le_of_ble_eq_true rfl) (hfg) ?_
            exact rfl
          apply t_Q
          · apply t_K
            apply t_Qs
            apply t_B
            · exact rfl
            exact t_if_ne_t (by omega)
          apply t_Q
          · apply t_S
            refine x_aload_n rfl ?_
            refine x_giv tg_301 rfl (show _ = fgv (I 305) (pw3 (I 305) b p) (dgc (I 305) b (pw3 (I 305) b p)) from rfl) ?_
            refine x_bipush ?_
            exact rfl
          apply t_Qs
          apply t_Ks
          · apply t_Q
            · apply t_B
              · exact rfl
              exact t_ic_le_f (by omega)
            apply t_B
            · refine x_aload_n rfl ?_
              refine x_iload_n rfl ?_
              refine x_V2i tg_301 (Nat.le_of_ble_eq_true rfl) (s_fails (d := d + 5) hF) ?_
              exact rfl
            exact t_ireq (Or.inr (Or.inl rfl)) rfl rfl
          · decide
        · decide
