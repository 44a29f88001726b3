/-! Loops by a measure; rests over rows; the reference's tidies. Written by wip/whole/gen_60.py. -/
theorem lp_meas {f : am_S → Option (Nat × am_S)} {L : Nat} (P : Nat → am_S → Prop) (Q : Nat × am_S → Prop) (hs : ∀ n x, P n x → ∃ r, f x = some r ∧ ((r.1 = L + 2 ∧ ∃ m, m < n ∧ P m r.2) ∨ (¬ r.1 = L + 2 ∧ Q r))) : ∀ (F n : Nat) (x : am_S), n < F → P n x → ∃ r, am_lp f L F x = some r ∧ Q r := by
  intro F
  induction F with
  | zero => intro n x h; exact absurd h (Nat.not_lt_zero _)
  | succ F ih =>
    intro n x hn hp
    obtain ⟨r, e, h⟩ := hs n x hp
    cases h with
    | inl h =>
      obtain ⟨h1, m, hm, hp2⟩ := h
      obtain ⟨r2, e2, q⟩ := ih m r.2 (by omega) hp2
      refine ⟨r2, ?_, q⟩
      show (f x).bind (fun r => if r.1 = L + 2 then am_lp f L F r.2 else some r) = some r2
      rw [e]
      show (if r.1 = L + 2 then am_lp f L F r.2 else some r) = some r2
      rw [if_pos h1]
      exact e2
    | inr h =>
      refine ⟨r, ?_, h.2⟩
      show (f x).bind (fun r => if r.1 = L + 2 then am_lp f L F r.2 else some r) = some r
      rw [e]
      exact if_neg h.1
/-- a loop that goes round n times, by an invariant -/
theorem lp_inv {f : am_S → Option (Nat × am_S)} {L : Nat} (P : Nat → am_S → Prop) (Q : Nat × am_S → Prop) (n : Nat) {x : am_S} (h0 : P 0 x) (hn : n < am_F) (hs : ∀ k y, k < n → P k y → ∃ z, f y = some (L + 2, z) ∧ P (k + 1) z) (he : ∀ y, P n y → ∃ r, f y = some r ∧ ¬ r.1 = L + 2 ∧ Q r) : ∃ r, am_lp f L am_F x = some r ∧ Q r := by
  refine lp_meas (fun m y => m ≤ n ∧ P (n - m) y) Q (fun m y hp => ?_) am_F n x hn ⟨Nat.le_refl _, by rw [Nat.sub_self]; exact h0⟩
  by_cases c : m = 0
  · subst c
    obtain ⟨r, e, h1, q⟩ := he y hp.2
    exact ⟨r, e, Or.inr ⟨h1, q⟩⟩
  · obtain ⟨z, e, h1⟩ := hs (n - m) y (by omega) hp.2
    refine ⟨(L + 2, z), e, Or.inl ⟨rfl, m - 1, by omega, by omega, ?_⟩⟩
    rw [show n - (m - 1) = n - m + 1 by have := hp.1; omega]
    exact h1
abbrev resa (f : Nat → Int) : Prop := ∀ v, 0 ≤ f v ∧ f v < 10007
theorem rsI_a {o : Int} {ld : Nat → Nat} {b : Nat} {B : Nat → Nat → Int} {f : Nat → Int} (hB : Dv o ld b B) (hr : resd f) (n : Nat) : resa (rsI o ld b B f n).2 := by
  induction n with
  | zero => exact fun v => ⟨Int.le_refl 0, by show (0 : Int) < 10007; decide⟩
  | succ n ih =>
    by_cases c : led o (rsI o ld b B f n).1 < 0
    · have e : rsI o ld b B f (n + 1) = rsI o ld b B f n := if_pos c
      rw [e]; exact ih
    · have e : rsI o ld b B f (n + 1) = rsS o ld b B (rsI o ld b B f n) := if_neg c
      obtain ⟨w, hw, hl, hf, hm⟩ := led_get c
      have hwv := (rsI_ok hB hr n).1 w hw
      rw [e]
      unfold rsS
      by_cases c2 : rsK o ld b (rsI o ld b B f n).1 < b
      · rw [if_pos c2]; exact ih
      · rw [if_neg c2, hl]
        intro v
        show 0 ≤ (if v = w then (rsI o ld b B f n).1 w else (rsI o ld b B f n).2 v) ∧ (if v = w then (rsI o ld b B f n).1 w else (rsI o ld b B f n).2 v) < 10007
        have := ih v
        split <;> omega
theorem rsF_a {o : Int} {ld : Nat → Nat} {b : Nat} {B : Nat → Nat → Int} {f : Nat → Int} (hB : Dv o ld b B) (hr : resd f) : resa (rsF o ld b B f) := by
  unfold rsF
  rw [← rsF_N hB hr]
  exact rsI_a hB hr _
/-- n rows lie as G says -/
def Rws (I : Nat → Nat → Int) (n : Nat) (G : Nat → Nat → Int) : Prop := I 301 16 = (n : Nat) ∧ ∀ j, j < n → ∀ v, v < 496 → gro I j v = G j v
def Gd (o : Int) (n : Nat) (G : Nat → Nat → Int) : Prop := n ≤ 23 ∧ ∀ j, j < n → resa (G j) ∧ ¬ led o (G j) < 0
/-- the rest by rows, by the rows but one -/
noncomputable def nfa (o : Int) (n : Nat) (G : Nat → Nat → Int) (f : Nat → Int) : Nat → Int := rsF o (fun j => lw o (G j)) n G f
def skp (r j : Nat) : Nat := if r ≤ j then j + 1 else j
noncomputable def nfo (o : Int) (n : Nat) (G : Nat → Nat → Int) (r : Nat) : Nat → Int := nfa o (n - 1) (fun j => G (skp r j)) (G r)
theorem Gd_Dv {o : Int} {n : Nat} {G : Nat → Nat → Int} (h : ∀ j, j < n → resa (G j) ∧ ¬ led o (G j) < 0) : Dv o (fun j => lw o (G j)) n G := Dv_of (fun _ _ => rfl) (fun j hj => (h j hj).2) (fun j hj => (h j hj).1)
theorem nfa_a {o : Int} {n : Nat} {G : Nat → Nat → Int} {f : Nat → Int} (h : ∀ j, j < n → resa (G j) ∧ ¬ led o (G j) < 0) (hf : resd f) : resa (nfa o n G f) := rsF_a (Gd_Dv h) hf
theorem skp_lt {n r j : Nat} (h : j < n - 1) : skp r j < n := by unfold skp; split <;> omega
theorem nfo_a {o : Int} {n : Nat} {G : Nat → Nat → Int} {r : Nat} (h : Gd o n G) (hr : r < n) : resa (nfo o n G r) := nfa_a (fun j hj => h.2 _ (skp_lt hj)) (fun k _ => (h.2 r hr).1 k)
set_option maxRecDepth 10000 in
theorem s_restsG {d L : Nat} {I : Nat → Nat → Int} {R : Nat → Nat → Option Nat} {u : Int64} (hF : FixR R) (hR : Res I) (hT : Tabs I) {o : Int} (ho : I 302 608 = o) (h0 : o = 0 ∨ o = 1) {rr : Nat → Nat} {b : Nat} (hb : I 301 13 = b) (hb2 : b ≤ 24) (hby : ∀ j, j < b → I 312 j = (rr j : Nat) ∧ rr j < 24) {B : Nat → Nat → Int} (hB : ∀ j, j < b → ∀ v, v < 496 → gro I (rr j) v = B j v) (hG : ∀ j, j < b → resa (B j) ∧ ¬ led o (B j) < 0) {f : Nat → Int} (hf : resd f) (hf24 : ∀ k, k < 496 → gro I 24 k = f k) : ∃ J, am_run am_tb (d + 5) 186 [vR 301, vI 25] (LH L I R u) = some ([], LH L J R u) ∧ Fw I J ∧ (∀ r, r ≠ 24 → r ≠ 25 → ∀ v, v < 496 → gro J r v = gro I r v) ∧ J 301 = I 301 ∧ J 312 = I 312 ∧ (∀ v, v < 496 → gro J 25 v = nfa o b B f v) := by
  have hBl : ∀ j, j < b → (fun j => lw o (B j)) j = lw o (gro I (rr j)) := fun j hj => by
    show lw o (B j) = lw o (gro I (rr j))
    unfold lw
    rw [led_c (hB j hj)]
  have hD : Dv o (fun j => lw o (B j)) b (fun j => gro I (rr j)) := Dv_of hBl (fun j hj => by
    show ¬ led o (gro I (rr j)) < 0
    rw [led_c (hB j hj)]
    exact (hG j hj).2) (fun j hj v => hR _)
  have hrs := s_rests (d := d) (L := L) (u := u) (I := I) hF hR hT ho h0 (rr := rr) (ld := fun j => lw o (B j)) hb hb2 hby hf hf24 hD
  have he : rsF o (fun j => lw o (B j)) b (fun j => gro I (rr j)) f = nfa o b B f := rsF_c (fun j hj => (lw_ok (hG j hj).2).1) hB _
  have hE1 : resd (rsE o (fun j => lw o (B j)) b (fun j => gro I (rr j)) f).1 := by
    rw [← rsF_N hD hf]
    exact (rsI_ok hD hf _).1
  have hE2 : resd (rsE o (fun j => lw o (B j)) b (fun j => gro I (rr j)) f).2 := rsF_r hD hf
  have hfx : (rsE o (fun j => lw o (B j)) b (fun j => gro I (rr j)) f).2 = nfa o b B f := by
    rw [← he]
    unfold rsF
    rfl
  generalize rsE o (fun j => lw o (B j)) b (fun j => gro I (rr j)) f = E at hrs hE1 hE2 hfx
  refine ⟨_, hrs, ?_, fun r h1 h2 v hv => rsH_o h1 h2 v hv, rfl, rfl, fun v hv => (rsH_25 v hv).trans (congrFun hfx v)⟩
  unfold rsH
  refine Fw_s (Fw_s ⟨fun a p r => ?_, ⟨rfl, rfl, rfl⟩, ⟨rfl, rfl⟩, hR⟩ hE2) hE1
  unfold flI
  rw [au_n _ _ (by omega), au_n _ _ (by omega)]
/-- the lead gets the number 1 -/
def mon (o : Int) (f : Nat → Int) : Nat → Int := evF f (inv (f (lw o f)))
theorem mon_a (o : Int) (f : Nat → Int) : resa (mon o f) := fun v => by unfold mon evF; omega
theorem mon_1 {o : Int} {f : Nat → Int} (hf : resa f) (h : ¬ led o f < 0) : mon o f (lw o f) = 1 := by
  have hl := lw_ok h
  have hv := hf (lw o f)
  unfold mon evF
  exact inv_ok (by have := hl.2.2.1; omega)
theorem mon_0 {o : Int} {f : Nat → Int} {v : Nat} (h : f v = 0) : mon o f v = 0 := by
  unfold mon evF
  rw [h, Int.zero_mul]
  rfl
theorem mon_led {o : Int} {f : Nat → Int} (hf : resa f) (h : ¬ led o f < 0) : led o (mon o f) = led o f := by
  have hl := lw_ok h
  rw [hl.2.1]
  refine led_of hl.1 (by rw [mon_1 hf h]; decide) (fun v hv q => hl.2.2.2 v hv fun z => q (mon_0 z))
/-- a step of tidies -/
noncomputable def tdS (o : Int) (r : Nat) (s : Nat × (Nat → Nat → Int) × Int) : Nat × (Nat → Nat → Int) × Int :=
  if led o (nfo o s.1 s.2.1 r) < 0 then (s.1 - 1, fun j => s.2.1 (skp r j), 1)
  else (s.1, au s.2.1 r (mon o (nfo o s.1 s.2.1 r)), if s.2.2 = 1 ∨ ¬ alk (mon o (nfo o s.1 s.2.1 r)) (s.2.1 r) 496 = 1 then 1 else 0)
theorem tdS_Gd {o : Int} {r : Nat} {s : Nat × (Nat → Nat → Int) × Int} (h : Gd o s.1 s.2.1) (hr : r < s.1) : Gd o (tdS o r s).1 (tdS o r s).2.1 ∧ s.1 - 1 ≤ (tdS o r s).1 ∧ (tdS o r s).1 ≤ s.1 ∧ ((tdS o r s).2.2 = 0 ∨ (tdS o r s).2.2 = 1) := by
  have ha := nfo_a h hr
  have h23 := h.1
  unfold tdS
  by_cases c : led o (nfo o s.1 s.2.1 r) < 0
  · rw [if_pos c]
    exact ⟨⟨by show s.1 - 1 ≤ 23; omega, fun j hj => h.2 _ (skp_lt hj)⟩, Nat.le_refl _, Nat.sub_le _ _, Or.inr rfl⟩
  · rw [if_neg c]
    refine ⟨⟨h.1, fun j hj => ?_⟩, Nat.sub_le _ _, Nat.le_refl _, by show (if _ then (1 : Int) else 0) = 0 ∨ (if _ then (1 : Int) else 0) = 1; exact b01⟩
    show resa (if j = r then _ else s.2.1 j) ∧ ¬ led o (if j = r then _ else s.2.1 j) < 0
    by_cases e : j = r
    · rw [if_pos e, mon_led ha c]
      exact ⟨mon_a _ _, c⟩
    · rw [if_neg e]
      exact h.2 j hj
/-- a pass of tidies, step by step; all passes -/
noncomputable def tdP (o : Int) (n : Nat) (G : Nat → Nat → Int) : Nat → Nat × (Nat → Nat → Int) × Int
  | 0 => (n, G, 0)
  | k + 1 => tdS o (n - 1 - k) (tdP o n G k)
theorem tdP_ok {o : Int} {n : Nat} {G : Nat → Nat → Int} (h : Gd o n G) {k : Nat} (hk : k ≤ n) : Gd o (tdP o n G k).1 (tdP o n G k).2.1 ∧ n - k ≤ (tdP o n G k).1 ∧ (tdP o n G k).1 ≤ n ∧ ((tdP o n G k).2.2 = 0 ∨ (tdP o n G k).2.2 = 1) := by
  induction k with
  | zero => exact ⟨h, Nat.sub_le _ _, Nat.le_refl _, Or.inl rfl⟩
  | succ k ih =>
    have i := ih (by omega)
    have s := tdS_Gd (r := n - 1 - k) i.1 (by omega)
    have e : tdP o n G (k + 1) = tdS o (n - 1 - k) (tdP o n G k) := rfl
    rw [e]
    refine ⟨s.1, by omega, by omega, s.2.2.2⟩
noncomputable def tdI (o : Int) (n : Nat) (G : Nat → Nat → Int) : Nat → Nat × (Nat → Nat → Int) × Int
  | 0 => (n, G, 1)
  | k + 1 => tdP o (tdI o n G k).1 (tdI o n G k).2.1 (tdI o n G k).1
theorem tdI_ok {o : Int} {n : Nat} {G : Nat → Nat → Int} (h : Gd o n G) (k : Nat) : Gd o (tdI o n G k).1 (tdI o n G k).2.1 ∧ (tdI o n G k).1 ≤ n ∧ ((tdI o n G k).2.2 = 0 ∨ (tdI o n G k).2.2 = 1) := by
  induction k with
  | zero => exact ⟨h, Nat.le_refl _, Or.inr rfl⟩
  | succ k ih =>
    have i := tdP_ok ih.1 (Nat.le_refl _)
    exact ⟨i.1, Nat.le_trans i.2.2.1 ih.2.1, i.2.2.2⟩
theorem alk_c {f g f' g' : Nat → Int} {n : Nat} (h1 : ∀ k, k < n → f k = f' k) (h2 : ∀ k, k < n → g k = g' k) : alk f g n = alk f' g' n := by
  induction n with
  | zero => rfl
  | succ n ih =>
    show (if alk f g n = 1 ∧ f n = g n then (1 : Int) else 0) = (if alk f' g' n = 1 ∧ f' n = g' n then (1 : Int) else 0)
    rw [ih (fun k hk => h1 k (by omega)) (fun k hk => h2 k (by omega)), h1 n (by omega), h2 n (by omega)]
theorem tkN_n {r n : Nat} (h : r < n) : tkN (r : Int) n = n - 1 := by unfold tkN; rw [if_pos (by omega)]
theorem tkE_n {r j : Nat} : tkE (r : Int) j = (skp r j : Nat) := by
  unfold tkE skp
  by_cases c : r ≤ j
  · rw [if_pos c, if_pos (by omega)]; omega
  · rw [if_neg c, if_neg (by omega)]
theorem tk_Fw {I : Nat → Nat → Int} {b : Int} {n : Nat} (hR : Res I) : Fw I (tkI I b n) := ⟨fun a p r => by unfold tkI; rw [au_n _ _ (by omega), au_n _ _ (by omega)], ⟨rfl, rfl, rfl⟩, ⟨rfl, rfl⟩, hR⟩
theorem gro_sh {I : Nat → Nat → Int} {row q j v : Nat} (hj : j < q) (hr : row ≤ q) (hv : v < 496) : gro (shI I row (q - row)) j v = gro I (skp row j) v := by
  unfold shI gro skp
  rw [au_s]
  by_cases c : row ≤ j
  · rw [if_pos c, if_pos (by omega)]
    exact congrArg (I 306) (by omega)
  · rw [if_neg c, if_neg (by omega)]
set_option maxRecDepth 10000 in
theorem st_tidies {d L : Nat} {I : Nat → Nat → Int} {R : Nat → Nat → Option Nat} {u : Int64} (hF : FixR R) (hR : Res I) (hT : Tabs I) {o : Int} (ho : I 302 608 = o) (h0 : o = 0 ∨ o = 1) {s : Nat × (Nat → Nat → Int) × Int} (hw : Rws I s.1 s.2.1) (hG : Gd o s.1 s.2.1) (hm : s.2.2 = 0 ∨ s.2.2 = 1) {r : Nat} (hr : r < s.1) : ∃ J, am_ev (am_run am_tb (d + 5)) wX12_tidies_15 ([vR 301, vI s.2.2, vI r], [], LH L I R u) = some (17, [vR 301, vI (tdS o r s).2.2, vI ((r : Int) - 1)], [], LH L J R u) ∧ Fw I J ∧ Rws J (tdS o r s).1 (tdS o r s).2.1 := by
  have h23 := hG.1
  have htk := s_takesBy (d := d + 3) (L := L) (u := u) (I := I) hF (b := (r : Int)) (q := s.1) (by omega) hw.1 (by omega)
  have hFk := tk_Fw (I := I) (b := (r : Int)) (n := s.1) hR
  have hcp := s_copies (d := d + 3) (L := L) (u := u) (I := tkI I r s.1) hF (fr := r) (to := 24) (by omega) (by omega)
  have hGr := hG.2 r hr
  have hg24 : ∀ k, k < 496 → gro (sro (tkI I r s.1) 24 (gro (tkI I r s.1) r)) 24 k = s.2.1 r k := fun k hk => (gro_s hk).trans (hw.2 r hr k hk)
  have hFc : Fw I (sro (tkI I r s.1) 24 (gro (tkI I r s.1) r)) := Fw_s hFk (fun k _ => hFk.2.2.2 _)
  obtain ⟨J, hrs, hFJ, hJr, hJ301, hJ312, hJ25⟩ := s_restsG (d := d) (L := L) (u := u) (I := sro (tkI I r s.1) 24 (gro (tkI I r s.1) r)) hF hFc.2.2.2 (Fw_T hFc hT) (o := o) (by rw [hFc.1 302 (by decide) (by decide)]; exact ho) h0 (rr := skp r) (b := s.1 - 1) (by
      show ((tkN (r : Int) s.1 : Nat) : Int) = _
      rw [tkN_n hr]) (by omega) (fun j hj => ⟨by
      show (if j < tkN (r : Int) s.1 then tkE (r : Int) j else I 312 j) = _
      rw [tkN_n hr, if_pos hj, tkE_n], by have := skp_lt (r := r) hj; omega⟩) (B := fun j => s.2.1 (skp r j)) (fun j hj v hv => by
      have := skp_lt (r := r) hj
      rw [gro_n hv (by omega)]
      exact hw.2 _ this v hv) (fun j hj => hG.2 _ (skp_lt hj)) (f := s.2.1 r) (fun k _ => hGr.1 k) hg24
  have hFIJ := Fw_t hFc hFJ
  have hT2 := Fw_T hFIJ hT
  have hJrow : ∀ j, j < s.1 → ∀ v, v < 496 → gro J j v = s.2.1 j v := fun j hj v hv => by
    rw [hJr j (by omega) (by omega) v hv, gro_n hv (by omega)]
    exact hw.2 j hj v hv
  have hJ16 : J 301 16 = (s.1 : Nat) := by rw [hJ301]; exact hw.1
  have hdg := s_degreeIn (d := d + 3) (L := L) (u := u) (I := J) hF hFIJ.2.2.2 hT2 (row := 25) (by omega)
  rw [dgr_c (g := nfo o s.1 s.2.1 r) hJ25] at hdg
  have hdb := dgr_b (nfo o s.1 s.2.1 r)
  have hna := nfo_a hG hr
  by_cases c : led o (nfo o s.1 s.2.1 r) < 0
  · have hdn := dgr_neg.mpr c
    have hgo := s_rowGoes (d := d + 2) (L := L) (u := u) (I := J) hF (row := r) (q := s.1 - 1) (by rw [hJ16]; omega) (by omega) (by omega)
    have e : tdS o r s = (s.1 - 1, fun j => s.2.1 (skp r j), 1) := if_pos c
    rw [e]
    refine ⟨shI (au J 301 (au (J 301) 16 ((s.1 - 1 : Nat) : Int))) r (s.1 - 1 - r), ?_, Fw_t hFIJ ⟨fun a p q => ?_, ⟨rfl, rfl, rfl⟩, ⟨rfl, rfl⟩, fun j => ?_⟩, ⟨rfl, fun j hj v hv => ?_⟩⟩
    · show _ = some (17, [vR 301, vI 1, vI ((r : Int) - 1)], [], _)
      unfold wX12_tidies_15
      apply t_Q
      · apply t_B
        · refine x_iload_n rfl ?_
          exact rfl
        exact t_if_lt_f (by omega)
      apply t_Q
      · apply t_S
        refine x_aload_n rfl ?_
        refine x_iload_n rfl ?_
        refine x_V2v tg_301 (Nat.le_of_ble_eq_true rfl) (htk) ?_
        refine x_aload_n rfl ?_
        refine x_iload_n rfl ?_
        refine x_bipush ?_
        refine x_V3v tg_301 (Nat.le_of_ble_eq_true rfl) (hcp) ?_
        refine x_aload_n rfl ?_
        refine x_bipush ?_
        refine x_V2v tg_301 (Nat.le_of_ble_eq_true rfl) (hrs) ?_
        refine x_aload_n rfl ?_
        refine x_bipush ?_
        refine x_V2i tg_301 (Nat.le_of_ble_eq_true rfl) (hdg) ?_
        exact rfl
      apply t_Q
      · apply t_K
        apply t_Qs
        apply t_Ks
        · apply t_Q
          · apply t_B
            · exact rfl
            exact t_if_ge_f (by omega)
          apply t_B
          · refine x_aload_n rfl ?_
            refine x_iload_n rfl ?_
            refine x_V2v tg_301 (Nat.le_of_ble_eq_true rfl) (hgo) ?_
            refine x_iconst ?_
            refine x_istore_n rfl ?_
            exact rfl
          exact t_goto
        · decide
      apply t_B
      · refine x_iinc rfl rfl ?_
        exact rfl
      exact t_goto
    · unfold shI
      rw [au_n _ _ (by omega), au_n _ _ q]
    · show 0 ≤ (if _ then J 306 (j + 496) else J 306 j) ∧ (if _ then J 306 (j + 496) else J 306 j) < 10007
      have a1 := hFIJ.2.2.2 (j + 496)
      have a2 := hFIJ.2.2.2 j
      split
      · exact a1
      · exact a2
    · have hj' : j < s.1 - 1 := hj
      rw [gro_sh hj' (by omega) hv]
      show gro J _ v = _
      exact hJrow _ (skp_lt hj') v hv
  · have hdn : ¬ dgr (nfo o s.1 s.2.1 r) < 0 := fun z => c (dgr_neg.mp z)
    have hlw := lw_ok c
    have hev := s_evens (d := d + 1) (L := L) (u := u) (I := J) hF hFIJ.2.2.2 hT2 (o := o) (by rw [hFIJ.1 302 (by decide) (by decide)]; exact ho) h0 (row := 25) (w := lw o (nfo o s.1 s.2.1 r)) (by omega) hlw.1 (by rw [led_c hJ25]; exact hlw.2.1)
    have hmn : ∀ k, k < 496 → evF (gro J 25) (inv (gro J 25 (lw o (nfo o s.1 s.2.1 r)))) k = mon o (nfo o s.1 s.2.1 r) k := fun k hk => by
      show gro J 25 k * inv (gro J 25 (lw o (nfo o s.1 s.2.1 r))) % 10007 = nfo o s.1 s.2.1 r k * inv (nfo o s.1 s.2.1 r (lw o (nfo o s.1 s.2.1 r))) % 10007
      rw [hJ25 k hk, hJ25 _ hlw.1]
      rfl
    rw [sro_c hmn] at hev
    have hFK : Fw I (sro J 25 (mon o (nfo o s.1 s.2.1 r))) := Fw_s hFIJ (fun k _ => mon_a _ _ k)
    have hal := s_areAlike (d := d + 3) (L := L) (u := u) (I := sro J 25 (mon o (nfo o s.1 s.2.1 r))) hF (t := 25) (w := r) hFK.2.2.2 (by omega) (by omega)
    rw [alk_c (f' := mon o (nfo o s.1 s.2.1 r)) (g' := s.2.1 r) (fun k hk => gro_s hk) (fun k hk => (gro_n hk (by omega)).trans (hJrow r hr k hk))] at hal
    have hc2 := s_copies (d := d + 3) (L := L) (u := u) (I := sro J 25 (mon o (nfo o s.1 s.2.1 r))) hF (fr := 25) (to := r) (by omega) (by omega)
    rw [sro_c (f := gro (sro J 25 (mon o (nfo o s.1 s.2.1 r))) 25) (g := mon o (nfo o s.1 s.2.1 r)) (fun k hk => gro_s hk)] at hc2
    have e : tdS o r s = (s.1, au s.2.1 r (mon o (nfo o s.1 s.2.1 r)), if s.2.2 = 1 ∨ ¬ alk (mon o (nfo o s.1 s.2.1 r)) (s.2.1 r) 496 = 1 then 1 else 0) := if_neg c
    rw [e]
    have hab := alk_b (mon o (nfo o s.1 s.2.1 r)) (s.2.1 r) 496
    refine ⟨sro (sro J 25 (mon o (nfo o s.1 s.2.1 r))) r (mon o (nfo o s.1 s.2.1 r)), ?_, Fw_s hFK (fun k _ => mon_a _ _ k), ⟨hJ16, fun j hj v hv => ?_⟩⟩
    · show _ = some (17, [vR 301, vI (if s.2.2 = 1 ∨ ¬ alk (mon o (nfo o s.1 s.2.1 r)) (s.2.1 r) 496 = 1 then 1 else 0), vI ((r : Int) - 1)], [], _)
      generalize alk (mon o (nfo o s.1 s.2.1 r)) (s.2.1 r) 496 = al at hal hab ⊢
      by_cases c1 : s.2.2 = 1
      · rw [if_pos (Or.inl c1)]
        rw [c1]
        unfold wX12_tidies_15
        apply t_Q
        · apply t_B
          · refine x_iload_n rfl ?_
            exact rfl
          exact t_if_lt_f (by omega)
        apply t_Q
        · apply t_S
          refine x_aload_n rfl ?_
          refine x_iload_n rfl ?_
          refine x_V2v tg_301 (Nat.le_of_ble_eq_true rfl) (htk) ?_
          refine x_aload_n rfl ?_
          refine x_iload_n rfl ?_
          refine x_bipush ?_
          refine x_V3v tg_301 (Nat.le_of_ble_eq_true rfl) (hcp) ?_
          refine x_aload_n rfl ?_
          refine x_bipush ?_
          refine x_V2v tg_301 (Nat.le_of_ble_eq_true rfl) (hrs) ?_
          refine x_aload_n rfl ?_
          refine x_bipush ?_
          refine x_V2i tg_301 (Nat.le_of_ble_eq_true rfl) (hdg) ?_
          exact rfl
        apply t_Q
        · apply t_Ks
          · apply t_Q
            · apply t_K
              apply t_Qs
              apply t_B
              · exact rfl
              exact t_if_ge_t (by omega)
            apply t_Q
            · apply t_S
              refine x_aload_n rfl ?_
              refine x_bipush ?_
              refine x_V2v tg_301 (Nat.le_of_ble_eq_true rfl) (hev) ?_
              refine x_iload_n rfl ?_
              exact rfl
            apply t_Q
            · apply t_K
              apply t_Qs
              apply t_Ks
              · apply t_Q
                · apply t_K
                  apply t_Qs
                  apply t_B
                  · exact rfl
                  exact t_if_ne_t (by omega)
                apply t_B
                · refine x_iconst ?_
                  exact rfl
                exact t_goto
              · decide
            apply t_S
            refine x_istore_n rfl ?_
            refine x_aload_n rfl ?_
            refine x_bipush ?_
            refine x_iload_n rfl ?_
            refine x_V3v tg_301 (Nat.le_of_ble_eq_true rfl) (hc2) ?_
            exact rfl
          · decide
        apply t_B
        · refine x_iinc rfl rfl ?_
          exact rfl
        exact t_goto
      · by_cases c2 : al = 1
        · rw [if_neg (by omega)]
          unfold wX12_tidies_15
          apply t_Q
          · apply t_B
            · refine x_iload_n rfl ?_
              exact rfl
            exact t_if_lt_f (by omega)
          apply t_Q
          · apply t_S
            refine x_aload_n rfl ?_
            refine x_iload_n rfl ?_
            refine x_V2v tg_301 (Nat.le_of_ble_eq_true rfl) (htk) ?_
            refine x_aload_n rfl ?_
            refine x_iload_n rfl ?_
            refine x_bipush ?_
            refine x_V3v tg_301 (Nat.le_of_ble_eq_true rfl) (hcp) ?_
            refine x_aload_n rfl ?_
            refine x_bipush ?_
            refine x_V2v tg_301 (Nat.le_of_ble_eq_true rfl) (hrs) ?_
            refine x_aload_n rfl ?_
            refine x_bipush ?_
            refine x_V2i tg_301 (Nat.le_of_ble_eq_true rfl) (hdg) ?_
            exact rfl
          apply t_Q
          · apply t_Ks
            · apply t_Q
              · apply t_K
                apply t_Qs
                apply t_B
                · exact rfl
                exact t_if_ge_t (by omega)
              apply t_Q
              · apply t_S
                refine x_aload_n rfl ?_
                refine x_bipush ?_
                refine x_V2v tg_301 (Nat.le_of_ble_eq_true rfl) (hev) ?_
                refine x_iload_n rfl ?_
                exact rfl
              apply t_Q
              · apply t_Ks
                · apply t_Q
                  · apply t_K
                    apply t_Qs
                    apply t_Ks
                    · apply t_Q
                      · apply t_B
                        · exact rfl
                        exact t_if_ne_f (by omega)
                      apply t_B
                      · refine x_aload_n rfl ?_
                        refine x_bipush ?_
                        refine x_iload_n rfl ?_
                        refine x_V3i tg_301 (Nat.le_of_ble_eq_true rfl) (hal) ?_
                        exact rfl
                      exact t_if_ne_t (by omega)
                    · decide
                  apply t_S
                  refine x_iconst ?_
                  exact rfl
                · decide
              apply t_S
              refine x_istore_n rfl ?_
              refine x_aload_n rfl ?_
              refine x_bipush ?_
              refine x_iload_n rfl ?_
              refine x_V3v tg_301 (Nat.le_of_ble_eq_true rfl) (hc2) ?_
              exact rfl
            · decide
          apply t_B
          · refine x_iinc rfl rfl ?_
            exact rfl
          exact t_goto
        · rw [if_pos (Or.inr c2)]
          unfold wX12_tidies_15
          apply t_Q
          · apply t_B
            · refine x_iload_n rfl ?_
              exact rfl
            exact t_if_lt_f (by omega)
          apply t_Q
          · apply t_S
            refine x_aload_n rfl ?_
            refine x_iload_n rfl ?_
            refine x_V2v tg_301 (Nat.le_of_ble_eq_true rfl) (htk) ?_
            refine x_aload_n rfl ?_
            refine x_iload_n rfl ?_
            refine x_bipush ?_
            refine x_V3v tg_301 (Nat.le_of_ble_eq_true rfl) (hcp) ?_
            refine x_aload_n rfl ?_
            refine x_bipush ?_
            refine x_V2v tg_301 (Nat.le_of_ble_eq_true rfl) (hrs) ?_
            refine x_aload_n rfl ?_
            refine x_bipush ?_
            refine x_V2i tg_301 (Nat.le_of_ble_eq_true rfl) (hdg) ?_
            exact rfl
          apply t_Q
          · apply t_Ks
            · apply t_Q
              · apply t_K
                apply t_Qs
                apply t_B
                · exact rfl
                exact t_if_ge_t (by omega)
              apply t_Q
              · apply t_S
                refine x_aload_n rfl ?_
                refine x_bipush ?_
                refine x_V2v tg_301 (Nat.le_of_ble_eq_true rfl) (hev) ?_
                refine x_iload_n rfl ?_
                exact rfl
              apply t_Q
              · apply t_K
                apply t_Qs
                apply t_Ks
                · apply t_Q
                  · apply t_Ks
                    · apply t_Q
                      · apply t_B
                        · exact rfl
                        exact t_if_ne_f (by omega)
                      apply t_B
                      · refine x_aload_n rfl ?_
                        refine x_bipush ?_
                        refine x_iload_n rfl ?_
                        refine x_V3i tg_301 (Nat.le_of_ble_eq_true rfl) (hal) ?_
                        exact rfl
                      exact t_if_ne_f (by omega)
                    · decide
                  apply t_B
                  · refine x_iconst ?_
                    exact rfl
                  exact t_goto
                · decide
              apply t_S
              refine x_istore_n rfl ?_
              refine x_aload_n rfl ?_
              refine x_bipush ?_
              refine x_iload_n rfl ?_
              refine x_V3v tg_301 (Nat.le_of_ble_eq_true rfl) (hc2) ?_
              exact rfl
            · decide
          apply t_B
          · refine x_iinc rfl rfl ?_
            exact rfl
          exact t_goto
    · show gro _ j v = (if j = r then mon o (nfo o s.1 s.2.1 r) else s.2.1 j) v
      by_cases ej : j = r
      · rw [if_pos ej, ej]; exact gro_s hv
      · have hj' : j < s.1 := hj
        rw [if_neg ej, gro_n hv ej, gro_n hv (by omega)]
        exact hJrow j hj' v hv
