/-! The reference: rests. Written by wip/whole/gen_58.py. -/
def rsK (o : Int) (ld : Nat → Nat) (b : Nat) (f : Nat → Int) : Nat := fbl ld b (led o f).toNat
def rsC (o : Int) (ld : Nat → Nat) (b : Nat) (B : Nat → Nat → Int) (f : Nat → Int) : Int := f (led o f).toNat * inv (B (rsK o ld b f) (ld (rsK o ld b f))) % 10007
/-- a step of rests: what is left, and the rest so far -/
def rsS (o : Int) (ld : Nat → Nat) (b : Nat) (B : Nat → Nat → Int) (s : (Nat → Int) × (Nat → Int)) : (Nat → Int) × (Nat → Int) :=
  if rsK o ld b s.1 < b then
    (abF (xw (led o s.1).toNat - xw (ld (rsK o ld b s.1))) (dw (led o s.1).toNat - dw (ld (rsK o ld b s.1))) (10007 - rsC o ld b B s.1) (B (rsK o ld b s.1)) s.1 (wds (B (rsK o ld b s.1))), s.2)
  else (au s.1 (led o s.1).toNat 0, au s.2 (led o s.1).toNat (s.1 (led o s.1).toNat))
def rsI (o : Int) (ld : Nat → Nat) (b : Nat) (B : Nat → Nat → Int) (f : Nat → Int) : Nat → (Nat → Int) × (Nat → Int)
  | 0 => (f, fun _ => 0)
  | n + 1 => if led o (rsI o ld b B f n).1 < 0 then rsI o ld b B f n else rsS o ld b B (rsI o ld b B f n)
noncomputable def n496 : Nat := Classical.choose (⟨496, rfl⟩ : ∃ n : Nat, n = 496)
theorem n496_eq : n496 = 496 := Classical.choose_spec (⟨496, rfl⟩ : ∃ n : Nat, n = 496)
noncomputable def rsN (o : Int) (ld : Nat → Nat) (b : Nat) (B : Nat → Nat → Int) (f : Nat → Int) : Nat := fnd (fun k => decide (led o (rsI o ld b B f k).1 < 0)) (n496 + 1)
/-- the end, the rest -/
noncomputable def rsE (o : Int) (ld : Nat → Nat) (b : Nat) (B : Nat → Nat → Int) (f : Nat → Int) : (Nat → Int) × (Nat → Int) := rsI o ld b B f n496
noncomputable def rsF (o : Int) (ld : Nat → Nat) (b : Nat) (B : Nat → Nat → Int) (f : Nat → Int) : Nat → Int := (rsE o ld b B f).2
/-- divisors with their leads -/
def Dv (o : Int) (ld : Nat → Nat) (b : Nat) (B : Nat → Nat → Int) : Prop := ∀ j, j < b → ld j < 496 ∧ B j (ld j) ≠ 0 ∧ (∀ v, v < 496 → B j v ≠ 0 → rk o v ≤ rk o (ld j)) ∧ (∀ v, 0 ≤ B j v ∧ B j v < 10007)
theorem led_neg {o : Int} {f : Nat → Int} : led o f < 0 ↔ ∀ v, v < 496 → f v = 0 := by
  by_cases h : zt f = 496
  · constructor
    · intro _ v hv
      have := zt_no (f := f) (k := 495 - v) (by omega)
      rw [show 495 - (495 - v) = v by omega] at this
      exact this
    · intro _
      unfold led
      rw [if_pos h]
      omega
  · obtain ⟨w, hw, hl, hf⟩ := led_some (o := o) h
    constructor
    · intro q; omega
    · intro q; exact absurd (q w hw) hf
theorem led_ge (o : Int) (f : Nat → Int) : -1 ≤ led o f := by
  by_cases h : zt f = 496
  · unfold led
    rw [if_pos h]
    omega
  · obtain ⟨w, hw, hl, hf⟩ := led_some (o := o) h
    omega
theorem led_get {o : Int} {f : Nat → Int} (h : ¬ led o f < 0) : ∃ w, w < 496 ∧ led o f = (w : Nat) ∧ f w ≠ 0 ∧ (∀ v, v < 496 → f v ≠ 0 → rk o v ≤ rk o w) := by
  refine led_max fun q => h ?_
  unfold led
  rw [if_pos q]
  omega
theorem led_of {o : Int} {f : Nat → Int} {w : Nat} (hw : w < 496) (hf : f w ≠ 0) (hm : ∀ v, v < 496 → f v ≠ 0 → rk o v ≤ rk o w) : led o f = (w : Nat) := by
  have h : ¬ led o f < 0 := fun q => hf (led_neg.mp q w hw)
  obtain ⟨v, hv, hl, hfv, hmv⟩ := led_get h
  rw [hl, rk_inj (Nat.le_antisymm (hmv w hw hf) (hm v hv hfv))]
theorem dgr_led {o : Int} {f : Nat → Int} {w : Nat} (hw : w < 496) (hf : f w ≠ 0) (hm : ∀ v, v < 496 → f v ≠ 0 → rk o v ≤ rk o w) : dgr f = (wn w : Nat) := by
  have a := dgr_ge hw hf
  have b : dgr f ≤ (wn w : Nat) := dgr_le (by omega) (fun v hv q => by
    refine Decidable.byContradiction fun e => ?_
    have := rk_le_wn (hm v hv e)
    omega)
  omega
section STEP
variable {o : Int} {ld : Nat → Nat} {b : Nat} {B : Nat → Nat → Int}
theorem rsC_b (f : Nat → Int) : 0 ≤ rsC o ld b B f ∧ rsC o ld b B f < 10007 := by unfold rsC; omega
theorem rsC_p {f : Nat → Int} {w : Nat} (hB : Dv o ld b B) (hr : resd f) (hw : w < 496) (hl : led o f = (w : Nat)) (hf : f w ≠ 0) (hk : rsK o ld b f < b) : 0 < rsC o ld b B f ∧ (f w + (10007 - rsC o ld b B f) * B (rsK o ld b f) (ld (rsK o ld b f))) % 10007 = 0 := by
  have hd := hB _ hk
  have hb := hd.2.2.2 (ld (rsK o ld b f))
  have hv := hr w hw
  have hi := inv_ok (v := B (rsK o ld b f) (ld (rsK o ld b f))) (by have := hd.2.1; omega)
  have e : rsC o ld b B f = f w * inv (B (rsK o ld b f) (ld (rsK o ld b f))) % 10007 := by unfold rsC; rw [hl]; rfl
  generalize B (rsK o ld b f) (ld (rsK o ld b f)) = v at *
  have e2 : rsC o ld b B f * v % 10007 = f w := by
    rw [e, em1, Int.mul_assoc, Int.mul_comm (inv v) v, Int.mul_emod, hi, Int.mul_one, Int.emod_emod_of_dvd _ (Int.dvd_refl _)]
    omega
  constructor
  · have := rsC_b (o := o) (ld := ld) (b := b) (B := B) f
    refine Decidable.byContradiction fun q => ?_
    have z : rsC o ld b B f = 0 := by omega
    rw [z, Int.zero_mul] at e2
    omega
  · rw [Int.sub_mul]
    omega
theorem rsS_ok {s : (Nat → Int) × (Nat → Int)} (hB : Dv o ld b B) (hr : resd s.1) (h2 : resd s.2) (hn : ¬ led o s.1 < 0) : resd (rsS o ld b B s).1 ∧ resd (rsS o ld b B s).2 ∧ ∀ v, v < 496 → (rsS o ld b B s).1 v ≠ 0 → rk o v < rk o (led o s.1).toNat := by
  obtain ⟨w, hw, hl, hf, hm⟩ := led_get hn
  have hv := hr w hw
  have ew : (led o s.1).toNat = w := by rw [hl]; rfl
  by_cases c : rsK o ld b s.1 < b
  · have eS : rsS o ld b B s = (abF (xw w - xw (ld (rsK o ld b s.1))) (dw w - dw (ld (rsK o ld b s.1))) (10007 - rsC o ld b B s.1) (B (rsK o ld b s.1)) s.1 (wds (B (rsK o ld b s.1))), s.2) := by
      unfold rsS
      rw [if_pos c, ew]
    generalize hA : abF (xw w - xw (ld (rsK o ld b s.1))) (dw w - dw (ld (rsK o ld b s.1))) (10007 - rsC o ld b B s.1) (B (rsK o ld b s.1)) s.1 (wds (B (rsK o ld b s.1))) = A at eS
    rw [eS, ew]
    refine ⟨?_, h2, fun v hv2 hne => ?_⟩
    · show resd A
      rw [← hA]
      exact abF_b hr _
    have hd := hB _ c
    have hC := rsC_p hB hr hw hl hf c
    have hCb := rsC_b (o := o) (ld := ld) (b := b) (B := B) s.1
    have hle : xw (ld (rsK o ld b s.1)) ≤ xw w ∧ dw (ld (rsK o ld b s.1)) ≤ dw w := by
      have e : rsK o ld b s.1 = fbl ld b w := by unfold rsK; rw [hl]; rfl
      have := fbl_yes (ld := ld) (b := b) (w := w) (by rw [← e]; exact c)
      rw [← e] at this
      exact this
    have hlw := lt_wds (f := B (rsK o ld b s.1)) hd.1 hd.2.1
    have h496 := wds_496 (B (rsK o ld b s.1))
    have ev := abF_v (p := xw w - xw (ld (rsK o ld b s.1))) (q := dw w - dw (ld (rsK o ld b s.1))) (c := 10007 - rsC o ld b B s.1) (g := B (rsK o ld b s.1)) (f := s.1) hr (by omega) hd.2.2.2 hv2 (wds (B (rsK o ld b s.1)))
    have hne' : A v ≠ 0 := hne
    rw [← hA, ev] at hne'
    refine Decidable.byContradiction fun q => hne' ?_
    by_cases e : v = w
    · subst e
      rw [cor_w hd.2.2.1 hle.1 hle.2 h496 hlw]
      exact hC.2
    · have hlt : rk o w < rk o v := by
        have : rk o v ≠ rk o w := fun z => e (rk_inj z)
        omega
      rw [cor_u hd.2.2.1 hle.1 hle.2 h496 hlt, Int.mul_zero, Int.add_zero]
      have : s.1 v = 0 := Decidable.byContradiction fun z => by
        have := hm v hv2 z
        omega
      rw [this]
      rfl
  · have eS : rsS o ld b B s = (au s.1 w 0, au s.2 w (s.1 w)) := by
      unfold rsS
      rw [if_neg c, ew]
    rw [eS, ew]
    refine ⟨fun k hk => ?_, fun k hk => ?_, fun v hv2 hne => ?_⟩
    · show 0 ≤ au s.1 w 0 k ∧ au s.1 w 0 k < 10007
      rw [au_i]
      have := hr k hk
      split <;> omega
    · show 0 ≤ au s.2 w (s.1 w) k ∧ au s.2 w (s.1 w) k < 10007
      rw [au_i]
      have := h2 k hk
      split <;> omega
    · have hne' : au s.1 w 0 v ≠ 0 := hne
      rw [au_i] at hne'
      by_cases e : v = w
      · exact absurd (if_pos e) hne'
      · rw [if_neg e] at hne'
        have h1 := hm v hv2 hne'
        have : rk o v ≠ rk o w := fun z => e (rk_inj z)
        omega
theorem rsI_ok {f : Nat → Int} (hB : Dv o ld b B) (hr : resd f) (n : Nat) : resd (rsI o ld b B f n).1 ∧ resd (rsI o ld b B f n).2 ∧ ∀ v, v < 496 → (rsI o ld b B f n).1 v ≠ 0 → rk o v + n < 496 := by
  induction n with
  | zero => exact ⟨hr, fun k _ => ⟨Int.le_refl 0, by show (0 : Int) < 10007; decide⟩, fun v hv _ => rk_lt hv⟩
  | succ n ih =>
    by_cases c : led o (rsI o ld b B f n).1 < 0
    · have e : rsI o ld b B f (n + 1) = rsI o ld b B f n := if_pos c
      rw [e]
      exact ⟨ih.1, ih.2.1, fun v hv q => absurd (led_neg.mp c v hv) q⟩
    · have e : rsI o ld b B f (n + 1) = rsS o ld b B (rsI o ld b B f n) := if_neg c
      have h := rsS_ok hB ih.1 ih.2.1 c
      obtain ⟨w, hw, hl, hf, hm⟩ := led_get c
      rw [e]
      refine ⟨h.1, h.2.1, fun v hv q => ?_⟩
      have h1 := h.2.2 v hv q
      have h2 := ih.2.2 w hw hf
      rw [hl] at h1
      have h3 : rk o v < rk o w := h1
      omega
theorem rsI_end {f : Nat → Int} (hB : Dv o ld b B) (hr : resd f) : led o (rsI o ld b B f 496).1 < 0 := by
  refine led_neg.mpr fun v hv => Decidable.byContradiction fun q => ?_
  have := (rsI_ok hB hr 496).2.2 v hv q
  omega
theorem rsN_le {f : Nat → Int} (hB : Dv o ld b B) (hr : resd f) : rsN o ld b B f ≤ 496 := by
  refine Nat.not_lt.mp fun q => ?_
  exact of_decide_eq_false (fnd_no (p := fun k => decide (led o (rsI o ld b B f k).1 < 0)) q) (rsI_end hB hr)
theorem rsN_no {f : Nat → Int} {k : Nat} (h : k < rsN o ld b B f) : ¬ led o (rsI o ld b B f k).1 < 0 := of_decide_eq_false (fnd_no (p := fun k => decide (led o (rsI o ld b B f k).1 < 0)) h)
theorem rsN_yes {f : Nat → Int} (hB : Dv o ld b B) (hr : resd f) : led o (rsI o ld b B f (rsN o ld b B f)).1 < 0 := of_decide_eq_true (fnd_yes (p := fun k => decide (led o (rsI o ld b B f k).1 < 0)) (by have := rsN_le hB hr; unfold rsN at this; have := n496_eq; omega))
theorem rsI_stop {f : Nat → Int} {n : Nat} (h : led o (rsI o ld b B f n).1 < 0) (m : Nat) : rsI o ld b B f (n + m) = rsI o ld b B f n := by
  induction m with
  | zero => rfl
  | succ m ih =>
    show (if led o (rsI o ld b B f (n + m)).1 < 0 then rsI o ld b B f (n + m) else _) = _
    rw [ih, if_pos h]
theorem rsF_N {f : Nat → Int} (hB : Dv o ld b B) (hr : resd f) : rsI o ld b B f (rsN o ld b B f) = rsE o ld b B f := by
  unfold rsE
  rw [n496_eq]
  have := rsI_stop (rsN_yes hB hr) (496 - rsN o ld b B f)
  rw [show rsN o ld b B f + (496 - rsN o ld b B f) = 496 by have := rsN_le hB hr; omega] at this
  exact this.symm
theorem rsF_r {f : Nat → Int} (hB : Dv o ld b B) (hr : resd f) : resd (rsF o ld b B f) := by
  unfold rsF
  rw [← rsF_N hB hr]
  exact (rsI_ok hB hr _).2.1
end STEP
/-- the rows of rests -/
def rsH (I : Nat → Nat → Int) (s : (Nat → Int) × (Nat → Int)) : Nat → Nat → Int := sro (sro I 25 s.2) 24 s.1
theorem rsH_mk {I : Nat → Nat → Int} {f g : Nat → Int} : rsH I (f, g) = sro (sro I 25 g) 24 f := rfl
theorem rsH_24 {I : Nat → Nat → Int} {s : (Nat → Int) × (Nat → Int)} (k : Nat) (hk : k < 496) : gro (rsH I s) 24 k = s.1 k := gro_s hk
theorem rsH_25 {I : Nat → Nat → Int} {s : (Nat → Int) × (Nat → Int)} (k : Nat) (hk : k < 496) : gro (rsH I s) 25 k = s.2 k := (gro_n hk (by decide)).trans (gro_s hk)
theorem rsH_o {I : Nat → Nat → Int} {s : (Nat → Int) × (Nat → Int)} {r : Nat} (h1 : r ≠ 24) (h2 : r ≠ 25) (k : Nat) (hk : k < 496) : gro (rsH I s) r k = gro I r k := (gro_n hk h1).trans (gro_n hk h2)
theorem rsH_w {I : Nat → Nat → Int} {s : (Nat → Int) × (Nat → Int)} {w : Nat} (hw : w < 496) {c v : Int} : sro (sro (rsH I s) 25 (au (gro (rsH I s) 25) w c)) 24 (au (gro (sro (rsH I s) 25 (au (gro (rsH I s) 25) w c)) 24) w v) = rsH I (au s.1 w v, au s.2 w c) := by
  unfold rsH
  rw [sro_cm (I := sro I 25 s.2) (r := 24) (q := 25) (by decide), sro_sro, sro_sro]
  rw [sro_c (I := I) (r := 25) (g := au s.2 w c) (fun k hk => by
    rw [au_i, au_i]
    split
    · rfl
    · exact (gro_n hk (by decide)).trans (gro_s hk))]
  refine sro_c fun k hk => ?_
  rw [au_i]
  show _ = au s.1 w v k
  rw [au_i]
  split
  · rfl
  · rw [gro_s hk]
theorem rsH_R {I : Nat → Nat → Int} {s : (Nat → Int) × (Nat → Int)} (h : Res I) (h1 : resd s.1) (h2 : resd s.2) : Res (rsH I s) := Res_s (Res_s h h2) h1
theorem rsH_T {I : Nat → Nat → Int} {s : (Nat → Int) × (Nat → Int)} (h : Tabs I) : Tabs (rsH I s) := Tabs_s (Tabs_s h)
set_option maxRecDepth 10000 in
theorem st_rests_t {d L : Nat} {I : Nat → Nat → Int} {R : Nat → Nat → Option Nat} {u : Int64} (hF : FixR R) (hR : Res I) (hT : Tabs I) {o : Int} (ho : I 302 608 = o) (h0 : o = 0 ∨ o = 1) {rr ld : Nat → Nat} {b : Nat} (hb : I 301 13 = b) (hb2 : b ≤ 24) (hby : ∀ j, j < b → I 312 j = (rr j : Nat) ∧ rr j < 24) (hl : ∀ j, j < b → I 313 j = (ld j : Nat) ∧ ld j < 496) (hp : ∀ j, j < b → I 314 j = inv (gro I (rr j) (ld j))) {s : (Nat → Int) × (Nat → Int)} (h1 : resd s.1) (h2 : resd s.2) {w : Nat} (hw : w < 496) (hm : ∀ v, v < 496 → s.1 v ≠ 0 → rk o v ≤ rk o w) (hf : s.1 w ≠ 0) (hB : Dv o ld b (fun j => gro I (rr j))) (c : fbl ld b w < b) {a3 a4 a5 : am_V} : am_ev (am_run am_tb (d + 3)) wX12_rests_16 ([vR 301, vI 25, vI w, a3, a4, a5], [], LH L (rsH I s) R u) = some (18, [vR 301, vI 25, vI (led o (rsS o ld b (fun j => gro I (rr j)) s).1), vI (s.1 w), vI (fbl ld b w : Nat), vI (rsC o ld b (fun j => gro I (rr j)) s.1)], [], LH L (rsH I (rsS o ld b (fun j => gro I (rr j)) s)) R u) := by
  have hwl := led_of hw hf hm
  have hK : rsK o ld b s.1 = fbl ld b w := by unfold rsK; rw [hwl]; rfl
  have hCe : rsC o ld b (fun j => gro I (rr j)) s.1 = s.1 w * inv (gro I (rr (fbl ld b w)) (ld (fbl ld b w))) % 10007 := by unfold rsC; rw [hwl, hK]; rfl
  have hn : ¬ led o s.1 < 0 := by rw [hwl]; omega
  have hok := rsS_ok hB h1 h2 hn
  have hSe : rsS o ld b (fun j => gro I (rr j)) s = (abF (xw w - xw (ld (fbl ld b w))) (dw w - dw (ld (fbl ld b w))) (10007 - rsC o ld b (fun j => gro I (rr j)) s.1) (gro I (rr (fbl ld b w))) s.1 (wds (gro I (rr (fbl ld b w)))), s.2) := by unfold rsS; rw [hwl, hK, if_pos c]; rfl
  have hCp := (rsC_p hB h1 hw hwl hf (by rw [hK]; exact c)).1
  have hCb := rsC_b (o := o) (ld := ld) (b := b) (B := (fun j => gro I (rr j))) s.1
  have hle := fbl_yes c
  have hL := (hl (fbl ld b w) c).2
  have hr24 := (hby (fbl ld b w) c).2
  have hw1 := h1 w hw
  have hfl := fbl_le ld b w
  have hiv := inv_b (v := gro I (rr (fbl ld b w)) (ld (fbl ld b w)))
  have hpr := mul_b (m := 10006) (n := 10006) (show 0 ≤ s.1 w ∧ s.1 w ≤ 10006 by omega) (show 0 ≤ inv (gro I (rr (fbl ld b w)) (ld (fbl ld b w))) ∧ inv (gro I (rr (fbl ld b w)) (ld (fbl ld b w))) ≤ 10006 by omega)
  have hxd := xw_dw w
  have hxl := xw_dw (ld (fbl ld b w))
  have h30 := wn_30 hw
  have hx30 := wn_30 hL
  have hdv := hB _ c
  have hdg : dgr (gro (sro I 25 s.2) (rr (fbl ld b w))) = (wn (ld (fbl ld b w)) : Nat) := by
    rw [dgr_c (g := gro I (rr (fbl ld b w))) (fun k hk => gro_n hk (by omega))]
    exact dgr_led hdv.1 hdv.2.1 hdv.2.2.1
  have hab := s_addsBehind (d := d) (L := L) (u := u) (I := sro I 25 s.2) hF (p := xw w - xw (ld (fbl ld b w))) (q := dw w - dw (ld (fbl ld b w))) (fr := rr (fbl ld b w)) (to := 24) (c := 10007 - rsC o ld b (fun j => gro I (rr j)) s.1) (f := s.1) (Res_s hR h2) h1 (Tabs_s hT) (by omega) (by rw [hdg]; omega) (by omega) (by omega) (by omega)
  rw [wds_c (g := gro I (rr (fbl ld b w))) (fun k hk => gro_n hk (by omega)), abF_c (g' := gro I (rr (fbl ld b w))) (fun k hk => gro_n hk (by omega)) (wds_496 _), show sro (sro I 25 s.2) 24 (abF (xw w - xw (ld (fbl ld b w))) (dw w - dw (ld (fbl ld b w))) (10007 - rsC o ld b (fun j => gro I (rr j)) s.1) (gro I (rr (fbl ld b w))) s.1 (wds (gro I (rr (fbl ld b w))))) = rsH I (rsS o ld b (fun j => gro I (rr j)) s) by rw [hSe, rsH_mk]] at hab
  have hld := s_leadIn (d := d) (L := L) (u := u) (I := rsH I (rsS o ld b (fun j => gro I (rr j)) s)) hF (rsH_R hR hok.1 hok.2.1) (rsH_T hT) (o := o) ho h0 (row := 24) (by omega)
  rw [led_c (g := (rsS o ld b (fun j => gro I (rr j)) s).1) (fun k hk => rsH_24 k hk)] at hld
  unfold wX12_rests_16
  apply t_Q
  · apply t_B
    · refine x_iload_n rfl ?_
      exact rfl
    exact t_if_lt_f (by omega)
  apply t_Q
  · apply t_S
    refine x_aload_n rfl ?_
    refine x_gr tg_301 rfl (fx_301_6 hF) ?_
    refine x_sipush ?_
    refine x_iload_n rfl ?_
    refine x_iadd ?_
    refine x_wld 24 w ⟨by omega, by omega, hw⟩ (show _ = s.1 w from rsH_24 w hw) ?_
    refine x_istore_n rfl ?_
    refine x_aload_n rfl ?_
    refine x_iload_n rfl ?_
    refine x_V2i tg_301 (Nat.le_of_ble_eq_true rfl) (s_firstBelow (d := d + 1) (I := rsH I s) hF (rsH_T hT) (ld := ld) hb hb2 hl hw) ?_
    refine x_istore rfl ?_
    refine x_iload rfl ?_
    refine x_aload_n rfl ?_
    refine x_giv tg_301 rfl (show _ = (b : Int) from hb) ?_
    exact rfl
  apply t_Q
  · apply t_K
    apply t_Qs
    apply t_Ks
    · apply t_Q
      · apply t_B
        · exact rfl
        exact t_ic_ge_f (by omega)
      apply t_B
      · refine x_iload_n rfl ?_
        refine x_aload_n rfl ?_
        refine x_gr tg_301 rfl (fx_301_15 hF) ?_
        refine x_iload rfl ?_
        refine x_ialdv (Or.inl tg_314) (ln_314 L) (by omega) (show _ = inv (gro I (rr (fbl ld b w)) (ld (fbl ld b w))) from hp _ c) ?_
        refine x_imul ?_
        refine x_sipush ?_
        refine x_irem0 (by omega) ?_
        rw [← hCe]
        refine x_istore rfl ?_
        refine x_aload_n rfl ?_
        refine x_aload_n rfl ?_
        refine x_gr tg_301 rfl (fx_301_7 hF) ?_
        refine x_iload_n rfl ?_
        refine x_ialdv (Or.inl tg_307) (ln_307 L) (by omega) (show _ = ((xw w : Nat) : Int) from hT.1 w hw) ?_
        refine x_aload_n rfl ?_
        refine x_gr tg_301 rfl (fx_301_7 hF) ?_
        refine x_aload_n rfl ?_
        refine x_gr tg_301 rfl (fx_301_14 hF) ?_
        refine x_iload rfl ?_
        refine x_ialdv (Or.inl tg_313) (ln_313 L) (by omega) (show _ = ((ld (fbl ld b w) : Nat) : Int) from (hl (fbl ld b w) c).1) ?_
        refine x_ialdv (Or.inl tg_307) (ln_307 L) (by omega) (show _ = ((xw (ld (fbl ld b w)) : Nat) : Int) from hT.1 _ hL) ?_
        refine x_isub ?_
        rw [show ((xw w : Nat) : Int) - ((xw (ld (fbl ld b w)) : Nat) : Int) = ((xw w - xw (ld (fbl ld b w)) : Nat) : Int) by omega]
        refine x_aload_n rfl ?_
        refine x_gr tg_301 rfl (fx_301_8 hF) ?_
        refine x_iload_n rfl ?_
        refine x_ialdv (Or.inl tg_308) (ln_308 L) (by omega) (show _ = ((dw w : Nat) : Int) from hT.2.1 w hw) ?_
        refine x_aload_n rfl ?_
        refine x_gr tg_301 rfl (fx_301_8 hF) ?_
        refine x_aload_n rfl ?_
        refine x_gr tg_301 rfl (fx_301_14 hF) ?_
        refine x_iload rfl ?_
        refine x_ialdv (Or.inl tg_313) (ln_313 L) (by omega) (show _ = ((ld (fbl ld b w) : Nat) : Int) from (hl (fbl ld b w) c).1) ?_
        refine x_ialdv (Or.inl tg_308) (ln_308 L) (by omega) (show _ = ((dw (ld (fbl ld b w)) : Nat) : Int) from hT.2.1 _ hL) ?_
        refine x_isub ?_
        rw [show ((dw w : Nat) : Int) - ((dw (ld (fbl ld b w)) : Nat) : Int) = ((dw w - dw (ld (fbl ld b w)) : Nat) : Int) by omega]
        refine x_sipush ?_
        refine x_iload rfl ?_
        refine x_isub ?_
        refine x_aload_n rfl ?_
        refine x_gr tg_301 rfl (fx_301_12 hF) ?_
        refine x_iload rfl ?_
        refine x_ialdv (Or.inl tg_312) (ln_312 L) (by omega) (show _ = ((rr (fbl ld b w) : Nat) : Int) from (hby _ c).1) ?_
        refine x_bipush ?_
        refine x_V6v tg_301 (Nat.le_of_ble_eq_true rfl) (hab) ?_
        exact rfl
      exact t_goto
    · decide
  apply t_B
  · refine x_aload_n rfl ?_
    refine x_bipush ?_
    refine x_V2i tg_301 (Nat.le_of_ble_eq_true rfl) (hld) ?_
    refine x_istore_n rfl ?_
    exact rfl
  exact t_goto
set_option maxRecDepth 10000 in
theorem st_rests_f {d L : Nat} {I : Nat → Nat → Int} {R : Nat → Nat → Option Nat} {u : Int64} (hF : FixR R) (hR : Res I) (hT : Tabs I) {o : Int} (ho : I 302 608 = o) (h0 : o = 0 ∨ o = 1) {rr ld : Nat → Nat} {b : Nat} (hb : I 301 13 = b) (hb2 : b ≤ 24) (hby : ∀ j, j < b → I 312 j = (rr j : Nat) ∧ rr j < 24) (hl : ∀ j, j < b → I 313 j = (ld j : Nat) ∧ ld j < 496) (hp : ∀ j, j < b → I 314 j = inv (gro I (rr j) (ld j))) {s : (Nat → Int) × (Nat → Int)} (h1 : resd s.1) (h2 : resd s.2) {w : Nat} (hw : w < 496) (hm : ∀ v, v < 496 → s.1 v ≠ 0 → rk o v ≤ rk o w) (hf : s.1 w ≠ 0) (hB : Dv o ld b (fun j => gro I (rr j))) (c : ¬ fbl ld b w < b) {a3 a4 a5 : am_V} : am_ev (am_run am_tb (d + 3)) wX12_rests_16 ([vR 301, vI 25, vI w, a3, a4, a5], [], LH L (rsH I s) R u) = some (18, [vR 301, vI 25, vI (led o (rsS o ld b (fun j => gro I (rr j)) s).1), vI (s.1 w), vI (fbl ld b w : Nat), a5], [], LH L (rsH I (rsS o ld b (fun j => gro I (rr j)) s)) R u) := by
  have hwl := led_of hw hf hm
  have hK : rsK o ld b s.1 = fbl ld b w := by unfold rsK; rw [hwl]; rfl
  have hn : ¬ led o s.1 < 0 := by rw [hwl]; omega
  have hok := rsS_ok hB h1 h2 hn
  have hSe : rsS o ld b (fun j => gro I (rr j)) s = (au s.1 w 0, au s.2 w (s.1 w)) := by unfold rsS; rw [hwl, hK, if_neg c]; rfl
  have hw1 := h1 w hw
  have hfl := fbl_le ld b w
  have hwe := rsH_w (I := I) (s := s) hw (c := s.1 w) (v := 0)
  rw [← hSe] at hwe
  have hld := s_leadIn (d := d) (L := L) (u := u) (I := rsH I (rsS o ld b (fun j => gro I (rr j)) s)) hF (rsH_R hR hok.1 hok.2.1) (rsH_T hT) (o := o) ho h0 (row := 24) (by omega)
  rw [led_c (g := (rsS o ld b (fun j => gro I (rr j)) s).1) (fun k hk => rsH_24 k hk)] at hld
  unfold wX12_rests_16
  apply t_Q
  · apply t_B
    · refine x_iload_n rfl ?_
      exact rfl
    exact t_if_lt_f (by omega)
  apply t_Q
  · apply t_S
    refine x_aload_n rfl ?_
    refine x_gr tg_301 rfl (fx_301_6 hF) ?_
    refine x_sipush ?_
    refine x_iload_n rfl ?_
    refine x_iadd ?_
    refine x_wld 24 w ⟨by omega, by omega, hw⟩ (show _ = s.1 w from rsH_24 w hw) ?_
    refine x_istore_n rfl ?_
    refine x_aload_n rfl ?_
    refine x_iload_n rfl ?_
    refine x_V2i tg_301 (Nat.le_of_ble_eq_true rfl) (s_firstBelow (d := d + 1) (I := rsH I s) hF (rsH_T hT) (ld := ld) hb hb2 hl hw) ?_
    refine x_istore rfl ?_
    refine x_iload rfl ?_
    refine x_aload_n rfl ?_
    refine x_giv tg_301 rfl (show _ = (b : Int) from hb) ?_
    exact rfl
  apply t_Q
  · apply t_Ks
    · apply t_Q
      · apply t_K
        apply t_Qs
        apply t_B
        · exact rfl
        exact t_ic_ge_t (by omega)
      apply t_S
      refine x_aload_n rfl ?_
      refine x_gr tg_301 rfl (fx_301_6 hF) ?_
      refine x_sipush ?_
      refine x_iload_n rfl ?_
      refine x_imul ?_
      refine x_iload_n rfl ?_
      refine x_iadd ?_
      refine x_iload_n rfl ?_
      refine x_wst0 25 w ⟨by omega, by omega, hw⟩ ?_
      refine x_aload_n rfl ?_
      refine x_gr tg_301 rfl (fx_301_6 hF) ?_
      refine x_sipush ?_
      refine x_iload_n rfl ?_
      refine x_iadd ?_
      refine x_iconst ?_
      refine x_wst0 24 w ⟨by omega, by omega, hw⟩ ?_
      rw [hwe]
      exact rfl
    · decide
  apply t_B
  · refine x_aload_n rfl ?_
    refine x_bipush ?_
    refine x_V2i tg_301 (Nat.le_of_ble_eq_true rfl) (hld) ?_
    refine x_istore_n rfl ?_
    exact rfl
  exact t_goto
def rs3 (o : Int) (ld : Nat → Nat) (b : Nat) (B : Nat → Nat → Int) (f : Nat → Int) : Nat → am_V
  | 0 => vU
  | n + 1 => if led o (rsI o ld b B f n).1 < 0 then rs3 o ld b B f n else vI ((rsI o ld b B f n).1 (led o (rsI o ld b B f n).1).toNat)
def rs4 (o : Int) (ld : Nat → Nat) (b : Nat) (B : Nat → Nat → Int) (f : Nat → Int) : Nat → am_V
  | 0 => vU
  | n + 1 => if led o (rsI o ld b B f n).1 < 0 then rs4 o ld b B f n else vI (rsK o ld b (rsI o ld b B f n).1 : Nat)
def rs5 (o : Int) (ld : Nat → Nat) (b : Nat) (B : Nat → Nat → Int) (f : Nat → Int) : Nat → am_V
  | 0 => vU
  | n + 1 => if rsK o ld b (rsI o ld b B f n).1 < b then vI (rsC o ld b B (rsI o ld b B f n).1) else rs5 o ld b B f n
set_option maxRecDepth 10000 in
theorem lp_rests {d L : Nat} {I : Nat → Nat → Int} {R : Nat → Nat → Option Nat} {u : Int64} (hF : FixR R) (hR : Res I) (hT : Tabs I) {o : Int} (ho : I 302 608 = o) (h0 : o = 0 ∨ o = 1) {rr ld : Nat → Nat} {b : Nat} (hb : I 301 13 = b) (hb2 : b ≤ 24) (hby : ∀ j, j < b → I 312 j = (rr j : Nat) ∧ rr j < 24) (hl : ∀ j, j < b → I 313 j = (ld j : Nat) ∧ ld j < 496) (hp : ∀ j, j < b → I 314 j = inv (gro I (rr j) (ld j))) {f : Nat → Int} (hf : resd f) (hB : Dv o ld b (fun j => gro I (rr j))) : am_lp (am_ev (am_run am_tb (d + 3)) wX12_rests_16) 16 am_F ([vR 301, vI 25, vI (led o f), vU, vU, vU], [], LH L (rsH I (f, fun _ => 0)) R u) = some (158, ([vR 301, vI 25, vI (led o (rsI o ld b (fun j => gro I (rr j)) f (rsN o ld b (fun j => gro I (rr j)) f)).1), rs3 o ld b (fun j => gro I (rr j)) f (rsN o ld b (fun j => gro I (rr j)) f), rs4 o ld b (fun j => gro I (rr j)) f (rsN o ld b (fun j => gro I (rr j)) f), rs5 o ld b (fun j => gro I (rr j)) f (rsN o ld b (fun j => gro I (rr j)) f)], [], LH L (rsH I (rsI o ld b (fun j => gro I (rr j)) f (rsN o ld b (fun j => gro I (rr j)) f))) R u)) := by
  have hle := rsN_le hB hf
  refine lp_up0 (fun k => ([vR 301, vI 25, vI (led o (rsI o ld b (fun j => gro I (rr j)) f k).1), rs3 o ld b (fun j => gro I (rr j)) f k, rs4 o ld b (fun j => gro I (rr j)) f k, rs5 o ld b (fun j => gro I (rr j)) f k], [], LH L (rsH I (rsI o ld b (fun j => gro I (rr j)) f k)) R u)) (rsN o ld b (fun j => gro I (rr j)) f) rfl (ltF (by omega)) (by show ¬ 158 = 16 + 2; decide) (fun k hk => ?_) ?_
  · have hn := rsN_no hk
    have hok := rsI_ok hB hf k
    obtain ⟨w, hw, hwl, hfw, hm⟩ := led_get hn
    have hK : rsK o ld b (rsI o ld b (fun j => gro I (rr j)) f k).1 = fbl ld b w := by unfold rsK; rw [hwl]; rfl
    have e1 : rsI o ld b (fun j => gro I (rr j)) f (k + 1) = rsS o ld b (fun j => gro I (rr j)) (rsI o ld b (fun j => gro I (rr j)) f k) := if_neg hn
    have e3 : rs3 o ld b (fun j => gro I (rr j)) f (k + 1) = vI ((rsI o ld b (fun j => gro I (rr j)) f k).1 w) := by
      show (if _ then _ else _) = _
      rw [if_neg hn, hwl]; rfl
    have e4 : rs4 o ld b (fun j => gro I (rr j)) f (k + 1) = vI (fbl ld b w : Nat) := by
      show (if _ then _ else _) = _
      rw [if_neg hn, hK]
    show am_ev _ _ ([vR 301, vI 25, vI (led o (rsI o ld b (fun j => gro I (rr j)) f k).1), rs3 o ld b (fun j => gro I (rr j)) f k, rs4 o ld b (fun j => gro I (rr j)) f k, rs5 o ld b (fun j => gro I (rr j)) f k], [], LH L (rsH I (rsI o ld b (fun j => gro I (rr j)) f k)) R u) = some (18, ([vR 301, vI 25, vI (led o (rsI o ld b (fun j => gro I (rr j)) f (k + 1)).1), rs3 o ld b (fun j => gro I (rr j)) f (k + 1), rs4 o ld b (fun j => gro I (rr j)) f (k + 1), rs5 o ld b (fun j => gro I (rr j)) f (k + 1)], [], LH L (rsH I (rsI o ld b (fun j => gro I (rr j)) f (k + 1))) R u))
    rw [e1, e3, e4, hwl]
    by_cases c : fbl ld b w < b
    · have e5 : rs5 o ld b (fun j => gro I (rr j)) f (k + 1) = vI (rsC o ld b (fun j => gro I (rr j)) (rsI o ld b (fun j => gro I (rr j)) f k).1) := by
        show (if _ then _ else _) = _
        rw [hK, if_pos c]
      rw [e5]
      exact st_rests_t (d := d) hF hR hT ho h0 hb hb2 hby hl hp hok.1 hok.2.1 hw hm hfw hB c
    · have e5 : rs5 o ld b (fun j => gro I (rr j)) f (k + 1) = rs5 o ld b (fun j => gro I (rr j)) f k := by
        show (if _ then _ else _) = _
        rw [hK, if_neg c]
      rw [e5]
      exact st_rests_f (d := d) hF hR hT ho h0 hb hb2 hby hl hp hok.1 hok.2.1 hw hm hfw hB c
  · have hy := rsN_yes hB hf
    have hy2 := led_ge o (rsI o ld b (fun j => gro I (rr j)) f (rsN o ld b (fun j => gro I (rr j)) f)).1
    show am_ev _ _ ([vR 301, vI 25, vI (led o (rsI o ld b (fun j => gro I (rr j)) f (rsN o ld b (fun j => gro I (rr j)) f)).1), rs3 o ld b (fun j => gro I (rr j)) f (rsN o ld b (fun j => gro I (rr j)) f), rs4 o ld b (fun j => gro I (rr j)) f (rsN o ld b (fun j => gro I (rr j)) f), rs5 o ld b (fun j => gro I (rr j)) f (rsN o ld b (fun j => gro I (rr j)) f)], [], LH L (rsH I (rsI o ld b (fun j => gro I (rr j)) f (rsN o ld b (fun j => gro I (rr j)) f))) R u) = some (158, ([vR 301, vI 25, vI (led o (rsI o ld b (fun j => gro I (rr j)) f (rsN o ld b (fun j => gro I (rr j)) f)).1), rs3 o ld b (fun j => gro I (rr j)) f (rsN o ld b (fun j => gro I (rr j)) f), rs4 o ld b (fun j => gro I (rr j)) f (rsN o ld b (fun j => gro I (rr j)) f), rs5 o ld b (fun j => gro I (rr j)) f (rsN o ld b (fun j => gro I (rr j)) f)], [], LH L (rsH I (rsI o ld b (fun j => gro I (rr j)) f (rsN o ld b (fun j => gro I (rr j)) f))) R u))
    generalize led o (rsI o ld b (fun j => gro I (rr j)) f (rsN o ld b (fun j => gro I (rr j)) f)).1 = lw at hy hy2 ⊢
    unfold wX12_rests_16
    apply t_Qs
    apply t_B
    · refine x_iload_n rfl ?_
      exact rfl
    exact t_if_lt_t (by omega)
set_option maxRecDepth 10000 in
theorem s_rests {d L : Nat} {I : Nat → Nat → Int} {R : Nat → Nat → Option Nat} {u : Int64} (hF : FixR R) (hR : Res I) (hT : Tabs I) {o : Int} (ho : I 302 608 = o) (h0 : o = 0 ∨ o = 1) {rr ld : Nat → Nat} {b : Nat} (hb : I 301 13 = b) (hb2 : b ≤ 24) (hby : ∀ j, j < b → I 312 j = (rr j : Nat) ∧ rr j < 24) {f : Nat → Int} (hf : resd f) (hf24 : ∀ k, k < 496 → gro I 24 k = f k) (hB : Dv o ld b (fun j => gro I (rr j))) : am_run am_tb (d + 5) 186 [vR 301, vI 25] (LH L I R u) = some ([], LH L (rsH (flI I rr ld b) (rsE o ld b (fun j => gro I (rr j)) f)) R u) := by
  refine run_of tb_X12_rests (Nat.le_of_ble_eq_true rfl) ?_
  show ∃ ls', am_ev (am_run am_tb (d + 4)) tX12_rests ([vR 301, vI 25, vU, vU, vU, vU], [], (LH L I R u)) = some (1, ls', [], LH L (rsH (flI I rr ld b) (rsE o ld b (fun j => gro I (rr j)) f)) R u)
  have hld : ∀ j, j < b → led o (gro I (rr j)) = (ld j : Nat) ∧ ld j < 496 := fun j hj => ⟨led_of (hB j hj).1 (hB j hj).2.1 (hB j hj).2.2.1, (hB j hj).1⟩
  have hfl := s_findsLeads (d := d) (L := L) (u := u) (I := I) hF hR hT ho h0 (rr := rr) (ld := ld) hb hb2 (fun j hj => ⟨(hby j hj).1, by have := (hby j hj).2; omega⟩) hld
  have hwp := s_wipe (d := d + 3) (L := L) (u := u) (I := flI I rr ld b) hF (row := 25) (by omega)
  have hH : au (flI I rr ld b) 306 (fun j => if 496 * (25 : Int) ≤ (j : Int) ∧ (j : Int) < 496 * 25 + 496 then 0 else flI I rr ld b 306 j) = rsH (flI I rr ld b) (f, fun _ => 0) := by
    unfold rsH
    rw [sro_cm (by decide)]
    rw [show sro (flI I rr ld b) 24 (f, fun _ => (0 : Int)).1 = flI I rr ld b from sro_id (fun k hk => (hf24 k hk).symm)]
    unfold sro
    refine au_c ?_
    funext j
    by_cases c : j / 496 = 25
    · rw [if_pos c, if_pos (by omega)]
    · rw [if_neg c, if_neg (by omega)]
  rw [hH] at hwp
  have hll := s_leadIn (d := d + 1) (L := L) (u := u) (I := rsH (flI I rr ld b) (f, fun _ => 0)) hF (rsH_R (s := (f, fun _ => 0)) (show Res (flI I rr ld b) from hR) hf (fun k _ => ⟨Int.le_refl 0, by show (0 : Int) < 10007; decide⟩)) (rsH_T (show Tabs (flI I rr ld b) from hT)) (o := o) ho h0 (row := 24) (by omega)
  rw [led_c (g := f) (fun k hk => rsH_24 k hk)] at hll
  rw [← rsF_N hB hf]
  apply Exists.intro
  unfold tX12_rests
  apply t_Q
  · apply t_S
    refine x_aload_n rfl ?_
    refine x_V1v tg_301 (Nat.le_of_ble_eq_true rfl) (hfl) ?_
    refine x_aload_n rfl ?_
    refine x_iload_n rfl ?_
    refine x_V2v tg_301 (Nat.le_of_ble_eq_true rfl) (hwp) ?_
    refine x_aload_n rfl ?_
    refine x_bipush ?_
    refine x_V2i tg_301 (Nat.le_of_ble_eq_true rfl) (hll) ?_
    refine x_istore_n rfl ?_
    exact rfl
  apply t_Q
  · apply t_K
    apply t_W
    exact lp_rests (d := d + 1) (I := flI I rr ld b) hF hR hT ho h0 hb hb2 hby (fun j hj => ⟨(congrFun (au_n _ _ (by decide)) j).trans ((congrFun (au_s _ 313 _) j).trans (if_pos hj)), (hld j hj).2⟩) (fun j hj => (congrFun (au_s _ 314 _) j).trans (if_pos hj)) hf hB
  apply t_B
  · exact rfl
  exact rfl
