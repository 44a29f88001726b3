/-! Agreements: rests. Written by wip/whole/gen_9y.py. -/
theorem rd_step {o : Int} {ld : Nat → Nat} {b : Nat} {B : Nat → Nat → Int} (hB : Dv o ld b B) {s1 s2 F : Nat → Int} (r1 : resd s1) (r2 : resd s2) {w : Nat} (hw : w < 91) (hl : led o s1 = (w : Nat)) (ew : s1 w = F w) (hF : ¬ F w = 0) (hk : fbl ld b w < b) : ∀ v, v < 91 → cnS ld b B F w v = (F v + (10007 - rsC o ld b B s1) * cor (xw w - xw (ld (fbl ld b w))) (dw w - dw (ld (fbl ld b w))) (B (fbl ld b w)) 496 v) % 10007 := by
  intro v hv
  have eK : rsK o ld b s1 = fbl ld b w := by unfold rsK; rw [hl]; rfl
  have eC : rsC o ld b B s1 = F w * inv (B (fbl ld b w) (ld (fbl ld b w))) % 10007 := by
    unfold rsC
    rw [eK, hl, show (((w : Nat) : Int)).toNat = w from Int.toNat_natCast w, ew]
  unfold cnS
  rw [if_pos hk, eC]
  generalize inv (B (fbl ld b w) (ld (fbl ld b w))) = z
  generalize cor (xw w - xw (ld (fbl ld b w))) (dw w - dw (ld (fbl ld b w))) (B (fbl ld b w)) 496 v = y
  have e1 : ((10007 - F w) * z % 10007) % 10007 = (10007 - F w * z % 10007) % 10007 := by
    rw [Int.sub_mul]
    generalize F w * z = x
    omega
  have e2 := md_mul (c := y) e1
  rw [Int.mul_comm y, Int.mul_comm y] at e2
  show (F v + (10007 - F w) * z % 10007 * y) % 10007 = _
  generalize (10007 - F w) * z % 10007 * y = p at *
  generalize (10007 - F w * z % 10007) * y = q at *
  omega
theorem abF_5 {p q : Nat} {c : Int} {g f : Nat → Int} (hf : resd f) (hc : 0 ≤ c ∧ c < 10007) (hg : ∀ k, 0 ≤ g k ∧ g k < 10007) {w : Nat} (hw : w < 496) : abF p q c g f (wds g) w = (f w + c * cor p q g 496 w) % 10007 := by
  rw [abF_v hf hc hg hw, cor_ext (n := wds g) (wds_496 g) (fun k h1 h2 => Decidable.not_not.mp (fun z => by
    have := lt_wds h2 z
    omega))]
/-- after t ranks of the class the reference is somewhere at the same place -/
theorem rd_sim {o : Int} {ld : Nat → Nat} {b : Nat} {B : Nat → Nat → Int} (hB : Dv o ld b B) {f : Nat → Int} (hr : resd f) (hz : ∀ v, 91 ≤ v → v < 496 → f v = 0) (t : Nat) (ht : t ≤ 91) : ∃ n, (∀ v, v < 496 → rk o v < 91 - t → (rsI o ld b B f n).1 v = rdI o ld b B f t v ∧ (rsI o ld b B f n).2 v = 0) ∧ (∀ v, v < 496 → 91 - t ≤ rk o v → (rsI o ld b B f n).1 v = 0 ∧ (rsI o ld b B f n).2 v = if v < 91 then rdI o ld b B f t v else 0) := by
  induction t with
  | zero =>
    refine ⟨0, fun v hv h => ⟨rfl, rfl⟩, fun v hv h => ?_⟩
    have h9 : ¬ v < 91 := fun z => by have := rk_91 (o := o) z; omega
    rw [if_neg h9]
    exact ⟨hz v (by omega) hv, rfl⟩
  | succ t ih =>
    obtain ⟨n, h1, h2⟩ := ih (by omega)
    obtain ⟨r1, r2, _⟩ := rsI_ok hB hr n
    have hw : unr o (90 - t) < 91 := unr_91 (by omega)
    have hrw : rk o (unr o (90 - t)) = 90 - t := rk_unr o _
    have hFb := rdI_b (o := o) (ld := ld) (b := b) (B := B) (f := f) (fun v hv => hr v (by omega)) t
    have eS : rsI o ld b B f (n + 1) = if led o (rsI o ld b B f n).1 < 0 then rsI o ld b B f n else rsS o ld b B (rsI o ld b B f n) := rfl
    have eF : rdI o ld b B f (t + 1) = rdS ld b B (rdI o ld b B f t) (unr o (90 - t)) := rfl
    rw [eF]
    unfold rdS
    generalize rdI o ld b B f t = F at *
    generalize unr o (90 - t) = w at *
    have ew := h1 w (by omega) (by omega)
    have huq : ∀ v, v < 496 → rk o v = 90 - t → v = w := fun v _ h => rk_inj (by rw [h, hrw])
    by_cases c : F w = 0
    · rw [if_pos c]
      refine ⟨n, fun v hv h => h1 v hv (by omega), fun v hv h => ?_⟩
      by_cases e : rk o v = 90 - t
      · rw [huq v hv e, if_pos hw]
        exact ⟨ew.1.trans c, ew.2.trans c.symm⟩
      · exact h2 v hv (by omega)
    · rw [if_neg c]
      refine ⟨n + 1, ?_⟩
      rw [eS]
      generalize rsI o ld b B f n = S at *
      have hl : led o S.1 = (w : Nat) := led_of (by omega) (by rw [ew.1]; exact c) (fun v hv hne => Decidable.not_not.mp fun z => hne (h2 v hv (by omega)).1)
      have hn : ¬ led o S.1 < 0 := by rw [hl]; omega
      rw [if_neg hn]
      obtain ⟨o1, o2, o3⟩ := rsS_ok hB r1 r2 hn
      rw [hl, show (((w : Nat) : Int)).toNat = w from Int.toNat_natCast w, hrw] at o3
      have eK : rsK o ld b S.1 = fbl ld b w := by unfold rsK; rw [hl]; rfl
      by_cases ck : fbl ld b w < b
      · obtain ⟨Q, eQ⟩ : ∃ Q, Q = abF (xw w - xw (ld (fbl ld b w))) (dw w - dw (ld (fbl ld b w))) (10007 - rsC o ld b B S.1) (B (fbl ld b w)) S.1 (wds (B (fbl ld b w))) := ⟨_, rfl⟩
        have eR : rsS o ld b B S = (Q, S.2) := by
          unfold rsS
          rw [eK, if_pos ck, hl, show (((w : Nat) : Int)).toNat = w from Int.toNat_natCast w, eQ]
        have hC := rsC_p hB r1 (w := w) (by omega) hl (by rw [ew.1]; exact c) (by rw [eK]; exact ck)
        have hC2 := rsC_b (o := o) (ld := ld) (b := b) (B := B) S.1
        have hst := rd_step hB r1 r2 hw hl ew.1 c ck
        obtain ⟨b1, b2, b3, b4⟩ := hB _ ck
        have hdv := of_decide_eq_true (fnd_yes (p := fun k => decide (xw (ld k) ≤ xw w ∧ dw (ld k) ≤ dw w)) (n := b) ck)
        have hab : ∀ v, v < 496 → (rsS o ld b B S).1 v = (S.1 v + (10007 - rsC o ld b B S.1) * cor (xw w - xw (ld (fbl ld b w))) (dw w - dw (ld (fbl ld b w))) (B (fbl ld b w)) 496 v) % 10007 := fun v hv => by
          rw [eR]
          show Q v = _
          rw [eQ]
          exact abF_5 r1 (by omega) b4 hv
        have h22 : (rsS o ld b B S).2 = S.2 := by rw [eR]
        have hge : ∀ v, v < 496 → 90 - t ≤ rk o v → (rsS o ld b B S).1 v = 0 := fun v hv h => Decidable.not_not.mp fun z => by
          have := o3 v hv z
          omega
        rw [h22]
        refine ⟨fun v hv h => ⟨?_, (h1 v hv (by omega)).2⟩, fun v hv h => ⟨hge v hv (by omega), ?_⟩⟩
        · have h9 : v < 91 := Decidable.not_not.mp fun z => by
            have e1 := unr_91 (o := o) (r := rk o v) (by omega)
            rw [unr_rk] at e1
            omega
          rw [hab v hv, hst v h9, (h1 v hv (by omega)).1]
        · by_cases e : rk o v = 90 - t
          · have ev := huq v hv e
            rw [ev, if_pos hw, ew.2, hst w hw, ← ew.1, ← hab w (by omega)]
            exact (hge w (by omega) (by omega)).symm
          · rw [(h2 v hv (by omega)).2]
            by_cases h9 : v < 91
            · rw [if_pos h9, if_pos h9, hst v h9, cor_u (o := o) (l := ld (fbl ld b w)) b3 hdv.1 hdv.2 (Nat.le_refl _) (by omega), Int.mul_zero, Int.add_zero]
              have := hFb v h9
              omega
            · rw [if_neg h9, if_neg h9]
      · have eR : rsS o ld b B S = (au S.1 w 0, au S.2 w (S.1 w)) := by
          unfold rsS
          rw [eK, if_neg ck, hl]
          rfl
        have ec : cnS ld b B F w = F := if_neg ck
        rw [eR, ec]
        refine ⟨fun v hv h => ?_, fun v hv h => ?_⟩
        · have hne : v ≠ w := fun z => by rw [z] at h; omega
          show au S.1 w 0 v = _ ∧ au S.2 w (S.1 w) v = 0
          rw [au_n _ _ hne, au_n _ _ hne]
          exact h1 v hv (by omega)
        · show au S.1 w 0 v = 0 ∧ au S.2 w (S.1 w) v = _
          by_cases e : rk o v = 90 - t
          · rw [huq v hv e, au_s, au_s, if_pos hw]; exact ⟨rfl, ew.1⟩
          · have hne : v ≠ w := fun z => e (by rw [z]; exact hrw)
            rw [au_n _ _ hne, au_n _ _ hne]
            exact h2 v hv (by omega)
/-- the class's remainder is the reference's -/
theorem rest_eq {o : Int} {ld : Nat → Nat} {b : Nat} {B : Nat → Nat → Int} (hB : Dv o ld b B) {f : Nat → Int} (hr : resd f) (hz : ∀ v, 91 ≤ v → v < 496 → f v = 0) : ∀ v, v < 496 → rdC o ld b B f v = rsF o ld b B f v := by
  obtain ⟨n, _, h2⟩ := rd_sim hB hr hz 91 (Nat.le_refl _)
  have hn : led o (rsI o ld b B f n).1 < 0 := led_neg.mpr (fun v hv => (h2 v hv (by omega)).1)
  have hN : led o (rsI o ld b B f n496).1 < 0 := by rw [n496_eq]; exact rsI_end hB hr
  have e : rsI o ld b B f n496 = rsI o ld b B f n := by
    by_cases c : n ≤ n496
    · have := rsI_stop hn (n496 - n)
      rw [show n + (n496 - n) = n496 by omega] at this
      exact this
    · have := rsI_stop hN (n - n496)
      rw [show n496 + (n - n496) = n by omega] at this
      exact this.symm
  intro v hv
  unfold rsF rsE rdC
  rw [e, (h2 v hv (by omega)).2]
