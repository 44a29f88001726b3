/-! The reference: a step of tidies. -/
theorem rsI_z {o : Int} {ld : Nat → Nat} {b : Nat} {B : Nat → Nat → Int} {f : Nat → Int} (n : Nat) {v : Nat} (hv : 496 ≤ v) : (rsI o ld b B f n).2 v = 0 := by
  induction n with
  | zero => rfl
  | succ n ih =>
    rw [show rsI o ld b B f (n + 1) = if led o (rsI o ld b B f n).1 < 0 then rsI o ld b B f n else rsS o ld b B (rsI o ld b B f n) from rfl]
    generalize rsI o ld b B f n = s at *
    by_cases c : led o s.1 < 0
    · rw [if_pos c]; exact ih
    · rw [if_neg c]
      unfold rsS
      by_cases c2 : rsK o ld b s.1 < b
      · rw [if_pos c2]; exact ih
      · rw [if_neg c2]
        have := (lw_ok c).1
        unfold lw at this
        show au s.2 (led o s.1).toNat (s.1 (led o s.1).toNat) v = 0
        rw [au_n _ _ (by omega)]
        exact ih
/-- good rows -/
abbrev Rn (o : Int) (n : Nat) (G : Nat → Nat → Int) : Prop := ∀ k, k < n → Rg (G k) ∧ ¬ led o (G k) < 0
theorem Rn_l {o : Int} {n : Nat} {G : Nat → Nat → Int} (h : Rn o n G) : Rl o n G (fun j => lw o (G j)) := fun k hk => ⟨(h k hk).1, (lw_ok (h k hk).2).2.1⟩
/-- the reference's rest as the class's remainder -/
theorem nf_rd {o : Int} {n : Nat} {G : Nat → Nat → Int} (h : Rn o n G) {f : Nat → Int} (hf : resd f) (hz : ∀ v, 91 ≤ v → v < 496 → f v = 0) : nfa o n G f = rdC o (fun j => lw o (G j)) n G (c91 f) := by
  funext v
  by_cases c : v < 496
  · rw [← nfa_eq (fun j hj => ⟨(h j hj).1.1, (h j hj).2⟩) hf hz v c]
    by_cases c2 : v < 91
    · show (if v < 91 then _ else (0 : Int)) = (if v < 91 then _ else (0 : Int))
      rw [if_pos c2, if_pos c2]
      exact rdI_c (fun _ _ => rfl) (fun u hu => (if_pos hu).symm) 91 (Nat.le_refl _) v c2
    · show (if v < 91 then _ else (0 : Int)) = (if v < 91 then _ else (0 : Int))
      rw [if_neg c2, if_neg c2]
  · have e : nfa o n G f v = 0 := rsI_z n496 (by omega)
    rw [e]
    exact (if_neg (by omega)).symm
theorem c91_g {f : Nat → Int} (hf : resd f) : Rg (c91 f) := ⟨fun v => by
  show 0 ≤ (if v < 91 then f v else 0) ∧ (if v < 91 then f v else 0) < 10007
  split
  · exact hf v (by omega)
  · omega, fun j hj => if_neg (by omega)⟩
theorem c91_i {f : Nat → Int} (hf : Rg f) : c91 f = f := by
  funext v
  show (if v < 91 then f v else 0) = f v
  split
  · rfl
  · exact (hf.2 v (by omega)).symm
theorem nf_rg {o : Int} {n : Nat} {G : Nat → Nat → Int} (h : Rn o n G) {f : Nat → Int} (hf : Rg f) : nfa o n G f = rdC o (fun j => lw o (G j)) n G f := by
  rw [nf_rd h (fun k _ => hf.1 k) (fun v h1 _ => hf.2 v h1), c91_i hf]
theorem skp_ne {r j : Nat} : skp r j ≠ r := by unfold skp; split <;> omega
theorem skp_ex {n r m : Nat} (hr : r < n) (hm : m < n) (h : m ≠ r) : ∃ t, t < n - 1 ∧ skp r t = m := by
  by_cases c : m < r
  · exact ⟨m, by omega, if_neg (by omega)⟩
  · exact ⟨m - 1, by omega, by unfold skp; rw [if_pos (by omega)]; omega⟩
theorem Rn_s {o : Int} {n r : Nat} {G : Nat → Nat → Int} (h : Rn o n G) : Rn o (n - 1) (fun j => G (skp r j)) := fun j hj => h _ (skp_lt hj)
theorem nfo_rd {o : Int} {n r : Nat} {G : Nat → Nat → Int} (h : Rn o n G) (hr : r < n) : nfo o n G r = rdC o (fun j => lw o (G (skp r j))) (n - 1) (fun j => G (skp r j)) (G r) := nf_rg (Rn_s h) (h r hr).1
theorem mon_g {o : Int} {f : Nat → Int} (hf : Rg f) (h : ¬ led o f < 0) : Rg (mon o f) ∧ mon o f (lw o f) = 1 ∧ led o (mon o f) = (lw o f : Nat) ∧ (∀ v, mon o f v ≠ 0 → f v ≠ 0) ∧ ∀ v, f v % 10007 = f (lw o f) * mon o f v % 10007 := abM_g hf h
/-- words that a lead divides -/
def Jr (o : Int) (n : Nat) (G : Nat → Nat → Int) (p q : Nat) : Prop := ∃ k, k < n ∧ xw (lw o (G k)) ≤ p ∧ dw (lw o (G k)) ≤ q
/-- what the reference's rows keep -/
def Rf (o : Int) (m : Nat) (A : Nat → Nat → Int) (n : Nat) (G : Nat → Nat → Int) : Prop := Rn o n G ∧ (n = 0 ∨ ∃ X Y, Jnv (Jr o n G) X Y ∧ ∀ k, k < n → ∀ w, G k w ≠ 0 → wn w + X + Y ≤ 6) ∧ (∀ k, k < m → Idl o (Gs o n G) (A k)) ∧ ∀ k, k < n → Idl o (Sc m A) (G k)
/-- the sum of the leads' ranks -/
def Wt (o : Int) (n : Nat) (G : Nat → Nat → Int) : Nat := smn (fun k => rk o (lw o (G k)) + 1) n
theorem lw_n {o : Int} {f : Nat → Int} {w : Nat} (h : led o f = (w : Nat)) : lw o f = w := by unfold lw; rw [h, Int.toNat_natCast]
/-- a step of tidies: rows, leads, weights -/
theorem td_st {o : Int} {m : Nat} {A : Nat → Nat → Int} {n : Nat} {G : Nat → Nat → Int} {fl : Int} (h : Rf o m A n G) {r : Nat} (hr : r < n) : Rf o m A (tdS o r (n, G, fl)).1 (tdS o r (n, G, fl)).2.1 ∧ (∀ p q, Jr o n G p q → Jr o (tdS o r (n, G, fl)).1 (tdS o r (n, G, fl)).2.1 p q) ∧ Wt o (tdS o r (n, G, fl)).1 (tdS o r (n, G, fl)).2.1 ≤ Wt o n G ∧ (Wt o (tdS o r (n, G, fl)).1 (tdS o r (n, G, fl)).2.1 = Wt o n G → (tdS o r (n, G, fl)).1 = n ∧ (∀ k, k ≠ r → (tdS o r (n, G, fl)).2.1 k = G k) ∧ lw o ((tdS o r (n, G, fl)).2.1 r) = lw o (G r) ∧ (tdS o r (n, G, fl)).2.1 r (lw o (G r)) = 1 ∧ ∀ v, (tdS o r (n, G, fl)).2.1 r v ≠ 0 → ∀ j, j < n → j ≠ r → ¬ Dvd (lw o (G j)) v) := by
  obtain ⟨hN, hD, hA, hI⟩ := h
  have hl := Rn_l (Rn_s (r := r) hN)
  obtain ⟨f1, f2⟩ := hN r hr
  obtain ⟨w1, w2, w3, w4⟩ := lw_ok f2
  have eR := nfo_rd hN hr
  have hRg : Rg (nfo o n G r) := by rw [eR]; exact rem_g f1
  have hb := rg_Bd f1 w2
  have hs := (rem_s hl f1 (r := rk o (lw o (G r)) + 1) (fun v hv => by have := hb v hv; omega))
  have hred := fun (v : Nat) (hv : rdC o (fun j => lw o (G (skp r j))) (n - 1) (fun j => G (skp r j)) (G r) v ≠ 0) (t : Nat) (ht : t < n - 1) => rem_r hl f1 hv ht
  have hlead := fun (hn : ∀ t, t < n - 1 → ¬ Dvd (lw o (G (skp r t))) (lw o (G r))) => rem_l hl f1 w2 hn
  have hs1 : Vr o (Rw (n - 1) (fun j => G (skp r j)) (fun j => lw o (G (skp r j)))) (rk o (lw o (G r)) + 1) (sbr (G r) (nfo o n G r)) := by rw [eR]; exact hs.1
  have hs2 : ∀ v, nfo o n G r v ≠ 0 → rk o v ≤ rk o (lw o (G r)) := fun v hv => by
    have := hs.2 v (by rw [← eR]; exact (rg_ne hRg).mpr hv)
    omega
  have hred : ∀ v, nfo o n G r v ≠ 0 → ∀ j, j < n → j ≠ r → ¬ Dvd (lw o (G j)) v := fun v hv j hj hne => by
    obtain ⟨t, ht, e⟩ := skp_ex hr hj hne
    have := hred v (by rw [← eR]; exact hv) t ht
    rw [e] at this
    exact this
  have hlead : (∀ j, j < n → j ≠ r → ¬ Dvd (lw o (G j)) (lw o (G r))) → led o (nfo o n G r) = (lw o (G r) : Nat) := fun hn => by
    rw [eR]
    exact (hlead (fun t ht => hn _ (skp_lt ht) skp_ne)).2
  unfold tdS
  dsimp only
  generalize nfo o n G r = R at *
  by_cases c : led o R < 0
  · rw [if_pos c]
    dsimp only
    have z0 := led_z hRg c
    have hdv : ∃ j, j < n ∧ j ≠ r ∧ Dvd (lw o (G j)) (lw o (G r)) := Classical.byContradiction fun z => by
      have := hlead (fun j hj hne hd => z ⟨j, hj, hne, hd⟩)
      omega
    obtain ⟨j0, hj0, hne0, hd0⟩ := hdv
    have hJ : ∀ p q, Jr o n G p q ↔ Jr o (n - 1) (fun j => G (skp r j)) p q := fun p q => ⟨fun ⟨k, hk, h1, h2⟩ => by
      by_cases e : k = r
      · obtain ⟨t, ht, et⟩ := skp_ex hr hj0 hne0
        obtain ⟨d1, d2⟩ := hd0
        rw [e] at h1 h2
        exact ⟨t, ht, by dsimp only; rw [et]; omega, by dsimp only; rw [et]; omega⟩
      · obtain ⟨t, ht, et⟩ := skp_ex hr hk e
        exact ⟨t, ht, by dsimp only; rw [et]; exact h1, by dsimp only; rw [et]; exact h2⟩, fun ⟨k, hk, h1, h2⟩ => ⟨skp r k, skp_lt hk, h1, h2⟩⟩
    have hw := smn_s (f := fun k => rk o (lw o (G k)) + 1) hr
    have hw : Wt o (n - 1) (fun j => G (skp r j)) + (rk o (lw o (G r)) + 1) = Wt o n G := hw
    refine ⟨⟨Rn_s hN, ?_, fun k hk => ?_, fun k hk => hI _ (skp_lt hk)⟩, fun p q z => (hJ p q).mp z, by omega, fun e => by omega⟩
    · rcases hD with z | ⟨X, Y, hJn, hw6⟩
      · omega
      · exact Or.inr ⟨X, Y, Jnv_c hJn hJ, fun k hk w hne => hw6 _ (skp_lt hk) w hne⟩
    · refine Idl_sub (fun g l ⟨t, ht, eg, el⟩ => ?_) (hA k hk)
      by_cases e : t = r
      · have h1 : Idl o (Gs o (n - 1) (fun j => G (skp r j))) (sbr (G r) R) := ⟨_, Vr_m (fun g l hg => Gs_w hl (Nat.le_refl _) hg) (Nat.le_refl _) hs1⟩
        refine (Idl_L o _).1 _ _ (fun w => ?_) h1
        rw [eg, e]
        unfold sbr
        rw [z0 w]
        refine congrArg (· % 10007) ?_
        omega
      · obtain ⟨t', ht', et⟩ := skp_ex hr ht e
        exact ⟨_, Vr_1 ⟨t', ht', by dsimp only; rw [et]; exact eg, by dsimp only; rw [et]; exact el⟩⟩
  · rw [if_neg c]
    dsimp only
    obtain ⟨m1, m2, m3, m4, m5⟩ := mon_g hRg c
    obtain ⟨v1, v2, v3, v4⟩ := lw_ok c
    have hrk := hs2 _ v3
    generalize mon o R = M at *
    have hlM : lw o M = lw o R := lw_n m3
    have e1 : ∀ k, k ≠ r → au G r M k = G k := fun k hk => au_n _ _ hk
    have e2 : au G r M r = M := au_s _ _ _
    have hN' : Rn o n (au G r M) := fun k hk => by
      by_cases e : k = r
      · rw [e, e2]; exact ⟨m1, by rw [m3]; omega⟩
      · rw [e1 k e]; exact hN k hk
    have hMw : ∀ v, M v ≠ 0 → wn v ≤ wn (lw o (G r)) := fun v hv => rk_le_wn (hs2 v (m4 v hv))
    have hgen : ∀ g l, Gs o n G g l → Idl o (Gs o n (au G r M)) g := fun g l ⟨t, ht, eg, el⟩ => by
      by_cases e : t = r
      · have h1 : Idl o (Gs o n (au G r M)) (sbr (G r) R) := ⟨_, Vr_m (fun g l ⟨k, hk, eg, el⟩ => ⟨skp r k, skp_lt hk, by rw [e1 _ skp_ne]; exact eg, by rw [e1 _ skp_ne, el]; exact (hl k hk).2⟩) (Nat.le_refl _) hs1⟩
        have h2 : Idl o (Gs o n (au G r M)) M := ⟨_, Vr_1 (l := lw o R) ⟨r, hr, e2.symm, by rw [e2]; exact m3⟩⟩
        refine lin_c (Idl_L o _) (c := R (lw o R)) h1 h2 (fun v => ?_)
        have := m5 v
        rw [eg, e]
        unfold sbr
        generalize R (lw o R) * M v = x at *
        omega
      · exact ⟨_, Vr_1 ⟨t, ht, by rw [e1 t e]; exact eg, by rw [e1 t e]; exact el⟩⟩
    have hMI : Idl o (Sc m A) M := by
      have h1 : Idl o (Sc m A) (sbr (G r) R) := Idl_sub (fun g l ⟨k, hk, eg, _⟩ => by rw [eg]; exact hI _ (skp_lt hk)) ⟨_, hs1⟩
      have h2 : Idl o (Sc m A) R := lin_c (Idl_L o _) (c := -1) (hI r hr) h1 (fun v => by
        unfold sbr
        refine congrArg (· % 10007) ?_
        omega)
      refine lin_c (Idl_L o _) (c := inv (R (lw o R))) (Idl_L o _).2.1 h2 (fun v => ?_)
      have b := hRg.1 (lw o R)
      have i1 := inv_ok (v := R (lw o R)) (by omega)
      have := md_mul (c := inv (R (lw o R))) (m5 v)
      rw [Int.zero_add, this, ← Int.mul_assoc, Int.mul_comm (inv (R (lw o R))) (R (lw o R)), Int.mul_comm (R (lw o R) * inv (R (lw o R))) (M v), md_mul (b := 1) (by rw [i1]; rfl), Int.mul_one]
    have hJi : ∀ p q, Jr o n (au G r M) p q ↔ (∃ k, k < n ∧ k ≠ r ∧ xw (lw o (G k)) ≤ p ∧ dw (lw o (G k)) ≤ q) ∨ (xw (lw o R) ≤ p ∧ dw (lw o R) ≤ q) := fun p q => ⟨fun ⟨k, hk, h1, h2⟩ => by
      by_cases e : k = r
      · rw [e, e2, hlM] at h1 h2; exact Or.inr ⟨h1, h2⟩
      · rw [e1 k e] at h1 h2; exact Or.inl ⟨k, hk, e, h1, h2⟩, fun z => by
      rcases z with ⟨k, hk, e, h1, h2⟩ | ⟨h1, h2⟩
      · exact ⟨k, hk, by rw [e1 k e]; exact h1, by rw [e1 k e]; exact h2⟩
      · exact ⟨r, hr, by rw [e2, hlM]; exact h1, by rw [e2, hlM]; exact h2⟩⟩
    have hwle : ∀ k, k < n → rk o (lw o (au G r M k)) + 1 ≤ rk o (lw o (G k)) + 1 := fun k hk => by
      by_cases e : k = r
      · rw [e, e2, hlM]; omega
      · rw [e1 k e]; exact Nat.le_refl _
    have hAll : ∀ X Y, (∀ k, k < n → ∀ w, G k w ≠ 0 → wn w + X + Y ≤ 6) → ∀ k, k < n → ∀ w, au G r M k w ≠ 0 → wn w + X + Y ≤ 6 := fun X Y hw6 k hk w hne => by
      by_cases e : k = r
      · rw [e, e2] at hne
        have h1 := hMw w hne
        have h2 := hw6 r hr _ w3
        omega
      · rw [e1 k e] at hne; exact hw6 k hk w hne
    by_cases hdv : ∃ j, j < n ∧ j ≠ r ∧ Dvd (lw o (G j)) (lw o (G r))
    · obtain ⟨j0, hj0, hne0, hd0⟩ := hdv
      have hJ : ∀ p q, (Jr o n G p q ∨ (xw (lw o R) ≤ p ∧ dw (lw o R) ≤ q)) ↔ Jr o n (au G r M) p q := fun p q => by
        rw [hJi p q]
        refine ⟨fun z => z.imp (fun ⟨k, hk, h1, h2⟩ => ?_) id, fun z => z.imp (fun ⟨k, hk, _, h1, h2⟩ => ⟨k, hk, h1, h2⟩) id⟩
        by_cases e : k = r
        · obtain ⟨d1, d2⟩ := hd0
          rw [e] at h1 h2
          exact ⟨j0, hj0, hne0, by omega, by omega⟩
        · exact ⟨k, hk, e, h1, h2⟩
      have hstr : Wt o n (au G r M) < Wt o n G := smn_lt hwle hr (by
        show rk o (lw o (au G r M r)) + 1 < rk o (lw o (G r)) + 1
        rw [e2, hlM]
        refine Nat.succ_lt_succ (Nat.lt_of_le_of_ne hrk fun z => ?_)
        have e := rk_inj z
        exact hred _ v3 j0 hj0 hne0 (by rw [e]; exact hd0))
      refine ⟨⟨hN', ?_, fun k hk => Idl_sub hgen (hA k hk), fun k hk => ?_⟩, fun p q z => (hJ p q).mp (Or.inl z), by omega, fun e => by omega⟩
      · rcases hD with z | ⟨X, Y, hJn, hw6⟩
        · omega
        · have h1 := rk_le_wn hrk
          have h2 := hw6 r hr _ w3
          have h3 : xw (lw o R) + dw (lw o R) = wn (lw o R) := by have := wn_pl (xw (lw o R)) (dw (lw o R)); rw [pl_w] at this; omega
          refine Or.inr ⟨_, _, Jnv_c (Jnv_add hJn (a := xw (lw o R)) (b := dw (lw o R)) (by omega)) hJ, fun k hk w hne => ?_⟩
          have := hAll X Y hw6 k hk w hne
          omega
      · by_cases e : k = r
        · rw [e, e2]; exact hMI
        · rw [e1 k e]; exact hI k hk
    · have hll := hlead (fun j hj hne hd => hdv ⟨j, hj, hne, hd⟩)
      have hll : lw o R = lw o (G r) := lw_n hll
      have hJ : ∀ p q, Jr o n G p q ↔ Jr o n (au G r M) p q := fun p q => by
        rw [hJi p q, hll]
        refine ⟨fun ⟨k, hk, h1, h2⟩ => ?_, fun z => z.elim (fun ⟨k, hk, _, h1, h2⟩ => ⟨k, hk, h1, h2⟩) (fun ⟨h1, h2⟩ => ⟨r, hr, h1, h2⟩)⟩
        by_cases e : k = r
        · rw [e] at h1 h2; exact Or.inr ⟨h1, h2⟩
        · exact Or.inl ⟨k, hk, e, h1, h2⟩
      refine ⟨⟨hN', ?_, fun k hk => Idl_sub hgen (hA k hk), fun k hk => ?_⟩, fun p q z => (hJ p q).mp z, smn_le hwle, fun _ => ⟨rfl, e1, by rw [e2, hlM, hll], by rw [e2, ← hll]; exact m2, fun v hv j hj hne => ?_⟩⟩
      · rcases hD with z | ⟨X, Y, hJn, hw6⟩
        · omega
        · exact Or.inr ⟨X, Y, Jnv_c hJn hJ, hAll X Y hw6⟩
      · by_cases e : k = r
        · rw [e, e2]; exact hMI
        · rw [e1 k e]; exact hI k hk
      · rw [e2] at hv
        exact hred v (m4 v hv) j hj hne
