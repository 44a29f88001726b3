/-! Change of generators. Written by wip/whole/gen_a4.py. -/
/-- a word times the span up to u -/
theorem Vr_We {o : Int} {G : (Nat → Int) → Nat → Prop} {i j : Nat} {f : Nat → Int} (hf : Vr o G (rk o (pl i j) + 1) f) (p q : Nat) : Vr o G (rk o (pl (p + i) (q + j)) + 1) (Wo p q f) := by
  have hL := Vr_L o G (rk o (pl (p + i) (q + j)) + 1)
  refine hf (fun f => Vr o G (rk o (pl (p + i) (q + j)) + 1) (Wo p q f)) ⟨fun f g e h => hL.1 _ _ (Wo_cg e p q) h, by show Vr o G _ (Wo p q (fun _ => 0)); rw [Wo_0]; exact hL.2.1, fun f g c hf hg => by show Vr o G _ (Wo p q (fun w => f w + c * g w)); rw [Wo_lin]; exact hL.2.2 _ _ c hf hg⟩ (fun g l a b hg hr => ?_)
  show Vr o G _ (Wo p q (Wo a b g))
  rw [Wo_Wo]
  refine Lin_sm hL _ _ _ (fun k _ hk => ?_)
  rw [Wo_dl] at hk
  obtain ⟨t, h1, h2, e⟩ := co_ne (p := p) (q := q) (i := a) (j := b) (w := k) (fun z => hk (by rw [z]; rfl))
  have h3 := rk_add p q (Nat.le_of_lt_succ hr)
  refine Vr_g hg (Nat.lt_succ_of_le (Nat.le_trans ?_ h3))
  rw [e, xw_pl, dw_pl]
  by_cases c : t = 0
  · rw [c, show p + a - 0 + xw l = p + (a + xw l) by omega, show q - 0 + b + dw l = q + (b + dw l) by omega]
    exact Nat.le_refl _
  · exact Nat.le_of_lt (rk_d (by rw [wn_pl, wn_pl]; omega))
/-- if each generator lies in the other span up to its lead, the spans are contained -/
theorem Vr_sub {o : Int} {G H : (Nat → Int) → Nat → Prop} (h : ∀ g l, G g l → Vr o H (rk o l + 1) g) {r : Nat} {f : Nat → Int} (hf : Vr o G r f) : Vr o H r f := by
  refine hf (Vr o H r) (Vr_L o H r) (fun g l p q hg hr => ?_)
  have h1 := h g l hg
  rw [← pl_w l] at h1
  exact Vr_m (fun _ _ z => z) (Nat.succ_le_of_lt hr) (Vr_We h1 p q)
theorem Idl_L (o : Int) (G : (Nat → Int) → Nat → Prop) : Lin (Idl o G) := ⟨fun f g e ⟨r, h⟩ => ⟨r, (Vr_L o G r).1 f g e h⟩, ⟨0, (Vr_L o G 0).2.1⟩, fun f g c ⟨r, h1⟩ ⟨s, h2⟩ => ⟨max r s, (Vr_L o G (max r s)).2.2 f g c (Vr_m (fun _ _ z => z) (Nat.le_max_left r s) h1) (Vr_m (fun _ _ z => z) (Nat.le_max_right r s) h2)⟩⟩
theorem Idl_W {o : Int} {G : (Nat → Int) → Nat → Prop} {f : Nat → Int} (h : Idl o G f) (p q : Nat) : Idl o G (Wo p q f) := by
  obtain ⟨r, h⟩ := h
  have e := rk_unr o r
  rw [← e, ← pl_w (unr o r)] at h
  exact ⟨_, Vr_W h p q⟩
/-- the ideals are contained if the generators are -/
theorem Idl_sub {o : Int} {G H : (Nat → Int) → Nat → Prop} (h : ∀ g l, G g l → Idl o H g) {f : Nat → Int} (hf : Idl o G f) : Idl o H f := by
  obtain ⟨r, hf⟩ := hf
  exact hf (Idl o H) (Idl_L o H) (fun g l p q hg _ => Idl_W (h g l hg) p q)
theorem Vr_1 {o : Int} {G : (Nat → Int) → Nat → Prop} {g : Nat → Int} {l : Nat} (hg : G g l) : Vr o G (rk o l + 1) g := Vr_g (p := 0) (q := 0) hg (by rw [Nat.zero_add, Nat.zero_add, pl_w]; exact Nat.lt_succ_self _)
