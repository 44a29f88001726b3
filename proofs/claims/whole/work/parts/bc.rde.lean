/-! Readers: expressions have the same values. -/
/-- nothing below the depth has changed -/
def Blw (e : Nat) (mi hp : Nat → Int) (su pr : Nat → Nat → Int) (mi' hp' : Nat → Int) (su' pr' : Nat → Nat → Int) : Prop := ∀ k, k < e → mi' k = mi k ∧ hp' k = hp k ∧ su' k = su k ∧ pr' k = pr k
theorem Blw_t {e : Nat} {a1 a2 b1 b2 c1 c2 : Nat → Int} {a3 a4 b3 b4 c3 c4 : Nat → Nat → Int} (h1 : Blw e a1 a2 a3 a4 b1 b2 b3 b4) (h2 : Blw e b1 b2 b3 b4 c1 c2 c3 c4) : Blw e a1 a2 a3 a4 c1 c2 c3 c4 := fun k hk => ⟨(h2 k hk).1.trans (h1 k hk).1, (h2 k hk).2.1.trans (h1 k hk).2.1, (h2 k hk).2.2.1.trans (h1 k hk).2.2.1, (h2 k hk).2.2.2.trans (h1 k hk).2.2.2⟩
/-- an expression has been read -/
def EvO (T : Nat → Int) (b e : Nat) (s : rdT) (mi hp : Nat → Int) (su pr : Nat → Nat → Int) (y : Nat → Int) (p' : Nat) : Prop := Gv y ∧ ∃ (mm' : Int) (mi' hp' : Nat → Int) (su' pr' : Nat → Nat → Int) (m' : Nat), rE 1 T b s = rE 1 T b (p', e, 0, mm', 0, mi', hp', su', pr') ∧ OkS T b (p', e, 0, mm', 0, mi', hp', su', pr') m' ∧ FL T b p' m' e = -1 ∧ hp' e = 1 ∧ (∀ v, v < 496 → cloS e mi' su' pr' e v = y v) ∧ Blw e mi hp su pr mi' hp' su' pr' ∧ s.1 < p' ∧ ¬ bt T b p' = 42 ∧ ¬ bt T b p' = 43 ∧ ¬ bt T b p' = 45
def EvS (T : Nat → Int) (b e : Nat) (ev : Nat → rdO) : Prop := ∀ (p : Nat) (mi hp : Nat → Int) (su pr : Nat → Nat → Int), p ≤ b → mi e = 0 → hp e = 0 → (∀ v, v < 496 → su e v = 0) → FL T b (skb T b p) 0 e = -1 → (ev p = none → (rE 1 T b (skb T b p, e, 1, 1, 0, mi, hp, su, pr)).2.2.2.2.2.2.1 = 1) ∧ ∀ y p', ev p = some (y, p') → EvO T b e (skb T b p, e, 1, 1, 0, mi, hp, su, pr) mi hp su pr y p'
/-- a factor has been taken -/
def FcO (T : Nat → Int) (b e : Nat) (s : rdT) (mi hp : Nat → Int) (su pr : Nat → Nat → Int) (f : Nat → Int) (p' : Nat) : Prop := Gv f ∧ p' ≤ b ∧ s.1 < p' ∧ ∃ (mm' : Int) (mi' hp' : Nat → Int) (su' pr' : Nat → Nat → Int) (m' : Nat), rE 1 T b s = rE 1 T b (skb T b p', e, 0, mm', (if hp e = 1 ∧ (0 ≤ dgr (pr e) ∧ 0 ≤ dgr f ∧ 12 < dgr (pr e) + dgr f) then 1 else 0), mi', hp', su', pr') ∧ OkS T b (skb T b p', e, 0, mm', (if hp e = 1 ∧ (0 ≤ dgr (pr e) ∧ 0 ≤ dgr f ∧ 12 < dgr (pr e) + dgr f) then 1 else 0), mi', hp', su', pr') m' ∧ FL T b (skb T b p') m' e = -1 ∧ hp' e = 1 ∧ (∀ v, v < 496 → pr' e v = if hp e = 1 then mul (pr e) f v else f v) ∧ mi' e = mi e ∧ su' e = su e ∧ Blw e mi hp su pr mi' hp' su' pr'
/-- behind a base: one step of the reference from s -/
theorem fc_pw {T : Nat → Int} {b : Nat} (hb : b ≤ 120) {s : rdT} {m e q : Nat} {mm : Int} {mi hp mi0 hp0 : Nat → Int} {su pr su0 pr0 : Nat → Nat → Int} {y g : Nat → Int} (h : OkS T b s m) (hp1 : s.1 < b) (hv : FL T b s.1 m s.2.1 = -1) (hst : stR 1 T b s = pwR 1 T b q e mm 0 mi hp su pr y) (hq : q ≤ b) (he : e ≤ 8) (hv2 : FL T b q 2 e = -1) (hg : Gv g) (hy : ∀ v, v < 496 → y v = g v) (h1 : mi e = mi0 e) (h2 : hp e = hp0 e) (h3 : su e = su0 e) (h4 : pr e = pr0 e) (h5 : Blw e mi0 hp0 su0 pr0 mi hp su pr) : (fcP T b g q = none → (rE 1 T b s).2.2.2.2.2.2.1 = 1) ∧ ∀ f p', fcP T b g q = some (f, p') → FcO T b e s mi0 hp0 su0 pr0 f p' := by
  obtain ⟨n, p1, e1, e2, e3⟩ := pw_val (mm := mm) (mi := mi) (hp := hp) (su := su) (pr := pr) (y := y) hb hq he hv2 hg hy
  obtain ⟨r1, r2, r3, r4, m', r5, r6⟩ := rE_v (w := 1) hb h hp1 hv
  rw [hst, e1] at r2 r3 r4 r5 r6
  have r2 : s.1 < p1 := r2
  have r3 : p1 ≤ b := r3
  refine ⟨fun z => ?_, fun f p' z => ?_⟩
  · rw [r4]
    have hz := e2 z
    refine rE_fu ?_
    dsimp only [skS]
    exact hz
  · obtain ⟨z1, z2, z3, z4⟩ := e3 f p' z
    subst z1
    rw [h2, h4] at z3
    refine ⟨z2, r3, r2, mm, mi, au hp e 1, su, tkQ hp e pr y n, m', ?_, ?_, r6, au_s _ _ _, fun v hv => ?_, h1, h3, fun k hk => ?_⟩
    · rw [← z3]; exact r4
    · rw [← z3]; exact r5
    · rw [z4 v hv, h2, h4]
    · obtain ⟨a1, a2, a3, a4⟩ := h5 k hk
      refine ⟨a1, ?_, a3, ?_⟩
      · rw [au_n _ _ (by omega)]; exact a2
      · unfold tkQ
        rw [au_n _ _ (by omega)]; exact a4
/-- a factor -/
theorem fc_ok {T : Nat → Int} {b e : Nat} (hb : b ≤ 120) (hT : ∀ j, j < b → 0 ≤ T j ∧ T j ≤ 127) {ev : Nat → rdO} (hE : e < 8 → EvS T b (e + 1) ev) {p m : Nat} {mm : Int} {mi hp : Nat → Int} {su pr : Nat → Nat → Int} (hpb : p ≤ b) (h : OkS T b (skb T b p, e, 1, mm, 0, mi, hp, su, pr) m) (hv : FL T b (skb T b p) m e = -1) (hn : ¬ (bt T b (skb T b p) = 45 ∧ mm = 1)) : (fcC T b ev p = none → (rE 1 T b (skb T b p, e, 1, mm, 0, mi, hp, su, pr)).2.2.2.2.2.2.1 = 1) ∧ ∀ f p', fcC T b ev p = some (f, p') → FcO T b e (skb T b p, e, 1, mm, 0, mi, hp, su, pr) mi hp su pr f p' := by
  have he : e ≤ 8 := h.2.2.1
  have hm01 : m = 0 ∨ m = 1 := by
    have := h.2.2.2
    rcases this with z | z | z
    · exact Or.inl z.2.2
    · exact Or.inr z.2.2
    · exact absurd z.1 (by show ¬ (1 : Int) = 0; decide)
  have hlt : skb T b p < b := by
    have h1 := h.1
    have h1 : skb T b p ≤ b := h1
    refine Nat.lt_of_le_of_ne h1 fun z => ?_
    rw [z, FL_e, if_neg (by omega)] at hv
    omega
  unfold fcC
  obtain ⟨q, hq⟩ : ∃ q, q = skb T b p := ⟨_, rfl⟩
  rw [← hq] at h hv hn hlt ⊢
  have hbt : bt T b q = T q := bt_s hlt
  rw [hbt] at hn
  have hnb := OkS_n h hlt
  have hnb : ¬ T q = 32 := hnb
  have hm := Cor_m h.2.2.2
  have hmm : (mm = 1 ↔ m = 0) := by
    have := h.2.2.2
    rcases this with z | z | z
    · exact ⟨fun _ => z.2.2, fun _ => z.2.1⟩
    · have a1 := z.2.1
      have a2 := z.2.2
      have a1 : mm = 0 := a1
      exact ⟨fun y => by omega, fun y => by omega⟩
    · exact absurd z.1 (by show ¬ (1 : Int) = 0; decide)
  have hqs : psR T b q m e = poR T b q m e := by
    unfold psR
    rw [hbt]
    rcases hm01 with z | z
    · rw [if_pos z, if_neg (fun y => hn ⟨y, hmm.mpr z⟩)]
    · rw [if_neg (by omega), if_pos z]
  unfold poR at hqs
  rw [hbt, cdg_dgc] at hqs
  have hst : stR 1 T b (q, e, 1, mm, 0, mi, hp, su, pr) = fcR 1 T b q e 1 mm 0 mi hp su pr := by
    unfold stR
    exact if_pos rfl
  have hfc : fcR 1 T b q e 1 mm 0 mi hp su pr = if T q = 40 then (if e = 8 then (0, q, (q, e, 1, mm, 0, mi, hp, su, pr)) else (1, 0, (q + 1, e + 1, 1, 1, 0, au mi (e + 1) 0, au hp (e + 1) 0, au su (e + 1) (fun _ => 0), pr))) else if 48 ≤ T q ∧ T q ≤ 57 then (if 4 < dgc T b q then (0, q + 4, (q, e, 1, mm, 0, mi, hp, su, pr)) else pwR 1 T b (q + dgc T b q) e mm 0 mi hp su pr (nuV T b q)) else if T q = 120 then pwR 1 T b (q + 1) e mm 0 mi hp su pr (au (fun _ => 0) (pl 1 0) 1) else if T q = 100 then pwR 1 T b (q + 1) e mm 0 mi hp su pr (au (fun _ => 0) (pl 0 1) 1) else (0, q, (q, e, 1, mm, 0, mi, hp, su, pr)) := by
    unfold fcR
    exact if_neg hn
  rw [hfc] at hst
  unfold fcB
  rw [hbt]
  by_cases c2 : T q = 40
  · rw [if_pos c2] at hst hqs ⊢
    by_cases c3 : e = 8
    · rw [if_pos (by omega)] at hqs
      have := FL_no hb hlt hm he hnb hqs
      omega
    · rw [if_neg c3] at hst
      obtain ⟨r1, r2, r3, r4, m', r5, r6⟩ := rE_v (w := 1) hb h hlt hv
      rw [hst] at r3 r4 r5 r6
      have r3 : q + 1 ≤ b := r3
      have r6 : FL T b (skb T b (q + 1)) m' (e + 1) = -1 := r6
      have r7 : FL T b (skb T b (q + 1)) 0 (e + 1) = -1 := by
        have := r5.2.2.2
        rcases this with z | z | z
        · rw [← z.2.2]; exact r6
        · exact absurd z.2.1 (by show ¬ (1 : Int) = 0; decide)
        · exact absurd z.1 (by show ¬ (1 : Int) = 0; decide)
      obtain ⟨E1, E2⟩ := hE (by omega) (q + 1) (au mi (e + 1) 0) (au hp (e + 1) 0) (au su (e + 1) (fun _ => 0)) pr r3 (au_s _ _ _) (au_s _ _ _) (fun v _ => by rw [au_s]) r7
      have r4 : rE 1 T b (q, e, 1, mm, 0, mi, hp, su, pr) = rE 1 T b (skb T b (q + 1), e + 1, 1, 1, 0, au mi (e + 1) 0, au hp (e + 1) 0, au su (e + 1) (fun _ => 0), pr) := r4
      cases hev : ev (q + 1) with
      | none =>
        refine ⟨fun _ => by rw [r4]; exact E1 hev, fun f p' z => ?_⟩
        exact absurd z (by intro z; cases z)
      | some x =>
        obtain ⟨y, p2⟩ := x
        obtain ⟨gy, mm2, mi2, hp2, su2, pr2, m2, o1, o2, o3, o4, o5, o6, o7, o8, o9, o10⟩ := E2 y p2 hev
        have hp2b : p2 ≤ b := o2.1
        have hk2 : skb T b p2 = p2 := o2.2.1
        have ho7 : skb T b (q + 1) < p2 := o7
        have hl2 := skb_le (T := T) r3
        have hlt2 : p2 < b := by
          refine Nat.lt_of_le_of_ne hp2b fun z => ?_
          rw [z, FL_e, if_neg (by omega)] at o3
          omega
        have hbt2 := bt_s (T := T) hlt2
        rw [hbt2] at o8 o9 o10
        have hnb2 := OkS_n o2 hlt2
        have hnb2 : ¬ T p2 = 32 := hnb2
        have hst2 : stR 1 T b (p2, e + 1, 0, mm2, 0, mi2, hp2, su2, pr2) = sgR 1 T b p2 (e + 1) 0 mm2 0 mi2 hp2 su2 pr2 := by
          unfold stR
          exact if_neg (by show ¬ (0 : Int) = 1; decide)
        obtain ⟨t1, _, _, _, _⟩ := rE_v (w := 1) hb o2 hlt2 o3
        have c41 : T p2 = 41 := by
          refine Decidable.not_not.mp fun z => ?_
          have : (sgR 1 T b p2 (e + 1) 0 mm2 0 mi2 hp2 su2 pr2).1 = 0 := by
            unfold sgR
            rw [if_neg o8, if_neg (by omega), if_neg (by omega)]
          rw [hst2, this] at t1
          exact absurd t1 (by decide)
        have hst3 : stR 1 T b (p2, e + 1, 0, mm2, 0, mi2, hp2, su2, pr2) = pwR 1 T b (p2 + 1) e mm2 0 mi2 (au hp2 (e + 1) 0) (cloS (e + 1) mi2 su2 pr2) pr2 (cloS (e + 1) mi2 su2 pr2 (e + 1)) := by
          rw [hst2]
          unfold sgR
          rw [if_neg o8, if_neg (by omega), if_pos ⟨c41, by omega⟩]
          rfl
        have hv3 : FL T b (p2 + 1) 2 e = -1 := by
          rw [← o3]
          symm
          refine FL_go hb hlt2 (Cor_m o2.2.2.2) o2.2.2.1 hnb2 ?_
          have hm24 : m2 = 4 ∨ m2 = 2 := by
            have := o2.2.2.2
            rcases this with z | z | z
            · exact absurd z.1 (by show ¬ (0 : Int) = 1; decide)
            · exact absurd z.1 (by show ¬ (0 : Int) = 1; decide)
            · have := z.2
              rcases this with y | y
              · exact Or.inl y
              · exact Or.inr y.1
          unfold psR plR
          rw [hbt2, if_neg (by omega), if_neg (by omega), if_neg (by omega), if_neg (by omega), if_neg (by omega), if_pos ⟨c41, by omega⟩]
          rfl
        have hble : Blw e mi hp su pr mi2 (au hp2 (e + 1) 0) (cloS (e + 1) mi2 su2 pr2) pr2 := fun k hk => by
          obtain ⟨a1, a2, a3, a4⟩ := o6 k (by omega)
          refine ⟨?_, ?_, ?_, a4⟩
          · rw [a1, au_n _ _ (by omega)]
          · rw [au_n _ _ (by omega), a2, au_n _ _ (by omega)]
          · unfold cloS
            rw [au_n _ _ (by omega), a3, au_n _ _ (by omega)]
        obtain ⟨a1, a2, a3, a4⟩ := o6 e (by omega)
        obtain ⟨F1, F2⟩ := fc_pw hb o2 hlt2 o3 hst3 (by omega) he hv3 gy o5 (mi0 := mi) (hp0 := hp) (su0 := su) (pr0 := pr) (by rw [a1, au_n _ _ (by omega)]) (by rw [au_n _ _ (by omega), a2, au_n _ _ (by omega)]) (by unfold cloS; rw [au_n _ _ (by omega), a3, au_n _ _ (by omega)]) a4 hble
        have ebd : ((some (y, p2)).map (fun x : (Nat → Int) × Nat => (x.1, skb T b x.2 + 1))).bind (fun x => fcP T b x.1 x.2) = fcP T b y (p2 + 1) := by
          show fcP T b y (skb T b p2 + 1) = _
          rw [hk2]
        refine ⟨fun z => ?_, fun f p' z => ?_⟩
        · have z : ((some (y, p2)).map (fun x : (Nat → Int) × Nat => (x.1, skb T b x.2 + 1))).bind (fun x => fcP T b x.1 x.2) = none := z
          rw [ebd] at z
          rw [r4, o1]
          exact F1 z
        · have z : ((some (y, p2)).map (fun x : (Nat → Int) × Nat => (x.1, skb T b x.2 + 1))).bind (fun x => fcP T b x.1 x.2) = some (f, p') := z
          rw [ebd] at z
          obtain ⟨w1, w2, w3, mm', mi', hp', su', pr', mf, w4⟩ := F2 f p' z
          have w3 : p2 < p' := w3
          refine ⟨w1, w2, by show q < p'; omega, mm', mi', hp', su', pr', mf, ?_⟩
          rw [r4, o1]
          exact w4
  · rw [if_neg c2] at hst hqs ⊢
    by_cases c4 : 48 ≤ T q ∧ T q ≤ 57
    · rw [if_pos c4] at hst
      rw [if_neg (by omega)] at hqs
      have d0 := dgc_p hlt c4
      have dl := dgc_le T b q
      rw [if_neg (show ¬ min 5 (dgc T b q) = 0 by omega)] at hqs
      by_cases c5 : 4 < dgc T b q
      · rw [if_pos (show min 5 (dgc T b q) = 5 by omega)] at hqs
        have := FL_no hb hlt hm he hnb (q := q + 4) hqs
        omega
      · rw [if_neg c5] at hst
        rw [if_neg (show ¬ min 5 (dgc T b q) = 5 by omega), show min 5 (dgc T b q) = dgc T b q by omega] at hqs
        rw [if_neg (by omega), if_neg (by omega)]
        have hv2 : FL T b (q + dgc T b q) 2 e = -1 := by rw [← FL_go hb hlt hm he hnb (q := q + dgc T b q) hqs]; exact hv
        have ec : cdg T b 4 q = dgc T b q := by rw [cdg_dgc]; omega
        have ey : nuV T b q = nbr T b 4 q := by
          have h1 := fgv_b (T := T) (b := b) (p := q) (Nat.le_refl (dgc T b q))
          have h2 := tnp_4 (show dgc T b q ≤ 4 by omega)
          unfold nuV nbr
          rw [ec, Int.emod_eq_of_lt h1.1 (by omega)]
          rfl
        rw [ey] at hst
        have key := fc_pw hb h hlt hv hst (by omega) he hv2 (nbr_G (Nat.le_refl 4)) (fun _ _ => rfl) (mi0 := mi) (hp0 := hp) (su0 := su) (pr0 := pr) rfl rfl rfl rfl (fun k _ => ⟨rfl, rfl, rfl, rfl⟩)
        rw [← ec] at key
        exact key
    · rw [if_neg c4] at hst
      by_cases c6 : T q = 120
      · rw [if_pos c6] at hst
        rw [if_pos (Or.inl c6)] at hqs
        rw [if_pos c6]
        have hv2 : FL T b (q + 1) 2 e = -1 := by rw [← FL_go hb hlt hm he hnb (q := q + 1) hqs]; exact hv
        exact fc_pw hb h hlt hv hst hlt he hv2 (wrd_G (i := 1) (j := 0) (by decide)) (fun _ _ => rfl) (mi0 := mi) (hp0 := hp) (su0 := su) (pr0 := pr) rfl rfl rfl rfl (fun k _ => ⟨rfl, rfl, rfl, rfl⟩)
      · rw [if_neg c6] at hst ⊢
        by_cases c7 : T q = 100
        · rw [if_pos c7] at hst
          rw [if_pos (Or.inr c7)] at hqs
          rw [if_pos c7]
          have hv2 : FL T b (q + 1) 2 e = -1 := by rw [← FL_go hb hlt hm he hnb (q := q + 1) hqs]; exact hv
          exact fc_pw hb h hlt hv hst hlt he hv2 (wrd_G (i := 0) (j := 1) (by decide)) (fun _ _ => rfl) (mi0 := mi) (hp0 := hp) (su0 := su) (pr0 := pr) rfl rfl rfl rfl (fun k _ => ⟨rfl, rfl, rfl, rfl⟩)
        · rw [if_neg (by omega), if_pos (show min 5 (dgc T b q) = 0 by rw [dgc_0 hlt c4]; rfl)] at hqs
          have := FL_no hb hlt hm he hnb hqs
          omega
