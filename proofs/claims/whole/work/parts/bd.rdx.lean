/-! Readers: terms, expressions, texts. -/
/-- a term has been read -/
def TmO (T : Nat → Int) (b e : Nat) (s : rdT) (mi hp : Nat → Int) (su pr : Nat → Nat → Int) (g : Nat → Int) (p' : Nat) : Prop := Gv g ∧ ∃ (mm' : Int) (mi' hp' : Nat → Int) (su' pr' : Nat → Nat → Int) (m' : Nat), rE 1 T b s = rE 1 T b (p', e, 0, mm', 0, mi', hp', su', pr') ∧ OkS T b (p', e, 0, mm', 0, mi', hp', su', pr') m' ∧ FL T b p' m' e = -1 ∧ hp' e = 1 ∧ (∀ v, v < 496 → pr' e v = g v) ∧ mi' e = mi e ∧ su' e = su e ∧ Blw e mi hp su pr mi' hp' su' pr' ∧ s.1 < p' ∧ ¬ bt T b p' = 42
theorem tm_ok {T : Nat → Int} {b e : Nat} (hb : b ≤ 120) (hT : ∀ j, j < b → 0 ≤ T j ∧ T j ≤ 127) {ev : Nat → rdO} (hE : e < 8 → EvS T b (e + 1) ev) (n : Nat) : ∀ (p m : Nat) (mm : Int) (mi hp : Nat → Int) (su pr : Nat → Nat → Int) (g : Nat → Int), p ≤ b → b - p ≤ n → OkS T b (skb T b p, e, 1, mm, 0, mi, hp, su, pr) m → FL T b (skb T b p) m e = -1 → ¬ (bt T b (skb T b p) = 45 ∧ mm = 1) → Gv g → ((hp e = 0 ∧ g = one) ∨ (hp e = 1 ∧ ∀ v, v < 496 → pr e v = g v)) → (tmC T b ev n g p = none → (rE 1 T b (skb T b p, e, 1, mm, 0, mi, hp, su, pr)).2.2.2.2.2.2.1 = 1) ∧ ∀ g' p', tmC T b ev n g p = some (g', p') → TmO T b e (skb T b p, e, 1, mm, 0, mi, hp, su, pr) mi hp su pr g' p' := by
  induction n with
  | zero =>
    intro p m mm mi hp su pr g hpb hn h hv
    have hp0 : p = b := by omega
    have h2 : skb T b p = b := by rw [hp0]; exact skb_0 (Nat.le_refl _) (Or.inl rfl)
    have hm01 : m = 0 ∨ m = 1 := by
      have := h.2.2.2
      rcases this with z | z | z
      · exact Or.inl z.2.2
      · exact Or.inr z.2.2
      · exact absurd z.1 (by show ¬ (1 : Int) = 0; decide)
    rw [h2, FL_e, if_neg (by omega)] at hv
    omega
  | succ n ih =>
    intro p m mm mi hp su pr g hpb hn h hv hnm hg hpg
    obtain ⟨F1, F2⟩ := fc_ok hb hT hE hpb h hv hnm
    have hl := skb_le (T := T) hpb
    show ((fcC T b ev p).bind (fun x => if dgr g < 0 ∨ dgr x.1 < 0 ∨ dgr g + dgr x.1 ≤ 12 then (if bt T b (skb T b x.2) = 42 then tmC T b ev n (mul g x.1) (skb T b x.2 + 1) else some (mul g x.1, skb T b x.2)) else none) = none → _) ∧ ∀ g' p', (fcC T b ev p).bind (fun x => if dgr g < 0 ∨ dgr x.1 < 0 ∨ dgr g + dgr x.1 ≤ 12 then (if bt T b (skb T b x.2) = 42 then tmC T b ev n (mul g x.1) (skb T b x.2 + 1) else some (mul g x.1, skb T b x.2)) else none) = some (g', p') → _
    cases hfc : fcC T b ev p with
    | none => exact ⟨fun _ => F1 hfc, fun g' p' z => absurd z (by intro z; cases z)⟩
    | some x =>
      obtain ⟨f, q⟩ := x
      obtain ⟨gf, hqb, hsq, mm1, mi1, hp1, su1, pr1, m1, o1, o2, o3, o4, o5, o6, o7, o8⟩ := F2 f q hfc
      have hsq : skb T b p < q := hsq
      have hl2 := skb_le (T := T) hqb
      have hki := skb_i (T := T) hqb
      dsimp only [Option.bind_some]
      by_cases cf : hp e = 1 ∧ (0 ≤ dgr (pr e) ∧ 0 ≤ dgr f ∧ 12 < dgr (pr e) + dgr f)
      · rw [if_pos cf] at o1
        have hpe : dgr (pr e) = dgr g := by
          rcases hpg with z | z
          · have := z.1; omega
          · exact dgr_c z.2
        rw [if_neg (by rw [hpe] at cf; omega)]
        refine ⟨fun _ => ?_, fun g' p' z => absurd z (by intro z; cases z)⟩
        rw [o1]
        exact rE_fu (s := (skb T b q, e, 0, mm1, 1, mi1, hp1, su1, pr1)) rfl
      · rw [if_neg cf] at o1 o2
        have hfit : dgr g < 0 ∨ dgr f < 0 ∨ dgr g + dgr f ≤ 12 := by
          rcases hpg with ⟨z1, z2⟩ | ⟨z1, z2⟩
          · rw [z2, one_0.1]
            have := gf.2
            omega
          · rw [← dgr_c z2]
            have : ¬ (0 ≤ dgr (pr e) ∧ 0 ≤ dgr f ∧ 12 < dgr (pr e) + dgr f) := fun y => cf ⟨z1, y⟩
            omega
        have hval : ∀ v, v < 496 → pr1 e v = mul g f v := fun v hv => by
          rw [o5 v hv]
          rcases hpg with ⟨z1, z2⟩ | ⟨z1, z2⟩
          · rw [if_neg (by omega), z2]
            exact (mul_1l gf.1 hv).symm
          · rw [if_pos z1, mul_c z2 (fun _ _ => rfl)]
        have hGm : Gv (mul g f) := ⟨mul_r, by
          have h1 := mul_d (g := g) (h := f)
          have h2 := dgr_b g
          have h3 := dgr_b f
          have h4 := hg.2
          have h5 := gf.2
          omega⟩
        rw [if_pos hfit]
        by_cases c42 : bt T b (skb T b q) = 42
        · rw [if_pos c42]
          have hbq := bt_t (T := T) (b := b) (p := skb T b q) (by omega)
          have hst : stR 1 T b (skb T b q, e, 0, mm1, 0, mi1, hp1, su1, pr1) = (1, 0, (skb T b q + 1, e, 1, 0, 0, mi1, hp1, su1, pr1)) := by
            unfold stR
            rw [if_neg (by show ¬ (0 : Int) = 1; decide)]
            unfold sgR
            exact if_pos (by rw [← hbq.2]; exact c42)
          obtain ⟨r1, r2, r3, r4, m', r5, r6⟩ := rE_v (w := 1) hb o2 hbq.1 o3
          rw [hst] at r3 r4 r5 r6
          have r3 : skb T b q + 1 ≤ b := r3
          have hI := ih (skb T b q + 1) m' 0 mi1 hp1 su1 pr1 (mul g f) r3 (by omega) r5 r6 (fun z => absurd z.2 (by decide)) hGm (Or.inr ⟨o4, hval⟩)
          have e4 : rE 1 T b (skb T b p, e, 1, mm, 0, mi, hp, su, pr) = rE 1 T b (skb T b (skb T b q + 1), e, 1, 0, 0, mi1, hp1, su1, pr1) := o1.trans r4
          rw [e4]
          refine ⟨hI.1, fun g' p' z => ?_⟩
          obtain ⟨t1, mm2, mi2, hp2, su2, pr2, m2, t2, t3, t4, t5, t6, t7, t8, t9, t10, t11⟩ := hI.2 g' p' z
          have t10 : skb T b (skb T b q + 1) < p' := t10
          have hl3 := skb_le (T := T) r3
          exact ⟨t1, mm2, mi2, hp2, su2, pr2, m2, e4.trans t2, t3, t4, t5, t6, t7.trans o6, t8.trans o7, Blw_t o8 t9, by show skb T b p < p'; omega, t11⟩
        · rw [if_neg c42]
          refine ⟨fun z => absurd z (by intro z; cases z), fun g' p' z => ?_⟩
          obtain ⟨rfl, rfl⟩ := Prod.mk.inj (Option.some.inj z)
          exact ⟨hGm, mm1, mi1, hp1, su1, pr1, m1, o1, o2, o3, o4, hval, o6, o7, o8, by show skb T b p < skb T b q; omega, c42⟩
theorem ex_ok {T : Nat → Int} {b e : Nat} (hb : b ≤ 120) (hT : ∀ j, j < b → 0 ≤ T j ∧ T j ≤ 127) {ev : Nat → rdO} (hE : e < 8 → EvS T b (e + 1) ev) (n : Nat) : ∀ (p m : Nat) (mm : Int) (mi hp : Nat → Int) (su pr : Nat → Nat → Int) (sg : Int) (t : Nat → Int), p ≤ b → b - p ≤ n → OkS T b (skb T b p, e, 1, mm, 0, mi, hp, su, pr) m → FL T b (skb T b p) m e = -1 → ¬ (bt T b (skb T b p) = 45 ∧ mm = 1) → Gv t → hp e = 0 → sgm mi e = sg → (∀ v, v < 496 → su e v = t v) → (exC T b ev n sg t p = none → (rE 1 T b (skb T b p, e, 1, mm, 0, mi, hp, su, pr)).2.2.2.2.2.2.1 = 1) ∧ ∀ y p', exC T b ev n sg t p = some (y, p') → EvO T b e (skb T b p, e, 1, mm, 0, mi, hp, su, pr) mi hp su pr y p' := by
  induction n with
  | zero =>
    intro p m mm mi hp su pr sg t hpb hn h hv
    have hp0 : p = b := by omega
    have h2 : skb T b p = b := by rw [hp0]; exact skb_0 (Nat.le_refl _) (Or.inl rfl)
    have hm01 : m = 0 ∨ m = 1 := by
      have := h.2.2.2
      rcases this with z | z | z
      · exact Or.inl z.2.2
      · exact Or.inr z.2.2
      · exact absurd z.1 (by show ¬ (1 : Int) = 0; decide)
    rw [h2, FL_e, if_neg (by omega)] at hv
    omega
  | succ n ih =>
    intro p m mm mi hp su pr sg t hpb hn h hv hnm ht hh hsg hsu
    obtain ⟨F1, F2⟩ := tm_ok hb hT hE 120 p m mm mi hp su pr one hpb (by omega) h hv hnm ⟨one_0.2, by rw [one_0.1]; decide⟩ (Or.inl ⟨hh, rfl⟩)
    have hl := skb_le (T := T) hpb
    show ((tmC T b ev 120 one p).bind (fun x => if bt T b (skb T b x.2) = 43 ∨ bt T b (skb T b x.2) = 45 then exC T b ev n (if bt T b (skb T b x.2) = 45 then 10006 else 1) (mixF 1 t sg x.1) (skb T b x.2 + 1) else some (mixF 1 t sg x.1, skb T b x.2)) = none → _) ∧ ∀ y p', (tmC T b ev 120 one p).bind (fun x => if bt T b (skb T b x.2) = 43 ∨ bt T b (skb T b x.2) = 45 then exC T b ev n (if bt T b (skb T b x.2) = 45 then 10006 else 1) (mixF 1 t sg x.1) (skb T b x.2 + 1) else some (mixF 1 t sg x.1, skb T b x.2)) = some (y, p') → _
    cases hfc : tmC T b ev 120 one p with
    | none => exact ⟨fun _ => F1 hfc, fun g' p' z => absurd z (by intro z; cases z)⟩
    | some x =>
      obtain ⟨g, q⟩ := x
      obtain ⟨gg, mm1, mi1, hp1, su1, pr1, m1, o1, o2, o3, o4, o5, o6, o7, o8, o9, o10⟩ := F2 g q hfc
      have hqb : q ≤ b := o2.1
      have hkq : skb T b q = q := o2.2.1
      have o9 : skb T b p < q := o9
      dsimp only [Option.bind_some]
      rw [hkq]
      have hsg1 : sgm mi1 e = sg := by
        rw [← hsg]
        unfold sgm
        rw [o6]
      have hval : ∀ v, v < 496 → cloS e mi1 su1 pr1 e v = mixF 1 t sg g v := fun v hv => by
        unfold cloS
        rw [au_s, hsg1, o7]
        exact mixF_c hsu o5 v hv
      have hGm : Gv (mixF 1 t sg g) := ⟨mixF_b, mixF_d ht.2 gg.2⟩
      by_cases c4 : bt T b q = 43 ∨ bt T b q = 45
      · rw [if_pos c4]
        have hbq := bt_t (T := T) (b := b) (p := q) (by omega)
        rw [hbq.2] at c4 ⊢
        have hst : stR 1 T b (q, e, 0, mm1, 0, mi1, hp1, su1, pr1) = (1, 0, (q + 1, e, 1, 0, 0, au mi1 e (if T q = 45 then 1 else 0), au hp1 e 0, cloS e mi1 su1 pr1, pr1)) := by
          unfold stR
          rw [if_neg (by show ¬ (0 : Int) = 1; decide)]
          unfold sgR
          rw [if_neg (by show ¬ T q = 42; omega)]
          exact if_pos c4
        obtain ⟨r1, r2, r3, r4, m', r5, r6⟩ := rE_v (w := 1) hb o2 hbq.1 o3
        rw [hst] at r3 r4 r5 r6
        have r3 : q + 1 ≤ b := r3
        have hI := ih (q + 1) m' 0 (au mi1 e (if T q = 45 then 1 else 0)) (au hp1 e 0) (cloS e mi1 su1 pr1) pr1 (if T q = 45 then 10006 else 1) (mixF 1 t sg g) r3 (by omega) r5 r6 (fun z => absurd z.2 (by decide)) hGm (au_s _ _ _) (by
          unfold sgm
          rw [au_s]
          by_cases c : T q = 45
          · rw [if_pos c, if_pos c, if_pos rfl]
          · rw [if_neg c, if_neg c, if_neg (by decide)]) hval
        have e4 : rE 1 T b (skb T b p, e, 1, mm, 0, mi, hp, su, pr) = rE 1 T b (skb T b (q + 1), e, 1, 0, 0, au mi1 e (if T q = 45 then 1 else 0), au hp1 e 0, cloS e mi1 su1 pr1, pr1) := o1.trans r4
        rw [e4]
        refine ⟨hI.1, fun y p' z => ?_⟩
        obtain ⟨t1, mm2, mi2, hp2, su2, pr2, m2, t2, t3, t4, t5, t6, t7, t8, t9, t10, t11⟩ := hI.2 y p' z
        have t8 : skb T b (q + 1) < p' := t8
        have hl3 := skb_le (T := T) r3
        refine ⟨t1, mm2, mi2, hp2, su2, pr2, m2, e4.trans t2, t3, t4, t5, t6, Blw_t (Blw_t o8 (fun k hk => ⟨au_n _ _ (by omega), au_n _ _ (by omega), ?_, rfl⟩)) t7, by show skb T b p < p'; omega, t9, t10, t11⟩
        unfold cloS
        exact au_n _ _ (by omega)
      · rw [if_neg c4]
        refine ⟨fun z => absurd z (by intro z; cases z), fun y p' z => ?_⟩
        obtain ⟨rfl, rfl⟩ := Prod.mk.inj (Option.some.inj z)
        exact ⟨hGm, mm1, mi1, hp1, su1, pr1, m1, o1, o2, o3, o4, hval, o8, o9, o10, fun z => c4 (Or.inl z), fun z => c4 (Or.inr z)⟩
theorem zer_G : Gv (fun _ => 0) := ⟨zer_d, dgr_le (by decide) (fun _ _ _ => rfl)⟩
theorem ev_st {T : Nat → Int} {b e k : Nat} (hb : b ≤ 120) (hT : ∀ j, j < b → 0 ≤ T j ∧ T j ≤ 127) (hE : e < 8 → EvS T b (e + 1) (evE T b k)) (he : e ≤ 8) : EvS T b e (evE T b (k + 1)) := fun p mi hp su pr hpb hmi hhp hsu hv => by
  have hl := skb_le (T := T) hpb
  have hok : OkS T b (skb T b p, e, 1, 1, 0, mi, hp, su, pr) 0 := ⟨hl.2, skb_i hpb, he, Or.inl ⟨rfl, rfl, rfl⟩⟩
  show ((if bt T b (skb T b p) = 45 then exC T b (evE T b k) 120 10006 (fun _ => 0) (skb T b p + 1) else exC T b (evE T b k) 120 1 (fun _ => 0) (skb T b p)) = none → _) ∧ ∀ y p', (if bt T b (skb T b p) = 45 then exC T b (evE T b k) 120 10006 (fun _ => 0) (skb T b p + 1) else exC T b (evE T b k) 120 1 (fun _ => 0) (skb T b p)) = some (y, p') → _
  by_cases c : bt T b (skb T b p) = 45
  · rw [if_pos c]
    have hbq := bt_t (T := T) (b := b) (p := skb T b p) (by omega)
    have hst : stR 1 T b (skb T b p, e, 1, 1, 0, mi, hp, su, pr) = (1, 0, (skb T b p + 1, e, 1, 0, 0, au mi e 1, hp, su, pr)) := by
      unfold stR
      rw [if_pos (by show (1 : Int) = 1; rfl)]
      unfold fcR
      exact if_pos ⟨by rw [← hbq.2]; exact c, rfl⟩
    obtain ⟨r1, r2, r3, r4, m', r5, r6⟩ := rE_v (w := 1) hb hok hbq.1 hv
    rw [hst] at r3 r4 r5 r6
    have r3 : skb T b p + 1 ≤ b := r3
    have r4 : rE 1 T b (skb T b p, e, 1, 1, 0, mi, hp, su, pr) = rE 1 T b (skb T b (skb T b p + 1), e, 1, 0, 0, au mi e 1, hp, su, pr) := r4
    have hI := ex_ok hb hT hE 120 (skb T b p + 1) m' 0 (au mi e 1) hp su pr 10006 (fun _ => 0) r3 (by omega) r5 r6 (fun z => absurd z.2 (by decide)) zer_G hhp (by unfold sgm; rw [au_s, if_pos rfl]) hsu
    rw [r4]
    refine ⟨hI.1, fun y p' z => ?_⟩
    obtain ⟨t1, mm2, mi2, hp2, su2, pr2, m2, t2, t3, t4, t5, t6, t7, t8, t9⟩ := hI.2 y p' z
    have t8 : skb T b (skb T b p + 1) < p' := t8
    have hl3 := skb_le (T := T) r3
    exact ⟨t1, mm2, mi2, hp2, su2, pr2, m2, r4.trans t2, t3, t4, t5, t6, Blw_t (fun k hk => ⟨au_n _ _ (by omega), rfl, rfl, rfl⟩) t7, by show skb T b p < p'; omega, t9⟩
  · rw [if_neg c]
    have hki := skb_i (T := T) hpb
    have hI := ex_ok hb hT hE 120 (skb T b p) 0 1 mi hp su pr 1 (fun _ => 0) hl.2 (by omega) (by rw [hki]; exact hok) (by rw [hki]; exact hv) (by rw [hki]; exact fun z => c z.1) zer_G hhp (by unfold sgm; rw [hmi, if_neg (by decide)]) hsu
    rw [hki] at hI
    exact hI
/-- an expression -/
theorem ev_ok {T : Nat → Int} {b : Nat} (hb : b ≤ 120) (hT : ∀ j, j < b → 0 ≤ T j ∧ T j ≤ 127) (k : Nat) : ∀ e, e + k = 8 → EvS T b e (evE T b (k + 1)) := by
  induction k with
  | zero => exact fun e he => ev_st hb hT (fun z => by omega) (by omega)
  | succ k ih => exact fun e he => ev_st hb hT (fun _ => ih (e + 1) (by omega)) (by omega)
theorem rdG_w0 {T : Nat → Int} {b : Nat} (n : Nat) : ∀ s : rdT, s.2.2.2.2.1 = 0 → (rdG 0 T b n s).2.2.2.2.2.2.1 = 0 := by
  have hp0 : ∀ {p e : Nat} {mm : Int} {mi hp : Nat → Int} {su pr : Nat → Nat → Int} {y : Nat → Int}, (pwR 0 T b p e mm 0 mi hp su pr y).2.2.2.2.2.2.1 = 0 := by
    intro p e mm mi hp su pr y
    unfold pwR tkU
    split
    · split
      · dsimp only
        exact if_neg (show ¬ ((0 : Int) = 1 ∧ (0 : Int) = 0) by omega)
      · rfl
    · dsimp only
      exact if_neg (show ¬ ((0 : Int) = 1 ∧ (0 : Int) = 0) by omega)
  have hs : ∀ s : rdT, s.2.2.2.2.1 = 0 → (stR 0 T b s).2.2.2.2.2.2.1 = 0 := fun s h => by
    obtain ⟨p, e, la, mm, fu, mi, hp, su, pr⟩ := s
    have h : fu = 0 := h
    subst h
    unfold stR fcR sgR
    dsimp only
    split
    · split
      · rfl
      split
      · split <;> rfl
      split
      · split
        · rfl
        · exact hp0
      split
      · exact hp0
      split
      · exact hp0
      · rfl
    · split
      · rfl
      split
      · rfl
      split
      · exact hp0
      · rfl
  induction n with
  | zero => intro s h; exact h
  | succ n ih =>
    intro s h
    unfold rdG
    split
    · split
      · exact hs s h
      · exact ih _ (hs s h)
    · exact h
theorem rv_0 {T : Nat → Int} {b : Nat} : RdVal 0 T b 0 (fun _ => 0) := fun mi hp su pr => ⟨rdG_w0 (b + 1) _ rfl, fun z => absurd z (by decide)⟩
theorem rdR_E {T : Nat → Int} {b : Nat} (hb : b ≤ 120) {mi hp : Nat → Int} {su pr : Nat → Nat → Int} : rdR 1 T b mi hp su pr = rE 1 T b (skb T b 0, 0, 1, 1, 0, au mi 0 0, au hp 0 0, au su 0 (fun _ => 0), pr) := by
  have hl := skb_le (T := T) (Nat.zero_le b)
  exact rdG_f hb _ (skS T b (0, 0, 1, 1, 0, au mi 0 0, au hp 0 0, au su 0 (fun _ => 0), pr)) 0 _ _ ⟨hl.2, skb_i (Nat.zero_le _), Nat.zero_le _, Or.inl ⟨rfl, rfl, rfl⟩⟩ (Nat.le_refl _) (by show b - skb T b 0 < b + 1; omega) (by show b - skb T b 0 < b - skb T b 0 + 1; omega)
/-- a text that is too much -/
theorem rv_full {T : Nat → Int} {b : Nat} (hb : b ≤ 120) (hT : ∀ j, j < b → 0 ≤ T j ∧ T j ≤ 127) (h : flG T b (b + 1) 0 0 0 = -1) (he : evE T b 9 0 = none) : RdVal 1 T b 1 (fun _ => 0) := fun mi hp su pr => by
  have hv : FL T b (skb T b 0) 0 0 = -1 := by rw [← FL_k (T := T) (m := 0) (o := 0) hb (by decide) (by decide) _ 0 (Nat.le_refl _) (Nat.zero_le _)]; exact h
  rw [rdR_E hb]
  exact ⟨(ev_ok hb hT 8 0 rfl 0 (au mi 0 0) (au hp 0 0) (au su 0 (fun _ => 0)) pr (Nat.zero_le _) (au_s _ _ _) (au_s _ _ _) (fun v _ => by rw [au_s]) hv).1 he, fun _ z => absurd z (by decide)⟩
/-- the value of a text -/
theorem rv_ok {T : Nat → Int} {b : Nat} (hb : b ≤ 120) (hT : ∀ j, j < b → 0 ≤ T j ∧ T j ≤ 127) (h : flG T b (b + 1) 0 0 0 = -1) {y : Nat → Int} {p : Nat} (he : evE T b 9 0 = some (y, p)) : RdVal 1 T b 0 y := fun mi hp su pr => by
  have hv : FL T b (skb T b 0) 0 0 = -1 := by rw [← FL_k (T := T) (m := 0) (o := 0) hb (by decide) (by decide) _ 0 (Nat.le_refl _) (Nat.zero_le _)]; exact h
  rw [rdR_E hb]
  obtain ⟨_, mm', mi', hp', su', pr', m', o1, o2, o3, o4, o5, o6, o7, o8, o9, o10⟩ := (ev_ok hb hT 8 0 rfl 0 (au mi 0 0) (au hp 0 0) (au su 0 (fun _ => 0)) pr (Nat.zero_le _) (au_s _ _ _) (au_s _ _ _) (fun v _ => by rw [au_s]) hv).2 y p he
  have hpb : ¬ p < b := fun hlt => by
    have hb2 := bt_s (T := T) hlt
    rw [hb2] at o8 o9 o10
    obtain ⟨t1, _⟩ := rE_v (w := 1) hb o2 hlt o3
    have : (stR 1 T b (p, 0, 0, mm', 0, mi', hp', su', pr')).1 = 0 := by
      unfold stR
      rw [if_neg (by show ¬ (0 : Int) = 1; decide)]
      unfold sgR
      rw [if_neg o8, if_neg (by show ¬ (T p = 43 ∨ T p = 45); omega), if_neg (fun z => z.2 rfl)]
    omega
  rw [o1, rE_e hpb]
  exact ⟨rfl, fun _ _ => o5⟩
