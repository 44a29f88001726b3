/-! The reference's reader: isRead, reads. Written by wip/whole/gen_72.py. -/
noncomputable def rdR (w : Int) (T : Nat → Int) (b : Nat) (mi hp : Nat → Int) (su pr : Nat → Nat → Int) : Int × Nat × rdT := rdG w T b (b + 1) (skS T b (0, 0, 1, 1, 0, au mi 0 0, au hp 0 0, au su 0 (fun _ => 0), pr))
/-- a text that can't be read, with the place; a text that can; what it is worth -/
def RdNo (w : Int) (T : Nat → Int) (b wr : Nat) : Prop := ∀ mi hp su pr, ((rdR w T b mi hp su pr).1 = 0 ∧ (rdR w T b mi hp su pr).2.1 = wr) ∨ ((rdR w T b mi hp su pr).1 = 1 ∧ ((rdR w T b mi hp su pr).2.2.2.2.1 = 1 ∨ 0 < (rdR w T b mi hp su pr).2.2.2.1) ∧ wr = b)
def RdYes (w : Int) (T : Nat → Int) (b : Nat) : Prop := ∀ mi hp su pr, (rdR w T b mi hp su pr).1 = 1 ∧ (rdR w T b mi hp su pr).2.2.2.2.1 = 0 ∧ (rdR w T b mi hp su pr).2.2.2.1 = 0
def RdVal (w : Int) (T : Nat → Int) (b : Nat) (fu : Int) (y : Nat → Int) : Prop := ∀ mi hp su pr, (rdR w T b mi hp su pr).2.2.2.2.2.2.1 = fu ∧ (w = 1 → fu = 0 → ∀ v, v < 496 → cloS 0 (rdR w T b mi hp su pr).2.2.2.2.2.2.2.1 (rdR w T b mi hp su pr).2.2.2.2.2.2.2.2.2.1 (rdR w T b mi hp su pr).2.2.2.2.2.2.2.2.2.2 0 v = y v)
theorem rd_begin {I : Nat → Nat → Int} {w : Int} {b : Nat} (hw : w = 0 ∨ w = 1) (hR : Res I) (hB : Bol I) : Fr I (spI (opI (au (au (au (au I 301 (au (I 301) 23 w)) 301 (au ((au I 301 (au (I 301) 23 w)) 301) 24 0)) 301 (au ((au (au I 301 (au (I 301) 23 w)) 301 (au ((au I 301 (au (I 301) 23 w)) 301) 24 0)) 301) 18 0)) 301 (au ((au (au (au I 301 (au (I 301) 23 w)) 301 (au ((au I 301 (au (I 301) 23 w)) 301) 24 0)) 301 (au ((au (au I 301 (au (I 301) 23 w)) 301 (au ((au I 301 (au (I 301) 23 w)) 301) 24 0)) 301) 18 0)) 301) 20 0)) 0) (skb (I 305) b 0)) ∧ Rd (spI (opI (au (au (au (au I 301 (au (I 301) 23 w)) 301 (au ((au I 301 (au (I 301) 23 w)) 301) 24 0)) 301 (au ((au (au I 301 (au (I 301) 23 w)) 301 (au ((au I 301 (au (I 301) 23 w)) 301) 24 0)) 301) 18 0)) 301 (au ((au (au (au I 301 (au (I 301) 23 w)) 301 (au ((au I 301 (au (I 301) 23 w)) 301) 24 0)) 301 (au ((au (au I 301 (au (I 301) 23 w)) 301 (au ((au I 301 (au (I 301) 23 w)) 301) 24 0)) 301) 18 0)) 301) 20 0)) 0) (skb (I 305) b 0)) w (skS (I 305) b (0, 0, 1, 1, 0, au (fun k => if k ≤ 8 then I 315 k else 0) 0 0, au (fun k => if k ≤ 8 then I 316 k else 0) 0 0, au (fun k v => gro I (28 + k) v) 0 (fun _ => 0), fun _ _ => 0)) := by
  have f1 : Fr I (au (au (au (au I 301 (au (I 301) 23 w)) 301 (au ((au I 301 (au (I 301) 23 w)) 301) 24 0)) 301 (au ((au (au I 301 (au (I 301) 23 w)) 301 (au ((au I 301 (au (I 301) 23 w)) 301) 24 0)) 301) 18 0)) 301 (au ((au (au (au I 301 (au (I 301) 23 w)) 301 (au ((au I 301 (au (I 301) 23 w)) 301) 24 0)) 301 (au ((au (au I 301 (au (I 301) 23 w)) 301 (au ((au I 301 (au (I 301) 23 w)) 301) 24 0)) 301) 18 0)) 301) 20 0)) := Fr_f (f := 20) (Fr_f (f := 18) (Fr_f (f := 24) (Fr_f (f := 23) (Fr_r hR) (by omega)) (by omega)) (by omega)) (by omega)
  refine ⟨?_, ?_⟩
  · refine Fr_sp ?_
    unfold opI
    refine Fr_s (Fr_a (Fr_a ?_ (by omega)) (by omega)) (by omega) zer_d
    exact Fr_t f1 ⟨fun a _ q => au_n _ _ q, ⟨rfl, rfl, rfl⟩, ⟨rfl, rfl, rfl, rfl⟩, fun _ _ _ _ => rfl, hR⟩
  · refine ⟨⟨rfl, rfl, rfl, rfl, rfl, rfl, fun k hk => ?_, fun k hk => ?_⟩, ⟨Nat.zero_le _, hw, Or.inr rfl, Or.inr rfl, Or.inl rfl, b_au (fun k => ?_) (Or.inl rfl), b_au (fun k => ?_) (Or.inl rfl)⟩, fun _ _ k hk => ?_⟩
    · show (if k = 0 then (0 : Int) else I 315 k) = (if k = 0 then 0 else if k ≤ 8 then I 315 k else 0)
      rw [if_pos hk]
    · show (if k = 0 then (0 : Int) else I 316 k) = (if k = 0 then 0 else if k ≤ 8 then I 316 k else 0)
      rw [if_pos hk]
    · show (if k ≤ 8 then I 315 k else 0) = 0 ∨ (if k ≤ 8 then I 315 k else 0) = 1
      by_cases c : k ≤ 8
      · rw [if_pos c]; exact (hB k c).1
      · rw [if_neg c]; exact Or.inl rfl
    · show (if k ≤ 8 then I 316 k else 0) = 0 ∨ (if k ≤ 8 then I 316 k else 0) = 1
      by_cases c : k ≤ 8
      · rw [if_pos c]; exact (hB k c).2
      · rw [if_neg c]; exact Or.inl rfl
    · have hk0 : k = 0 := Nat.le_zero.mp hk
      subst hk0
      refine ⟨fun v hv => ?_, dgr_le (by omega) (fun _ _ _ => rfl), fun z => absurd z (by show ¬ (0 : Int) = 1; decide)⟩
      show gro (sro I (28 + 0) (fun _ => 0)) (28 + 0) v = 0
      exact gro_s hv
set_option maxRecDepth 10000 in
theorem s_read_no {d L : Nat} {I : Nat → Nat → Int} {R : Nat → Nat → Option Nat} {u : Int64} (hF : FixR R) {w : Int} (hw : w = 0 ∨ w = 1) {b : Nat} (hR : Res I) (hT : Tabs I) (hx : Txt I b) (hB : Bol I) {wr : Nat} (hc : RdNo w (I 305) b wr) : ∃ J, am_run am_tb (d + 9) 218 [vR 301, vI w] (LH L I R u) = some ([vI 0], LH L J R u) ∧ Fr I J ∧ Bol J ∧ J 301 19 = (wr : Nat) := by
  obtain ⟨f2, r2⟩ := rd_begin (b := b) hw hR hB
  have hop := s_opens (d := d + 6) (L := L) (u := u) (I := (au (au (au (au I 301 (au (I 301) 23 w)) 301 (au ((au I 301 (au (I 301) 23 w)) 301) 24 0)) 301 (au ((au (au I 301 (au (I 301) 23 w)) 301 (au ((au I 301 (au (I 301) 23 w)) 301) 24 0)) 301) 18 0)) 301 (au ((au (au (au I 301 (au (I 301) 23 w)) 301 (au ((au I 301 (au (I 301) 23 w)) 301) 24 0)) 301 (au ((au (au I 301 (au (I 301) 23 w)) 301 (au ((au I 301 (au (I 301) 23 w)) 301) 24 0)) 301) 18 0)) 301) 20 0))) hF (e := 0) rfl (by omega)
  have hb2 := hx.2.1
  have hbl := s_blanks (d := d + 5) (L := L) (u := u) (I := (opI (au (au (au (au I 301 (au (I 301) 23 w)) 301 (au ((au I 301 (au (I 301) 23 w)) 301) 24 0)) 301 (au ((au (au I 301 (au (I 301) 23 w)) 301 (au ((au I 301 (au (I 301) 23 w)) 301) 24 0)) 301) 18 0)) 301 (au ((au (au (au I 301 (au (I 301) 23 w)) 301 (au ((au I 301 (au (I 301) 23 w)) 301) 24 0)) 301 (au ((au (au I 301 (au (I 301) 23 w)) 301 (au ((au I 301 (au (I 301) 23 w)) 301) 24 0)) 301) 18 0)) 301) 20 0)) 0)) hF (p := 0) (b := b) rfl hx.1 hx.2.1 (Nat.zero_le _) hx.2.2
  rw [show 0 + nbl (opI (au (au (au (au I 301 (au (I 301) 23 w)) 301 (au ((au I 301 (au (I 301) 23 w)) 301) 24 0)) 301 (au ((au (au I 301 (au (I 301) 23 w)) 301 (au ((au I 301 (au (I 301) 23 w)) 301) 24 0)) 301) 18 0)) 301 (au ((au (au (au I 301 (au (I 301) 23 w)) 301 (au ((au I 301 (au (I 301) 23 w)) 301) 24 0)) 301 (au ((au (au I 301 (au (I 301) 23 w)) 301 (au ((au I 301 (au (I 301) 23 w)) 301) 24 0)) 301) 18 0)) 301) 20 0)) 0) 0 b = skb (I 305) b 0 from rfl] at hbl
  have hsk := skb_le (T := I 305) (Nat.zero_le b)
  obtain ⟨J, hFJ, hor⟩ := lp_read (d := d) (L := L) (u := u) (I := (spI (opI (au (au (au (au I 301 (au (I 301) 23 w)) 301 (au ((au I 301 (au (I 301) 23 w)) 301) 24 0)) 301 (au ((au (au I 301 (au (I 301) 23 w)) 301 (au ((au I 301 (au (I 301) 23 w)) 301) 24 0)) 301) 18 0)) 301 (au ((au (au (au I 301 (au (I 301) 23 w)) 301 (au ((au I 301 (au (I 301) 23 w)) 301) 24 0)) 301 (au ((au (au I 301 (au (I 301) 23 w)) 301 (au ((au I 301 (au (I 301) 23 w)) 301) 24 0)) 301) 18 0)) 301) 20 0)) 0) (skb (I 305) b 0))) hF f2.2.2.2.2 (Fr_T f2 hT) (Txt_Fr hx f2) r2 hsk.2 (Or.inl rfl)
  have q305 : (spI (opI (au (au (au (au I 301 (au (I 301) 23 w)) 301 (au ((au I 301 (au (I 301) 23 w)) 301) 24 0)) 301 (au ((au (au I 301 (au (I 301) 23 w)) 301 (au ((au I 301 (au (I 301) 23 w)) 301) 24 0)) 301) 18 0)) 301 (au ((au (au (au I 301 (au (I 301) 23 w)) 301 (au ((au I 301 (au (I 301) 23 w)) 301) 24 0)) 301 (au ((au (au I 301 (au (I 301) 23 w)) 301 (au ((au I 301 (au (I 301) 23 w)) 301) 24 0)) 301) 18 0)) 301) 20 0)) 0) (skb (I 305) b 0)) 305 = I 305 := rfl
  rw [q305] at hor
  have hFIJ := Fr_t f2 hFJ
  have hrun : rdG w (I 305) b (b + 1) (skS (I 305) b (0, 0, 1, 1, 0, au (fun k => if k ≤ 8 then I 315 k else 0) 0 0, au (fun k => if k ≤ 8 then I 316 k else 0) 0 0, au (fun k v => gro I (28 + k) v) 0 (fun _ => 0), fun _ _ => 0)) = rdR w (I 305) b (fun k => if k ≤ 8 then I 315 k else 0) (fun k => if k ≤ 8 then I 316 k else 0) (fun k v => gro I (28 + k) v) (fun _ _ => 0) := rfl
  rw [hrun] at hor
  have hc := hc (fun k => if k ≤ 8 then I 315 k else 0) (fun k => if k ≤ 8 then I 316 k else 0) (fun k v => gro I (28 + k) v) (fun _ _ => 0)

  generalize rdR w (I 305) b (fun k => if k ≤ 8 then I 315 k else 0) (fun k => if k ≤ 8 then I 316 k else 0) (fun k v => gro I (28 + k) v) (fun _ _ => 0) = RR at *

  cases hor with
  | inl h =>
    have hwr : RR.2.1 = wr := by
      cases hc with
      | inl z => exact z.2
      | inr z => have := h.1; have := z.1; omega
    refine ⟨J, ?_, hFIJ, h.2.2.2.2, by rw [h.2.2.1, hwr]⟩
    have hl := h.2.1
    refine run_of tb_X12_isRead (Nat.le_of_ble_eq_true rfl) ?_
    show ∃ ls', am_ev (am_run am_tb (d + 8)) tX12_isRead ([vR 301, vI w], [], LH L I R u) = some (1, ls', [vI (0)], LH L (J) R u)
    apply Exists.intro
    unfold tX12_isRead
    apply t_Q
    · apply t_S
      refine x_aload_n rfl ?_
      refine x_iload_n rfl ?_
      refine x_pi tg_301 rfl (by first | rfl | exact decide_eq_true (by omega)) ?_
      refine x_aload_n rfl ?_
      refine x_iconst ?_
      refine x_pi tg_301 rfl (by first | rfl | exact decide_eq_true (by omega)) ?_
      refine x_aload_n rfl ?_
      refine x_iconst ?_
      refine x_pi tg_301 rfl rfl ?_
      refine x_aload_n rfl ?_
      refine x_iconst ?_
      refine x_pi tg_301 rfl rfl ?_
      refine x_aload_n rfl ?_
      refine x_V1v tg_301 (Nat.le_of_ble_eq_true rfl) (hop) ?_
      refine x_aload_n rfl ?_
      refine x_V1v tg_301 (Nat.le_of_ble_eq_true rfl) (hbl) ?_
      exact rfl
    apply t_Qs
    apply t_Ks
    · apply t_W
      exact hl
    · decide
  | inr h =>
    have hxJ := Txt_Fr hx hFIJ
    have hrd := h.2.2.1
    have hz : (RR.2.2.2.2.1 = 1 ∨ 0 < RR.2.2.2.1) ∧ wr = b := by
      cases hc with
      | inl z => have := h.1; have := z.1; omega
      | inr z => exact z.2
    have he8 := hrd.2.1.1
    have hla := hrd.2.1.2.2.1
    have hl := h.2.1
    refine ⟨(au J 301 (au (J 301) 19 (b : Int))), ?_, Fr_f (f := 19) hFIJ (by omega), (show Bol J from Bol_of hrd.1 hrd.2.1), by rw [hz.2]; rfl⟩
    refine run_of tb_X12_isRead (Nat.le_of_ble_eq_true rfl) ?_
    show ∃ ls', am_ev (am_run am_tb (d + 8)) tX12_isRead ([vR 301, vI w], [], LH L I R u) = some (1, ls', [vI (0)], LH L ((au J 301 (au (J 301) 19 (b : Int)))) R u)
    by_cases c : RR.2.2.2.2.1 = 1
    · skip
      apply Exists.intro
      unfold tX12_isRead
      apply t_Q
      · apply t_S
        refine x_aload_n rfl ?_
        refine x_iload_n rfl ?_
        refine x_pi tg_301 rfl (by first | rfl | exact decide_eq_true (by omega)) ?_
        refine x_aload_n rfl ?_
        refine x_iconst ?_
        refine x_pi tg_301 rfl (by first | rfl | exact decide_eq_true (by omega)) ?_
        refine x_aload_n rfl ?_
        refine x_iconst ?_
        refine x_pi tg_301 rfl rfl ?_
        refine x_aload_n rfl ?_
        refine x_iconst ?_
        refine x_pi tg_301 rfl rfl ?_
        refine x_aload_n rfl ?_
        refine x_V1v tg_301 (Nat.le_of_ble_eq_true rfl) (hop) ?_
        refine x_aload_n rfl ?_
        refine x_V1v tg_301 (Nat.le_of_ble_eq_true rfl) (hbl) ?_
        exact rfl
      apply t_Q
      · apply t_K
        apply t_W
        exact hl
      apply t_Q
      · apply t_S
        refine x_aload_n rfl ?_
        refine x_giv tg_301 rfl (show _ = RR.2.2.2.2.1 from hrd.1.2.2.1) ?_
        exact rfl
      apply t_Qs
      apply t_Ks
      · apply t_Q
        · apply t_K
          apply t_Qs
          apply t_B
          · exact rfl
          exact t_if_ne_t (by omega)
        apply t_B
        · refine x_aload_n rfl ?_
          refine x_aload_n rfl ?_
          refine x_giv tg_301 rfl (show _ = ((b : Nat) : Int) from hxJ.1) ?_
          refine x_V2i tg_301 (Nat.le_of_ble_eq_true rfl) (s_fails (d := d + 7) hF) ?_
          exact rfl
        exact t_ireq (Or.inr (Or.inl rfl)) rfl rfl
      · decide
    · have c2 : 0 < RR.2.2.2.1 := by have := hz.1; omega
      apply Exists.intro
      unfold tX12_isRead
      apply t_Q
      · apply t_S
        refine x_aload_n rfl ?_
        refine x_iload_n rfl ?_
        refine x_pi tg_301 rfl (by first | rfl | exact decide_eq_true (by omega)) ?_
        refine x_aload_n rfl ?_
        refine x_iconst ?_
        refine x_pi tg_301 rfl (by first | rfl | exact decide_eq_true (by omega)) ?_
        refine x_aload_n rfl ?_
        refine x_iconst ?_
        refine x_pi tg_301 rfl rfl ?_
        refine x_aload_n rfl ?_
        refine x_iconst ?_
        refine x_pi tg_301 rfl rfl ?_
        refine x_aload_n rfl ?_
        refine x_V1v tg_301 (Nat.le_of_ble_eq_true rfl) (hop) ?_
        refine x_aload_n rfl ?_
        refine x_V1v tg_301 (Nat.le_of_ble_eq_true rfl) (hbl) ?_
        exact rfl
      apply t_Q
      · apply t_K
        apply t_W
        exact hl
      apply t_Q
      · apply t_S
        refine x_aload_n rfl ?_
        refine x_giv tg_301 rfl (show _ = RR.2.2.2.2.1 from hrd.1.2.2.1) ?_
        exact rfl
      apply t_Qs
      apply t_Ks
      · apply t_Q
        · apply t_Ks
          · apply t_Q
            · apply t_B
              · exact rfl
              exact t_if_ne_f (by omega)
            apply t_B
            · refine x_aload_n rfl ?_
              refine x_giv tg_301 rfl (show _ = ((RR.2.2.2.1 : Nat) : Int) from hrd.1.2.1) ?_
              exact rfl
            exact t_if_le_f (by omega)
          · decide
        apply t_B
        · refine x_aload_n rfl ?_
          refine x_aload_n rfl ?_
          refine x_giv tg_301 rfl (show _ = ((b : Nat) : Int) from hxJ.1) ?_
          refine x_V2i tg_301 (Nat.le_of_ble_eq_true rfl) (s_fails (d := d + 7) hF) ?_
          exact rfl
        exact t_ireq (Or.inr (Or.inl rfl)) rfl rfl
      · decide
set_option maxRecDepth 10000 in
theorem s_read_ok {d L : Nat} {I : Nat → Nat → Int} {R : Nat → Nat → Option Nat} {u : Int64} (hF : FixR R) {w : Int} (hw : w = 0 ∨ w = 1) {b : Nat} (hR : Res I) (hT : Tabs I) (hx : Txt I b) (hB : Bol I) (hc : RdYes w (I 305) b) {fu : Int} {y : Nat → Int} (hv : RdVal w (I 305) b fu y) : ∃ J, am_run am_tb (d + 9) 218 [vR 301, vI w] (LH L I R u) = some ([vI 1], LH L J R u) ∧ Fr I J ∧ Bol J ∧ J 301 24 = fu ∧ (fu = 0 ∨ fu = 1) ∧ (w = 1 → fu = 0 → ∀ v, v < 496 → gro J 28 v = y v) := by
  obtain ⟨f2, r2⟩ := rd_begin (b := b) hw hR hB
  have hop := s_opens (d := d + 6) (L := L) (u := u) (I := (au (au (au (au I 301 (au (I 301) 23 w)) 301 (au ((au I 301 (au (I 301) 23 w)) 301) 24 0)) 301 (au ((au (au I 301 (au (I 301) 23 w)) 301 (au ((au I 301 (au (I 301) 23 w)) 301) 24 0)) 301) 18 0)) 301 (au ((au (au (au I 301 (au (I 301) 23 w)) 301 (au ((au I 301 (au (I 301) 23 w)) 301) 24 0)) 301 (au ((au (au I 301 (au (I 301) 23 w)) 301 (au ((au I 301 (au (I 301) 23 w)) 301) 24 0)) 301) 18 0)) 301) 20 0))) hF (e := 0) rfl (by omega)
  have hb2 := hx.2.1
  have hbl := s_blanks (d := d + 5) (L := L) (u := u) (I := (opI (au (au (au (au I 301 (au (I 301) 23 w)) 301 (au ((au I 301 (au (I 301) 23 w)) 301) 24 0)) 301 (au ((au (au I 301 (au (I 301) 23 w)) 301 (au ((au I 301 (au (I 301) 23 w)) 301) 24 0)) 301) 18 0)) 301 (au ((au (au (au I 301 (au (I 301) 23 w)) 301 (au ((au I 301 (au (I 301) 23 w)) 301) 24 0)) 301 (au ((au (au I 301 (au (I 301) 23 w)) 301 (au ((au I 301 (au (I 301) 23 w)) 301) 24 0)) 301) 18 0)) 301) 20 0)) 0)) hF (p := 0) (b := b) rfl hx.1 hx.2.1 (Nat.zero_le _) hx.2.2
  rw [show 0 + nbl (opI (au (au (au (au I 301 (au (I 301) 23 w)) 301 (au ((au I 301 (au (I 301) 23 w)) 301) 24 0)) 301 (au ((au (au I 301 (au (I 301) 23 w)) 301 (au ((au I 301 (au (I 301) 23 w)) 301) 24 0)) 301) 18 0)) 301 (au ((au (au (au I 301 (au (I 301) 23 w)) 301 (au ((au I 301 (au (I 301) 23 w)) 301) 24 0)) 301 (au ((au (au I 301 (au (I 301) 23 w)) 301 (au ((au I 301 (au (I 301) 23 w)) 301) 24 0)) 301) 18 0)) 301) 20 0)) 0) 0 b = skb (I 305) b 0 from rfl] at hbl
  have hsk := skb_le (T := I 305) (Nat.zero_le b)
  obtain ⟨J, hFJ, hor⟩ := lp_read (d := d) (L := L) (u := u) (I := (spI (opI (au (au (au (au I 301 (au (I 301) 23 w)) 301 (au ((au I 301 (au (I 301) 23 w)) 301) 24 0)) 301 (au ((au (au I 301 (au (I 301) 23 w)) 301 (au ((au I 301 (au (I 301) 23 w)) 301) 24 0)) 301) 18 0)) 301 (au ((au (au (au I 301 (au (I 301) 23 w)) 301 (au ((au I 301 (au (I 301) 23 w)) 301) 24 0)) 301 (au ((au (au I 301 (au (I 301) 23 w)) 301 (au ((au I 301 (au (I 301) 23 w)) 301) 24 0)) 301) 18 0)) 301) 20 0)) 0) (skb (I 305) b 0))) hF f2.2.2.2.2 (Fr_T f2 hT) (Txt_Fr hx f2) r2 hsk.2 (Or.inl rfl)
  have q305 : (spI (opI (au (au (au (au I 301 (au (I 301) 23 w)) 301 (au ((au I 301 (au (I 301) 23 w)) 301) 24 0)) 301 (au ((au (au I 301 (au (I 301) 23 w)) 301 (au ((au I 301 (au (I 301) 23 w)) 301) 24 0)) 301) 18 0)) 301 (au ((au (au (au I 301 (au (I 301) 23 w)) 301 (au ((au I 301 (au (I 301) 23 w)) 301) 24 0)) 301 (au ((au (au I 301 (au (I 301) 23 w)) 301 (au ((au I 301 (au (I 301) 23 w)) 301) 24 0)) 301) 18 0)) 301) 20 0)) 0) (skb (I 305) b 0)) 305 = I 305 := rfl
  rw [q305] at hor
  have hFIJ := Fr_t f2 hFJ
  have hrun : rdG w (I 305) b (b + 1) (skS (I 305) b (0, 0, 1, 1, 0, au (fun k => if k ≤ 8 then I 315 k else 0) 0 0, au (fun k => if k ≤ 8 then I 316 k else 0) 0 0, au (fun k v => gro I (28 + k) v) 0 (fun _ => 0), fun _ _ => 0)) = rdR w (I 305) b (fun k => if k ≤ 8 then I 315 k else 0) (fun k => if k ≤ 8 then I 316 k else 0) (fun k v => gro I (28 + k) v) (fun _ _ => 0) := rfl
  rw [hrun] at hor
  have hc := hc (fun k => if k ≤ 8 then I 315 k else 0) (fun k => if k ≤ 8 then I 316 k else 0) (fun k v => gro I (28 + k) v) (fun _ _ => 0)

  have hv := hv (fun k => if k ≤ 8 then I 315 k else 0) (fun k => if k ≤ 8 then I 316 k else 0) (fun k v => gro I (28 + k) v) (fun _ _ => 0)
  generalize rdR w (I 305) b (fun k => if k ≤ 8 then I 315 k else 0) (fun k => if k ≤ 8 then I 316 k else 0) (fun k v => gro I (28 + k) v) (fun _ _ => 0) = RR at *

  cases hor with
  | inl h => have := h.1; have := hc.1; omega
  | inr h =>
    have hxJ := Txt_Fr hx hFIJ
    have hrd := h.2.2.1
    have hla := hc.2.1
    have he := hc.2.2
    have hl := h.2.1
    have hh : RR.2.2.2.2.2.2.2.2.1 RR.2.2.2.1 = 1 := by
      cases h.2.2.2 with
      | inl z => have z2 : RR.2.2.2.2.1 = 1 := z; omega
      | inr z => exact z.2
    obtain ⟨K, hcl, hFK, k1, k2, k3⟩ := s_closes (d := d + 5) (L := L) (u := u) (I := J) hF hFIJ.2.2.2.2 (Fr_T hFIJ hT) hrd.1 hrd.2.1 hrd.2.2 hh
    refine ⟨K, ?_, Fr_t hFIJ hFK, Bol_of k1 k2, k1.2.2.2.2.2.1.trans hv.1, by rw [← hv.1]; exact k2.2.2.2.2.1, fun zw zf v hv2 => ?_⟩
    · skip
      refine run_of tb_X12_isRead (Nat.le_of_ble_eq_true rfl) ?_
      show ∃ ls', am_ev (am_run am_tb (d + 8)) tX12_isRead ([vR 301, vI w], [], LH L I R u) = some (1, ls', [vI (1)], LH L (K) R u)
      apply Exists.intro
      unfold tX12_isRead
      apply t_Q
      · apply t_S
        refine x_aload_n rfl ?_
        refine x_iload_n rfl ?_
        refine x_pi tg_301 rfl (by first | rfl | exact decide_eq_true (by omega)) ?_
        refine x_aload_n rfl ?_
        refine x_iconst ?_
        refine x_pi tg_301 rfl (by first | rfl | exact decide_eq_true (by omega)) ?_
        refine x_aload_n rfl ?_
        refine x_iconst ?_
        refine x_pi tg_301 rfl rfl ?_
        refine x_aload_n rfl ?_
        refine x_iconst ?_
        refine x_pi tg_301 rfl rfl ?_
        refine x_aload_n rfl ?_
        refine x_V1v tg_301 (Nat.le_of_ble_eq_true rfl) (hop) ?_
        refine x_aload_n rfl ?_
        refine x_V1v tg_301 (Nat.le_of_ble_eq_true rfl) (hbl) ?_
        exact rfl
      apply t_Q
      · apply t_K
        apply t_W
        exact hl
      apply t_Q
      · apply t_S
        refine x_aload_n rfl ?_
        refine x_giv tg_301 rfl (show _ = RR.2.2.2.2.1 from hrd.1.2.2.1) ?_
        exact rfl
      apply t_Q
      · apply t_K
        apply t_Qs
        apply t_Ks
        · apply t_Q
          · apply t_B
            · exact rfl
            exact t_if_ne_f (by omega)
          apply t_B
          · refine x_aload_n rfl ?_
            refine x_giv tg_301 rfl (show _ = ((RR.2.2.2.1 : Nat) : Int) from hrd.1.2.1) ?_
            exact rfl
          exact t_if_le_t (by omega)
        · decide
      apply t_B
      · refine x_aload_n rfl ?_
        refine x_V1v tg_301 (Nat.le_of_ble_eq_true rfl) (hcl) ?_
        refine x_iconst ?_
        exact rfl
      exact t_ireq (Or.inr (Or.inr rfl)) rfl rfl
    · have a := (k3 zw (hv.1.trans zf) RR.2.2.2.1 (Nat.le_refl _)).1 v hv2
      rw [he] at a
      rw [a]
      exact hv.2 zw zf v hv2
set_option maxRecDepth 10000 in
theorem s_reads_bad {d L : Nat} {I : Nat → Nat → Int} {R : Nat → Nat → Option Nat} {u : Int64} (hF : FixR R) {s : Int} (hs : inR s) (hb : ¬ ((0 ≤ s ∧ s ≤ 5))) : am_run am_tb (d + 4) 219 [vR 301, vI s] (LH L I R u) = some ([vI (-20002)], LH L (rf I 0) R u) := by
  refine run_of tb_X12_reads (Nat.le_of_ble_eq_true rfl) ?_
  show ∃ ls', am_ev (am_run am_tb (d + 3)) tX12_reads ([vR 301, vI s, vU], [], (LH L I R u)) = some (1, ls', [vI (-20002)], LH L (rf I 0) R u)
  have c0 : ¬ (0 ≤ s ∧ s ≤ 5) := by omega
  apply Exists.intro
  unfold tX12_reads
  apply t_Q
  · apply t_S
    refine x_iload_n rfl ?_
    refine x_S1i (by decide) (Nat.le_of_ble_eq_true rfl) (ret_f c0 (s_isOperator (d := d + 1) hs)) ?_
    exact rfl
  apply t_Qs
  apply t_Ks
  · apply t_Q
    · apply t_B
      · exact rfl
      exact t_if_ne_f (by omega)
    apply t_B
    · refine x_aload_n rfl ?_
      refine x_V1i tg_301 (Nat.le_of_ble_eq_true rfl) (s_bad (d := d + 2) hF) ?_
      exact rfl
    exact t_ireq (Or.inl rfl) rfl rfl
  · decide
set_option maxRecDepth 10000 in
theorem s_reads_no {d L : Nat} {I : Nat → Nat → Int} {R : Nat → Nat → Option Nat} {u : Int64} (hF : FixR R) {b : Nat} (hR : Res I) (hT : Tabs I) (hx : Txt I b) (hB : Bol I) {s : Nat} (hs : s < 6) {wr : Nat} (hwr : wr ≤ 120) (hc : RdNo 0 (I 305) b wr) : ∃ J, am_run am_tb (d + 10) 219 [vR 301, vI s] (LH L I R u) = some ([vI (-30000 - (wr : Int))], LH L J R u) ∧ Fr I J ∧ Bol J := by
  obtain ⟨J, h1, f1, b1, j19⟩ := s_read_no (d := d) (L := L) (u := u) (I := I) hF (w := 0) (Or.inl rfl) hR hT hx hB hc
  refine ⟨J, ?_, f1, b1⟩
  refine run_of tb_X12_reads (Nat.le_of_ble_eq_true rfl) ?_
  show ∃ ls', am_ev (am_run am_tb (d + 9)) tX12_reads ([vR 301, vI s, vU], [], LH L I R u) = some (1, ls', [vI (-30000 - (wr : Int))], LH L (J) R u)
  apply Exists.intro
  unfold tX12_reads
  apply t_Q
  · apply t_S
    refine x_iload_n rfl ?_
    refine x_S1i (by decide) (Nat.le_of_ble_eq_true rfl) (ret_t (show 0 ≤ (s : Int) ∧ (s : Int) ≤ 5 from by omega) (s_isOperator (d := d + 7) (by omega))) ?_
    exact rfl
  apply t_Q
  · apply t_K
    apply t_Qs
    apply t_B
    · exact rfl
    exact t_if_ne_t (by omega)
  apply t_Q
  · apply t_S
    refine x_aload_n rfl ?_
    refine x_iconst ?_
    refine x_V2i tg_301 (Nat.le_of_ble_eq_true rfl) (h1) ?_
    exact rfl
  apply t_Qs
  apply t_Ks
  · apply t_Q
    · apply t_B
      · exact rfl
      exact t_if_ne_f (by omega)
    apply t_B
    · refine x_sipush ?_
      refine x_aload_n rfl ?_
      refine x_giv tg_301 rfl (show _ = ((wr : Nat) : Int) from j19) ?_
      refine x_isub ?_
      exact rfl
    exact t_ireq (Or.inl rfl) rfl rfl
  · decide
set_option maxRecDepth 10000 in
theorem s_reads_full {d L : Nat} {I : Nat → Nat → Int} {R : Nat → Nat → Option Nat} {u : Int64} (hF : FixR R) {b : Nat} (hR : Res I) (hT : Tabs I) (hx : Txt I b) (hB : Bol I) {s : Nat} (hs : s < 6) {fu0 : Int} {y0 : Nat → Int} (hc0 : RdYes 0 (I 305) b) (hv0 : RdVal 0 (I 305) b fu0 y0) (hc1 : RdYes 1 (I 305) b) {fu : Int} {y : Nat → Int} (hv1 : RdVal 1 (I 305) b fu y) (hfu : fu = 1) : ∃ J, am_run am_tb (d + 10) 219 [vR 301, vI s] (LH L I R u) = some ([vI (-20004)], LH L (rf J 2) R u) ∧ Fr I J ∧ Bol J := by
  obtain ⟨J, h1, f1, b1, _⟩ := s_read_ok (d := d) (L := L) (u := u) (I := I) hF (w := 0) (Or.inl rfl) hR hT hx hB hc0 hv0
  have j305 : J 305 = I 305 := f1.1 305 (by decide) (by decide)
  obtain ⟨K, h2, f2, b2, k24, _, kv⟩ := s_read_ok (d := d) (L := L) (u := u) (I := J) hF (w := 1) (Or.inr rfl) f1.2.2.2.2 (Fr_T f1 hT) (Txt_Fr hx f1) b1 (by rw [j305]; exact hc1) (by rw [j305]; exact hv1)
  have fK := Fr_t f1 f2

  refine ⟨K, ?_, fK, b2⟩
  refine run_of tb_X12_reads (Nat.le_of_ble_eq_true rfl) ?_
  show ∃ ls', am_ev (am_run am_tb (d + 9)) tX12_reads ([vR 301, vI s, vU], [], LH L I R u) = some (1, ls', [vI (-20004)], LH L (rf K 2) R u)
  apply Exists.intro
  unfold tX12_reads
  apply t_Q
  · apply t_S
    refine x_iload_n rfl ?_
    refine x_S1i (by decide) (Nat.le_of_ble_eq_true rfl) (ret_t (show 0 ≤ (s : Int) ∧ (s : Int) ≤ 5 from by omega) (s_isOperator (d := d + 7) (by omega))) ?_
    exact rfl
  apply t_Q
  · apply t_K
    apply t_Qs
    apply t_B
    · exact rfl
    exact t_if_ne_t (by omega)
  apply t_Q
  · apply t_S
    refine x_aload_n rfl ?_
    refine x_iconst ?_
    refine x_V2i tg_301 (Nat.le_of_ble_eq_true rfl) (h1) ?_
    exact rfl
  apply t_Q
  · apply t_K
    apply t_Qs
    apply t_B
    · exact rfl
    exact t_if_ne_t (by omega)
  apply t_Q
  · apply t_S
    refine x_aload_n rfl ?_
    refine x_iconst ?_
    refine x_V2i tg_301 (Nat.le_of_ble_eq_true rfl) (h2) ?_
    refine x_istore_n rfl ?_
    refine x_iload_n rfl ?_
    exact rfl
  apply t_Q
  · apply t_K
    apply t_Qs
    apply t_Ks
    · apply t_Q
      · apply t_B
        · exact rfl
        exact t_if_eq_f (by omega)
      apply t_Q
      · apply t_B
        · refine x_aload_n rfl ?_
          refine x_giv tg_301 rfl (show _ = fu from k24) ?_
          exact rfl
        exact t_if_eq_f (by omega)
      apply t_B
      · refine x_aload_n rfl ?_
        refine x_V1i tg_301 (Nat.le_of_ble_eq_true rfl) (s_full (d := d + 8) hF) ?_
        exact rfl
      exact t_goto
    · decide
  apply t_B
  · exact rfl
  exact t_ireq (Or.inl rfl) rfl rfl
set_option maxRecDepth 10000 in
theorem s_reads_ok {d L : Nat} {I : Nat → Nat → Int} {R : Nat → Nat → Option Nat} {u : Int64} (hF : FixR R) {b : Nat} (hR : Res I) (hT : Tabs I) (hx : Txt I b) (hB : Bol I) {s : Nat} (hs : s < 6) {fu0 : Int} {y0 : Nat → Int} (hc0 : RdYes 0 (I 305) b) (hv0 : RdVal 0 (I 305) b fu0 y0) (hc1 : RdYes 1 (I 305) b) {fu : Int} {y : Nat → Int} (hv1 : RdVal 1 (I 305) b fu y) (hfu : fu = 0) {n : Nat} (hn : I 301 2 = n) (h5 : n ≤ 5) : ∃ J, am_run am_tb (d + 10) 219 [vR 301, vI s] (LH L I R u) = some ([vI (cnt y 496 : Nat)], LH L J R u) ∧ Nw I J n (sop I s y) ∧ Bol J := by
  obtain ⟨J, h1, f1, b1, _⟩ := s_read_ok (d := d) (L := L) (u := u) (I := I) hF (w := 0) (Or.inl rfl) hR hT hx hB hc0 hv0
  have j305 : J 305 = I 305 := f1.1 305 (by decide) (by decide)
  obtain ⟨K, h2, f2, b2, k24, _, kv⟩ := s_read_ok (d := d) (L := L) (u := u) (I := J) hF (w := 1) (Or.inr rfl) f1.2.2.2.2 (Fr_T f1 hT) (Txt_Fr hx f1) b1 (by rw [j305]; exact hc1) (by rw [j305]; exact hv1)
  have fK := Fr_t f1 f2

  have hkp := s_keepF (d := d + 6) (L := L) (u := u) (I := K) (R := R) hF fK.2.2.2.2 (row := 28) (f := y) (kv rfl hfu) (fK.2.2.1.1.trans hn) h5 hs (by decide)
  refine ⟨m_put (m_rem K n) s 28, ?_, Nw_put fK hT (fun k hk => kv rfl hfu k (by omega)), b2⟩
  refine run_of tb_X12_reads (Nat.le_of_ble_eq_true rfl) ?_
  show ∃ ls', am_ev (am_run am_tb (d + 9)) tX12_reads ([vR 301, vI s, vU], [], LH L I R u) = some (1, ls', [vI ((cnt y 496 : Nat))], LH L (m_put (m_rem K n) s 28) R u)
  apply Exists.intro
  unfold tX12_reads
  apply t_Q
  · apply t_S
    refine x_iload_n rfl ?_
    refine x_S1i (by decide) (Nat.le_of_ble_eq_true rfl) (ret_t (show 0 ≤ (s : Int) ∧ (s : Int) ≤ 5 from by omega) (s_isOperator (d := d + 7) (by omega))) ?_
    exact rfl
  apply t_Q
  · apply t_K
    apply t_Qs
    apply t_B
    · exact rfl
    exact t_if_ne_t (by omega)
  apply t_Q
  · apply t_S
    refine x_aload_n rfl ?_
    refine x_iconst ?_
    refine x_V2i tg_301 (Nat.le_of_ble_eq_true rfl) (h1) ?_
    exact rfl
  apply t_Q
  · apply t_K
    apply t_Qs
    apply t_B
    · exact rfl
    exact t_if_ne_t (by omega)
  apply t_Q
  · apply t_S
    refine x_aload_n rfl ?_
    refine x_iconst ?_
    refine x_V2i tg_301 (Nat.le_of_ble_eq_true rfl) (h2) ?_
    refine x_istore_n rfl ?_
    refine x_iload_n rfl ?_
    exact rfl
  apply t_Q
  · apply t_Ks
    · apply t_Q
      · apply t_K
        apply t_Q
        · apply t_B
          · exact rfl
          exact t_if_eq_f (by omega)
        apply t_Qs
        apply t_B
        · refine x_aload_n rfl ?_
          refine x_giv tg_301 rfl (show _ = fu from k24) ?_
          exact rfl
        exact t_if_eq_t (by omega)
      apply t_S
      refine x_aload_n rfl ?_
      refine x_iload_n rfl ?_
      refine x_bipush ?_
      refine x_V3i tg_301 (Nat.le_of_ble_eq_true rfl) (hkp) ?_
      exact rfl
    · decide
  apply t_B
  · exact rfl
  exact t_ireq (Or.inl rfl) rfl rfl
