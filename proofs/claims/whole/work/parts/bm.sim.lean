/-! What both sides hold: one state for both. -/
/-- now, how many are remembered, which (the last first), refused calls, the text -/
abbrev Sg : Type := (Nat → Int) × Nat × (Nat → Nat → Int) × (Nat → Int) × Nat × (Nat → Int)
def Gok (g : Nat → Int) : Prop := (∀ j, j < 608 → 0 ≤ g j ∧ g j < 10007) ∧ (g 608 = 0 ∨ g 608 = 1)
def Sok (N : Nat) (σ : Sg) : Prop := Gok σ.1 ∧ σ.2.1 ≤ 5 ∧ (∀ i, i < σ.2.1 → Gok (σ.2.2.1 i)) ∧ (∀ i, i < 3 → 0 ≤ σ.2.2.2.1 i ∧ σ.2.2.2.1 i ≤ (N : Nat)) ∧ σ.2.2.2.2.1 ≤ 120 ∧ ∀ j, j < σ.2.2.2.2.1 → 0 ≤ σ.2.2.2.2.2 j ∧ σ.2.2.2.2.2 j ≤ 127
/-- an operator of a state as a row -/
def og (g : Nat → Int) (s : Nat) : Nat → Int := fun j => if j < 91 then g (91 * s + j) else 0
def push (g' : Nat → Int) (σ : Sg) : Sg := (g', min (σ.2.1 + 1) 5, fun i => if i = 0 then σ.1 else σ.2.2.1 (i - 1), σ.2.2.2)
def pop (σ : Sg) : Sg := (σ.2.2.1 0, σ.2.1 - 1, fun i => σ.2.2.1 (i + 1), σ.2.2.2)
def refu (i : Nat) (σ : Sg) : Sg := (σ.1, σ.2.1, σ.2.2.1, au σ.2.2.2.1 i (σ.2.2.2.1 i + 1), σ.2.2.2.2)
theorem Sok_m {N M : Nat} {σ : Sg} (h : Sok N σ) (hm : N ≤ M) : Sok M σ := ⟨h.1, h.2.1, h.2.2.1, fun i hi => by have := h.2.2.2.1 i hi; omega, h.2.2.2.2⟩
theorem Sok_push {N : Nat} {σ : Sg} {g' : Nat → Int} (h : Sok N σ) (hg : Gok g') : Sok N (push g' σ) := ⟨hg, by show min (σ.2.1 + 1) 5 ≤ 5; omega, fun i hi => by
  have hi : i < min (σ.2.1 + 1) 5 := hi
  show Gok (if i = 0 then σ.1 else σ.2.2.1 (i - 1))
  by_cases c : i = 0
  · rw [if_pos c]; exact h.1
  · rw [if_neg c]; exact h.2.2.1 _ (by omega), h.2.2.2⟩
theorem Sok_pop {N : Nat} {σ : Sg} (h : Sok N σ) (hn : 0 < σ.2.1) : Sok N (pop σ) := ⟨h.2.2.1 0 hn, by show σ.2.1 - 1 ≤ 5; have := h.2.1; omega, fun i hi => by
  have hi : i < σ.2.1 - 1 := hi
  exact h.2.2.1 (i + 1) (by omega), h.2.2.2⟩
theorem Sok_refu {N : Nat} {σ : Sg} {i : Nat} (h : Sok N σ) : Sok (N + 1) (refu i σ) := ⟨h.1, h.2.1, h.2.2.1, fun k hk => by
  have := h.2.2.2.1 k hk
  show 0 ≤ au σ.2.2.2.1 i (σ.2.2.2.1 i + 1) k ∧ au σ.2.2.2.1 i (σ.2.2.2.1 i + 1) k ≤ ((N + 1 : Nat) : Int)
  by_cases c : k = i
  · rw [← c, au_s]; omega
  · rw [au_n _ _ c]; omega, h.2.2.2.2⟩
/-- the rows of a set -/
def Aq (f : Nat → Nat → Int) (q : Int) (k : Nat) : Nat → Int := if shf q k % 2 = 1 then f k else fun _ => 0
/-- the rows that a basis of the class was made of -/
def Ab (I : Nat → Nat → Int) (a k : Nat) : Nat → Int := fun j => if j < 10 then I (a + 4) (10 * k + j) else 0
/-- a basis of the class is the reduced one of its rows -/
def Bvl (I : Nat → Nat → Int) (a : Nat) : Prop := (I a 4 = 0 ∨ I a 4 = 1) → ∃ n lw' G, Bac I a n lw' G ∧ (∀ k, k < n → led (I a 4) (G k) = (lw' k : Nat)) ∧ RB (I a 4) 6 (Ab I a) n G
theorem Bvl_c {I J : Nat → Nat → Int} {a : Nat} (h : Bvl I a) (e : ∀ x, a ≤ x → x ≤ a + 12 → J x = I x) : Bvl J a := by
  have e0 := e a (by omega) (by omega)
  have eA : Ab J a = Ab I a := by
    funext k j
    unfold Ab
    rw [e (a + 4) (by omega) (by omega)]
  unfold Bvl
  rw [e0, eA]
  intro ho
  obtain ⟨n, lw', G, ⟨b1, b2, b3⟩, h2, h3⟩ := h ho
  refine ⟨n, lw', G, ⟨by rw [e0]; exact b1, b2, fun k hk => ?_⟩, h2, h3⟩
  rw [e (a + 2) (by omega) (by omega), e (a + 3) (by omega) (by omega), e (a + 6 + 2 * k) (by omega) (by omega)]
  exact b3 k hk
/-- what the completion and the action need -/
def CB (I : Nat → Nat → Int) (R : Nat → Nat → Option Nat) : Prop := (∃ ρ, Prm R ρ) ∧ (∃ ρ, Pr6 R ρ) ∧ Bin I ∧ (∀ k, k < 6 → I 170 k = 0 ∨ I 170 k = 1) ∧ (0 ≤ I 165 3 ∧ I 165 3 < 4) ∧ ∀ k, k < 4 → Bvl I (171 + 13 * k)
/-- the class holds σ -/
def CI (σ : Sg) (I : Nat → Nat → Int) (R : Nat → Nat → Option Nat) : Prop := FixR R ∧ Tbc I ∧ (∀ j, j < 609 → snow I 4 j = σ.1 j) ∧ (∃ t, Hi I t σ.2.1 ∧ ∀ i, i < σ.2.1 → ∀ j, j < 609 → snow I (23 + 17 * ((t + 4 - i) % 5)) j = σ.2.2.1 i j) ∧ (∀ i, i < 3 → I 3 (10 + i) = σ.2.2.2.1 i) ∧ (I 108 1 = (σ.2.2.2.2.1 : Nat) ∧ ∀ j, I 109 j = σ.2.2.2.2.2 j) ∧ CB I R
/-- the rows that lie there are a basis -/
def Lyd (I : Nat → Nat → Int) : Prop := I 301 17 = 0 ∨ ((1 ≤ I 301 17 ∧ I 301 17 ≤ 63) ∧ ∃ n G, Rws I n G ∧ Gd (I 302 608) n G ∧ RB (I 302 608) 6 (Aq (fe I) (I 301 17)) n G)
/-- the reference holds σ -/
def RI (σ : Sg) (I : Nat → Nat → Int) : Prop := (Res I ∧ Tabs I) ∧ (∀ j, j < 609 → I 302 j = σ.1 j) ∧ (I 301 2 = (σ.2.1 : Nat) ∧ ∀ i, i < σ.2.1 → ∀ j, j < 609 → I 303 (609 * (σ.2.1 - 1 - i) + j) = σ.2.2.1 i j) ∧ (∀ i, i < 3 → I 304 i = σ.2.2.2.1 i) ∧ (I 301 5 = (σ.2.2.2.2.1 : Nat) ∧ ∀ j, I 305 j = σ.2.2.2.2.2 j) ∧ (Bol I ∧ resm (I 311)) ∧ Lyd I
theorem snow_c {I J : Nat → Nat → Int} {x : Nat} (h : ∀ a, x ≤ a → a < x + 17 → J a = I a) {j : Nat} (hj : j < 609) : snow J x j = snow I x j := by
  unfold snow
  by_cases c : j < 546
  · rw [if_pos c, if_pos c, h _ (by omega) (by omega)]
  · rw [if_neg c, if_neg c]
    by_cases c2 : j < 608
    · rw [if_pos c2, if_pos c2, h _ (by omega) (by omega)]
    · rw [if_neg c2, if_neg c2, h _ (by omega) (by omega)]
theorem CI_o {σ : Sg} {I : Nat → Nat → Int} {R : Nat → Nat → Option Nat} (h : CI σ I R) : I 4 2 = σ.1 608 := h.2.2.1 608 (by decide)
theorem CI_Sn {σ : Sg} {I : Nat → Nat → Int} {R : Nat → Nat → Option Nat} (h : CI σ I R) (hg : Gok σ.1) : Sn I := ⟨fun j hj => by rw [h.2.2.1 j (by omega)]; exact hg.1 j hj, by rw [CI_o h]; exact hg.2⟩
theorem CI_op {σ : Sg} {I : Nat → Nat → Int} {R : Nat → Nat → Option Nat} (h : CI σ I R) {s : Nat} (hs : s < 6) : opc I s = og σ.1 s := by
  funext j
  show (if j < 91 then I (10 + 2 * s) j else 0) = (if j < 91 then σ.1 (91 * s + j) else 0)
  by_cases c : j < 91
  · rw [if_pos c, if_pos c, ← h.2.2.1 (91 * s + j) (by omega)]
    unfold snow
    rw [if_pos (by omega), show (91 * s + j) / 91 = s by omega, show (91 * s + j) % 91 = j by omega, show 4 + 6 + 2 * s = 10 + 2 * s by omega]
  · rw [if_neg c, if_neg c]
theorem CI_Tx {σ : Sg} {N : Nat} {I : Nat → Nat → Int} {R : Nat → Nat → Option Nat} (h : CI σ I R) (hs : Sok N σ) : Txc I σ.2.2.2.2.1 := ⟨h.2.2.2.2.2.1.1, hs.2.2.2.2.1, fun j hj => by rw [h.2.2.2.2.2.1.2 j]; exact hs.2.2.2.2.2 j hj⟩
theorem CB_c {I J : Nat → Nat → Int} {R : Nat → Nat → Option Nat} (h : CB I R) (e1 : ∀ x, 170 ≤ x → x ≤ 222 → J x = I x) (e2 : J 165 3 = I 165 3) : CB J R := ⟨h.1, h.2.1, fun k hk => by
  rw [e1 (171 + 13 * k + 4) (by omega) (by omega), e1 (171 + 13 * k) (by omega) (by omega)]
  exact h.2.2.1 k hk, fun k hk => by rw [e1 170 (by omega) (by omega)]; exact h.2.2.2.1 k hk, by rw [e2]; exact h.2.2.2.2.1, fun k hk => Bvl_c (h.2.2.2.2.2 k hk) (fun x h1 h2 => e1 x (by omega) (by omega))⟩
theorem CB_R {I : Nat → Nat → Int} {R S : Nat → Nat → Option Nat} (h : CB I R) (e : ∀ x, x ≠ 160 → S x = R x) : CB I S := ⟨by obtain ⟨ρ, a, b⟩ := h.1; exact ⟨ρ, fun k hk => by rw [e 236 (by decide)]; exact a k hk, b⟩, by obtain ⟨ρ, a, b⟩ := h.2.1; exact ⟨ρ, fun k hk => by rw [e 167 (by decide)]; exact a k hk, b⟩, h.2.2⟩
/-- the class: cells worked with -/
theorem CI_Fc {σ : Sg} {I J : Nat → Nat → Int} {R : Nat → Nat → Option Nat} (h : CI σ I R) (hF : Fc I J) : CI σ J R := by
  obtain ⟨h1, h2, h3, ⟨t, h4, h5⟩, h6, h7, h8⟩ := h
  have e : ∀ a, ¬ Sca a → a ≠ 108 → a ≠ 165 → J a = I a := hF.1
  refine ⟨h1, Tbc_o h2 (fun a ha => e a (by unfold Nt at ha; unfold Sca; omega) (by unfold Nt at ha; omega) (by unfold Nt at ha; omega)), fun j hj => ?_, ⟨t, ?_, fun i hi j hj => ?_⟩, fun i hi => ?_, ⟨?_, fun j => ?_⟩, CB_c h8 (fun x p q => e x (by unfold Sca; omega) (by omega) (by omega)) hF.2.2⟩
  · rw [snow_c (fun a p q => e a (by unfold Sca; omega) (by omega) (by omega)) hj]; exact h3 j hj
  · unfold Hi at *
    rw [e 21 (by unfold Sca; omega) (by omega) (by omega)]; exact h4
  · rw [snow_c (fun a p q => e a (by unfold Sca; omega) (by omega) (by omega)) hj]; exact h5 i hi j hj
  · rw [e 3 (by unfold Sca; omega) (by omega) (by omega)]; exact h6 i hi
  · rw [hF.2.1]; exact h7.1
  · rw [e 109 (by unfold Sca; omega) (by omega) (by omega)]; exact h7.2 j
/-- the class: a refused call -/
theorem CI_rc {σ : Sg} {I : Nat → Nat → Int} {R : Nat → Nat → Option Nat} (h : CI σ I R) (i : Nat) (hi3 : i < 3) : CI (refu i σ) (rc I i) R := by
  obtain ⟨h1, h2, h3, ⟨t, h4, h5⟩, h6, h7, h8⟩ := h
  have e : ∀ a, a ≠ 3 → rc I i a = I a := fun a ha => au_n _ _ ha
  refine ⟨h1, Tbc_o h2 (fun a ha => e a (by unfold Nt at ha; omega)), fun j hj => ?_, ⟨t, ?_, fun k hk j hj => ?_⟩, fun k hk => ?_, ⟨?_, fun j => ?_⟩, CB_c h8 (fun x p q => e x (by omega)) (by rw [e 165 (by decide)])⟩
  · rw [snow_c (fun a p q => e a (by omega)) hj]; exact h3 j hj
  · unfold Hi at *
    rw [e 21 (by decide)]; exact h4
  · rw [snow_c (fun a p q => e a (by omega)) hj]; exact h5 k hk j hj
  · show au I 3 (au (I 3) (10 + i) (I 3 (10 + i) + 1)) 3 (10 + k) = au σ.2.2.2.1 i (σ.2.2.2.1 i + 1) k
    rw [au_s]
    by_cases c : k = i
    · rw [c, au_s, au_s, h6 i hi3]
    · rw [au_n _ _ (by omega), au_n _ _ c]; exact h6 k hk
  · rw [e 108 (by decide)]; exact h7.1
  · rw [e 109 (by decide)]; exact h7.2 j
/-- the class: a change -/
theorem CI_Cw {σ : Sg} {I J : Nat → Nat → Int} {R S : Nat → Nat → Option Nat} (h : CI σ I R) (h5' : σ.2.1 ≤ 5) {t : Nat} (hH : Hi I t σ.2.1) (hs : ∀ i, i < σ.2.1 → ∀ j, j < 609 → snow I (23 + 17 * ((t + 4 - i) % 5)) j = σ.2.2.1 i j) {g' : Nat → Int} (hC : Cw I J t σ.2.1 g') (hF : FixR S) (hS : ∀ x, x ≠ 160 → S x = R x) : CI (push g' σ) J S := by
  obtain ⟨h1, h2, h3, _, h6, h7, h8⟩ := h
  obtain ⟨c1, c2, c3, c4, c5, c6, c7⟩ := hC
  obtain ⟨t1, t2, t3, t4⟩ := hH
  refine ⟨hF, Tbc_o h2 (fun a ha => c5 a (by unfold Nt at ha; unfold Sca; omega) (by unfold Nt at ha; omega) (by unfold Nt at ha; omega) (by unfold Nt at ha; omega) (by unfold Nt at ha; omega)), c1, ⟨(t + 1) % 5, ⟨c3, by omega, c4, by show min (σ.2.1 + 1) 5 ≤ 5; omega⟩, fun i hi j hj => ?_⟩, fun i hi => ?_, ⟨?_, fun j => ?_⟩, CB_R (CB_c h8 (fun x p q => c5 x (by unfold Sca; omega) (by omega) (by omega) (by omega) (by omega)) c7) hS⟩
  · have hi : i < min (σ.2.1 + 1) 5 := hi
    show _ = (if i = 0 then σ.1 else σ.2.2.1 (i - 1)) j
    by_cases c : i = 0
    · rw [if_pos c, c, show ((t + 1) % 5 + 4 - 0) % 5 = t by omega, c2 j hj]
      exact h3 j hj
    · rw [if_neg c, show ((t + 1) % 5 + 4 - i) % 5 = (t + 4 - (i - 1)) % 5 by omega, snow_c (fun a p q => c5 a (by unfold Sca; omega) (by omega) (by omega) (by omega) (by omega)) hj]
      exact hs (i - 1) (by omega) j hj
  · rw [c5 3 (by unfold Sca; omega) (by omega) (by omega) (by omega) (by omega)]; exact h6 i hi
  · rw [c6]; exact h7.1
  · rw [c5 109 (by unfold Sca; omega) (by omega) (by omega) (by omega) (by omega)]; exact h7.2 j
/-- the reference -/
theorem RI_N {σ : Sg} {I : Nat → Nat → Int} (h : RI σ I) (hg : Gok σ.1) : Nr I := ⟨fun j hj => by rw [h.2.1 j (by omega)]; exact hg.1 j hj, by rw [h.2.1 608 (by decide)]; exact hg.2⟩
theorem RI_fe {σ : Sg} {I : Nat → Nat → Int} (h : RI σ I) {s : Nat} (hs : s < 6) : fe I s = og σ.1 s := by
  funext j
  show (if j < 91 then I 302 (91 * s + j) else 0) = (if j < 91 then σ.1 (91 * s + j) else 0)
  by_cases c : j < 91
  · rw [if_pos c, if_pos c, h.2.1 _ (by omega)]
  · rw [if_neg c, if_neg c]
theorem RI_Tx {σ : Sg} {N : Nat} {I : Nat → Nat → Int} (h : RI σ I) (hs : Sok N σ) : Txt I σ.2.2.2.2.1 := ⟨h.2.2.2.2.1.1, hs.2.2.2.2.1, fun j hj => by rw [h.2.2.2.2.1.2 j]; exact hs.2.2.2.2.2 j hj⟩
/-- the reference does not see the class's cells, nor the class the reference's -/
theorem RI_lo {σ : Sg} {I J : Nat → Nat → Int} (h : RI σ I) (e : ∀ a, 301 ≤ a → J a = I a) : RI σ J := by
  have e1 : J 301 = I 301 := e 301 (by omega)
  have e2 : J 302 = I 302 := e 302 (by omega)
  have ef : fe J = fe I := by funext s j; unfold fe; rw [e2]
  have eg : ∀ r, gro J r = gro I r := fun r => by funext k; unfold gro; rw [e 306 (by omega)]
  obtain ⟨⟨h1, h2⟩, h3, h4, h5, h6, ⟨h7, h8⟩, h9⟩ := h
  refine ⟨⟨?_, ?_⟩, by rw [e2]; exact h3, by rw [e1, e 303 (by omega)]; exact h4, by rw [e 304 (by omega)]; exact h5, by rw [e1, e 305 (by omega)]; exact h6, ⟨?_, by rw [e 311 (by omega)]; exact h8⟩, ?_⟩
  · unfold Res at *
    rw [e 306 (by omega)]; exact h1
  · unfold Tabs at *
    rw [e 307 (by omega), e 308 (by omega), e 309 (by omega)]; exact h2
  · unfold Bol at *
    rw [e 315 (by omega), e 316 (by omega)]; exact h7
  · unfold Lyd Rws at *
    rw [e1, e2, ef]
    refine h9.imp id (fun ⟨a, n, G, b, c⟩ => ⟨a, n, G, ⟨b.1, fun j hj v hv => by rw [eg]; exact b.2 j hj v hv⟩, c⟩)
theorem CI_hi {σ : Sg} {I J : Nat → Nat → Int} {R : Nat → Nat → Option Nat} (h : CI σ I R) (e : ∀ a, a < 301 → J a = I a) : CI σ J R := by
  obtain ⟨h1, h2, h3, ⟨t, h4, h5⟩, h6, h7, h8⟩ := h
  refine ⟨h1, Tbc_o h2 (fun a ha => e a (by unfold Nt at ha; omega)), fun j hj => ?_, ⟨t, ?_, fun k hk j hj => ?_⟩, fun k hk => ?_, ⟨?_, fun j => ?_⟩, CB_c h8 (fun x p q => e x (by omega)) (by rw [e 165 (by decide)])⟩
  · rw [snow_c (fun a p q => e a (by omega)) hj]; exact h3 j hj
  · unfold Hi at *
    rw [e 21 (by decide)]; exact h4
  · rw [snow_c (fun a p q => e a (by omega)) hj]; exact h5 k hk j hj
  · rw [e 3 (by decide)]; exact h6 k hk
  · rw [e 108 (by decide)]; exact h7.1
  · rw [e 109 (by decide)]; exact h7.2 j
