/-! How the abstract machine's states stand for the machine's. -/
abbrev am_Z : Type := Nat × Nat × Nat × Nat
/-- the address of a place: three rows that are read only, then what is made, one behind another -/
def am_rho (z : am_Z) (k : Nat) : Nat := if k = 0 then z.1 else if k = 1 then z.2.1 else if k = 2 then z.2.2.1 else z.2.2.2 + (k - 3)
def am_rv (z : am_Z) (v : am_V) : Value := match v with
  | .inl x => .int (Int32.ofInt x)
  | .inr (.inl none) => .null
  | .inr (.inl (some k)) => .ref (am_rho z k)
  | .inr (.inr (.inl x)) => .long x
  | .inr (.inr (.inr _)) => .null
theorem am_rv_cat (z : am_Z) (v : am_V) : (am_rv z v).category = am_cat v := by
  rcases v with x | (_ | k) | x | x <;> rfl
theorem am_cats_eq (z : am_Z) (st : List am_V) : ((st.map (am_rv z)).map fun v => v.category).sum = am_cats st := by
  induction st with
  | nil => rfl
  | cons v r ih =>
    simp only [List.map_cons, List.sum_cons, am_cats, am_rv_cat]
    rw [ih]
theorem i32_of {x : Int} (h : inR x) : (Int32.ofInt x).toInt = x := Int32.toInt_ofInt_of_le (by have := h.1; omega) (by have := h.2; omega)
theorem i32_nat {x : Int} (h0 : 0 ≤ x) (h1 : x ≤ 2147483647) : (Int32.ofInt x).toNatClampNeg = x.toNat := by
  show (Int32.ofInt x).toInt.toNat = x.toNat
  rw [i32_of ⟨by omega, h1⟩]
theorem i32_eq {x y : Int} (hx : inR x) (hy : inR y) : Int32.ofInt x = Int32.ofInt y ↔ x = y := by
  rw [← Int32.toInt_inj, i32_of hx, i32_of hy]
theorem i32_le {x y : Int} (hx : inR x) (hy : inR y) : Int32.ofInt x ≤ Int32.ofInt y ↔ x ≤ y := by
  rw [Int32.le_iff_toInt_le, i32_of hx, i32_of hy]
theorem i32_lt {x y : Int} (hx : inR x) (hy : inR y) : Int32.ofInt x < Int32.ofInt y ↔ x < y := by
  rw [Int32.lt_iff_toInt_lt, i32_of hx, i32_of hy]
theorem i32_0 : (0 : Int32) = Int32.ofInt 0 := rfl
theorem inR_0 : inR 0 := by decide
theorem i32_idx {i : Int} {n : Nat} (h0 : 0 ≤ i) (h1 : i < n) (hn : n ≤ 100000) : ¬ (Int32.ofInt i < 0 ∨ n ≤ (Int32.ofInt i).toNatClampNeg) := by
  have hr : inR i := ⟨by omega, by omega⟩
  rw [i32_nat h0 (by omega), i32_0, i32_lt hr inR_0]
  omega
theorem i32_div {a b : Int} (ha : inR a) (hb : inR b) (h : 0 < b) : Int32.ofInt (Int.tdiv a b) = Int32.ofInt a / Int32.ofInt b :=
  Int32.ofInt_tdiv (by have := ha.1; show (-2147483648 : Int) ≤ a; omega) (by have := ha.2; show a ≤ (2147483647 : Int); omega) (by show (-2147483648 : Int) ≤ b; omega) (by have := hb.2; show b ≤ (2147483647 : Int); omega)
theorem i32_rem {a b : Int} (ha : inR a) (hb : inR b) (h : 0 < b) : Int32.ofInt a - Int32.ofInt a / Int32.ofInt b * Int32.ofInt b = Int32.ofInt (Int.tmod a b) := by
  rw [← i32_div ha hb h, ← Int32.ofInt_mul, ← Int32.ofInt_sub]
  congr 1
  have := Int.tmod_add_mul_tdiv a b
  rw [Int.mul_comm] at this
  omega
/-- the types of the rows -/
def am_at (t : Nat) : FieldType := match t with
  | 20 => .int | 21 => .boolean | 22 => .array .int | 23 => .object "WeylWords$Operator" | 24 => .object "WeylWords$State" | _ => .object "WeylWords$Basis"
/-- the name of what a row of references holds -/
def am_cn (t : Nat) : String := match t with
  | 22 => "[I" | 23 => "WeylWords$Operator" | 24 => "WeylWords$State" | _ => "WeylWords$Basis"
def am_KA (s : State) (t : Nat) (cA : ClassId) : Prop := s.vm.findClass ("[" ++ (am_at t).toString) = some cA ∧ ∃ (kA : Class) (comp : ClassId), s.vm.classes[cA]? = some kA ∧ kA.kind = .array comp (am_at t) ∧ (22 ≤ t → s.vm.findClass (am_cn t) = some comp)
abbrev am_D : Type := am_Z × (Nat → ClassId) × (Nat → Nat → Nat) × (Nat → ClassId)
/-- the words that aren't kept by themselves -/
def am_kw : Cond → Bool
  | .arrayOver (.object _) => true
  | .arrayOver (.array _) => true
  | .methodLinkNest .. => true
  | _ => false
def am_Kw (s : State) : Prop := ∀ w ∈ lw_tbl, am_kw w = true → va_Nw w s
def lw_good : List Cond := lw_tbl.filter goodWord
theorem lw_good_of {w : Cond} (h : w ∈ lw_tbl) (hg : goodWord w = true) : w ∈ lw_good := List.mem_filter.mpr ⟨h, hg⟩
theorem am_goodIn {w0 : Cond} (h : w0 ∈ lw_tbl) (hg : goodWord w0 = true) : GoodIn lw_good (w0 :: lw_good) := by
  intro w hw
  have hm : w ∈ lw_good := by
    rcases List.mem_cons.mp hw with q | q
    · rw [q]; exact lw_good_of h hg
    · exact q
  exact ⟨hm, good_of_word (List.mem_filter.mp hm).2⟩
theorem am_Kw.warm {s U : State} (hW : s.WarmedH U.vm) (h : am_Kw s) : am_Kw U := by
  intro w hw hk
  have h1 := h w hw hk
  cases w <;> try cases hk
  case arrayOver t =>
    cases t <;> try cases hk
    case object C => exact va_AO.moved hW.alike h1
    case array t => exact over_moved hW.alike h1
  case methodLinkNest a i x b => exact va_Nw.warmM hW h1
theorem am_Kw.same {s U : State} (hv : s.vm = U.vm) (h : am_Kw s) : am_Kw U := by
  intro w hw hk
  have h1 := h w hw hk
  have ha : s.vm.Alike U.vm := by rw [hv]; exact Vm.Alike.refl _
  cases w <;> try cases hk
  case arrayOver t =>
    cases t <;> try cases hk
    case object C => exact va_AO.moved ha h1
    case array t => exact over_moved ha h1
  case methodLinkNest a i x b => exact va_Nw.same rfl hv h1
def am_K (D : am_D) (s : State) : Prop := va_K (D.2.1, D.2.2.1) vwCl [] s ∧ (∀ t, 20 ≤ t → t ≤ 25 → am_KA s t (D.2.2.2 t)) ∧ am_Kw s
def am_ce (D : am_D) (s : State) (x : am_C) (r : Cell) : Prop :=
  (x.1 < 13 ∧ r.cls = D.2.1 x.1 ∧ r.vm = .none ∧ x.2.1 = am_n x.1 ∧ ∀ k, k < am_n x.1 → r.slots[D.2.2.1 x.1 k]? = some (am_rv D.1 (x.2.2 k)))
  ∨ (20 ≤ x.1 ∧ x.1 ≤ 25 ∧ r = arrV (D.2.2.2 x.1) x.2.1 (fun j => am_rv D.1 (x.2.2 j)) ∧ (x.1 = 20 → ∀ j, j < x.2.1 → ∃ v : Int, x.2.2 j = vI v))
  ∨ (x.1 = 30 ∧ s.isArrayOf r .int ∧ r.vm ≠ .unknown ∧ (x.2.1 ≤ r.slots.size ∧ r.slots.size.toInt32 = Int32.ofNat x.2.1) ∧ ∀ j, j < x.2.1 → r.slots[j]? = some (am_rv D.1 (x.2.2 j)))
def am_R (D : am_D) (s : State) (h : am_H) (H : Heap) : Prop :=
  3 ≤ h.1 ∧ H.size + 3 = D.1.2.2.2 + h.1 ∧ (D.1.1 < D.1.2.2.2 ∧ D.1.2.1 < D.1.2.2.2 ∧ D.1.2.2.1 < D.1.2.2.2)
  ∧ (∀ k, k < 3 → (h.2 k).1 = 30 ∨ (h.2 k).1 = 99)
  ∧ (∀ k, (h.2 k).1 ≠ 99 → k < h.1 ∧ ∃ r : Cell, H[am_rho D.1 k]? = some r ∧ am_ce D s (h.2 k) r)
  ∧ va_Z "WeylWords$Operator" "X_AT" "[I" (.ref D.1.2.1) (fun q => D.1.2.2.2 ≤ q) s H
  ∧ va_Z "WeylWords$Operator" "D_AT" "[I" (.ref D.1.2.2.1) (fun q => D.1.2.2.2 ≤ q) s H
theorem am_rho_ge {z : am_Z} {k : Nat} (h : 3 ≤ k) : am_rho z k = z.2.2.2 + (k - 3) := by
  unfold am_rho
  rw [if_neg (by omega), if_neg (by omega), if_neg (by omega)]
theorem am_rho_lt {D : am_D} {s : State} {h : am_H} {H : Heap} (hR : am_R D s h H) {k : Nat} (hk : k < 3) : am_rho D.1 k < D.1.2.2.2 := by
  obtain ⟨-, -, ⟨h0, h1, h2⟩, -⟩ := hR
  rcases (show k = 0 ∨ k = 1 ∨ k = 2 by omega) with rfl | rfl | rfl
  · exact h0
  · exact h1
  · exact h2
theorem am_rho_ne {D : am_D} {s : State} {h : am_H} {H : Heap} (hR : am_R D s h H) {k j : Nat} (hk : 3 ≤ k) (hj : j ≠ k) : am_rho D.1 j ≠ am_rho D.1 k := by
  by_cases h3 : j < 3
  · have h1 := am_rho_lt hR h3
    rw [am_rho_ge hk]
    omega
  · rw [am_rho_ge hk, am_rho_ge (by omega)]
    omega
theorem am_ce.moved {D : am_D} {u U : State} (hvm : u.vm.Alike U.vm) {x : am_C} {r : Cell} (h : am_ce D u x r) : am_ce D U x r := by
  rcases h with h | h | ⟨h1, h2, h3⟩
  · exact Or.inl h
  · exact Or.inr (Or.inl h)
  · exact Or.inr (Or.inr ⟨h1, State.isArrayOf_alike hvm h2, h3⟩)
theorem am_R.moved {D : am_D} {u U : State} (hvm : u.vm.Alike U.vm) {h : am_H} {H : Heap} (hR : am_R D u h H) : am_R D U h H := by
  obtain ⟨h1, h2, h3, h4, h5, h6, h7⟩ := hR
  exact ⟨h1, h2, h3, h4, fun k hk => ⟨(h5 k hk).1, by obtain ⟨r, q1, q2⟩ := (h5 k hk).2; exact ⟨r, q1, q2.moved hvm⟩⟩, h6.moved hvm, h7.moved hvm⟩
theorem am_KA.moved {u U : State} (hvm : u.vm.Alike U.vm) {t : Nat} {cA : ClassId} (h : am_KA u t cA) : am_KA U t cA := by
  obtain ⟨h1, kA, comp, h2, h3, h4⟩ := h
  obtain ⟨k', hk', he⟩ := hvm.2.2 _ _ h2
  exact ⟨by rw [hvm.findClass]; exact h1, k', comp, hk', by rw [he]; exact h3, fun h => by rw [hvm.findClass]; exact h4 h⟩
theorem am_K.warm {D : am_D} {u U : State} (hW : u.WarmedH U.vm) (h : am_K D u) : am_K D U := ⟨va_K.moved hW.alike h.1, fun t h1 h2 => (h.2.1 t h1 h2).moved hW.alike, h.2.2.warm hW⟩
theorem am_K.same {D : am_D} {u U : State} (hv : u.vm = U.vm) (h : am_K D u) : am_K D U := by
  have ha : u.vm.Alike U.vm := by rw [hv]; exact Vm.Alike.refl _
  exact ⟨va_K.moved ha h.1, fun t h1 h2 => (h.2.1 t h1 h2).moved ha, h.2.2.same hv⟩
/-- a cell that is no row of the three is behind the base -/
theorem am_R.ge {D : am_D} {s : State} {h : am_H} {H : Heap} (hR : am_R D s h H) {k : Nat} (h1 : (h.2 k).1 ≠ 99) (h2 : (h.2 k).1 ≠ 30) : 3 ≤ k := by
  obtain ⟨-, -, -, h4, -⟩ := hR
  by_cases h3 : k < 3
  · rcases h4 k h3 with q | q
    · exact absurd q h2
    · exact absurd q h1
  · omega
/-- one cell is written -/
theorem am_R.put {D : am_D} {s : State} {h : am_H} {H H' : Heap} (hR : am_R D s h H) {k : Nat} (hk : 3 ≤ k) (hl : k < h.1) {x : am_C} {r : Cell} (hx : x.1 ≠ 99) (hr : am_ce D s x r) (e1 : H'[am_rho D.1 k]? = some r) (e2 : H'.size = H.size) (e3 : ∀ q, q ≠ am_rho D.1 k → H'[q]? = H[q]?) : am_R D s (am_put h k x) H' := by
  have hR0 := hR
  obtain ⟨h1, h2, h3, h4, h5, h6, h7⟩ := hR
  have hb : D.1.2.2.2 ≤ am_rho D.1 k := by rw [am_rho_ge hk]; omega
  refine ⟨h1, by rw [e2]; exact h2, h3, fun j hj => ?_, fun j hj => ?_, h6.kept (fun a _ ha => e3 a (fun q => ha (by rw [q]; exact hb))), h7.kept (fun a _ ha => e3 a (fun q => ha (by rw [q]; exact hb)))⟩
  · show (au h.2 k x j).1 = 30 ∨ (au h.2 k x j).1 = 99
    rw [au_n _ _ (by omega)]
    exact h4 j hj
  · have hj : (au h.2 k x j).1 ≠ 99 := hj
    show j < h.1 ∧ ∃ r : Cell, H'[am_rho D.1 j]? = some r ∧ am_ce D s (au h.2 k x j) r
    by_cases hjk : j = k
    · subst hjk
      rw [au_s]
      exact ⟨hl, r, e1, hr⟩
    · rw [au_n _ _ hjk] at hj ⊢
      obtain ⟨q1, r', q2, q3⟩ := h5 j hj
      exact ⟨q1, r', by rw [e3 _ (am_rho_ne hR0 hk hjk)]; exact q2, q3⟩
/-- one cell is made -/
theorem am_R.new {D : am_D} {s : State} {h : am_H} {H H' : Heap} (hR : am_R D s h H) {x : am_C} {r : Cell} (hx : x.1 ≠ 99) (hr : am_ce D s x r) (e1 : H'[H.size]? = some r) (e2 : H'.size = H.size + 1) (e3 : ∀ q, q < H.size → H'[q]? = H[q]?) : am_R D s (am_new h x) H' := by
  have hR0 := hR
  obtain ⟨h1, h2, h3, h4, h5, h6, h7⟩ := hR
  have hz : am_rho D.1 h.1 = H.size := by rw [am_rho_ge h1]; omega
  refine ⟨by show 3 ≤ h.1 + 1; omega, by show H'.size + 3 = D.1.2.2.2 + (h.1 + 1); omega, h3, fun j hj => ?_, fun j hj => ?_, h6.kept (fun a ha _ => e3 a ha), h7.kept (fun a ha _ => e3 a ha)⟩
  · show (au h.2 h.1 x j).1 = 30 ∨ (au h.2 h.1 x j).1 = 99
    rw [au_n _ _ (by omega)]
    exact h4 j hj
  · have hj : (au h.2 h.1 x j).1 ≠ 99 := hj
    show j < h.1 + 1 ∧ ∃ r : Cell, H'[am_rho D.1 j]? = some r ∧ am_ce D s (au h.2 h.1 x j) r
    by_cases hjk : j = h.1
    · subst hjk
      rw [au_s]
      exact ⟨by omega, r, by rw [hz]; exact e1, hr⟩
    · rw [au_n _ _ hjk] at hj ⊢
      obtain ⟨q1, r', q2, q3⟩ := h5 j hj
      exact ⟨by omega, r', by rw [e3 _ (Array.getElem?_eq_some_iff.mp q2).1]; exact q2, q3⟩
/-- the names of a frame -/
def am_ls (z : am_Z) (nL : Nat) (A : List am_V) (ls : Array Slot) : Prop := A.length = nL ∧ lv_has ls nL [] ∧ ∀ i, lget A i ≠ vU → ls[i]? = some (.val (am_rv z (lget A i)))
theorem lget_set (A : List am_V) (i : Nat) (v : am_V) (hi : i < A.length) (j : Nat) : lget (A.set i v) j = if j = i then v else lget A j := by
  induction A generalizing i j with
  | nil => exact absurd hi (Nat.not_lt_zero _)
  | cons a r ih =>
    cases i with
    | zero => cases j with
      | zero => rfl
      | succ j => rw [if_neg (by omega)]; rfl
    | succ i => cases j with
      | zero => rw [if_neg (by omega)]; rfl
      | succ j =>
        show lget (r.set i v) j = _
        rw [ih i (by simpa using hi) j]
        by_cases h : j = i
        · rw [if_pos h, if_pos (by omega)]
        · rw [if_neg h, if_neg (by omega)]; rfl
theorem lget_lt {A : List am_V} {i : Nat} (h : lget A i ≠ vU) : i < A.length := by
  induction A generalizing i with
  | nil => exact absurd rfl h
  | cons a r ih =>
    cases i with
    | zero => simp
    | succ i => have := ih (i := i) h; simp; omega
theorem am_ls.at {z : am_Z} {nL : Nat} {A : List am_V} {ls : Array Slot} (h : am_ls z nL A ls) {i : Nat} {v : am_V} (hv : lget A i = v) (hn : v ≠ vU) : ls[i]? = some (.val (am_rv z v)) := by
  subst hv
  exact h.2.2 i hn
theorem am_ls.has {z : am_Z} {nL : Nat} {A : List am_V} {ls : Array Slot} (h : am_ls z nL A ls) (j : Nat) (hj : lget A j ≠ vU) : lv_has ls nL [(j, am_rv z (lget A j))] :=
  ⟨h.2.1.1, h.2.1.2.1, fun q hq => by rw [List.mem_singleton.mp hq]; exact h.2.2 j hj⟩
theorem am_st_eq {A B : List am_V} {i : Nat} {v : am_V} (h : am_st A i v = some B) : B = A.set i v ∧ ∀ j, j + 1 = i → am_cat (lget A j) = 1 := by
  unfold am_st at h
  cases i with
  | zero => exact ⟨(Option.some.inj h).symm, fun j hj => by omega⟩
  | succ i =>
    by_cases hc : am_cat (lget A i) = 1
    · simp only [hc, if_true] at h
      exact ⟨(Option.some.inj h).symm, fun j hj => by rw [show j = i by omega]; exact hc⟩
    · simp only [hc, if_false] at h
      cases h
theorem am_ls.st1 {z : am_Z} {nL : Nat} {A B : List am_V} {ls : Array Slot} (h : am_ls z nL A ls) {i : Nat} {v : am_V} (hi : i < nL) (hc : am_cat v = 1) (hs : am_st A i v = some B) : ∃ ls', storeLocals ls i (am_rv z v) = some ls' ∧ am_ls z nL B ls' := by
  obtain ⟨hB, hl⟩ := am_st_eq hs
  have hc' : (am_rv z v).category = 1 := by rw [am_rv_cat]; exact hc
  obtain ⟨ls', e', h'⟩ := lv_store1 (v := am_rv z v) h.2.1 hi hc'
  refine ⟨ls', e', ?_, ⟨h'.1, h'.2.1, fun q hq => absurd hq List.not_mem_nil⟩, fun j hj => ?_⟩
  · rw [hB, List.length_set]; exact h.1
  · rw [hB, lget_set _ _ _ (by rw [h.1]; exact hi)] at hj ⊢
    by_cases hji : j = i
    · rw [if_pos hji]
      rw [hji]
      exact h'.2.2 (i, am_rv z v) List.mem_cons_self
    · rw [if_neg hji] at hj ⊢
      obtain ⟨ls2, e2, h2⟩ := lv_store1 (v := am_rv z v) (h.has j hj) hi hc'
      cases e'.symm.trans e2
      refine h2.2.2 (j, am_rv z (lget A j)) (List.mem_cons_of_mem _ (List.mem_filter.mpr ⟨List.mem_singleton.mpr rfl, ?_⟩))
      have h3 : (j == i) = false := by simpa using hji
      have h4 : (j + 1 == i && (am_rv z (lget A j)).category == 2) = false := by
        by_cases q : j + 1 = i
        · rw [am_rv_cat, hl j q]; simp
        · simp [q]
      show (!(j == i) && !(j + 1 == i && (am_rv z (lget A j)).category == 2)) = true
      rw [h3, h4]; rfl
theorem am_ls.st2 {z : am_Z} {nL : Nat} {A B : List am_V} {ls : Array Slot} (h : am_ls z nL A ls) {i : Nat} {x : Int64} (hi : i + 1 < nL) (hs : am_st A i (vL x) = some B) : ∃ ls', storeLocals ls i (.long x) = some ls' ∧ am_ls z nL (B.set (i + 1) vU) ls' := by
  obtain ⟨hB, hl⟩ := am_st_eq hs
  obtain ⟨ls', e', h'⟩ := lv_store2 (v := .long x) h.2.1 hi rfl
  refine ⟨ls', e', ?_, ⟨h'.1, h'.2.1, fun q hq => absurd hq List.not_mem_nil⟩, fun j hj => ?_⟩
  · rw [hB, List.length_set, List.length_set]; exact h.1
  · rw [hB, lget_set _ _ _ (by rw [List.length_set, h.1]; exact hi), lget_set _ _ _ (by rw [h.1]; omega)] at hj ⊢
    by_cases hj1 : j = i + 1
    · rw [if_pos hj1] at hj; exact absurd rfl hj
    · rw [if_neg hj1] at hj ⊢
      by_cases hji : j = i
      · rw [if_pos hji]
        rw [hji]
        exact h'.2.2 (i, .long x) List.mem_cons_self
      · rw [if_neg hji] at hj ⊢
        obtain ⟨ls2, e2, h2⟩ := lv_store2 (v := .long x) (h.has j hj) hi rfl
        cases e'.symm.trans e2
        refine h2.2.2 (j, am_rv z (lget A j)) (List.mem_cons_of_mem _ (List.mem_filter.mpr ⟨List.mem_singleton.mpr rfl, ?_⟩))
        have h3 : (j == i) = false := by simpa using hji
        have h5 : (j == i + 1) = false := by simpa using hj1
        have h4 : (j + 1 == i && (am_rv z (lget A j)).category == 2) = false := by
          by_cases q : j + 1 = i
          · rw [am_rv_cat, hl j q]; simp
          · simp [q]
        show (!(j == i) && (!(j == i + 1) && !(j + 1 == i && (am_rv z (lget A j)).category == 2))) = true
        rw [h3, h4, h5]; rfl
