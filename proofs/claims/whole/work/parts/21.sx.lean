/-! The abstract machine over laid cells: one row an instruction. -/
/-- what a slot holds: 0 an int, 1 a reference, 2 a long -/
def sk (t i : Nat) : Nat := if t = 20 ∨ t = 21 ∨ t = 30 then 0 else if 22 ≤ t ∧ t ≤ 25 then 1 else if t < 13 then (match am_fk (am_ty t i) with
  | 0 => 0 | 1 => 0 | 2 => if i = 30 then 2 else 4 | _ => 1) else 3
def vv (I : Nat → Nat → Int) (R : Nat → Nat → Option Nat) (u : Int64) (k i : Nat) : am_V := match sk (tg k) i with
  | 0 => vI (I k i)
  | 1 => .inr (.inl (R k i))
  | 2 => vL u
  | 4 => vL 0
  | _ => vU
/-- ALL CELLS: the ints, the references, the long -/
def LH (L : Nat) (I : Nat → Nat → Int) (R : Nat → Nat → Option Nat) (u : Int64) : am_H := (318, fun k => (tg k, ln L k, vv I R u k))
theorem vv_i {I : Nat → Nat → Int} {R : Nat → Nat → Option Nat} {u : Int64} {k i : Nat} (h : sk (tg k) i = 0) : vv I R u k i = vI (I k i) := by
  simp only [vv, h]
theorem vv_r {I : Nat → Nat → Int} {R : Nat → Nat → Option Nat} {u : Int64} {k i : Nat} (h : sk (tg k) i = 1) : vv I R u k i = .inr (.inl (R k i)) := by
  simp only [vv, h]
theorem vv_l {I : Nat → Nat → Int} {R : Nat → Nat → Option Nat} {u : Int64} {k i : Nat} (h : sk (tg k) i = 2) : vv I R u k i = vL u := by
  simp only [vv, h]
theorem sk_arr (i : Nat) : sk 20 i = 0 ∧ sk 21 i = 0 ∧ sk 30 i = 0 := ⟨rfl, rfl, rfl⟩
theorem sk_ref {t i : Nat} (h1 : 22 ≤ t) (h2 : t ≤ 25) : sk t i = 1 := by
  unfold sk
  rw [if_neg (by omega), if_pos ⟨h1, h2⟩]
/-- an int is written -/
theorem LH_pi {L : Nat} {I : Nat → Nat → Int} {R : Nat → Nat → Option Nat} {u : Int64} {a j t : Nat} {x : Int} (ht : tg a = t) (hk : sk t j = 0) : am_put (LH L I R u) a (t, ((LH L I R u).2 a).2.1, au ((LH L I R u).2 a).2.2 j (vI x)) = LH L (au I a (au (I a) j x)) R u := by
  subst ht
  show ((318 : Nat), _) = ((318 : Nat), _)
  congr 1
  funext k
  by_cases hka : k = a
  · subst hka
    rw [au_s]
    show (tg k, ln L k, au (vv I R u k) j (vI x)) = (tg k, ln L k, vv (au I k (au (I k) j x)) R u k)
    congr 2
    funext i
    by_cases hij : i = j
    · subst hij
      rw [au_s, vv_i hk, au_s, au_s]
    · rw [au_n _ _ hij]
      unfold vv
      rw [au_s, au_n _ _ hij]
  · rw [au_n _ _ hka]
    show (tg k, ln L k, vv I R u k) = (tg k, ln L k, vv (au I a (au (I a) j x)) R u k)
    congr 2
    funext i
    unfold vv
    rw [au_n _ _ hka]
/-- a reference is written -/
theorem LH_pr {L : Nat} {I : Nat → Nat → Int} {R : Nat → Nat → Option Nat} {u : Int64} {a j t b : Nat} (ht : tg a = t) (hk : sk t j = 1) : am_put (LH L I R u) a (t, ((LH L I R u).2 a).2.1, au ((LH L I R u).2 a).2.2 j (vR b)) = LH L I (au R a (au (R a) j (some b))) u := by
  subst ht
  show ((318 : Nat), _) = ((318 : Nat), _)
  congr 1
  funext k
  by_cases hka : k = a
  · subst hka
    rw [au_s]
    show (tg k, ln L k, au (vv I R u k) j (vR b)) = (tg k, ln L k, vv I (au R k (au (R k) j (some b))) u k)
    congr 2
    funext i
    by_cases hij : i = j
    · subst hij
      rw [au_s, vv_r hk, au_s, au_s]
    · rw [au_n _ _ hij]
      unfold vv
      rw [au_s, au_n _ _ hij]
  · rw [au_n _ _ hka]
    show (tg k, ln L k, vv I R u k) = (tg k, ln L k, vv I (au R a (au (R a) j (some b))) u k)
    congr 2
    funext i
    unfold vv
    rw [au_n _ _ hka]
theorem fk_2 {t i : Nat} (h : t < 13) (q : am_fk (am_ty t i) = 2) : t = 12 := by
  rcases (show t = 0 ∨ t = 1 ∨ t = 2 ∨ t = 3 ∨ t = 4 ∨ t = 5 ∨ t = 6 ∨ t = 7 ∨ t = 8 ∨ t = 9 ∨ t = 10 ∨ t = 11 ∨ t = 12 by omega) with rfl | rfl | rfl | rfl | rfl | rfl | rfl | rfl | rfl | rfl | rfl | rfl | rfl
  · exfalso; revert q; show am_fk (tyX0 i) = 2 → False; unfold tyX0; split <;> (intro q; cases q)
  · exfalso; revert q; show am_fk (tyX1 i) = 2 → False; unfold tyX1; split <;> (intro q; cases q)
  · exfalso; revert q; show am_fk (tyX2 i) = 2 → False; unfold tyX2; split <;> (intro q; cases q)
  · exfalso; revert q; show am_fk (tyX3 i) = 2 → False; unfold tyX3; split <;> (intro q; cases q)
  · exfalso; revert q; show am_fk (tyX4 i) = 2 → False; unfold tyX4; split <;> (intro q; cases q)
  · exfalso; revert q; show am_fk (tyX5 i) = 2 → False; unfold tyX5; split <;> (intro q; cases q)
  · exfalso; revert q; show am_fk (tyX6 i) = 2 → False; unfold tyX6; first | (split <;> (intro q; cases q)) | (intro q; cases q)
  · exfalso; revert q; show am_fk (tyX7 i) = 2 → False; unfold tyX7; split <;> (intro q; cases q)
  · exfalso; revert q; show am_fk (tyX8 i) = 2 → False; unfold tyX8; split <;> (intro q; cases q)
  · exfalso; revert q; show am_fk (tyX9 i) = 2 → False; unfold tyX9; split <;> (intro q; cases q)
  · exfalso; revert q; show am_fk (tyX10 i) = 2 → False; unfold tyX10; split <;> (intro q; cases q)
  · exfalso; revert q; show am_fk (tyX11 i) = 2 → False; unfold tyX11; split <;> (intro q; cases q)
  · rfl
theorem sk_2 {t i : Nat} (q : sk t i = 2) : t = 12 ∧ i = 30 := by
  unfold sk at q
  split at q
  · cases q
  · split at q
    · cases q
    · split at q
      · rename_i h13
        split at q
        · cases q
        · cases q
        · rename_i hf
          split at q
          · rename_i h30; exact ⟨fk_2 h13 hf, h30⟩
          · cases q
        · cases q
      · cases q
theorem tg_M {k : Nat} (h : tg k = 12) : k = 301 := by
  by_cases hk : k < 318
  · have : ∀ j, j < 318 → tg j = 12 → j = 301 := by decide +kernel
    exact this k hk h
  · have : tg k = 99 := by
      unfold tg
      have hl : ly_t.length = 318 := by decide +kernel
      rw [List.getD_eq_getElem?_getD, List.getElem?_eq_none (by rw [hl]; omega)]
      rfl
    rw [this] at h
    cases h
section SX
variable {G : am_G} {L : Nat} {I : Nat → Nat → Int} {R : Nat → Nat → Option Nat} {u : Int64} {ls st : List am_V} {h : am_H} {z : Nat × Nat × Nat} {r : List am_I} {Y : Option am_S}
theorem x_go {i : am_I} {x y : am_S} (h1 : am_I1 G i x = some y) (k : am_L G r y = Y) : am_L G (i :: r) x = Y := by
  show (am_I1 G i x).bind _ = _
  rw [h1]; exact k
theorem x_iconst {n : Int} (k : am_L G r (ls, vI n :: st, h) = Y) : am_L G ((.iconst n, z) :: r) (ls, st, h) = Y := k
theorem x_bipush {n : Int} (k : am_L G r (ls, vI n :: st, h) = Y) : am_L G ((.bipush n, z) :: r) (ls, st, h) = Y := k
theorem x_sipush {n : Int} (k : am_L G r (ls, vI n :: st, h) = Y) : am_L G ((.sipush n, z) :: r) (ls, st, h) = Y := k
theorem x_ldc {i a : Nat} {z : Nat × Nat} (k : am_L G r (ls, vI a :: st, h) = Y) : am_L G ((.ldc i, a, z) :: r) (ls, st, h) = Y := k
theorem x_ldc2_w {i a : Nat} {z : Nat × Nat} (k : am_L G r (ls, vL (Int64.ofNat a) :: st, h) = Y) : am_L G ((.ldc2_w i, a, z) :: r) (ls, st, h) = Y := k
theorem x_getstatic {i a : Nat} {z : Nat × Nat} (k : am_L G r (ls, vR a :: st, h) = Y) : am_L G ((.getstatic i, a, z) :: r) (ls, st, h) = Y := k
theorem x_iload {i : Nat} {v : Int} (hv : lget ls i = vI v) (k : am_L G r (ls, vI v :: st, h) = Y) : am_L G ((.iload i, z) :: r) (ls, st, h) = Y := x_go (by simp only [am_I1, am_ldi, hv]) k
theorem x_iload_n {i : Fin 4} {v : Int} (hv : lget ls i.val = vI v) (k : am_L G r (ls, vI v :: st, h) = Y) : am_L G ((.iload_n i, z) :: r) (ls, st, h) = Y := x_go (by simp only [am_I1, am_ldi, hv]) k
theorem x_aload {i a : Nat} (hv : lget ls i = vR a) (k : am_L G r (ls, vR a :: st, h) = Y) : am_L G ((.aload i, z) :: r) (ls, st, h) = Y := x_go (by simp only [am_I1, am_lda, hv]) k
theorem x_aload_n {i : Fin 4} {a : Nat} (hv : lget ls i.val = vR a) (k : am_L G r (ls, vR a :: st, h) = Y) : am_L G ((.aload_n i, z) :: r) (ls, st, h) = Y := x_go (by simp only [am_I1, am_lda, hv]) k
theorem x_lload_n {i : Fin 4} {v : Int64} (hv : lget ls i.val = vL v) (k : am_L G r (ls, vL v :: st, h) = Y) : am_L G ((.lload_n i, z) :: r) (ls, st, h) = Y := x_go (by simp only [am_I1, am_ldl, hv]) k
theorem x_istore {i : Nat} {v : Int} {B : List am_V} (hv : am_st ls i (vI v) = some B) (k : am_L G r (B, st, h) = Y) : am_L G ((.istore i, z) :: r) (ls, vI v :: st, h) = Y := x_go (by simp only [am_I1, am_sti, hv, Option.map_some]) k
theorem x_istore_n {i : Fin 4} {v : Int} {B : List am_V} (hv : am_st ls i.val (vI v) = some B) (k : am_L G r (B, st, h) = Y) : am_L G ((.istore_n i, z) :: r) (ls, vI v :: st, h) = Y := x_go (by simp only [am_I1, am_sti, hv, Option.map_some]) k
theorem x_astore {i a : Nat} {B : List am_V} (hv : am_st ls i (vR a) = some B) (k : am_L G r (B, st, h) = Y) : am_L G ((.astore i, z) :: r) (ls, vR a :: st, h) = Y := x_go (by simp only [am_I1, am_sta, hv, Option.map_some]) k
theorem x_astore_n {i : Fin 4} {a : Nat} {B : List am_V} (hv : am_st ls i.val (vR a) = some B) (k : am_L G r (B, st, h) = Y) : am_L G ((.astore_n i, z) :: r) (ls, vR a :: st, h) = Y := x_go (by simp only [am_I1, am_sta, hv, Option.map_some]) k
theorem x_lstore_n {i : Fin 4} {v : Int64} {B : List am_V} (hv : am_st ls i.val (vL v) = some B) (k : am_L G r (B.set (i.val + 1) vU, st, h) = Y) : am_L G ((.lstore_n i, z) :: r) (ls, vL v :: st, h) = Y := x_go (by simp only [am_I1, am_stl, hv, Option.map_some]) k
theorem x_iinc {i : Nat} {n v : Int} {B : List am_V} (hv : lget ls i = vI v) (hB : am_st ls i (vI (v + n)) = some B) (k : am_L G r (B, st, h) = Y) : am_L G ((.iinc i n, z) :: r) (ls, st, h) = Y := x_go (by simp only [am_I1, hv, hB, Option.map_some]) k
theorem x_dup {v : am_V} (hv : am_cat v = 1) (k : am_L G r (ls, v :: v :: st, h) = Y) : am_L G ((.dup, z) :: r) (ls, v :: st, h) = Y := x_go (by simp only [am_I1, hv, if_true]) k
theorem x_dup2 {v w : am_V} (hv : am_cat v = 1 ∧ am_cat w = 1) (k : am_L G r (ls, v :: w :: v :: w :: st, h) = Y) : am_L G ((.dup2, z) :: r) (ls, v :: w :: st, h) = Y := x_go (by simp only [am_I1, if_pos hv]) k
theorem x_pop {v : am_V} (hv : am_cat v = 1) (k : am_L G r (ls, st, h) = Y) : am_L G ((.pop, z) :: r) (ls, v :: st, h) = Y := x_go (by simp only [am_I1, hv, if_true]) k
theorem x_iadd {a b : Int} (k : am_L G r (ls, vI (a + b) :: st, h) = Y) : am_L G ((.iadd, z) :: r) (ls, vI b :: vI a :: st, h) = Y := k
theorem x_isub {a b : Int} (k : am_L G r (ls, vI (a - b) :: st, h) = Y) : am_L G ((.isub, z) :: r) (ls, vI b :: vI a :: st, h) = Y := k
theorem x_imul {a b : Int} (k : am_L G r (ls, vI (a * b) :: st, h) = Y) : am_L G ((.imul, z) :: r) (ls, vI b :: vI a :: st, h) = Y := k
theorem x_ineg {a : Int} (k : am_L G r (ls, vI (- a) :: st, h) = Y) : am_L G ((.ineg, z) :: r) (ls, vI a :: st, h) = Y := k
theorem x_ixor {a b : Int} (k : am_L G r (ls, vI (Int32.ofInt a ^^^ Int32.ofInt b).toInt :: st, h) = Y) : am_L G ((.ixor, z) :: r) (ls, vI b :: vI a :: st, h) = Y := k
theorem x_idiv {a b : Int} (hh : inR a ∧ inR b ∧ 0 < b) (k : am_L G r (ls, vI (Int.tdiv a b) :: st, h) = Y) : am_L G ((.idiv, z) :: r) (ls, vI b :: vI a :: st, h) = Y := x_go (by simp only [am_I1, am_b3, if_pos (show inR a ∧ inR b ∧ decide (0 < b) = true from ⟨hh.1, hh.2.1, decide_eq_true hh.2.2⟩)]) k
theorem x_irem {a b : Int} (hh : inR a ∧ inR b ∧ 0 < b) (k : am_L G r (ls, vI (Int.tmod a b) :: st, h) = Y) : am_L G ((.irem, z) :: r) (ls, vI b :: vI a :: st, h) = Y := x_go (by simp only [am_I1, am_b3, if_pos (show inR a ∧ inR b ∧ decide (0 < b) = true from ⟨hh.1, hh.2.1, decide_eq_true hh.2.2⟩)]) k
theorem x_ishr {a b : Int} (hh : inR a ∧ inR b ∧ (0 ≤ b ∧ b < 32)) (k : am_L G r (ls, vI (a / 2 ^ b.toNat) :: st, h) = Y) : am_L G ((.ishr, z) :: r) (ls, vI b :: vI a :: st, h) = Y := x_go (by simp only [am_I1, am_b3, if_pos (show inR a ∧ inR b ∧ decide (0 ≤ b ∧ b < 32) = true from ⟨hh.1, hh.2.1, decide_eq_true hh.2.2⟩)]) k
theorem x_iand {a b : Int} (hh : inR a ∧ inR b ∧ (b = 1 ∨ b = 31)) (k : am_L G r (ls, vI (a % (b + 1)) :: st, h) = Y) : am_L G ((.iand, z) :: r) (ls, vI b :: vI a :: st, h) = Y := x_go (by simp only [am_I1, am_b3, if_pos (show inR a ∧ inR b ∧ decide (b = 1 ∨ b = 31) = true from ⟨hh.1, hh.2.1, decide_eq_true hh.2.2⟩)]) k
theorem x_i2l {a : Int} (ha : inR a) (k : am_L G r (ls, vL (Int64.ofInt a) :: st, h) = Y) : am_L G ((.i2l, z) :: r) (ls, vI a :: st, h) = Y := x_go (by simp only [am_I1, if_pos ha]) k
theorem x_ladd {a b : Int64} (k : am_L G r (ls, vL (a + b) :: st, h) = Y) : am_L G ((.ladd, z) :: r) (ls, vL b :: vL a :: st, h) = Y := k
theorem x_lmul {a b : Int64} (k : am_L G r (ls, vL (a * b) :: st, h) = Y) : am_L G ((.lmul, z) :: r) (ls, vL b :: vL a :: st, h) = Y := k
theorem x_lcmp {a b : Int64} (k : am_L G r (ls, vI (lg_cmp a b).toInt :: st, h) = Y) : am_L G ((.lcmp, z) :: r) (ls, vL b :: vL a :: st, h) = Y := k
theorem x_gi {a c f i x : Nat} (ht : tg a = c) (hs : sk c f = 0) (k : am_L G r (ls, vI (I a f) :: st, LH L I R u) = Y) : am_L G ((.getfield i, c, f, x) :: r) (ls, vR a :: st, LH L I R u) = Y := by
  refine x_go (y := (ls, vI (I a f) :: st, LH L I R u)) ?_ k
  subst ht
  show (if tg a = tg a then some (ls, vv I R u a f :: st, LH L I R u) else none) = _
  rw [if_pos rfl, vv_i hs]
theorem x_gr {a c f i x b : Nat} (ht : tg a = c) (hs : sk c f = 1) (hr : R a f = some b) (k : am_L G r (ls, vR b :: st, LH L I R u) = Y) : am_L G ((.getfield i, c, f, x) :: r) (ls, vR a :: st, LH L I R u) = Y := by
  refine x_go (y := (ls, vR b :: st, LH L I R u)) ?_ k
  subst ht
  show (if tg a = tg a then some (ls, vv I R u a f :: st, LH L I R u) else none) = _
  rw [if_pos rfl, vv_r hs, hr]
theorem x_gl {a c f i x : Nat} (ht : tg a = c) (hs : sk c f = 2) (k : am_L G r (ls, vL u :: st, LH L I R u) = Y) : am_L G ((.getfield i, c, f, x) :: r) (ls, vR a :: st, LH L I R u) = Y := by
  refine x_go (y := (ls, vL u :: st, LH L I R u)) ?_ k
  subst ht
  show (if tg a = tg a then some (ls, vv I R u a f :: st, LH L I R u) else none) = _
  rw [if_pos rfl, vv_l hs]
theorem x_pi {a c f i x : Nat} {v : Int} (ht : tg a = c) (hs : sk c f = 0) (hf : am_fit x (vI v) = true) (k : am_L G r (ls, st, LH L (au I a (au (I a) f v)) R u) = Y) : am_L G ((.putfield i, c, f, x) :: r) (ls, vI v :: vR a :: st, LH L I R u) = Y := by
  refine x_go (y := (ls, st, LH L (au I a (au (I a) f v)) R u)) ?_ k
  rw [← LH_pi (t := c) ht hs]
  show (if tg a = c ∧ am_fit x (vI v) = true then some (ls, st, am_put (LH L I R u) a (c, ((LH L I R u).2 a).2.1, au ((LH L I R u).2 a).2.2 f (vI v))) else none) = _
  rw [if_pos ⟨ht, hf⟩]
theorem x_pr {a b c f i : Nat} (ht : tg a = c) (hs : sk c f = 1) (k : am_L G r (ls, st, LH L I (au R a (au (R a) f (some b))) u) = Y) : am_L G ((.putfield i, c, f, 3) :: r) (ls, vR b :: vR a :: st, LH L I R u) = Y := by
  refine x_go (y := (ls, st, LH L I (au R a (au (R a) f (some b))) u)) ?_ k
  rw [← LH_pr (t := c) ht hs]
  show (if tg a = c ∧ am_fit 3 (vR b) = true then some (ls, st, am_put (LH L I R u) a (c, ((LH L I R u).2 a).2.1, au ((LH L I R u).2 a).2.2 f (vR b))) else none) = _
  rw [if_pos ⟨ht, rfl⟩]
theorem x_pl {a c f i : Nat} {v : Int64} (ha : a = 301) (hc : c = 12) (hf : f = 30) (k : am_L G r (ls, st, LH L I R v) = Y) : am_L G ((.putfield i, c, f, 2) :: r) (ls, vL v :: vR a :: st, LH L I R u) = Y := by
  subst ha; subst hf; subst hc
  refine x_go (y := (ls, st, LH L I R v)) ?_ k
  show (if tg 301 = 12 ∧ am_fit 2 (vL v) = true then some (ls, st, am_put (LH L I R u) 301 (12, ((LH L I R u).2 301).2.1, au ((LH L I R u).2 301).2.2 30 (vL v))) else none) = _
  rw [if_pos ⟨rfl, rfl⟩]
  congr 3
  show ((318 : Nat), _) = ((318 : Nat), _)
  congr 1
  funext k
  have hvv : ∀ k i, ¬ (k = 301 ∧ i = 30) → vv I R u k i = vv I R v k i := by
    intro k i hki
    have hne : sk (tg k) i ≠ 2 := fun q => hki (by
      obtain ⟨q1, q2⟩ := sk_2 q
      exact ⟨tg_M q1, q2⟩)
    unfold vv
    split <;> first | rfl | (rename_i q; exact absurd q hne)
  by_cases hka : k = 301
  · subst hka
    rw [au_s]
    show (tg 301, ln L 301, au (vv I R u 301) 30 (vL v)) = (tg 301, ln L 301, vv I R v 301)
    congr 2
    funext i
    by_cases hij : i = 30
    · subst hij
      rw [au_s, vv_l (by rfl)]
    · rw [au_n _ _ hij]
      exact hvv _ _ (fun q => hij q.2)
  · rw [au_n _ _ hka]
    show (tg k, ln L k, vv I R u k) = (tg k, ln L k, vv I R v k)
    congr 2
    funext i
    exact hvv _ _ (fun q => hka q.1)
theorem x_iald {a n : Nat} {i : Int} (ht : tg a = 20 ∨ tg a = 30) (hn : ln L a = n) (hi : 0 ≤ i ∧ i < n ∧ n ≤ 100000) (k : am_L G r (ls, vI (I a i.toNat) :: st, LH L I R u) = Y) : am_L G ((.iaload, z) :: r) (ls, vI i :: vR a :: st, LH L I R u) = Y := by
  refine x_go (y := (ls, vI (I a i.toNat) :: st, LH L I R u)) ?_ k
  subst hn
  have hs : sk (tg a) i.toNat = 0 := by rcases ht with e | e <;> rw [e] <;> rfl
  show (if (tg a == 20 || tg a == 30) = true ∧ 0 ≤ i ∧ i < ln L a ∧ ln L a ≤ 100000 then some (ls, vv I R u a i.toNat :: st, LH L I R u) else none) = _
  rw [if_pos ⟨by rcases ht with e | e <;> rw [e] <;> rfl, hi.1, hi.2.1, hi.2.2⟩, vv_i hs]
theorem x_bald {a n : Nat} {i : Int} (ht : tg a = 21) (hn : ln L a = n) (hi : 0 ≤ i ∧ i < n ∧ n ≤ 100000) (k : am_L G r (ls, vI (I a i.toNat) :: st, LH L I R u) = Y) : am_L G ((.baload, z) :: r) (ls, vI i :: vR a :: st, LH L I R u) = Y := by
  refine x_go (y := (ls, vI (I a i.toNat) :: st, LH L I R u)) ?_ k
  subst hn
  have hs : sk (tg a) i.toNat = 0 := by rw [ht]; rfl
  show (if (tg a == 21) = true ∧ 0 ≤ i ∧ i < ln L a ∧ ln L a ≤ 100000 then some (ls, vv I R u a i.toNat :: st, LH L I R u) else none) = _
  rw [if_pos ⟨by rw [ht]; rfl, hi.1, hi.2.1, hi.2.2⟩, vv_i hs]
theorem x_aald {a n b : Nat} {i : Int} (ht : 22 ≤ tg a ∧ tg a ≤ 25) (hn : ln L a = n) (hi : 0 ≤ i ∧ i < n ∧ n ≤ 100000) (hr : R a i.toNat = some b) (k : am_L G r (ls, vR b :: st, LH L I R u) = Y) : am_L G ((.aaload, z) :: r) (ls, vI i :: vR a :: st, LH L I R u) = Y := by
  refine x_go (y := (ls, vR b :: st, LH L I R u)) ?_ k
  subst hn
  show (if decide (22 ≤ tg a ∧ tg a ≤ 25) = true ∧ 0 ≤ i ∧ i < ln L a ∧ ln L a ≤ 100000 then some (ls, vv I R u a i.toNat :: st, LH L I R u) else none) = _
  rw [if_pos ⟨decide_eq_true ht, hi.1, hi.2.1, hi.2.2⟩, vv_r (sk_ref ht.1 ht.2), hr]
theorem x_iast {a n : Nat} {i v : Int} (ht : tg a = 20) (hn : ln L a = n) (hi : 0 ≤ i ∧ i < n ∧ n ≤ 100000) (k : am_L G r (ls, st, LH L (au I a (au (I a) i.toNat v)) R u) = Y) : am_L G ((.iastore, z) :: r) (ls, vI v :: vI i :: vR a :: st, LH L I R u) = Y := by
  refine x_go (y := (ls, st, LH L (au I a (au (I a) i.toNat v)) R u)) ?_ k
  subst hn
  rw [← LH_pi (t := 20) ht rfl]
  show (if tg a = 20 ∧ 0 ≤ i ∧ i < ln L a ∧ ln L a ≤ 100000 then some (ls, st, am_put (LH L I R u) a (20, ((LH L I R u).2 a).2.1, au ((LH L I R u).2 a).2.2 i.toNat (vI v))) else none) = _
  rw [if_pos ⟨ht, hi.1, hi.2.1, hi.2.2⟩]
theorem x_bast {a n : Nat} {i v : Int} (ht : tg a = 21) (hn : ln L a = n) (hi : 0 ≤ i ∧ i < n ∧ n ≤ 100000) (hv : v = 0 ∨ v = 1) (k : am_L G r (ls, st, LH L (au I a (au (I a) i.toNat v)) R u) = Y) : am_L G ((.bastore, z) :: r) (ls, vI v :: vI i :: vR a :: st, LH L I R u) = Y := by
  refine x_go (y := (ls, st, LH L (au I a (au (I a) i.toNat v)) R u)) ?_ k
  subst hn
  rw [← LH_pi (t := 21) ht rfl]
  show (if tg a = 21 ∧ 0 ≤ i ∧ i < ln L a ∧ ln L a ≤ 100000 ∧ (v = 0 ∨ v = 1) then some (ls, st, am_put (LH L I R u) a (21, ((LH L I R u).2 a).2.1, au ((LH L I R u).2 a).2.2 i.toNat (vI v))) else none) = _
  rw [if_pos ⟨ht, hi.1, hi.2.1, hi.2.2, hv⟩]
theorem x_aast {a n b t : Nat} {i : Int} (ht : tg a = t) (htt : 22 ≤ t ∧ t ≤ 25 ∧ tg b = am_el t) (hn : ln L a = n) (hi : 0 ≤ i ∧ i < n ∧ n ≤ 100000) (k : am_L G r (ls, st, LH L I (au R a (au (R a) i.toNat (some b))) u) = Y) : am_L G ((.aastore, z) :: r) (ls, vR b :: vI i :: vR a :: st, LH L I R u) = Y := by
  refine x_go (y := (ls, st, LH L I (au R a (au (R a) i.toNat (some b))) u)) ?_ k
  subst hn
  rw [← LH_pr (t := t) ht (sk_ref htt.1 htt.2.1)]
  subst ht
  show (if 22 ≤ tg a ∧ tg a ≤ 25 ∧ tg b = am_el (tg a) ∧ 0 ≤ i ∧ i < ln L a ∧ ln L a ≤ 100000 then some (ls, st, am_put (LH L I R u) a (tg a, ((LH L I R u).2 a).2.1, au ((LH L I R u).2 a).2.2 i.toNat (vR b))) else none) = _
  rw [if_pos ⟨htt.1, htt.2.1, htt.2.2, hi.1, hi.2.1, hi.2.2⟩]
theorem x_alen {a : Nat} (ht : tg a = 20 ∨ tg a = 30) (k : am_L G r (ls, vI (ln L a) :: st, LH L I R u) = Y) : am_L G ((.arraylength, z) :: r) (ls, vR a :: st, LH L I R u) = Y := by
  refine x_go (y := (ls, vI (ln L a) :: st, LH L I R u)) ?_ k
  show (if tg a = 20 ∨ tg a = 30 then some (ls, vI (ln L a) :: st, LH L I R u) else none) = _
  rw [if_pos ht]
/-- calls -/
theorem x_invS {i k n x : Nat} {v : List am_V} {h' : am_H} (hk : k ≠ 999) (hn : n ≤ st.length) (hc : am_cats (st.drop n) ≤ 8) (hg : G k (st.take n).reverse h = some (v, h')) (kk : am_L G r (ls, v ++ st.drop n, h') = Y) : am_L G ((.invokestatic i, k, n, x) :: r) (ls, st, h) = Y := by
  refine x_go (y := (ls, v ++ st.drop n, h')) ?_ kk
  show (if k = 999 then am_copy (ls, st, h) else am_inv G false k n x (ls, st, h)) = _
  rw [if_neg hk]
  unfold am_inv
  rw [if_pos ⟨hn, hc, fun q => by cases q⟩]
  show (G k (st.take n).reverse h).map _ = _
  rw [hg]; rfl
theorem x_invV {i k n c : Nat} {v : List am_V} {h' : am_H} (hn : n ≤ st.length) (hc : am_cats (st.drop n) ≤ 8) (hr : am_rc c h (st.take n).reverse = true) (hg : G k (st.take n).reverse h = some (v, h')) (kk : am_L G r (ls, v ++ st.drop n, h') = Y) : am_L G ((.invokevirtual i, k, n, c) :: r) (ls, st, h) = Y := by
  refine x_go (y := (ls, v ++ st.drop n, h')) ?_ kk
  show am_inv G true k n c (ls, st, h) = _
  unfold am_inv
  rw [if_pos ⟨hn, hc, fun _ => hr⟩]
  show (G k (st.take n).reverse h).map _ = _
  rw [hg]; rfl
theorem x_rc {a c : Nat} {as : List am_V} (ht : tg a = c) : am_rc c (LH L I R u) (vR a :: as) = true := decide_eq_true ht
end SX
section TX
variable {G : am_G} {a b : am_T} {x y : am_S} {o : Nat} {Z : Option (Nat × am_S)} {is : List am_I} {ls st : List am_V} {h : am_H}
theorem t_S (k : am_L G is x = some y) : am_ev G (tS is) x = some (0, y) := by
  show (am_L G is x).bind _ = _
  rw [k]; rfl
theorem t_B {i : Instr} {ts : List Nat} (k : am_L G is x = some y) (kt : am_t i ts y = Z) : am_ev G (tB is i ts) x = Z := by
  show (am_L G is x).bind _ = _
  rw [k]; exact kt
theorem t_Q (k1 : am_ev G a x = some (0, y)) (k2 : am_ev G b y = Z) : am_ev G (tQ a b) x = Z := by
  rw [ev_Q, k1]; exact k2
theorem t_Qs {n : Nat} (k1 : am_ev G a x = some (n + 1, y)) : am_ev G (tQ a b) x = some (n + 1, y) := by
  rw [ev_Q, k1]; rfl
theorem t_K {L : Nat} (k1 : am_ev G a x = some (L + 2, y)) : am_ev G (tK L a) x = some (0, y) := by
  rw [ev_K, k1]
  show some (if L + 2 = L + 2 then (0, y) else _) = _
  rw [if_pos rfl]
theorem t_Ks {L : Nat} (k1 : am_ev G a x = some (o, y)) (ho : ¬ o = L + 2) : am_ev G (tK L a) x = some (o, y) := by
  rw [ev_K, k1]
  show some (if o = L + 2 then (0, y) else (o, y)) = _
  rw [if_neg ho]
theorem t_W {L : Nat} (k1 : am_lp (am_ev G a) L am_F x = Z) : am_ev G (tW L a) x = Z := by
  rw [ev_W]; exact k1
theorem t_goto {i : Int} {t : Nat} {ts : List Nat} : am_t (.goto i) (t :: ts) x = some (t + 2, x) := rfl
theorem t_ift {c : Jvm.ClassFile.Cond} {i : Int} {t : Nat} {ts : List Nat} {p : Int} (hh : inR p ∧ am_cmp c p 0 = true) : am_t (.ifCond c i) (t :: ts) (ls, vI p :: st, h) = some (t + 2, ls, st, h) := by
  show (if inR p then some (if am_cmp c p 0 = true then t + 2 else 0, ls, st, h) else none) = _
  rw [if_pos hh.1, if_pos hh.2]
theorem t_iff {c : Jvm.ClassFile.Cond} {i : Int} {t : Nat} {ts : List Nat} {p : Int} (hh : inR p ∧ am_cmp c p 0 = false) : am_t (.ifCond c i) (t :: ts) (ls, vI p :: st, h) = some (0, ls, st, h) := by
  show (if inR p then some (if am_cmp c p 0 = true then t + 2 else 0, ls, st, h) else none) = _
  rw [if_pos hh.1, hh.2]; rfl
theorem t_ict {c : Jvm.ClassFile.Cond} {i : Int} {t : Nat} {ts : List Nat} {p q : Int} (hh : inR p ∧ inR q ∧ am_cmp c p q = true) : am_t (.if_icmp c i) (t :: ts) (ls, vI q :: vI p :: st, h) = some (t + 2, ls, st, h) := by
  show (if inR p ∧ inR q then some (if am_cmp c p q = true then t + 2 else 0, ls, st, h) else none) = _
  rw [if_pos ⟨hh.1, hh.2.1⟩, if_pos hh.2.2]
theorem t_icf {c : Jvm.ClassFile.Cond} {i : Int} {t : Nat} {ts : List Nat} {p q : Int} (hh : inR p ∧ inR q ∧ am_cmp c p q = false) : am_t (.if_icmp c i) (t :: ts) (ls, vI q :: vI p :: st, h) = some (0, ls, st, h) := by
  show (if inR p ∧ inR q then some (if am_cmp c p q = true then t + 2 else 0, ls, st, h) else none) = _
  rw [if_pos ⟨hh.1, hh.2.1⟩, hh.2.2]; rfl
theorem t_iret {p : Int} {t : Nat} {ts : List Nat} (hh : t = 0 ∨ p = 0 ∨ p = 1) : am_t .ireturn (t :: ts) (ls, [vI p], h) = some (1, ls, [vI p], h) := by
  show (if t = 0 ∨ p = 0 ∨ p = 1 then some (1, ls, [vI p], h) else none) = _
  rw [if_pos hh]
/-- a loop that counts -/
theorem lp_up {f : am_S → Option (Nat × am_S)} {L : Nat} (S : Nat → am_S) (n : Nat) {r : Nat × am_S} (hn : n < am_F) (hs : ∀ k, k < n → f (S k) = some (L + 2, S (k + 1))) (he : f (S n) = some r) (hr : ¬ r.1 = L + 2) : am_lp f L am_F (S 0) = some r := by
  have key : ∀ m k, k ≤ n → n - k < m → am_lp f L m (S k) = some r := by
    intro m
    induction m with
    | zero => intro k _ h; exact absurd h (Nat.not_lt_zero _)
    | succ m ih =>
      intro k hk hm
      show (f (S k)).bind _ = _
      by_cases hkn : k = n
      · subst hkn
        rw [he]
        show (if r.1 = L + 2 then _ else some r) = _
        rw [if_neg hr]
      · rw [hs k (by omega)]
        show (if L + 2 = L + 2 then am_lp f L m (S (k + 1)) else _) = _
        rw [if_pos rfl]
        exact ih (k + 1) (by omega) (by omega)
  exact key am_F 0 (Nat.zero_le _) (by omega)
/-- a method's run -/
theorem run_of {tb : Nat → Option am_M} {d k : Nat} {q : am_M} {as v : List am_V} {h h' : am_H} (hq : tb k = some q) (hl : (am_lay as).length ≤ q.2.2.2.1) (hev : ∃ ls', am_ev (am_run tb d) q.2.2.2.2.2 (am_in as q.2.2.2.1, [], h) = some (1, ls', v, h')) : am_run tb (d + 1) k as h = some (v, h') := by
  obtain ⟨ls', hev⟩ := hev
  show (tb k).bind _ = _
  rw [hq]
  show (if (am_lay as).length ≤ q.2.2.2.1 then _ else none) = _
  rw [if_pos hl, hev]
  rfl
end TX
