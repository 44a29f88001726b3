/-! Cells that grow: the first n are laid. -/
def GH (n L : Nat) (I : Nat → Nat → Int) (R : Nat → Nat → Option Nat) (u : Int64) : am_H := (n, fun k => if k < n then (tg k, ln L k, vv I R u k) else (99, 0, fun _ => vU))
theorem GH_a {n L : Nat} {I : Nat → Nat → Int} {R : Nat → Nat → Option Nat} {u : Int64} {a : Nat} (h : a < n) : (GH n L I R u).2 a = (tg a, ln L a, vv I R u a) := if_pos h
theorem GH_pi {n L : Nat} {I : Nat → Nat → Int} {R : Nat → Nat → Option Nat} {u : Int64} {a j t : Nat} {x : Int} (ha : a < n) (ht : tg a = t) (hk : sk t j = 0) : am_put (GH n L I R u) a (t, ((GH n L I R u).2 a).2.1, au ((GH n L I R u).2 a).2.2 j (vI x)) = GH n L (au I a (au (I a) j x)) R u := by
  rw [GH_a ha]
  show ((n : Nat), _) = ((n : Nat), _)
  congr 1
  funext k
  have e := congrFun (congrArg Prod.snd (LH_pi (L := L) (I := I) (R := R) (u := u) (a := a) (x := x) ht hk)) k
  have e : au (LH L I R u).2 a (t, ln L a, au (vv I R u a) j (vI x)) k = (tg k, ln L k, vv (au I a (au (I a) j x)) R u k) := e
  show au (GH n L I R u).2 a (t, ln L a, au (vv I R u a) j (vI x)) k = (if k < n then (tg k, ln L k, vv (au I a (au (I a) j x)) R u k) else (99, 0, fun _ => vU))
  by_cases c : k < n
  · rw [if_pos c, ← e]
    by_cases c2 : k = a
    · rw [c2, au_s, au_s]
    · rw [au_n _ _ c2, au_n _ _ c2, GH_a c]; rfl
  · rw [if_neg c, au_n _ _ (by omega)]
    exact if_neg c
theorem GH_pr {n L : Nat} {I : Nat → Nat → Int} {R : Nat → Nat → Option Nat} {u : Int64} {a j t b : Nat} (ha : a < n) (ht : tg a = t) (hk : sk t j = 1) : am_put (GH n L I R u) a (t, ((GH n L I R u).2 a).2.1, au ((GH n L I R u).2 a).2.2 j (vR b)) = GH n L I (au R a (au (R a) j (some b))) u := by
  rw [GH_a ha]
  show ((n : Nat), _) = ((n : Nat), _)
  congr 1
  funext k
  have e := congrFun (congrArg Prod.snd (LH_pr (L := L) (I := I) (R := R) (u := u) (a := a) (b := b) ht hk)) k
  have e : au (LH L I R u).2 a (t, ln L a, au (vv I R u a) j (vR b)) k = (tg k, ln L k, vv I (au R a (au (R a) j (some b))) u k) := e
  show au (GH n L I R u).2 a (t, ln L a, au (vv I R u a) j (vR b)) k = (if k < n then (tg k, ln L k, vv I (au R a (au (R a) j (some b))) u k) else (99, 0, fun _ => vU))
  by_cases c : k < n
  · rw [if_pos c, ← e]
    by_cases c2 : k = a
    · rw [c2, au_s, au_s]
    · rw [au_n _ _ c2, au_n _ _ c2, GH_a c]; rfl
  · rw [if_neg c, au_n _ _ (by omega)]
    exact if_neg c
theorem GH_n {n L : Nat} {I : Nat → Nat → Int} {R : Nat → Nat → Option Nat} {u : Int64} {c : am_C} (h : c = (tg n, ln L n, vv I R u n)) : am_new (GH n L I R u) c = GH (n + 1) L I R u := by
  show ((n + 1 : Nat), _) = ((n + 1 : Nat), _)
  congr 1
  funext k
  show au (GH n L I R u).2 n c k = (if k < n + 1 then (tg k, ln L k, vv I R u k) else (99, 0, fun _ => vU))
  by_cases e : k = n
  · rw [e, au_s, if_pos (by omega), h]
  · rw [au_n _ _ e]
    show (if k < n then (tg k, ln L k, vv I R u k) else (99, 0, fun _ => vU)) = _
    by_cases c : k < n
    · rw [if_pos c, if_pos (by omega)]
    · rw [if_neg c, if_neg (by omega)]
theorem fk_ok {c i : Nat} (h : c < 13) : am_fk (am_ty c i) = 0 ∨ am_fk (am_ty c i) = 1 ∨ am_fk (am_ty c i) = 2 ∨ am_fk (am_ty c i) = 3 := by
  rcases (show c = 0 ∨ c = 1 ∨ c = 2 ∨ c = 3 ∨ c = 4 ∨ c = 5 ∨ c = 6 ∨ c = 7 ∨ c = 8 ∨ c = 9 ∨ c = 10 ∨ c = 11 ∨ c = 12 by omega) with rfl | rfl | rfl | rfl | rfl | rfl | rfl | rfl | rfl | rfl | rfl | rfl | rfl
  · show am_fk (tyX0 i) = 0 ∨ am_fk (tyX0 i) = 1 ∨ am_fk (tyX0 i) = 2 ∨ am_fk (tyX0 i) = 3; unfold tyX0; first | (split <;> first | exact Or.inl rfl | exact Or.inr (Or.inl rfl) | exact Or.inr (Or.inr (Or.inl rfl)) | exact Or.inr (Or.inr (Or.inr rfl))) | exact Or.inl rfl | exact Or.inr (Or.inr (Or.inr rfl))
  · show am_fk (tyX1 i) = 0 ∨ am_fk (tyX1 i) = 1 ∨ am_fk (tyX1 i) = 2 ∨ am_fk (tyX1 i) = 3; unfold tyX1; first | (split <;> first | exact Or.inl rfl | exact Or.inr (Or.inl rfl) | exact Or.inr (Or.inr (Or.inl rfl)) | exact Or.inr (Or.inr (Or.inr rfl))) | exact Or.inl rfl | exact Or.inr (Or.inr (Or.inr rfl))
  · show am_fk (tyX2 i) = 0 ∨ am_fk (tyX2 i) = 1 ∨ am_fk (tyX2 i) = 2 ∨ am_fk (tyX2 i) = 3; unfold tyX2; first | (split <;> first | exact Or.inl rfl | exact Or.inr (Or.inl rfl) | exact Or.inr (Or.inr (Or.inl rfl)) | exact Or.inr (Or.inr (Or.inr rfl))) | exact Or.inl rfl | exact Or.inr (Or.inr (Or.inr rfl))
  · show am_fk (tyX3 i) = 0 ∨ am_fk (tyX3 i) = 1 ∨ am_fk (tyX3 i) = 2 ∨ am_fk (tyX3 i) = 3; unfold tyX3; first | (split <;> first | exact Or.inl rfl | exact Or.inr (Or.inl rfl) | exact Or.inr (Or.inr (Or.inl rfl)) | exact Or.inr (Or.inr (Or.inr rfl))) | exact Or.inl rfl | exact Or.inr (Or.inr (Or.inr rfl))
  · show am_fk (tyX4 i) = 0 ∨ am_fk (tyX4 i) = 1 ∨ am_fk (tyX4 i) = 2 ∨ am_fk (tyX4 i) = 3; unfold tyX4; first | (split <;> first | exact Or.inl rfl | exact Or.inr (Or.inl rfl) | exact Or.inr (Or.inr (Or.inl rfl)) | exact Or.inr (Or.inr (Or.inr rfl))) | exact Or.inl rfl | exact Or.inr (Or.inr (Or.inr rfl))
  · show am_fk (tyX5 i) = 0 ∨ am_fk (tyX5 i) = 1 ∨ am_fk (tyX5 i) = 2 ∨ am_fk (tyX5 i) = 3; unfold tyX5; first | (split <;> first | exact Or.inl rfl | exact Or.inr (Or.inl rfl) | exact Or.inr (Or.inr (Or.inl rfl)) | exact Or.inr (Or.inr (Or.inr rfl))) | exact Or.inl rfl | exact Or.inr (Or.inr (Or.inr rfl))
  · show am_fk (tyX6 i) = 0 ∨ am_fk (tyX6 i) = 1 ∨ am_fk (tyX6 i) = 2 ∨ am_fk (tyX6 i) = 3; unfold tyX6; first | (split <;> first | exact Or.inl rfl | exact Or.inr (Or.inl rfl) | exact Or.inr (Or.inr (Or.inl rfl)) | exact Or.inr (Or.inr (Or.inr rfl))) | exact Or.inl rfl | exact Or.inr (Or.inr (Or.inr rfl))
  · show am_fk (tyX7 i) = 0 ∨ am_fk (tyX7 i) = 1 ∨ am_fk (tyX7 i) = 2 ∨ am_fk (tyX7 i) = 3; unfold tyX7; first | (split <;> first | exact Or.inl rfl | exact Or.inr (Or.inl rfl) | exact Or.inr (Or.inr (Or.inl rfl)) | exact Or.inr (Or.inr (Or.inr rfl))) | exact Or.inl rfl | exact Or.inr (Or.inr (Or.inr rfl))
  · show am_fk (tyX8 i) = 0 ∨ am_fk (tyX8 i) = 1 ∨ am_fk (tyX8 i) = 2 ∨ am_fk (tyX8 i) = 3; unfold tyX8; first | (split <;> first | exact Or.inl rfl | exact Or.inr (Or.inl rfl) | exact Or.inr (Or.inr (Or.inl rfl)) | exact Or.inr (Or.inr (Or.inr rfl))) | exact Or.inl rfl | exact Or.inr (Or.inr (Or.inr rfl))
  · show am_fk (tyX9 i) = 0 ∨ am_fk (tyX9 i) = 1 ∨ am_fk (tyX9 i) = 2 ∨ am_fk (tyX9 i) = 3; unfold tyX9; first | (split <;> first | exact Or.inl rfl | exact Or.inr (Or.inl rfl) | exact Or.inr (Or.inr (Or.inl rfl)) | exact Or.inr (Or.inr (Or.inr rfl))) | exact Or.inl rfl | exact Or.inr (Or.inr (Or.inr rfl))
  · show am_fk (tyX10 i) = 0 ∨ am_fk (tyX10 i) = 1 ∨ am_fk (tyX10 i) = 2 ∨ am_fk (tyX10 i) = 3; unfold tyX10; first | (split <;> first | exact Or.inl rfl | exact Or.inr (Or.inl rfl) | exact Or.inr (Or.inr (Or.inl rfl)) | exact Or.inr (Or.inr (Or.inr rfl))) | exact Or.inl rfl | exact Or.inr (Or.inr (Or.inr rfl))
  · show am_fk (tyX11 i) = 0 ∨ am_fk (tyX11 i) = 1 ∨ am_fk (tyX11 i) = 2 ∨ am_fk (tyX11 i) = 3; unfold tyX11; first | (split <;> first | exact Or.inl rfl | exact Or.inr (Or.inl rfl) | exact Or.inr (Or.inr (Or.inl rfl)) | exact Or.inr (Or.inr (Or.inr rfl))) | exact Or.inl rfl | exact Or.inr (Or.inr (Or.inr rfl))
  · show am_fk (tyX12 i) = 0 ∨ am_fk (tyX12 i) = 1 ∨ am_fk (tyX12 i) = 2 ∨ am_fk (tyX12 i) = 3; unfold tyX12; first | (split <;> first | exact Or.inl rfl | exact Or.inr (Or.inl rfl) | exact Or.inr (Or.inr (Or.inl rfl)) | exact Or.inr (Or.inr (Or.inr rfl))) | exact Or.inl rfl | exact Or.inr (Or.inr (Or.inr rfl))
theorem df_0 {t : FieldType} (e : am_fk t = 0) : defV t = vI 0 := by cases t <;> first | rfl | cases e
theorem df_1 {t : FieldType} (e : am_fk t = 1) : defV t = vI 0 := by cases t <;> first | rfl | cases e
theorem df_2 {t : FieldType} (e : am_fk t = 2) : defV t = vL 0 := by cases t <;> first | rfl | cases e
theorem df_3 {t : FieldType} (e : am_fk t = 3) : defV t = vN := by cases t <;> first | rfl | cases e
/-- a cell before anything has been written into it -/
theorem vv_def {I : Nat → Nat → Int} {R : Nat → Nat → Option Nat} {u : Int64} {n c : Nat} (hc : tg n = c) (h13 : c < 13) (hI : ∀ i, I n i = 0) (hR : ∀ i, R n i = none) (hu : u = 0) (i : Nat) : vv I R u n i = defV (am_ty c i) := by
  have hs : ∀ z, am_fk (am_ty c i) = z → sk c i = (if z = 0 ∨ z = 1 then 0 else if z = 2 then (if i = 30 then 2 else 4) else 1) ∨ 3 < z := fun z hz => by
    unfold sk
    rw [if_neg (by omega), if_neg (by omega), if_pos h13, hz]
    rcases (show z = 0 ∨ z = 1 ∨ z = 2 ∨ z = 3 ∨ 3 < z by omega) with rfl | rfl | rfl | rfl | q
    · exact Or.inl rfl
    · exact Or.inl rfl
    · exact Or.inl rfl
    · exact Or.inl rfl
    · exact Or.inr q
  unfold vv
  rw [hc]
  rcases fk_ok (c := c) (i := i) h13 with e | e | e | e
  · rw [(hs 0 e).resolve_right (by decide), df_0 e]
    show vI (I n i) = _
    rw [hI]
  · rw [(hs 1 e).resolve_right (by decide), df_1 e]
    show vI (I n i) = _
    rw [hI]
  · rw [(hs 2 e).resolve_right (by decide), df_2 e, if_neg (by decide), if_pos rfl]
    by_cases c30 : i = 30
    · rw [if_pos c30]; show vL u = vL 0; rw [hu]
    · rw [if_neg c30]; rfl
  · rw [(hs 3 e).resolve_right (by decide), df_3 e]
    show (Sum.inr (Sum.inl (R n i)) : am_V) = _
    rw [hR]
section
variable {G : am_G} {r : List am_I} {ls st : List am_V} {Y : Option am_S} {n L : Nat} {I : Nat → Nat → Int} {R : Nat → Nat → Option Nat} {u : Int64} {h : am_H} {z : Nat × Nat × Nat}
theorem g_super {i a : Nat} {z : Nat × Nat} (hc : am_cats st ≤ 8) (k : am_L G r (ls, st, h) = Y) : am_L G ((.invokespecial i, 998, z) :: r) (ls, vR a :: st, h) = Y := by
  refine x_go (y := (ls, st, h)) ?_ k
  show (if am_cats st ≤ 8 then some (ls, st, h) else none) = _
  rw [if_pos hc]
theorem g_gr {a c f i x b : Nat} (ha : a < n) (ht : tg a = c) (hs : sk c f = 1) (hr : R a f = some b) (k : am_L G r (ls, vR b :: st, GH n L I R u) = Y) : am_L G ((.getfield i, c, f, x) :: r) (ls, vR a :: st, GH n L I R u) = Y := by
  refine x_go (y := (ls, vR b :: st, GH n L I R u)) ?_ k
  subst ht
  show (if ((GH n L I R u).2 a).1 = tg a then some (ls, ((GH n L I R u).2 a).2.2 f :: st, GH n L I R u) else none) = _
  rw [GH_a ha, if_pos rfl]
  show some (ls, vv I R u a f :: st, GH n L I R u) = _
  rw [vv_r hs, hr]
theorem g_pi {a c f i x : Nat} {v : Int} (ha : a < n) (ht : tg a = c) (hs : sk c f = 0) (hf : am_fit x (vI v) = true) (k : am_L G r (ls, st, GH n L (au I a (au (I a) f v)) R u) = Y) : am_L G ((.putfield i, c, f, x) :: r) (ls, vI v :: vR a :: st, GH n L I R u) = Y := by
  refine x_go (y := (ls, st, GH n L (au I a (au (I a) f v)) R u)) ?_ k
  rw [← GH_pi (t := c) ha ht hs]
  show (if ((GH n L I R u).2 a).1 = c ∧ am_fit x (vI v) = true then some (ls, st, am_put (GH n L I R u) a (c, ((GH n L I R u).2 a).2.1, au ((GH n L I R u).2 a).2.2 f (vI v))) else none) = _
  rw [if_pos ⟨by rw [GH_a ha]; exact ht, hf⟩]
/-- nothing new is written -/
theorem g_p0 {a c f i x : Nat} {v : Int} (ha : a < n) (ht : tg a = c) (hs : sk c f = 0) (hf : am_fit x (vI v) = true) (hv : I a f = v) (k : am_L G r (ls, st, GH n L I R u) = Y) : am_L G ((.putfield i, c, f, x) :: r) (ls, vI v :: vR a :: st, GH n L I R u) = Y := by
  refine g_pi ha ht hs hf ?_
  rw [← hv, au_id, au_id]
  exact k
theorem g_pr {a b c f i : Nat} (ha : a < n) (ht : tg a = c) (hs : sk c f = 1) (k : am_L G r (ls, st, GH n L I (au R a (au (R a) f (some b))) u) = Y) : am_L G ((.putfield i, c, f, 3) :: r) (ls, vR b :: vR a :: st, GH n L I R u) = Y := by
  refine x_go (y := (ls, st, GH n L I (au R a (au (R a) f (some b))) u)) ?_ k
  rw [← GH_pr (t := c) ha ht hs]
  show (if ((GH n L I R u).2 a).1 = c ∧ am_fit 3 (vR b) = true then some (ls, st, am_put (GH n L I R u) a (c, ((GH n L I R u).2 a).2.1, au ((GH n L I R u).2 a).2.2 f (vR b))) else none) = _
  rw [if_pos ⟨by rw [GH_a ha]; exact ht, rfl⟩]
theorem g_iald {a q : Nat} {i : Int} (ha : a < n) (ht : tg a = 20) (hn : ln L a = q) (hi : 0 ≤ i ∧ i < q ∧ q ≤ 100000) (k : am_L G r (ls, vI (I a i.toNat) :: st, GH n L I R u) = Y) : am_L G ((.iaload, z) :: r) (ls, vI i :: vR a :: st, GH n L I R u) = Y := by
  refine x_go (y := (ls, vI (I a i.toNat) :: st, GH n L I R u)) ?_ k
  subst hn
  show (if ((((GH n L I R u).2 a).1 == 20 || ((GH n L I R u).2 a).1 == 30) = true ∧ 0 ≤ i ∧ i < ((GH n L I R u).2 a).2.1 ∧ ((GH n L I R u).2 a).2.1 ≤ 100000) then some (ls, ((GH n L I R u).2 a).2.2 i.toNat :: st, GH n L I R u) else none) = _
  rw [GH_a ha]
  show (if (tg a == 20 || tg a == 30) = true ∧ 0 ≤ i ∧ i < ln L a ∧ ln L a ≤ 100000 then some (ls, vv I R u a i.toNat :: st, GH n L I R u) else none) = _
  rw [if_pos ⟨by rw [ht]; rfl, hi.1, hi.2.1, hi.2.2⟩, vv_i (by rw [ht]; rfl)]
theorem g_aald {a q b : Nat} {i : Int} (ha : a < n) (ht : 22 ≤ tg a ∧ tg a ≤ 25) (hn : ln L a = q) (hi : 0 ≤ i ∧ i < q ∧ q ≤ 100000) (hr : R a i.toNat = some b) (k : am_L G r (ls, vR b :: st, GH n L I R u) = Y) : am_L G ((.aaload, z) :: r) (ls, vI i :: vR a :: st, GH n L I R u) = Y := by
  refine x_go (y := (ls, vR b :: st, GH n L I R u)) ?_ k
  subst hn
  show (if (decide (22 ≤ ((GH n L I R u).2 a).1 ∧ ((GH n L I R u).2 a).1 ≤ 25) = true ∧ 0 ≤ i ∧ i < ((GH n L I R u).2 a).2.1 ∧ ((GH n L I R u).2 a).2.1 ≤ 100000) then some (ls, ((GH n L I R u).2 a).2.2 i.toNat :: st, GH n L I R u) else none) = _
  rw [GH_a ha]
  show (if decide (22 ≤ tg a ∧ tg a ≤ 25) = true ∧ 0 ≤ i ∧ i < ln L a ∧ ln L a ≤ 100000 then some (ls, vv I R u a i.toNat :: st, GH n L I R u) else none) = _
  rw [if_pos ⟨decide_eq_true ht, hi.1, hi.2.1, hi.2.2⟩, vv_r (sk_ref ht.1 ht.2), hr]
theorem g_iast {a q : Nat} {i v : Int} (ha : a < n) (ht : tg a = 20) (hn : ln L a = q) (hi : 0 ≤ i ∧ i < q ∧ q ≤ 100000) (k : am_L G r (ls, st, GH n L (au I a (au (I a) i.toNat v)) R u) = Y) : am_L G ((.iastore, z) :: r) (ls, vI v :: vI i :: vR a :: st, GH n L I R u) = Y := by
  refine x_go (y := (ls, st, GH n L (au I a (au (I a) i.toNat v)) R u)) ?_ k
  subst hn
  rw [← GH_pi (t := 20) ha ht rfl]
  show (if ((GH n L I R u).2 a).1 = 20 ∧ 0 ≤ i ∧ i < ((GH n L I R u).2 a).2.1 ∧ ((GH n L I R u).2 a).2.1 ≤ 100000 then some (ls, st, am_put (GH n L I R u) a (20, ((GH n L I R u).2 a).2.1, au ((GH n L I R u).2 a).2.2 i.toNat (vI v))) else none) = _
  rw [if_pos (by rw [GH_a ha]; exact ⟨ht, hi.1, hi.2.1, hi.2.2⟩)]
theorem g_aast {a q b t : Nat} {i : Int} (ha : a < n) (hb : b < n) (ht : tg a = t) (htt : 22 ≤ t ∧ t ≤ 25 ∧ tg b = am_el t) (hn : ln L a = q) (hi : 0 ≤ i ∧ i < q ∧ q ≤ 100000) (k : am_L G r (ls, st, GH n L I (au R a (au (R a) i.toNat (some b))) u) = Y) : am_L G ((.aastore, z) :: r) (ls, vR b :: vI i :: vR a :: st, GH n L I R u) = Y := by
  refine x_go (y := (ls, st, GH n L I (au R a (au (R a) i.toNat (some b))) u)) ?_ k
  subst hn
  rw [← GH_pr (t := t) ha ht (sk_ref htt.1 htt.2.1)]
  subst ht
  have e1 : ((GH n L I R u).2 a).1 = tg a := by rw [GH_a ha]
  have e2 : ((GH n L I R u).2 b).1 = tg b := by rw [GH_a hb]
  have e3 : ((GH n L I R u).2 a).2.1 = ln L a := by rw [GH_a ha]
  show (if 22 ≤ ((GH n L I R u).2 a).1 ∧ ((GH n L I R u).2 a).1 ≤ 25 ∧ ((GH n L I R u).2 b).1 = am_el ((GH n L I R u).2 a).1 ∧ 0 ≤ i ∧ i < ((GH n L I R u).2 a).2.1 ∧ ((GH n L I R u).2 a).2.1 ≤ 100000 then some (ls, st, am_put (GH n L I R u) a (((GH n L I R u).2 a).1, ((GH n L I R u).2 a).2.1, au ((GH n L I R u).2 a).2.2 i.toNat (vR b))) else none) = _
  rw [if_pos (by rw [e1, e2, e3]; exact ⟨htt.1, htt.2.1, htt.2.2, hi.1, hi.2.1, hi.2.2⟩), e1]
theorem g_new {c i : Nat} {z : Nat × Nat} (hc : tg n = c) (h13 : c < 13) (hl : ln L n = am_n c) (hI : ∀ i, I n i = 0) (hR : ∀ i, R n i = none) (hu : u = 0) (k : am_L G r (ls, vR n :: st, GH (n + 1) L I R u) = Y) : am_L G ((.new i, c, z) :: r) (ls, st, GH n L I R u) = Y := by
  refine x_go (y := (ls, vR n :: st, GH (n + 1) L I R u)) ?_ k
  show some (ls, vR n :: st, am_new (GH n L I R u) (c, am_n c, fun k => defV (am_ty c k))) = _
  rw [GH_n (by rw [hc, hl]; congr 2; funext i; exact (vv_def hc h13 hI hR hu i).symm)]
theorem g_na {t q : Nat} {i : Int} {y : _} {z : Nat × Nat} (hc : tg n = t) (ht : t = 20 ∨ t = 21) (hl : ln L n = q) (hi : i = (q : Nat)) (hq : q ≤ 100000) (hI : ∀ i, I n i = 0) (k : am_L G r (ls, vR n :: st, GH (n + 1) L I R u) = Y) : am_L G ((.newarray y, t, z) :: r) (ls, vI i :: st, GH n L I R u) = Y := by
  refine x_go (y := (ls, vR n :: st, GH (n + 1) L I R u)) ?_ k
  subst hi
  show (if 0 ≤ ((q : Nat) : Int) ∧ ((q : Nat) : Int) ≤ 100000 then some (ls, vR n :: st, am_new (GH n L I R u) (t, ((q : Nat) : Int).toNat, fun _ => vI 0)) else none) = _
  rw [if_pos (by omega), Int.toNat_natCast, GH_n (by
    rw [hc, hl]
    congr 2
    funext i
    rw [vv_i (by rw [hc]; rcases ht with e | e <;> rw [e] <;> rfl), hI])]
theorem g_an {t q : Nat} {i : Int} {y : _} {z : Nat × Nat} (hc : tg n = t) (ht : 22 ≤ t ∧ t ≤ 25) (hl : ln L n = q) (hi : i = (q : Nat)) (hq : q ≤ 100000) (hR : ∀ i, R n i = none) (k : am_L G r (ls, vR n :: st, GH (n + 1) L I R u) = Y) : am_L G ((.anewarray y, t, z) :: r) (ls, vI i :: st, GH n L I R u) = Y := by
  refine x_go (y := (ls, vR n :: st, GH (n + 1) L I R u)) ?_ k
  subst hi
  show (if 0 ≤ ((q : Nat) : Int) ∧ ((q : Nat) : Int) ≤ 100000 then some (ls, vR n :: st, am_new (GH n L I R u) (t, ((q : Nat) : Int).toNat, fun _ => vN)) else none) = _
  rw [if_pos (by omega), Int.toNat_natCast, GH_n (by
    rw [hc, hl]
    congr 2
    funext i
    rw [vv_r (by rw [hc]; exact sk_ref ht.1 ht.2), hR])]
theorem g_rows {q m : Nat} {i j : Int} {y y' : _} {z : Nat × Nat × Nat} (hc : tg n = 22) (hl : ln L n = q) (hi : i = (q : Nat)) (hj : j = (m : Nat)) (hq : 0 < q ∧ q ≤ 1000 ∧ m ≤ 1000) (hR : ∀ i, R n i = some (n + 1 + i)) (h2 : ∀ k, n + 1 ≤ k → k < n + 1 + q → tg k = 20 ∧ ln L k = m ∧ ∀ i, I k i = 0) (k : am_L G r (ls, vR n :: st, GH (n + 1 + q) L I R u) = Y) : am_L G ((.multianewarray y y', z) :: r) (ls, vI j :: vI i :: st, GH n L I R u) = Y := by
  refine x_go (y := (ls, vR n :: st, GH (n + 1 + q) L I R u)) ?_ k
  subst hi
  subst hj
  show (if 0 < ((q : Nat) : Int) ∧ ((q : Nat) : Int) ≤ 1000 ∧ 0 ≤ ((m : Nat) : Int) ∧ ((m : Nat) : Int) ≤ 1000 then some (ls, vR n :: st, am_rows ((q : Nat) : Int).toNat ((m : Nat) : Int).toNat (GH n L I R u)) else none) = _
  rw [if_pos (by omega), Int.toNat_natCast, Int.toNat_natCast]
  refine congrArg some (congrArg (fun x => (ls, vR n :: st, x)) ?_)
  show ((n + 1 + q : Nat), _) = ((n + 1 + q : Nat), _)
  congr 1
  funext k
  show (if k = n then (22, q, fun i => vR (n + 1 + i)) else if n + 1 ≤ k ∧ k < n + 1 + q then (20, m, fun _ => vI 0) else (GH n L I R u).2 k) = (if k < n + 1 + q then (tg k, ln L k, vv I R u k) else (99, 0, fun _ => vU))
  by_cases e : k = n
  · rw [if_pos e, if_pos (by omega), e, hc, hl]
    congr 2
    funext i
    rw [vv_r (by rw [hc]; rfl), hR]
  · rw [if_neg e]
    by_cases e2 : n + 1 ≤ k ∧ k < n + 1 + q
    · obtain ⟨a1, a2, a3⟩ := h2 k e2.1 e2.2
      rw [if_pos e2, if_pos e2.2, a1, a2]
      congr 2
      funext i
      rw [vv_i (by rw [a1]; rfl), a3]
    · rw [if_neg e2]
      show (if k < n then (tg k, ln L k, vv I R u k) else (99, 0, fun _ => vU)) = _
      by_cases c : k < n
      · rw [if_pos c, if_pos (by omega)]
      · rw [if_neg c, if_neg (by omega)]
theorem g_spec {i k a c q : Nat} {vs : List am_V} {h' : am_H} (hk : k ≠ 998) (ha : a < n) (ht : tg a = c) (hq : q = vs.length + 1) (hc : am_cats st ≤ 8) (hg : G k (vR a :: vs) (GH n L I R u) = some ([], h')) (kk : am_L G r (ls, st, h') = Y) : am_L G ((.invokespecial i, k, q, c) :: r) (ls, vs.reverse ++ vR a :: st, GH n L I R u) = Y := by
  refine x_go (y := (ls, st, h')) ?_ kk
  subst hq
  show (if k = 998 then _ else am_inv G true k (vs.length + 1) c (ls, vs.reverse ++ vR a :: st, GH n L I R u)) = _
  rw [if_neg hk]
  unfold am_inv
  have e1 : (vs.reverse ++ vR a :: st).take (vs.length + 1) = vs.reverse ++ [vR a] := by
    rw [show vs.reverse ++ vR a :: st = (vs.reverse ++ [vR a]) ++ st by rw [List.append_assoc]; rfl]
    exact List.take_left' (by rw [List.length_append, List.length_reverse]; rfl)
  have e2 : (vs.reverse ++ vR a :: st).drop (vs.length + 1) = st := by
    rw [show vs.reverse ++ vR a :: st = (vs.reverse ++ [vR a]) ++ st by rw [List.append_assoc]; rfl]
    exact List.drop_left' (by rw [List.length_append, List.length_reverse]; rfl)
  have e3 : (vs.reverse ++ [vR a]).reverse = vR a :: vs := by rw [List.reverse_append, List.reverse_reverse]; rfl
  dsimp only
  rw [e1, e2, e3, if_pos ⟨by rw [List.length_append, List.length_reverse]; exact Nat.add_le_add_left (Nat.succ_le_succ (Nat.zero_le _)) _, hc, fun _ => by
    show decide (((GH n L I R u).2 a).1 = c) = true
    rw [GH_a ha]
    exact decide_eq_true ht⟩, hg]
  rfl
end
