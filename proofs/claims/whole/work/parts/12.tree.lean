/-! Stretches, their ends, trees, tables of methods. -/
def am_okL (tb : Nat → Option am_M) (own : String) (ini : Bool) (nL : Nat) (cc : ByteArray) : List am_I → Nat → Nat → Prop
  | [], pc, pc' => pc' = pc
  | i :: r, pc, pc' => am_ok1 tb own ini nL i ∧ decode cc pc = .ok (i.1, am_len i.1) ∧ am_okL tb own ini nL cc r (pc + am_len i.1) pc'
def am_okt (cc : ByteArray) (ret : Option FieldType) (i : Instr) (ts : List Nat) (pc pc' : Nat) : Prop := match i with
  | .goto off => decode cc pc = .ok (.goto off, 3) ∧ pc' = pc + 3 ∧ (pc : Int) + off = ((ts.headD 0 : Nat) : Int)
  | .ifCond c off => decode cc pc = .ok (.ifCond c off, 3) ∧ pc' = pc + 3 ∧ (pc : Int) + off = ((ts.headD 0 : Nat) : Int)
  | .if_icmp c off => decode cc pc = .ok (.if_icmp c off, 3) ∧ pc' = pc + 3 ∧ (pc : Int) + off = ((ts.headD 0 : Nat) : Int)
  | .tableswitch dd lo hi offs => ∃ n, decode cc pc = .ok (.tableswitch dd lo hi offs, n) ∧ pc' = pc + n ∧ (pc : Int) + dd = ((ts.headD 0 : Nat) : Int) ∧ (∀ j : Nat, (j : Int) ≤ hi - lo → ∃ off, offs[j]? = some off ∧ (pc : Int) + off = ((ts.getD (j + 1) 0 : Nat) : Int))
  | .ireturn => decode cc pc = .ok (.ireturn, 1) ∧ pc' = pc + 1 ∧ ((ts.headD 0 = 0 ∧ ret = some .int) ∨ (ts.headD 0 = 1 ∧ ret = some .boolean))
  | .lreturn => decode cc pc = .ok (.lreturn, 1) ∧ pc' = pc + 1 ∧ ret = some .long
  | .areturn => decode cc pc = .ok (.areturn, 1) ∧ pc' = pc + 1 ∧ ∃ n, ret = some (.object n)
  | .return_ => decode cc pc = .ok (.return_, 1) ∧ pc' = pc + 1 ∧ ret = none
  | _ => False
def am_okT (tb : Nat → Option am_M) (own : String) (ini : Bool) (nL : Nat) (cc : ByteArray) (ret : Option FieldType) : am_T → Nat → Nat → Prop
  | .leaf q, pc, pc' => match q.2 with
    | none => am_okL tb own ini nL cc q.1 pc pc'
    | some r => ∃ pc1, am_okL tb own ini nL cc q.1 pc pc1 ∧ am_okt cc ret r.1 r.2 pc1 pc'
  | .branch 0 a b, pc, pc' => ∃ pc1, am_okT tb own ini nL cc ret a pc pc1 ∧ am_okT tb own ini nL cc ret b pc1 pc'
  | .branch (n + 1) a _, pc, pc' => am_okT tb own ini nL cc ret a pc pc' ∧ (if n % 2 = 0 then n / 2 = pc' else n / 2 = pc)
section TREE
variable {p : Program} {l : Launch} {e : Env} {R : Room} {s : State} {m : MethodId} {args : Array Value} {below : List Frame} {meth : Method} {c : Code} {Q : State → Prop} {cc : ByteArray} {nL : Nat} {own : String} {ini : Bool} {D : am_D} {h0 : am_H}
variable {tb : Nat → Option am_M} {d : Nat} {G : am_G} {ret : Option FieldType}
theorem am_L_le (hS : am_Snd l D tb d G) : ∀ (is : List am_I) {pc pc' : Nat}, am_okL tb own ini nL cc is pc pc' → ∀ {x y : am_S}, am_L G is x = some y → am_le x.2.2 y.2.2
  | [], _, _, _, x, y, h => by cases h; exact am_le.rf _
  | i :: r, pc, pc', hok, x, y, h => by
    obtain ⟨z, h1, h2⟩ := Option.bind_eq_some_iff.mp h
    exact (am_I1_le hS hok.1 h1).tr (am_L_le hS r hok.2.2 h2)
theorem am_L_ok (X : am_Fx p R s m args meth c cc nL own ini D) (hS : am_Snd l D tb d G) (hd1 : d + 1 ≤ R.frames) (hd2 : 100 * d + 100 ≤ R.locals) : ∀ (is : List am_I) {pc pc' : Nat}, am_okL tb own ini nL cc is pc pc' → ∀ {x y : am_S}, am_L G is x = some y → am_B R h0 x.2.2 → am_B R h0 y.2.2 → am_At p l e R s m args below meth c Q D nL h0 y pc' → am_At p l e R s m args below meth c Q D nL h0 x pc
  | [], _, _, hok, x, y, h, _, _, kk => by
    cases h
    have hok : _ = _ := hok
    rw [← hok]
    exact kk
  | i :: r, pc, pc', hok, x, y, h, hB, hB', kk => by
    obtain ⟨z, h1, h2⟩ := Option.bind_eq_some_iff.mp h
    have l1 := am_I1_le hS hok.1 h1
    have l2 := am_L_le hS r hok.2.2 h2
    have hBz := hB.mid hB' l1 l2
    exact am_I1_ok X hS hd1 hd2 hok.1 hok.2.1 h1 hB hBz (am_L_ok X hS hd1 hd2 r hok.2.2 h2 hBz hB' kk)
variable {H : Heap} {locs : List Loc} {cells slots : Nat} {LS : Array Slot} {rest : List Value} {pc : Nat}
theorem W.ifc (hx : p.tables.exec = Jvm.exec) (hb : c.code = cc) {cd : Jvm.ClassFile.Cond} {a off : Int} {tgt : Nat} (ha : inR a) (hd : decode cc pc = .ok (.ifCond cd off, 3)) (ht : (pc : Int) + off = (tgt : Int))
    (k : W p l e R s m args below meth c H locs cells slots Q (F0 m (if am_cmp cd a 0 = true then tgt else pc + 3) LS rest)) : W p l e R s m args below meth c H locs cells slots Q (F0 m pc LS (.int (Int32.ofInt a) :: rest)) := by
  cases cd
  · refine lv_if_eq hx hb hd ht (fun h => ?_) (fun h => ?_) <;> rw [i32_0, i32_eq ha inR_0] at h <;> simpa [am_cmp, h] using k
  · refine lv_if_ne hx hb hd ht (fun h => ?_) (fun h => ?_) <;> rw [i32_0, i32_eq ha inR_0] at h <;> simpa [am_cmp, h] using k
  · refine lv_if_lt hx hb hd ht (fun h => ?_) (fun h => ?_) <;> rw [i32_0, i32_lt ha inR_0] at h <;> simpa [am_cmp, h] using k
  · refine lv_if_ge hx hb hd ht (fun h => ?_) (fun h => ?_) <;> rw [i32_0, i32_le inR_0 ha] at h <;> simpa [am_cmp, h] using k
  · refine lv_if_gt hx hb hd ht (fun h => ?_) (fun h => ?_) <;> rw [i32_0, i32_lt inR_0 ha] at h <;> simpa [am_cmp, h] using k
  · refine lv_if_le hx hb hd ht (fun h => ?_) (fun h => ?_) <;> rw [i32_0, i32_le ha inR_0] at h <;> simpa [am_cmp, h] using k
theorem W.icmp (hx : p.tables.exec = Jvm.exec) (hb : c.code = cc) {cd : Jvm.ClassFile.Cond} {a b off : Int} {tgt : Nat} (ha : inR a) (hb2 : inR b) (hd : decode cc pc = .ok (.if_icmp cd off, 3)) (ht : (pc : Int) + off = (tgt : Int))
    (k : W p l e R s m args below meth c H locs cells slots Q (F0 m (if am_cmp cd a b = true then tgt else pc + 3) LS rest)) : W p l e R s m args below meth c H locs cells slots Q (F0 m pc LS (.int (Int32.ofInt b) :: .int (Int32.ofInt a) :: rest)) := by
  cases cd
  · refine lv_icmp_eq hx hb hd ht (fun h => ?_) (fun h => ?_) <;> rw [i32_eq ha hb2] at h <;> simpa [am_cmp, h] using k
  · refine lv_icmp_ne hx hb hd ht (fun h => ?_) (fun h => ?_) <;> rw [i32_eq ha hb2] at h <;> simpa [am_cmp, h] using k
  · refine lv_icmp_lt hx hb hd ht (fun h => ?_) (fun h => ?_) <;> rw [i32_lt ha hb2] at h <;> simpa [am_cmp, h] using k
  · refine lv_icmp_ge hx hb hd ht (fun h => ?_) (fun h => ?_) <;> rw [i32_le hb2 ha] at h <;> simpa [am_cmp, h] using k
  · refine lv_icmp_gt hx hb hd ht (fun h => ?_) (fun h => ?_) <;> rw [i32_lt hb2 ha] at h <;> simpa [am_cmp, h] using k
  · refine lv_icmp_le hx hb hd ht (fun h => ?_) (fun h => ?_) <;> rw [i32_le ha hb2] at h <;> simpa [am_cmp, h] using k
/-- what is wanted behind a stretch, by the way it ends -/
def am_Way (p : Program) (l : Launch) (e : Env) (R : Room) (s : State) (m : MethodId) (args : Array Value) (below : List Frame) (meth : Method) (c : Code) (Q : State → Prop) (D : am_D) (nL : Nat) (h0 : am_H) (cc : ByteArray) (ret : Option FieldType) (pc' o : Nat) (y : am_S) : Prop :=
  (o = 0 → am_At p l e R s m args below meth c Q D nL h0 y pc') ∧ (∀ t, o = t + 2 → am_At p l e R s m args below meth c Q D nL h0 y t) ∧ (o = 1 → ∀ i ts pcx pcy, am_okt cc ret i ts pcx pcy → am_t i ts y = some (1, y) → am_At p l e R s m args below meth c Q D nL h0 y pcx)
theorem am_t_le {i : Instr} {ts : List Nat} {x y : am_S} {o : Nat} (h : am_t i ts x = some (o, y)) : y.2.2 = x.2.2 := by
  unfold am_t at h
  split at h
  · cases h; rfl
  · split at h
    · split at h <;> cases h; rfl
    · cases h
  · split at h
    · split at h <;> cases h; rfl
    · cases h
  · split at h
    · split at h <;> cases h; rfl
    · cases h
  · split at h
    · split at h <;> cases h; rfl
    · cases h
  · split at h <;> cases h; rfl
  · split at h <;> cases h; rfl
  · split at h <;> cases h; rfl
  · cases h
theorem am_t_ok (X : am_Fx p R s m args meth c cc nL own ini D) {i : Instr} {ts : List Nat} {pc pc' o : Nat} (hok : am_okt cc ret i ts pc pc') {x y : am_S} (hev : am_t i ts x = some (o, y)) (K : am_Way p l e R s m args below meth c Q D nL h0 cc ret pc' o y) : am_At p l e R s m args below meth c Q D nL h0 x pc := by
  have hx := X.1
  have hb := X.2.1
  have hev0 := hev
  unfold am_t at hev
  split at hev
  · obtain ⟨o1, o2, o3⟩ := hok
    cases hev
    exact fun LS H locs hl hR hf => lv_goto hx hb o1 o3 (K.2.1 _ rfl LS H locs hl hR hf)
  · obtain ⟨o1, o2, o3⟩ := hok
    split at hev
    · split at hev
      · rename_i cd off _ ls a st h hin
        cases hev
        intro LS H locs hl hR hf
        refine W.ifc hx hb hin o1 o3 ?_
        by_cases hc : am_cmp cd a 0 = true
        · rw [if_pos hc]
          exact K.2.1 _ (by rw [if_pos hc]) LS H locs hl hR hf
        · rw [if_neg hc, ← o2]
          exact K.1 (by rw [if_neg hc]) LS H locs hl hR hf
      · cases hev
    · cases hev
  · obtain ⟨o1, o2, o3⟩ := hok
    split at hev
    · split at hev
      · rename_i cd off _ ls b a st h hin
        cases hev
        intro LS H locs hl hR hf
        refine W.icmp hx hb hin.1 hin.2 o1 o3 ?_
        by_cases hc : am_cmp cd a b = true
        · rw [if_pos hc]
          exact K.2.1 _ (by rw [if_pos hc]) LS H locs hl hR hf
        · rw [if_neg hc, ← o2]
          exact K.1 (by rw [if_neg hc]) LS H locs hl hR hf
      · cases hev
    · cases hev
  · obtain ⟨n, o1, o2, o3, o4⟩ := hok
    split at hev
    · split at hev
      · rename_i dd lo hi offs _ ls a st h hin
        cases hev
        intro LS H locs hl hR hf
        have ha := i32_of hin
        by_cases hc : lo ≤ a ∧ a ≤ hi
        · obtain ⟨off, q1, q2⟩ := o4 (a - lo).toNat (by omega)
          refine lv_tableIn hx hb o1 (by rw [ha]; omega) (by rw [ha]; omega) (by rw [ha]; exact q1) q2 ?_
          exact K.2.1 _ (by rw [if_pos hc]) LS H locs hl hR hf
        · refine lv_tableOut hx hb o1 (by rw [ha]; omega) o3 ?_
          exact K.2.1 _ (by rw [if_neg hc]) LS H locs hl hR hf
      · cases hev
    · cases hev
  · split at hev
    · split at hev
      · cases hev; exact K.2.2 rfl _ _ _ _ hok hev0
      · cases hev
    · cases hev
  · split at hev
    · cases hev; exact K.2.2 rfl _ _ _ _ hok hev0
    · cases hev
  · split at hev
    · cases hev; exact K.2.2 rfl _ _ _ _ hok hev0
    · cases hev
  · split at hev
    · cases hev; exact K.2.2 rfl _ _ _ _ hok hev0
    · cases hev
  · cases hev
theorem am_lp_le {f : am_S → Option (Nat × am_S)} {L : Nat} (hf : ∀ x o y, f x = some (o, y) → am_le x.2.2 y.2.2) : ∀ (n : Nat) {x y : am_S} {o : Nat}, am_lp f L n x = some (o, y) → am_le x.2.2 y.2.2
  | 0, _, _, _, h => by cases h
  | n + 1, x, y, o, h => by
    obtain ⟨⟨o1, z⟩, h1, h2⟩ := Option.bind_eq_some_iff.mp h
    split at h2
    · exact (hf _ _ _ h1).tr (am_lp_le hf n h2)
    · cases h2; exact hf _ _ _ h1
theorem am_ev_le (hS : am_Snd l D tb d G) : ∀ (t : am_T) {pc pc' : Nat}, am_okT tb own ini nL cc ret t pc pc' → ∀ {x y : am_S} {o : Nat}, am_ev G t x = some (o, y) → am_le x.2.2 y.2.2
  | .leaf (is, none), pc, pc', hok, x, y, o, h => by
    obtain ⟨z, h1, h2⟩ := Option.bind_eq_some_iff.mp h
    cases h2
    exact am_L_le hS is hok h1
  | .leaf (is, some r), pc, pc', hok, x, y, o, h => by
    obtain ⟨z, h1, h2⟩ := Option.bind_eq_some_iff.mp h
    obtain ⟨pc1, k1, k2⟩ := hok
    rw [am_t_le h2]
    exact am_L_le hS is k1 h1
  | .branch 0 a b, pc, pc', hok, x, y, o, h => by
    obtain ⟨pc1, k1, k2⟩ := hok
    obtain ⟨⟨o1, z⟩, h1, h2⟩ := Option.bind_eq_some_iff.mp h
    split at h2
    · exact (am_ev_le hS a k1 h1).tr (am_ev_le hS b k2 h2)
    · cases h2; exact am_ev_le hS a k1 h1
  | .branch (n + 1) a _, pc, pc', hok, x, y, o, h => by
    unfold am_ev at h
    split at h
    · obtain ⟨⟨o1, z⟩, h1, h2⟩ := Option.map_eq_some_iff.mp h
      have := am_ev_le hS a hok.1 h1
      split at h2 <;> cases h2 <;> exact this
    · exact am_lp_le (fun x o y h => am_ev_le hS a hok.1 h) am_F h
theorem am_ev_ok (X : am_Fx p R s m args meth c cc nL own ini D) (hS : am_Snd l D tb d G) (hd1 : d + 1 ≤ R.frames) (hd2 : 100 * d + 100 ≤ R.locals) : ∀ (t : am_T) {pc pc' : Nat}, am_okT tb own ini nL cc ret t pc pc' → ∀ {x y : am_S} {o : Nat}, am_ev G t x = some (o, y) → am_B R h0 x.2.2 → am_B R h0 y.2.2 → am_Way p l e R s m args below meth c Q D nL h0 cc ret pc' o y → am_At p l e R s m args below meth c Q D nL h0 x pc
  | .leaf (is, none), pc, pc', hok, x, y, o, h, hB, hB', K => by
    obtain ⟨z, h1, h2⟩ := Option.bind_eq_some_iff.mp h
    cases h2
    exact am_L_ok X hS hd1 hd2 is hok h1 hB hB' (K.1 rfl)
  | .leaf (is, some r), pc, pc', hok, x, y, o, h, hB, hB', K => by
    obtain ⟨z, h1, h2⟩ := Option.bind_eq_some_iff.mp h
    obtain ⟨pc1, k1, k2⟩ := hok
    exact am_L_ok X hS hd1 hd2 is k1 h1 hB (by rw [← am_t_le h2]; exact hB') (am_t_ok X k2 h2 K)
  | .branch 0 a b, pc, pc', hok, x, y, o, h, hB, hB', K => by
    obtain ⟨pc1, k1, k2⟩ := hok
    obtain ⟨⟨o1, z⟩, h1, h2⟩ := Option.bind_eq_some_iff.mp h
    split at h2
    · rename_i ho
      have ho : o1 = 0 := ho
      subst ho
      have hBz := hB.mid hB' (am_ev_le hS a k1 h1) (am_ev_le hS b k2 h2)
      exact am_ev_ok X hS hd1 hd2 a k1 h1 hB hBz ⟨fun _ => am_ev_ok X hS hd1 hd2 b k2 h2 hBz hB' K, fun t ht => by omega, fun ht => by omega⟩
    · rename_i ho
      cases h2
      exact am_ev_ok X hS hd1 hd2 a k1 h1 hB hB' ⟨fun q => absurd q ho, K.2.1, K.2.2⟩
  | .branch (n + 1) a _, pc, pc', hok, x, y, o, h, hB, hB', K => by
    obtain ⟨k1, k2⟩ := hok
    unfold am_ev at h
    split at h
    · rename_i hn
      rw [if_pos hn] at k2
      obtain ⟨⟨o1, z⟩, h1, h2⟩ := Option.map_eq_some_iff.mp h
      split at h2
      · rename_i ho
        have ho : o1 = n / 2 + 2 := ho
        cases h2
        refine am_ev_ok X hS hd1 hd2 a k1 h1 hB hB' ⟨fun q => by omega, fun t ht => ?_, fun q => by omega⟩
        rw [show t = pc' by omega]
        exact K.1 rfl
      · cases h2
        exact am_ev_ok X hS hd1 hd2 a k1 h1 hB hB' K
    · rename_i hn
      rw [if_neg hn] at k2
      have hle : ∀ x o y, am_ev G a x = some (o, y) → am_le x.2.2 y.2.2 := fun x o y h => am_ev_le hS a k1 h
      have loop : ∀ (j : Nat) {x y : am_S} {o : Nat}, am_lp (am_ev G a) (n / 2) j x = some (o, y) → am_B R h0 x.2.2 → am_B R h0 y.2.2 → am_Way p l e R s m args below meth c Q D nL h0 cc ret pc' o y → am_At p l e R s m args below meth c Q D nL h0 x pc := by
        intro j
        induction j with
        | zero => intro x y o h; cases h
        | succ j ih =>
          intro x y o h hB hB' K
          obtain ⟨⟨o1, z⟩, h1, h2⟩ := Option.bind_eq_some_iff.mp h
          split at h2
          · rename_i ho
            have ho : o1 = n / 2 + 2 := ho
            have hBz := hB.mid hB' (hle _ _ _ h1) (am_lp_le hle j h2)
            refine am_ev_ok X hS hd1 hd2 a k1 h1 hB hBz ⟨fun q => by omega, fun t ht => ?_, fun q => by omega⟩
            rw [show t = pc by omega]
            exact ih h2 hBz hB' K
          · cases h2
            exact am_ev_ok X hS hd1 hd2 a k1 h1 hB hB' K
      exact loop am_F h hB hB' K
end TREE
