/-! A table of methods: what its run computes, the machine's methods do. -/
theorem lget_nil (n : Nat) : ∀ i, lget (List.replicate n vU) i = vU := by
  induction n with
  | zero => intro i; rfl
  | succ n ih =>
    intro i
    cases i with
    | zero => rfl
    | succ i => exact ih i
theorem lget_app (A : List am_V) (n : Nat) : ∀ i, lget (A ++ List.replicate n vU) i = lget A i := by
  induction A with
  | nil => intro i; exact lget_nil n i
  | cons a r ih =>
    intro i
    cases i with
    | zero => rfl
    | succ i => exact ih i
theorem am_lay_sl (z : am_Z) : ∀ as : List am_V, (lg_sl (as.map (am_rv z))).length = (am_lay as).length ∧ ∀ i, lget (am_lay as) i ≠ vU → (lg_sl (as.map (am_rv z)))[i]? = some (.val (am_rv z (lget (am_lay as) i)))
  | [] => ⟨rfl, fun i h => absurd rfl h⟩
  | v :: r => by
    obtain ⟨h1, h2⟩ := am_lay_sl z r
    have one : ∀ w : Value, w.category = 1 → w = am_rv z v → am_lay (v :: r) = v :: am_lay r → (lg_sl ((v :: r).map (am_rv z))).length = (am_lay (v :: r)).length ∧ ∀ i, lget (am_lay (v :: r)) i ≠ vU → (lg_sl ((v :: r).map (am_rv z)))[i]? = some (.val (am_rv z (lget (am_lay (v :: r)) i))) := by
      intro w hw e1 e2
      have e3 : lg_sl ((v :: r).map (am_rv z)) = .val (am_rv z v) :: lg_sl (r.map (am_rv z)) := by
        have hc : ¬ (am_rv z v).category = 2 := by rw [← e1, hw]; decide
        simp only [List.map_cons, lg_sl, List.flatMap_cons, if_neg hc]
        rfl
      rw [e2, e3]
      refine ⟨by simp [h1], fun i hi => ?_⟩
      cases i with
      | zero => rfl
      | succ i => exact h2 i hi
    rcases v with x | (_ | x) | x | x
    · exact one (.int (Int32.ofInt x)) rfl rfl rfl
    · exact one .null rfl rfl rfl
    · exact one (.ref (am_rho z x)) rfl rfl rfl
    · refine ⟨?_, fun i hi => ?_⟩
      · show (lg_sl (r.map (am_rv z))).length + 1 + 1 = (am_lay r).length + 1 + 1
        rw [h1]
      · rcases i with _ | _ | i
        · rfl
        · exact absurd rfl hi
        · exact h2 i hi
    · exact one .null rfl rfl rfl
theorem am_in_ls (z : am_Z) (as : List am_V) (n : Nat) (h : (am_lay as).length ≤ n) : am_ls z n (am_in as n) ((lg_sl (as.map (am_rv z)) ++ List.replicate (n - (lg_sl (as.map (am_rv z))).length) Slot.unset).toArray) := by
  obtain ⟨h1, h2⟩ := am_lay_sl z as
  have h3 := lv_entry (as.map (am_rv z)) (n := n) (by rw [h1]; exact h)
  refine ⟨?_, ⟨h3.1, h3.2.1, fun q hq => absurd hq List.not_mem_nil⟩, fun i hi => ?_⟩
  · unfold am_in
    rw [List.length_append, List.length_replicate]
    omega
  · unfold am_in at hi ⊢
    rw [lget_app] at hi ⊢
    have h4 := h2 i hi
    rw [List.getElem?_toArray, List.getElem?_append_left (List.getElem?_eq_some_iff.mp h4).1]
    exact h4
theorem am_t_ret {i : Instr} {ts : List Nat} {x y : am_S} (h : am_t i ts x = some (1, y)) : y.2.1.length ≤ 1 := by
  unfold am_t at h
  split at h
  · cases h
  · split at h
    · split at h
      · split at h <;> cases h
      · cases h
    · cases h
  · split at h
    · split at h
      · split at h <;> cases h
      · cases h
    · cases h
  · split at h
    · split at h <;> cases h
    · cases h
  · split at h
    · split at h <;> cases h; exact Nat.le_refl 1
    · cases h
  · split at h <;> cases h; exact Nat.le_refl 1
  · split at h <;> cases h; exact Nat.le_refl 1
  · split at h <;> cases h; exact Nat.zero_le 1
  · cases h
theorem am_lp_ret {f : am_S → Option (Nat × am_S)} {L : Nat} (hf : ∀ x y, f x = some (1, y) → y.2.1.length ≤ 1) : ∀ (n : Nat) {x y : am_S}, am_lp f L n x = some (1, y) → y.2.1.length ≤ 1
  | 0, _, _, h => by cases h
  | n + 1, x, y, h => by
    obtain ⟨⟨o1, z⟩, h1, h2⟩ := Option.bind_eq_some_iff.mp h
    split at h2
    · exact am_lp_ret hf n h2
    · cases h2; exact hf _ _ h1
theorem am_ev_ret {G : am_G} : ∀ (t : am_T) {x y : am_S}, am_ev G t x = some (1, y) → y.2.1.length ≤ 1
  | .leaf (is, none), x, y, h => by
    obtain ⟨z, h1, h2⟩ := Option.bind_eq_some_iff.mp h
    cases h2
  | .leaf (is, some r), x, y, h => by
    obtain ⟨z, h1, h2⟩ := Option.bind_eq_some_iff.mp h
    exact am_t_ret h2
  | .branch 0 a b, x, y, h => by
    obtain ⟨⟨o1, z⟩, h1, h2⟩ := Option.bind_eq_some_iff.mp h
    split at h2
    · exact am_ev_ret b h2
    · cases h2; exact am_ev_ret a h1
  | .branch (n + 1) a _, x, y, h => by
    unfold am_ev at h
    split at h
    · obtain ⟨⟨o1, z⟩, h1, h2⟩ := Option.map_eq_some_iff.mp h
      split at h2 <;> cases h2
      exact am_ev_ret a h1
    · exact am_lp_ret (fun x y h => am_ev_ret a h) am_F h
def am_okM (tb : Nat → Option am_M) (q : am_M) : Prop := plainFor q.2.1 = true ∧ ∃ pc', am_okT tb q.2.1.cls (q.2.1.name == "<init>") q.2.2.2.1 q.2.2.1 q.2.2.2.2.1 q.2.2.2.2.2 0 pc'
theorem am_run_eq {tb : Nat → Option am_M} {d k : Nat} {q : am_M} {as : List am_V} {h : am_H} {v : List am_V} {h' : am_H} (hq : tb k = some q) (hg : am_run tb (d + 1) k as h = some (v, h')) : (am_lay as).length ≤ q.2.2.2.1 ∧ ∃ ls', am_ev (am_run tb d) q.2.2.2.2.2 (am_in as q.2.2.2.1, [], h) = some (1, ls', v, h') := by
  have hg : (tb k).bind (fun q => if (am_lay as).length ≤ q.2.2.2.1 then (am_ev (am_run tb d) q.2.2.2.2.2 (am_in as q.2.2.2.1, [], h)).bind fun r => if r.1 = 1 then some (r.2.2.1, r.2.2.2) else none else none) = some (v, h') := hg
  rw [hq, Option.bind_some] at hg
  split at hg
  · rename_i hl
    obtain ⟨⟨o, ls', st', h2⟩, e1, e2⟩ := Option.bind_eq_some_iff.mp hg
    split at e2
    · rename_i ho
      have ho : o = 1 := ho
      subst ho
      cases e2
      exact ⟨hl, ls', e1⟩
    · cases e2
  · cases hg
theorem Met.ofWF {l : Launch} {y : MethodName} {ws ws' : List Cond} {rm : Room} {Pc : Array Value → State → Prop} {Qc : Array Value → State → Outcome → State → Prop} {mc ms : Nat} {free : Addr → Prop} {cc : ByteArray} {maxL : Nat} {ret : Option FieldType}
    (hy : plainFor y = true) (hw : ws = Cond.code y cc maxL ret :: ws')
    (body : ∀ p e s m args below meth c s₁, BodyLoose p l y (headSpec ws rm) cc maxL ret e s m args below meth c s₁ → c.maxLocals = maxL → Pc args s →
      W p l e (headSpec ws rm).room s m args below meth c s.heap [] 0 0 (MQ below Qc args s mc ms free) (entryFrame m args maxL)) : Met l y ws rm Pc Qc mc ms free := by
  refine MetFree.of_bodySF (code := cc) (maxLocals := maxL) (ret := ret) hy ?_ ?_
  · intro args s m h hn
    obtain ⟨meth, c, h1, h2, h3, h4, h5, h6, -, -⟩ := Cond.code_spec hn (atoms_spec (ws := ws) h _ (by rw [hw]; exact List.mem_cons_self))
    exact ⟨meth, c, h1, h2, h3, h4, h5, h6⟩
  · intro p e s m args below meth c s₁ B hml hP _
    have hh0 : s₁.heap = s.heap := by rw [B.state]; rfl
    obtain ⟨t, a1, o, b1, b2, b3⟩ := body p e s m args below meth c s₁ B hml hP s₁ hh0 (Stand.of_body B)
    exact ⟨t, o, a1, b1, b2, ⟨b3.1, b3.2⟩⟩
theorem am_run_ok (l : Launch) (D : am_D) (tb : Nat → Option am_M) (htb : ∀ k q, tb k = some q → am_okM tb q) : ∀ d, am_Snd l D tb d (am_run tb d) := by
  intro d
  induction d with
  | zero => intro k q as h v h' _ hg; cases hg
  | succ d ih =>
    intro k q as h v h' hq hg
    obtain ⟨hlen, ls', hev⟩ := am_run_eq hq hg
    obtain ⟨hpl, pcE, hok⟩ := htb k q hq
    have hle : am_le h h' := am_ev_le ih _ hok hev
    refine ⟨hle, am_ev_ret _ hev, ?_⟩
    refine Met.ofWF (cc := q.2.2.1) (maxL := q.2.2.2.1) (ret := q.2.2.2.2.1) hpl rfl ?_
    intro p e s m args below meth c s₁ B hml hv
    obtain ⟨rfl, hR, hK⟩ := hv
    have hlocks : meth.locks = false := B.notSynchronized
    have hts := atoms_spec (ws := Cond.code q.2.1 q.2.2.1 q.2.2.2.1 q.2.2.2.2.1 :: lw_good) B.pre
    have X : am_Fx p (am_rm (d + 1) (h'.1 - h.1) (am_sl h' - am_sl h)) s m (as.map (am_rv D.1)).toArray meth c q.2.2.1 q.2.2.2.1 q.2.1.cls (q.2.1.name == "<init>") D :=
      ⟨B.exec, B.bytes, hml, findClass_of_methodNamed B.named, fun w hw => hts w (List.mem_cons_of_mem _ hw), hK, by show 1 ≤ d + 1; omega, by show 100 ≤ 100 * (d + 1); omega, fun hi => by rw [(name_of_methodNamed B.named B.method).1]; exact eq_of_beq hi⟩
    have hB : am_B (am_rm (d + 1) (h'.1 - h.1) (am_sl h' - am_sl h)) h h := ⟨Nat.le_refl _, Nat.le_refl _, by show h.1 - h.1 ≤ h'.1 - h.1; omega, by show am_sl h - am_sl h ≤ am_sl h' - am_sl h; omega⟩
    have hB' : am_B (am_rm (d + 1) (h'.1 - h.1) (am_sl h' - am_sl h)) h h' := ⟨hle.1, hle.2, Nat.le_refl _, Nat.le_refl _⟩
    have hret := B.returns
    have main : am_At p l e (am_rm (d + 1) (h'.1 - h.1) (am_sl h' - am_sl h)) s m (as.map (am_rv D.1)).toArray below meth c (MQ below (am_Qc D v h') (as.map (am_rv D.1)).toArray s (h'.1 - h.1) (am_sl h' - am_sl h) (fun a => D.1.2.2.2 ≤ a)) D q.2.2.2.1 h (am_in as q.2.2.2.1, [], h) 0 := by
      refine am_ev_ok X ih (by show d + 1 ≤ d + 1; omega) (by show 100 * d + 100 ≤ 100 * (d + 1); omega) _ hok hev hB hB' ⟨fun q => by omega, fun t ht => by omega, fun _ i ts pcx pcy hokt ht => ?_⟩
      intro LS H locs hl hR hf
      have post : ∀ t : State, t.heap = H → s.WarmedH t.vm → am_Qc D v h' (as.map (am_rv D.1)).toArray s (.returned (v.map (am_rv D.1)).head?) t := fun t ht hW => ⟨rfl, am_ev_ret _ hev, by rw [ht]; exact am_R.moved hW.alike hR⟩
      show W p l e _ s m _ below meth c H locs (h'.1 - h.1) (am_sl h' - am_sl h) _ (F0 m pcx LS (v.map (am_rv D.1)))
      unfold am_t at ht
      split at ht
      · exact absurd (congrArg Prod.fst (Option.some.inj ht)) (by show ¬ _ + 2 = 1; omega)
      · split at ht
        · split at ht
          · have := congrArg Prod.fst (Option.some.inj ht); split at this <;> cases this
          · cases ht
        · cases ht
      · split at ht
        · split at ht
          · have := congrArg Prod.fst (Option.some.inj ht); split at this <;> cases this
          · cases ht
        · cases ht
      · split at ht
        · split at ht
          · exact absurd (congrArg Prod.fst (Option.some.inj ht)) (by show ¬ _ + 2 = 1; omega)
          · cases ht
        · cases ht
      · obtain ⟨o1, -, o2⟩ := hokt
        split at ht
        · rename_i ls1 a h1 he
          cases he
          split at ht
          · rename_i hz
            rcases o2 with ⟨-, o2⟩ | ⟨o3, o2⟩
            · exact W.iret (v := Int32.ofInt a) X.1 X.2.1 (hret.trans o2) post hf o1
            · have hz : a = 0 ∨ a = 1 := by rcases hz with hz | hz | hz <;> omega
              refine W.zret (v := Int32.ofInt a) (ty := .boolean) X.1 X.2.1 (hret.trans o2) ?_ post hf o1
              rcases hz with rfl | rfl <;> rfl
          · cases ht
        · cases ht
      · obtain ⟨o1, -, o2⟩ := hokt
        split at ht
        · rename_i ls1 a h1 he
          cases he
          exact W.lret (v := a) X.1 X.2.1 (hret.trans o2) post hf o1
        · cases ht
      · obtain ⟨o1, -, n, o2⟩ := hokt
        split at ht
        · rename_i ls1 a h1 he
          cases he
          exact W.aret (v := .ref (am_rho D.1 a)) X.1 X.2.1 (hret.trans o2) (Or.inl ⟨n, rfl⟩) (Or.inr ⟨_, rfl⟩) post hf o1
        · cases ht
      · obtain ⟨o1, -, o2⟩ := hokt
        split at ht
        · rename_i ls1 h1 he
          cases he
          exact W.vret X.1 X.2.1 (hret.trans o2) post hf o1
        · cases ht
      · cases ht
    have fin := main _ s.heap [] (am_in_ls D.1 as q.2.2.2.1 hlen) hR (fun q hq => absurd hq List.not_mem_nil)
    rw [show (am_in as q.2.2.2.1, ([] : List am_V), h).2.2 = h from rfl, Nat.sub_self, Nat.sub_self] at fin
    rw [lg_entry_eq]
    exact fin
