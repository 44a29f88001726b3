/-! The start. Written by wip/whole/gen_bl.py. -/
set_option maxRecDepth 20000 in
theorem fix_of {S : Nat → Nat → Option Nat} (hC : Cf S) (hM : Mf S) : FixR S := by
  obtain ⟨c0, c1, c2, c3, c4, c5, c6, c7, c8, c9, c10, c11, c12, c13, c14, c15, c16, c17, c18, c19, c20, c21, c22, c23, c24, c25, c26, c27, c28, c29, c30, c31, c32, c33, c34, c35, c36, c37, c38, c39, c40, c41, c42, c43, c44, c45, c46, c47, c48, c49⟩ := hC
  obtain ⟨m0, m1, m3, m4, m6, m7, m8, m9, m10, m11, m12, m14, m15, m25, m26, m28⟩ := hM
  unfold FixR ly_c
  refine List.forall_mem_cons.mpr ⟨c0, ?_⟩
  refine List.forall_mem_cons.mpr ⟨c1, ?_⟩
  refine List.forall_mem_cons.mpr ⟨c2, ?_⟩
  refine List.forall_mem_cons.mpr ⟨c3, ?_⟩
  refine List.forall_mem_cons.mpr ⟨c4, ?_⟩
  refine List.forall_mem_cons.mpr ⟨c5, ?_⟩
  refine List.forall_mem_cons.mpr ⟨c6, ?_⟩
  refine List.forall_mem_cons.mpr ⟨c7, ?_⟩
  refine List.forall_mem_cons.mpr ⟨c8, ?_⟩
  refine List.forall_mem_cons.mpr ⟨c9, ?_⟩
  refine List.forall_mem_cons.mpr ⟨(c10).1, ?_⟩
  refine List.forall_mem_cons.mpr ⟨(c10).2.1, ?_⟩
  refine List.forall_mem_cons.mpr ⟨((c10).2.2.1 0 (by decide)).1, ?_⟩
  refine List.forall_mem_cons.mpr ⟨((c10).2.2.1 1 (by decide)).1, ?_⟩
  refine List.forall_mem_cons.mpr ⟨((c10).2.2.1 2 (by decide)).1, ?_⟩
  refine List.forall_mem_cons.mpr ⟨((c10).2.2.1 3 (by decide)).1, ?_⟩
  refine List.forall_mem_cons.mpr ⟨((c10).2.2.1 4 (by decide)).1, ?_⟩
  refine List.forall_mem_cons.mpr ⟨((c10).2.2.1 5 (by decide)).1, ?_⟩
  refine List.forall_mem_cons.mpr ⟨(c10).2.2.2 0, ?_⟩
  refine List.forall_mem_cons.mpr ⟨(c10).2.2.2 1, ?_⟩
  refine List.forall_mem_cons.mpr ⟨((c10).2.2.1 0 (by decide)).2, ?_⟩
  refine List.forall_mem_cons.mpr ⟨((c10).2.2.1 1 (by decide)).2, ?_⟩
  refine List.forall_mem_cons.mpr ⟨((c10).2.2.1 2 (by decide)).2, ?_⟩
  refine List.forall_mem_cons.mpr ⟨((c10).2.2.1 3 (by decide)).2, ?_⟩
  refine List.forall_mem_cons.mpr ⟨((c10).2.2.1 4 (by decide)).2, ?_⟩
  refine List.forall_mem_cons.mpr ⟨((c10).2.2.1 5 (by decide)).2, ?_⟩
  refine List.forall_mem_cons.mpr ⟨c11, ?_⟩
  refine List.forall_mem_cons.mpr ⟨(c12 0 (by decide)).1, ?_⟩
  refine List.forall_mem_cons.mpr ⟨(c12 1 (by decide)).1, ?_⟩
  refine List.forall_mem_cons.mpr ⟨(c12 2 (by decide)).1, ?_⟩
  refine List.forall_mem_cons.mpr ⟨(c12 3 (by decide)).1, ?_⟩
  refine List.forall_mem_cons.mpr ⟨(c12 4 (by decide)).1, ?_⟩
  refine List.forall_mem_cons.mpr ⟨((c12 0 (by decide)).2).1, ?_⟩
  refine List.forall_mem_cons.mpr ⟨((c12 0 (by decide)).2).2.1, ?_⟩
  refine List.forall_mem_cons.mpr ⟨(((c12 0 (by decide)).2).2.2.1 0 (by decide)).1, ?_⟩
  refine List.forall_mem_cons.mpr ⟨(((c12 0 (by decide)).2).2.2.1 1 (by decide)).1, ?_⟩
  refine List.forall_mem_cons.mpr ⟨(((c12 0 (by decide)).2).2.2.1 2 (by decide)).1, ?_⟩
  refine List.forall_mem_cons.mpr ⟨(((c12 0 (by decide)).2).2.2.1 3 (by decide)).1, ?_⟩
  refine List.forall_mem_cons.mpr ⟨(((c12 0 (by decide)).2).2.2.1 4 (by decide)).1, ?_⟩
  refine List.forall_mem_cons.mpr ⟨(((c12 0 (by decide)).2).2.2.1 5 (by decide)).1, ?_⟩
  refine List.forall_mem_cons.mpr ⟨((c12 0 (by decide)).2).2.2.2 0, ?_⟩
  refine List.forall_mem_cons.mpr ⟨((c12 0 (by decide)).2).2.2.2 1, ?_⟩
  refine List.forall_mem_cons.mpr ⟨(((c12 0 (by decide)).2).2.2.1 0 (by decide)).2, ?_⟩
  refine List.forall_mem_cons.mpr ⟨(((c12 0 (by decide)).2).2.2.1 1 (by decide)).2, ?_⟩
  refine List.forall_mem_cons.mpr ⟨(((c12 0 (by decide)).2).2.2.1 2 (by decide)).2, ?_⟩
  refine List.forall_mem_cons.mpr ⟨(((c12 0 (by decide)).2).2.2.1 3 (by decide)).2, ?_⟩
  refine List.forall_mem_cons.mpr ⟨(((c12 0 (by decide)).2).2.2.1 4 (by decide)).2, ?_⟩
  refine List.forall_mem_cons.mpr ⟨(((c12 0 (by decide)).2).2.2.1 5 (by decide)).2, ?_⟩
  refine List.forall_mem_cons.mpr ⟨((c12 1 (by decide)).2).1, ?_⟩
  refine List.forall_mem_cons.mpr ⟨((c12 1 (by decide)).2).2.1, ?_⟩
  refine List.forall_mem_cons.mpr ⟨(((c12 1 (by decide)).2).2.2.1 0 (by decide)).1, ?_⟩
  refine List.forall_mem_cons.mpr ⟨(((c12 1 (by decide)).2).2.2.1 1 (by decide)).1, ?_⟩
  refine List.forall_mem_cons.mpr ⟨(((c12 1 (by decide)).2).2.2.1 2 (by decide)).1, ?_⟩
  refine List.forall_mem_cons.mpr ⟨(((c12 1 (by decide)).2).2.2.1 3 (by decide)).1, ?_⟩
  refine List.forall_mem_cons.mpr ⟨(((c12 1 (by decide)).2).2.2.1 4 (by decide)).1, ?_⟩
  refine List.forall_mem_cons.mpr ⟨(((c12 1 (by decide)).2).2.2.1 5 (by decide)).1, ?_⟩
  refine List.forall_mem_cons.mpr ⟨((c12 1 (by decide)).2).2.2.2 0, ?_⟩
  refine List.forall_mem_cons.mpr ⟨((c12 1 (by decide)).2).2.2.2 1, ?_⟩
  refine List.forall_mem_cons.mpr ⟨(((c12 1 (by decide)).2).2.2.1 0 (by decide)).2, ?_⟩
  refine List.forall_mem_cons.mpr ⟨(((c12 1 (by decide)).2).2.2.1 1 (by decide)).2, ?_⟩
  refine List.forall_mem_cons.mpr ⟨(((c12 1 (by decide)).2).2.2.1 2 (by decide)).2, ?_⟩
  refine List.forall_mem_cons.mpr ⟨(((c12 1 (by decide)).2).2.2.1 3 (by decide)).2, ?_⟩
  refine List.forall_mem_cons.mpr ⟨(((c12 1 (by decide)).2).2.2.1 4 (by decide)).2, ?_⟩
  refine List.forall_mem_cons.mpr ⟨(((c12 1 (by decide)).2).2.2.1 5 (by decide)).2, ?_⟩
  refine List.forall_mem_cons.mpr ⟨((c12 2 (by decide)).2).1, ?_⟩
  refine List.forall_mem_cons.mpr ⟨((c12 2 (by decide)).2).2.1, ?_⟩
  refine List.forall_mem_cons.mpr ⟨(((c12 2 (by decide)).2).2.2.1 0 (by decide)).1, ?_⟩
  refine List.forall_mem_cons.mpr ⟨(((c12 2 (by decide)).2).2.2.1 1 (by decide)).1, ?_⟩
  refine List.forall_mem_cons.mpr ⟨(((c12 2 (by decide)).2).2.2.1 2 (by decide)).1, ?_⟩
  refine List.forall_mem_cons.mpr ⟨(((c12 2 (by decide)).2).2.2.1 3 (by decide)).1, ?_⟩
  refine List.forall_mem_cons.mpr ⟨(((c12 2 (by decide)).2).2.2.1 4 (by decide)).1, ?_⟩
  refine List.forall_mem_cons.mpr ⟨(((c12 2 (by decide)).2).2.2.1 5 (by decide)).1, ?_⟩
  refine List.forall_mem_cons.mpr ⟨((c12 2 (by decide)).2).2.2.2 0, ?_⟩
  refine List.forall_mem_cons.mpr ⟨((c12 2 (by decide)).2).2.2.2 1, ?_⟩
  refine List.forall_mem_cons.mpr ⟨(((c12 2 (by decide)).2).2.2.1 0 (by decide)).2, ?_⟩
  refine List.forall_mem_cons.mpr ⟨(((c12 2 (by decide)).2).2.2.1 1 (by decide)).2, ?_⟩
  refine List.forall_mem_cons.mpr ⟨(((c12 2 (by decide)).2).2.2.1 2 (by decide)).2, ?_⟩
  refine List.forall_mem_cons.mpr ⟨(((c12 2 (by decide)).2).2.2.1 3 (by decide)).2, ?_⟩
  refine List.forall_mem_cons.mpr ⟨(((c12 2 (by decide)).2).2.2.1 4 (by decide)).2, ?_⟩
  refine List.forall_mem_cons.mpr ⟨(((c12 2 (by decide)).2).2.2.1 5 (by decide)).2, ?_⟩
  refine List.forall_mem_cons.mpr ⟨((c12 3 (by decide)).2).1, ?_⟩
  refine List.forall_mem_cons.mpr ⟨((c12 3 (by decide)).2).2.1, ?_⟩
  refine List.forall_mem_cons.mpr ⟨(((c12 3 (by decide)).2).2.2.1 0 (by decide)).1, ?_⟩
  refine List.forall_mem_cons.mpr ⟨(((c12 3 (by decide)).2).2.2.1 1 (by decide)).1, ?_⟩
  refine List.forall_mem_cons.mpr ⟨(((c12 3 (by decide)).2).2.2.1 2 (by decide)).1, ?_⟩
  refine List.forall_mem_cons.mpr ⟨(((c12 3 (by decide)).2).2.2.1 3 (by decide)).1, ?_⟩
  refine List.forall_mem_cons.mpr ⟨(((c12 3 (by decide)).2).2.2.1 4 (by decide)).1, ?_⟩
  refine List.forall_mem_cons.mpr ⟨(((c12 3 (by decide)).2).2.2.1 5 (by decide)).1, ?_⟩
  refine List.forall_mem_cons.mpr ⟨((c12 3 (by decide)).2).2.2.2 0, ?_⟩
  refine List.forall_mem_cons.mpr ⟨((c12 3 (by decide)).2).2.2.2 1, ?_⟩
  refine List.forall_mem_cons.mpr ⟨(((c12 3 (by decide)).2).2.2.1 0 (by decide)).2, ?_⟩
  refine List.forall_mem_cons.mpr ⟨(((c12 3 (by decide)).2).2.2.1 1 (by decide)).2, ?_⟩
  refine List.forall_mem_cons.mpr ⟨(((c12 3 (by decide)).2).2.2.1 2 (by decide)).2, ?_⟩
  refine List.forall_mem_cons.mpr ⟨(((c12 3 (by decide)).2).2.2.1 3 (by decide)).2, ?_⟩
  refine List.forall_mem_cons.mpr ⟨(((c12 3 (by decide)).2).2.2.1 4 (by decide)).2, ?_⟩
  refine List.forall_mem_cons.mpr ⟨(((c12 3 (by decide)).2).2.2.1 5 (by decide)).2, ?_⟩
  refine List.forall_mem_cons.mpr ⟨((c12 4 (by decide)).2).1, ?_⟩
  refine List.forall_mem_cons.mpr ⟨((c12 4 (by decide)).2).2.1, ?_⟩
  refine List.forall_mem_cons.mpr ⟨(((c12 4 (by decide)).2).2.2.1 0 (by decide)).1, ?_⟩
  refine List.forall_mem_cons.mpr ⟨(((c12 4 (by decide)).2).2.2.1 1 (by decide)).1, ?_⟩
  refine List.forall_mem_cons.mpr ⟨(((c12 4 (by decide)).2).2.2.1 2 (by decide)).1, ?_⟩
  refine List.forall_mem_cons.mpr ⟨(((c12 4 (by decide)).2).2.2.1 3 (by decide)).1, ?_⟩
  refine List.forall_mem_cons.mpr ⟨(((c12 4 (by decide)).2).2.2.1 4 (by decide)).1, ?_⟩
  refine List.forall_mem_cons.mpr ⟨(((c12 4 (by decide)).2).2.2.1 5 (by decide)).1, ?_⟩
  refine List.forall_mem_cons.mpr ⟨((c12 4 (by decide)).2).2.2.2 0, ?_⟩
  refine List.forall_mem_cons.mpr ⟨((c12 4 (by decide)).2).2.2.2 1, ?_⟩
  refine List.forall_mem_cons.mpr ⟨(((c12 4 (by decide)).2).2.2.1 0 (by decide)).2, ?_⟩
  refine List.forall_mem_cons.mpr ⟨(((c12 4 (by decide)).2).2.2.1 1 (by decide)).2, ?_⟩
  refine List.forall_mem_cons.mpr ⟨(((c12 4 (by decide)).2).2.2.1 2 (by decide)).2, ?_⟩
  refine List.forall_mem_cons.mpr ⟨(((c12 4 (by decide)).2).2.2.1 3 (by decide)).2, ?_⟩
  refine List.forall_mem_cons.mpr ⟨(((c12 4 (by decide)).2).2.2.1 4 (by decide)).2, ?_⟩
  refine List.forall_mem_cons.mpr ⟨(((c12 4 (by decide)).2).2.2.1 5 (by decide)).2, ?_⟩
  refine List.forall_mem_cons.mpr ⟨c13, ?_⟩
  refine List.forall_mem_cons.mpr ⟨c14, ?_⟩
  refine List.forall_mem_cons.mpr ⟨c15, ?_⟩
  refine List.forall_mem_cons.mpr ⟨c16, ?_⟩
  refine List.forall_mem_cons.mpr ⟨c18 0, ?_⟩
  refine List.forall_mem_cons.mpr ⟨c18 1, ?_⟩
  refine List.forall_mem_cons.mpr ⟨c18 2, ?_⟩
  refine List.forall_mem_cons.mpr ⟨c18 3, ?_⟩
  refine List.forall_mem_cons.mpr ⟨c18 4, ?_⟩
  refine List.forall_mem_cons.mpr ⟨c18 5, ?_⟩
  refine List.forall_mem_cons.mpr ⟨c18 6, ?_⟩
  refine List.forall_mem_cons.mpr ⟨c18 7, ?_⟩
  refine List.forall_mem_cons.mpr ⟨c18 8, ?_⟩
  refine List.forall_mem_cons.mpr ⟨c18 9, ?_⟩
  refine List.forall_mem_cons.mpr ⟨c18 10, ?_⟩
  refine List.forall_mem_cons.mpr ⟨c18 11, ?_⟩
  refine List.forall_mem_cons.mpr ⟨c18 12, ?_⟩
  refine List.forall_mem_cons.mpr ⟨c19 0, ?_⟩
  refine List.forall_mem_cons.mpr ⟨c19 1, ?_⟩
  refine List.forall_mem_cons.mpr ⟨c19 2, ?_⟩
  refine List.forall_mem_cons.mpr ⟨c19 3, ?_⟩
  refine List.forall_mem_cons.mpr ⟨c19 4, ?_⟩
  refine List.forall_mem_cons.mpr ⟨c19 5, ?_⟩
  refine List.forall_mem_cons.mpr ⟨c19 6, ?_⟩
  refine List.forall_mem_cons.mpr ⟨c19 7, ?_⟩
  refine List.forall_mem_cons.mpr ⟨c19 8, ?_⟩
  refine List.forall_mem_cons.mpr ⟨c19 9, ?_⟩
  refine List.forall_mem_cons.mpr ⟨c19 10, ?_⟩
  refine List.forall_mem_cons.mpr ⟨c19 11, ?_⟩
  refine List.forall_mem_cons.mpr ⟨c19 12, ?_⟩
  refine List.forall_mem_cons.mpr ⟨c19 13, ?_⟩
  refine List.forall_mem_cons.mpr ⟨c19 14, ?_⟩
  refine List.forall_mem_cons.mpr ⟨c19 15, ?_⟩
  refine List.forall_mem_cons.mpr ⟨c19 16, ?_⟩
  refine List.forall_mem_cons.mpr ⟨c19 17, ?_⟩
  refine List.forall_mem_cons.mpr ⟨c19 18, ?_⟩
  refine List.forall_mem_cons.mpr ⟨c19 19, ?_⟩
  refine List.forall_mem_cons.mpr ⟨c19 20, ?_⟩
  refine List.forall_mem_cons.mpr ⟨c19 21, ?_⟩
  refine List.forall_mem_cons.mpr ⟨c19 22, ?_⟩
  refine List.forall_mem_cons.mpr ⟨c19 23, ?_⟩
  refine List.forall_mem_cons.mpr ⟨c19 24, ?_⟩
  refine List.forall_mem_cons.mpr ⟨c19 25, ?_⟩
  refine List.forall_mem_cons.mpr ⟨c19 26, ?_⟩
  refine List.forall_mem_cons.mpr ⟨c19 27, ?_⟩
  refine List.forall_mem_cons.mpr ⟨c19 28, ?_⟩
  refine List.forall_mem_cons.mpr ⟨c19 29, ?_⟩
  refine List.forall_mem_cons.mpr ⟨c19 30, ?_⟩
  refine List.forall_mem_cons.mpr ⟨c17, ?_⟩
  refine List.forall_mem_cons.mpr ⟨c26, ?_⟩
  refine List.forall_mem_cons.mpr ⟨c21, ?_⟩
  refine List.forall_mem_cons.mpr ⟨c22, ?_⟩
  refine List.forall_mem_cons.mpr ⟨c23, ?_⟩
  refine List.forall_mem_cons.mpr ⟨c24, ?_⟩
  refine List.forall_mem_cons.mpr ⟨c25, ?_⟩
  refine List.forall_mem_cons.mpr ⟨c27, ?_⟩
  refine List.forall_mem_cons.mpr ⟨c28, ?_⟩
  refine List.forall_mem_cons.mpr ⟨c29, ?_⟩
  refine List.forall_mem_cons.mpr ⟨c30, ?_⟩
  refine List.forall_mem_cons.mpr ⟨c31, ?_⟩
  refine List.forall_mem_cons.mpr ⟨c32, ?_⟩
  refine List.forall_mem_cons.mpr ⟨c33, ?_⟩
  refine List.forall_mem_cons.mpr ⟨(c34 0 (by decide)).1, ?_⟩
  refine List.forall_mem_cons.mpr ⟨(c34 1 (by decide)).1, ?_⟩
  refine List.forall_mem_cons.mpr ⟨(c34 2 (by decide)).1, ?_⟩
  refine List.forall_mem_cons.mpr ⟨(c34 3 (by decide)).1, ?_⟩
  refine List.forall_mem_cons.mpr ⟨((c34 0 (by decide)).2).1, ?_⟩
  refine List.forall_mem_cons.mpr ⟨((c34 0 (by decide)).2).2.1, ?_⟩
  refine List.forall_mem_cons.mpr ⟨((c34 0 (by decide)).2).2.2.1, ?_⟩
  refine List.forall_mem_cons.mpr ⟨((c34 0 (by decide)).2).2.2.2.1, ?_⟩
  refine List.forall_mem_cons.mpr ⟨(((c34 0 (by decide)).2).2.2.2.2 0 (by decide)).1, ?_⟩
  refine List.forall_mem_cons.mpr ⟨(((c34 0 (by decide)).2).2.2.2.2 1 (by decide)).1, ?_⟩
  refine List.forall_mem_cons.mpr ⟨(((c34 0 (by decide)).2).2.2.2.2 2 (by decide)).1, ?_⟩
  refine List.forall_mem_cons.mpr ⟨(((c34 0 (by decide)).2).2.2.2.2 3 (by decide)).1, ?_⟩
  refine List.forall_mem_cons.mpr ⟨(((c34 0 (by decide)).2).2.2.2.2 0 (by decide)).2, ?_⟩
  refine List.forall_mem_cons.mpr ⟨(((c34 0 (by decide)).2).2.2.2.2 1 (by decide)).2, ?_⟩
  refine List.forall_mem_cons.mpr ⟨(((c34 0 (by decide)).2).2.2.2.2 2 (by decide)).2, ?_⟩
  refine List.forall_mem_cons.mpr ⟨(((c34 0 (by decide)).2).2.2.2.2 3 (by decide)).2, ?_⟩
  refine List.forall_mem_cons.mpr ⟨((c34 1 (by decide)).2).1, ?_⟩
  refine List.forall_mem_cons.mpr ⟨((c34 1 (by decide)).2).2.1, ?_⟩
  refine List.forall_mem_cons.mpr ⟨((c34 1 (by decide)).2).2.2.1, ?_⟩
  refine List.forall_mem_cons.mpr ⟨((c34 1 (by decide)).2).2.2.2.1, ?_⟩
  refine List.forall_mem_cons.mpr ⟨(((c34 1 (by decide)).2).2.2.2.2 0 (by decide)).1, ?_⟩
  refine List.forall_mem_cons.mpr ⟨(((c34 1 (by decide)).2).2.2.2.2 1 (by decide)).1, ?_⟩
  refine List.forall_mem_cons.mpr ⟨(((c34 1 (by decide)).2).2.2.2.2 2 (by decide)).1, ?_⟩
  refine List.forall_mem_cons.mpr ⟨(((c34 1 (by decide)).2).2.2.2.2 3 (by decide)).1, ?_⟩
  refine List.forall_mem_cons.mpr ⟨(((c34 1 (by decide)).2).2.2.2.2 0 (by decide)).2, ?_⟩
  refine List.forall_mem_cons.mpr ⟨(((c34 1 (by decide)).2).2.2.2.2 1 (by decide)).2, ?_⟩
  refine List.forall_mem_cons.mpr ⟨(((c34 1 (by decide)).2).2.2.2.2 2 (by decide)).2, ?_⟩
  refine List.forall_mem_cons.mpr ⟨(((c34 1 (by decide)).2).2.2.2.2 3 (by decide)).2, ?_⟩
  refine List.forall_mem_cons.mpr ⟨((c34 2 (by decide)).2).1, ?_⟩
  refine List.forall_mem_cons.mpr ⟨((c34 2 (by decide)).2).2.1, ?_⟩
  refine List.forall_mem_cons.mpr ⟨((c34 2 (by decide)).2).2.2.1, ?_⟩
  refine List.forall_mem_cons.mpr ⟨((c34 2 (by decide)).2).2.2.2.1, ?_⟩
  refine List.forall_mem_cons.mpr ⟨(((c34 2 (by decide)).2).2.2.2.2 0 (by decide)).1, ?_⟩
  refine List.forall_mem_cons.mpr ⟨(((c34 2 (by decide)).2).2.2.2.2 1 (by decide)).1, ?_⟩
  refine List.forall_mem_cons.mpr ⟨(((c34 2 (by decide)).2).2.2.2.2 2 (by decide)).1, ?_⟩
  refine List.forall_mem_cons.mpr ⟨(((c34 2 (by decide)).2).2.2.2.2 3 (by decide)).1, ?_⟩
  refine List.forall_mem_cons.mpr ⟨(((c34 2 (by decide)).2).2.2.2.2 0 (by decide)).2, ?_⟩
  refine List.forall_mem_cons.mpr ⟨(((c34 2 (by decide)).2).2.2.2.2 1 (by decide)).2, ?_⟩
  refine List.forall_mem_cons.mpr ⟨(((c34 2 (by decide)).2).2.2.2.2 2 (by decide)).2, ?_⟩
  refine List.forall_mem_cons.mpr ⟨(((c34 2 (by decide)).2).2.2.2.2 3 (by decide)).2, ?_⟩
  refine List.forall_mem_cons.mpr ⟨((c34 3 (by decide)).2).1, ?_⟩
  refine List.forall_mem_cons.mpr ⟨((c34 3 (by decide)).2).2.1, ?_⟩
  refine List.forall_mem_cons.mpr ⟨((c34 3 (by decide)).2).2.2.1, ?_⟩
  refine List.forall_mem_cons.mpr ⟨((c34 3 (by decide)).2).2.2.2.1, ?_⟩
  refine List.forall_mem_cons.mpr ⟨(((c34 3 (by decide)).2).2.2.2.2 0 (by decide)).1, ?_⟩
  refine List.forall_mem_cons.mpr ⟨(((c34 3 (by decide)).2).2.2.2.2 1 (by decide)).1, ?_⟩
  refine List.forall_mem_cons.mpr ⟨(((c34 3 (by decide)).2).2.2.2.2 2 (by decide)).1, ?_⟩
  refine List.forall_mem_cons.mpr ⟨(((c34 3 (by decide)).2).2.2.2.2 3 (by decide)).1, ?_⟩
  refine List.forall_mem_cons.mpr ⟨(((c34 3 (by decide)).2).2.2.2.2 0 (by decide)).2, ?_⟩
  refine List.forall_mem_cons.mpr ⟨(((c34 3 (by decide)).2).2.2.2.2 1 (by decide)).2, ?_⟩
  refine List.forall_mem_cons.mpr ⟨(((c34 3 (by decide)).2).2.2.2.2 2 (by decide)).2, ?_⟩
  refine List.forall_mem_cons.mpr ⟨(((c34 3 (by decide)).2).2.2.2.2 3 (by decide)).2, ?_⟩
  refine List.forall_mem_cons.mpr ⟨(c35 0 (by decide)).2, ?_⟩
  refine List.forall_mem_cons.mpr ⟨(c35 1 (by decide)).2, ?_⟩
  refine List.forall_mem_cons.mpr ⟨(c35 2 (by decide)).2, ?_⟩
  refine List.forall_mem_cons.mpr ⟨(c35 3 (by decide)).2, ?_⟩
  refine List.forall_mem_cons.mpr ⟨(c35 4 (by decide)).2, ?_⟩
  refine List.forall_mem_cons.mpr ⟨(c35 5 (by decide)).2, ?_⟩
  refine List.forall_mem_cons.mpr ⟨c36, ?_⟩
  refine List.forall_mem_cons.mpr ⟨c37, ?_⟩
  refine List.forall_mem_cons.mpr ⟨c38, ?_⟩
  refine List.forall_mem_cons.mpr ⟨c39, ?_⟩
  refine List.forall_mem_cons.mpr ⟨c40, ?_⟩
  refine List.forall_mem_cons.mpr ⟨c41, ?_⟩
  refine List.forall_mem_cons.mpr ⟨c42, ?_⟩
  refine List.forall_mem_cons.mpr ⟨c43, ?_⟩
  refine List.forall_mem_cons.mpr ⟨c44, ?_⟩
  refine List.forall_mem_cons.mpr ⟨(c47 0 (by decide)).1, ?_⟩
  refine List.forall_mem_cons.mpr ⟨(c47 1 (by decide)).1, ?_⟩
  refine List.forall_mem_cons.mpr ⟨(c47 2 (by decide)).1, ?_⟩
  refine List.forall_mem_cons.mpr ⟨(c47 3 (by decide)).1, ?_⟩
  refine List.forall_mem_cons.mpr ⟨(c47 4 (by decide)).1, ?_⟩
  refine List.forall_mem_cons.mpr ⟨(c47 5 (by decide)).1, ?_⟩
  refine List.forall_mem_cons.mpr ⟨(c47 6 (by decide)).1, ?_⟩
  refine List.forall_mem_cons.mpr ⟨(c47 7 (by decide)).1, ?_⟩
  refine List.forall_mem_cons.mpr ⟨(c47 8 (by decide)).1, ?_⟩
  refine List.forall_mem_cons.mpr ⟨(c47 0 (by decide)).2.2.1, ?_⟩
  refine List.forall_mem_cons.mpr ⟨(c47 1 (by decide)).2.2.1, ?_⟩
  refine List.forall_mem_cons.mpr ⟨(c47 2 (by decide)).2.2.1, ?_⟩
  refine List.forall_mem_cons.mpr ⟨(c47 3 (by decide)).2.2.1, ?_⟩
  refine List.forall_mem_cons.mpr ⟨(c47 4 (by decide)).2.2.1, ?_⟩
  refine List.forall_mem_cons.mpr ⟨(c47 5 (by decide)).2.2.1, ?_⟩
  refine List.forall_mem_cons.mpr ⟨(c47 6 (by decide)).2.2.1, ?_⟩
  refine List.forall_mem_cons.mpr ⟨(c47 7 (by decide)).2.2.1, ?_⟩
  refine List.forall_mem_cons.mpr ⟨(c47 8 (by decide)).2.2.1, ?_⟩
  refine List.forall_mem_cons.mpr ⟨c45, ?_⟩
  refine List.forall_mem_cons.mpr ⟨c46, ?_⟩
  refine List.forall_mem_cons.mpr ⟨(c47 0 (by decide)).2.1, ?_⟩
  refine List.forall_mem_cons.mpr ⟨(c47 0 (by decide)).2.2.2, ?_⟩
  refine List.forall_mem_cons.mpr ⟨(c47 1 (by decide)).2.1, ?_⟩
  refine List.forall_mem_cons.mpr ⟨(c47 1 (by decide)).2.2.2, ?_⟩
  refine List.forall_mem_cons.mpr ⟨(c47 2 (by decide)).2.1, ?_⟩
  refine List.forall_mem_cons.mpr ⟨(c47 2 (by decide)).2.2.2, ?_⟩
  refine List.forall_mem_cons.mpr ⟨(c47 3 (by decide)).2.1, ?_⟩
  refine List.forall_mem_cons.mpr ⟨(c47 3 (by decide)).2.2.2, ?_⟩
  refine List.forall_mem_cons.mpr ⟨(c47 4 (by decide)).2.1, ?_⟩
  refine List.forall_mem_cons.mpr ⟨(c47 4 (by decide)).2.2.2, ?_⟩
  refine List.forall_mem_cons.mpr ⟨(c47 5 (by decide)).2.1, ?_⟩
  refine List.forall_mem_cons.mpr ⟨(c47 5 (by decide)).2.2.2, ?_⟩
  refine List.forall_mem_cons.mpr ⟨(c47 6 (by decide)).2.1, ?_⟩
  refine List.forall_mem_cons.mpr ⟨(c47 6 (by decide)).2.2.2, ?_⟩
  refine List.forall_mem_cons.mpr ⟨(c47 7 (by decide)).2.1, ?_⟩
  refine List.forall_mem_cons.mpr ⟨(c47 7 (by decide)).2.2.2, ?_⟩
  refine List.forall_mem_cons.mpr ⟨(c47 8 (by decide)).2.1, ?_⟩
  refine List.forall_mem_cons.mpr ⟨(c47 8 (by decide)).2.2.2, ?_⟩
  refine List.forall_mem_cons.mpr ⟨c48, ?_⟩
  refine List.forall_mem_cons.mpr ⟨c49, ?_⟩
  refine List.forall_mem_cons.mpr ⟨m0, ?_⟩
  refine List.forall_mem_cons.mpr ⟨m1, ?_⟩
  refine List.forall_mem_cons.mpr ⟨m3, ?_⟩
  refine List.forall_mem_cons.mpr ⟨m4, ?_⟩
  refine List.forall_mem_cons.mpr ⟨m6, ?_⟩
  refine List.forall_mem_cons.mpr ⟨m7, ?_⟩
  refine List.forall_mem_cons.mpr ⟨m8, ?_⟩
  refine List.forall_mem_cons.mpr ⟨m9, ?_⟩
  refine List.forall_mem_cons.mpr ⟨m10, ?_⟩
  refine List.forall_mem_cons.mpr ⟨m11, ?_⟩
  refine List.forall_mem_cons.mpr ⟨m12, ?_⟩
  refine List.forall_mem_cons.mpr ⟨m14, ?_⟩
  refine List.forall_mem_cons.mpr ⟨m15, ?_⟩
  refine List.forall_mem_cons.mpr ⟨m25, ?_⟩
  refine List.forall_mem_cons.mpr ⟨m26, ?_⟩
  refine List.forall_mem_cons.mpr ⟨m28, ?_⟩
  exact fun e he => absurd he List.not_mem_nil
theorem Cf_P {S : Nat → Nat → Option Nat} (hC : Cf S) : (∃ ρ, Prm S ρ) ∧ ∃ ρ, Pr6 S ρ := by
  obtain ⟨c0, c1, c2, c3, c4, c5, c6, c7, c8, c9, c10, c11, c12, c13, c14, c15, c16, c17, c18, c19, c20, c21, c22, c23, c24, c25, c26, c27, c28, c29, c30, c31, c32, c33, c34, c35, c36, c37, c38, c39, c40, c41, c42, c43, c44, c45, c46, c47, c48, c49⟩ := hC
  refine ⟨⟨fun k => 237 + k, fun k hk => ⟨c20 k, Nat.le_add_right _ _, by show 237 + k ≤ 252; omega⟩, fun k l _ _ e => Nat.add_left_cancel e⟩, ⟨fun k => k, fun k hk => ⟨(c35 k hk).1, hk⟩, fun k l _ _ e => e⟩⟩
def Ix (xs : Nat → Int) : Nat → Nat → Int := fun k j => if k = 0 then xs j else if k = 1 then ((am_xat j : Nat) : Int) else if k = 2 then ((am_dat j : Nat) : Int) else 0
def Rx : Nat → Nat → Option Nat := fun k i => if tg k = 22 then some (k + 1 + i) else none
theorem h0_GH (L : Nat) (xs : Nat → Int) : am_h0 L xs = GH 3 L (Ix xs) Rx 0 := by
  show ((3 : Nat), _) = ((3 : Nat), _)
  congr 1
  funext k
  rcases (show k = 0 ∨ k = 1 ∨ k = 2 ∨ 3 ≤ k by omega) with rfl | rfl | rfl | h
  · rfl
  · rfl
  · rfl
  · show (if k = 0 then _ else if k = 1 then _ else if k = 2 then _ else ((99 : Nat), (0 : Nat), fun _ => vU)) = (if k < 3 then _ else ((99 : Nat), (0 : Nat), fun _ => vU))
    rw [if_neg (by omega), if_neg (by omega), if_neg (by omega), if_neg (by omega)]
theorem Fsh_0 (xs : Nat → Int) : Fsh 3 (Ix xs) Rx := fun k hk => ⟨fun i => by
  show (if k = 0 then xs i else if k = 1 then ((am_xat i : Nat) : Int) else if k = 2 then ((am_dat i : Nat) : Int) else 0) = 0
  rw [if_neg (by omega), if_neg (by omega), if_neg (by omega)], fun i => rfl⟩
theorem getD_n (l : List Nat) (d : Nat) : ∀ n, l.length ≤ n → l.getD n d = d := by
  induction l with
  | nil => exact fun n _ => rfl
  | cons a l ih =>
    intro n h
    cases n with
    | zero => exact absurd h (Nat.not_succ_le_zero _)
    | succ n => exact ih n (Nat.le_of_succ_le_succ h)
theorem GH_LH (L : Nat) (I : Nat → Nat → Int) (R : Nat → Nat → Option Nat) (u : Int64) : GH 318 L I R u = LH L I R u := by
  show ((318 : Nat), _) = ((318 : Nat), _)
  congr 1
  funext k
  show (if k < 318 then (tg k, ln L k, vv I R u k) else ((99 : Nat), (0 : Nat), fun _ => vU)) = (tg k, ln L k, vv I R u k)
  by_cases c : k < 318
  · rw [if_pos c]
  · rw [if_neg c]
    have e1 : tg k = 99 := by
      unfold tg
      exact getD_n _ _ _ (by rw [show ly_t.length = 318 by decide +kernel]; omega)
    have e2 : ln L k = 0 := by
      rw [ln_k (by omega)]
      exact getD_n _ _ _ (by rw [show ly_n.length = 318 by decide +kernel]; omega)
    rw [e1, e2]
    congr 2
    funext i
    unfold vv
    rw [e1]
    rfl
