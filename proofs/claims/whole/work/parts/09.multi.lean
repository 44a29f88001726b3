/-! A row of rows of ints: multianewarray of two dimensions. -/
section MULTI
variable {E : CtlPost} {e : Env} {d : Bool} {acts : List Action} {s : State}
theorem mu_newA {c : ClassId} {n : Nat} {k : Class} {comp : ClassId} {ty : FieldType} {v : Value} {Qn : Addr → Pre} (hk : s.vm.classes[c]? = some k) (hkind : k.kind = .array comp ty) (hv : fits ty v = true) (hdv : v.isDefault = true)
    (hlimit : ¬ n > e.platform.arrayLengthLimit) (hheap : ¬ n * componentBytes ty > e.platform.maxHeapBytes) (h1 : s.heap.size < e.platform.maxCells) (h2 : s.slotsUsed + n ≤ e.platform.maxSlots)
    (hq : Qn s.heap.size true acts (s.pushCell { cls := c, slots := Array.replicate n v, vm := .none })) : wp (Jvm.newArray c n v) Qn E e d acts s := by
  sorry
end MULTI
