/-! The values of sums of words. -/
def smk (t : Nat → Int) : Nat → Int
  | 0 => 0
  | n + 1 => smk t n + t n
theorem adF_v {p q i j : Nat} {c : Int} {f : Nat → Int} (hf : resd f) {w : Nat} (hw : w < 496) (n : Nat) : adF p q i j c f n w = (f w + smk (fun k => if w = pl (p + i - k) (q - k + j) then ch q k * faF i c k else 0) n) % 10007 := by
  induction n with
  | zero =>
    have := hf w hw
    show f w = (f w + 0) % 10007
    omega
  | succ n ih =>
    show au _ _ _ w = (f w + (smk _ n + (if w = pl (p + i - n) (q - n + j) then ch q n * faF i c n else 0))) % 10007
    by_cases e : w = pl (p + i - n) (q - n + j)
    · rw [← e, au_s, if_pos rfl, ih]
      omega
    · rw [au_n _ _ e, if_neg e, ih, Int.add_zero]
