/-! A word times a word at a word; a word times a row. -/
theorem smk_m {t s : Nat → Int} {c : Int} {n : Nat} (h : ∀ k, k < n → t k % 10007 = c * s k % 10007) : smk t n % 10007 = c * smk s n % 10007 := by
  induction n with
  | zero => show (0 : Int) % 10007 = c * 0 % 10007; rw [Int.mul_zero]
  | succ n ih =>
    have i := ih (fun k hk => h k (by omega))
    have e := h n (by omega)
    show (smk t n + t n) % 10007 = c * (smk s n + s n) % 10007
    rw [Int.mul_add]
    omega
/-- how often a word comes in the product of two words -/
def co (p q i j w : Nat) : Int := smk (fun k => if w = pl (p + i - k) (q - k + j) then ch q k * fal i k else 0) (min i q + 1)
theorem adF_co {p q i j : Nat} {c : Int} {f : Nat → Int} (hf : resd f) (hc : 0 ≤ c ∧ c < 10007) {w : Nat} (hw : w < 496) : adF p q i j c f (min i q + 1) w = (f w + c * co p q i j w) % 10007 := by
  rw [adF_v hf hw]
  have := smk_m (t := fun k => if w = pl (p + i - k) (q - k + j) then ch q k * faF i c k else 0) (s := fun k => if w = pl (p + i - k) (q - k + j) then ch q k * fal i k else 0) (c := c) (n := min i q + 1) (fun k _ => by
    show (if w = pl (p + i - k) (q - k + j) then ch q k * faF i c k else 0) % 10007 = c * (if w = pl (p + i - k) (q - k + j) then ch q k * fal i k else 0) % 10007
    split
    · rw [faF_fal hc, em2, ← Int.mul_assoc, ← Int.mul_assoc, Int.mul_comm (ch q k) c]
    · rw [Int.mul_zero])
  unfold co
  omega
/-- a word times the first n words of a row, at a word -/
def cor (p q : Nat) (g : Nat → Int) (n w : Nat) : Int := smk (fun k => g k * co p q (xw k) (dw k) w) n
theorem abF_v {p q : Nat} {c : Int} {g f : Nat → Int} (hf : resd f) (hc : 0 ≤ c ∧ c < 10007) (hg : ∀ k, 0 ≤ g k ∧ g k < 10007) {w : Nat} (hw : w < 496) (n : Nat) : abF p q c g f n w = (f w + c * cor p q g n w) % 10007 := by
  induction n with
  | zero =>
    have := hf w hw
    show f w = (f w + c * 0) % 10007
    rw [Int.mul_zero]
    omega
  | succ n ih =>
    show (if g n = 0 then abF p q c g f n else adF p q (xw n) (dw n) (c * g n % 10007) (abF p q c g f n) (min (xw n) q + 1)) w = (f w + c * (cor p q g n w + g n * co p q (xw n) (dw n) w)) % 10007
    by_cases e : g n = 0
    · rw [if_pos e, e, Int.zero_mul, Int.add_zero, ih]
    · rw [if_neg e, adF_co (abF_b hf n) (by omega) hw, ih, Int.mul_add, ← Int.mul_assoc c]
      have := em1 (c * g n) (co p q (xw n) (dw n) w)
      omega
