/-! Constructors: the class. Written by wip/whole/gen_bj.py. -/
theorem Rf7_c {R S : Nat → Nat → Option Nat} {t : Nat} (h : Rf7 R t) (e : ∀ k, 254 ≤ k → k < 297 → S k = R k) (ht : t < 9) : Rf7 S t := by
  obtain ⟨h1, h2, h3, h4⟩ := h
  exact ⟨by rw [e 255 (by omega) (by omega)]; exact h1, by rw [e (261 + 4 * t) (by omega) (by omega)]; exact h2, by rw [e 256 (by omega) (by omega)]; exact h3, by rw [e (261 + 4 * t + 2) (by omega) (by omega)]; exact h4⟩
/-- the references of the class -/
def Cf (S : Nat → Nat → Option Nat) : Prop := S 3 0 = some 4 ∧ S 3 1 = some 21 ∧ S 3 2 = some 108 ∧ S 3 3 = some 110 ∧ S 3 4 = some 159 ∧ S 3 5 = some 165 ∧ S 3 6 = some 235 ∧ S 3 7 = some 254 ∧ S 3 8 = some 297 ∧ S 3 9 = some 299 ∧ Sf8 S 4 ∧ S 21 0 = some 22 ∧ (∀ k, k < 5 → S 22 k = some (23 + 17 * k) ∧ Sf8 S (23 + 17 * k)) ∧ S 108 0 = some 109 ∧ S 110 0 = some 111 ∧ S 110 1 = some 125 ∧ S 110 2 = some 157 ∧ S 157 0 = some 158 ∧ (∀ i, S 111 i = some (112 + i)) ∧ (∀ i, S 125 i = some (126 + i)) ∧ (∀ i, S 236 i = some (237 + i)) ∧ S 159 1 = some 160 ∧ S 159 2 = some 161 ∧ S 159 3 = some 162 ∧ S 159 4 = some 163 ∧ S 159 5 = some 164 ∧ S 159 0 = some 110 ∧ S 165 0 = some 110 ∧ S 165 1 = some 159 ∧ S 165 2 = some 166 ∧ S 165 4 = some 167 ∧ S 165 5 = some 168 ∧ S 165 6 = some 169 ∧ S 165 7 = some 170 ∧ (∀ k, k < 4 → S 166 k = some (171 + 13 * k) ∧ Bf2 S (171 + 13 * k)) ∧ (∀ s, s < 6 → S 167 s = some (223 + 2 * s) ∧ S (223 + 2 * s) 0 = some (223 + 2 * s + 1)) ∧ S 235 0 = some 125 ∧ S 235 1 = some 236 ∧ S 235 2 = some 253 ∧ S 254 0 = some 110 ∧ S 254 1 = some 108 ∧ S 254 2 = some 255 ∧ S 254 3 = some 256 ∧ S 254 4 = some 257 ∧ S 254 5 = some 259 ∧ S 257 0 = some 258 ∧ S 259 0 = some 260 ∧ (∀ t, t < 9 → Rf7 S t) ∧ S 297 0 = some 298 ∧ S 299 0 = some 300
set_option maxRecDepth 10000 in
theorem c_W {d L : Nat} {I : Nat → Nat → Int} {R : Nat → Nat → Option Nat} (hf : Fsh 4 I R) (hI : ∀ i, I 3 i = 0) : ∃ K S, am_run am_tb (d + 4) 92 [vR 3] (GH 4 L I R 0) = some ([], GH 301 L K S 0) ∧ Cf S ∧ (∀ k, ¬ (3 ≤ k ∧ k < 301) → S k = R k) ∧ (∀ n, n < 13 → ∀ k, k ≤ 12 → K (112 + n) k = ch n k) ∧ (∀ n, n < 31 → ∀ k, k ≤ n → k ≤ 12 → K (126 + n) k = fal n k) ∧ (∀ k, k < 4 → K (171 + 13 * k) = au (I (171 + 13 * k)) 4 (-1)) ∧ ∀ a, ¬ (112 ≤ a ∧ a < 157) → (∀ k, k < 4 → a ≠ 171 + 13 * k) → K a = I a := by
  obtain ⟨S0, r0, h0, F0⟩ := c_state (d := d + 1) (L := L) (I := I) (R := R) ls_all.1 (fsh_m hf (by omega)) (fr_i hf (by omega))
  have fS0 : Fsh 21 I S0 := fsh_c hf (by omega) (fun _ _ => rfl) (fun k hk => F0 k (by omega))
  obtain ⟨P0, p0⟩ : ∃ Q, Q = au S0 3 (au (S0 3) 0 (some 4)) := ⟨_, rfl⟩
  have fP0 : Fsh 21 I P0 := by rw [p0]; exact fsh_p fS0 (by omega)
  obtain ⟨S1, r1, h1, g1, F1⟩ := c_hist (d := d) (L := L) (I := I) (R := P0) (fsh_m fP0 (by omega)) (fr_i fP0 (by omega))
  have fS1 : Fsh 108 I S1 := fsh_c fP0 (by omega) (fun _ _ => rfl) (fun k hk => F1 k (by omega))
  obtain ⟨P1, p1⟩ : ∃ Q, Q = au S1 3 (au (S1 3) 1 (some 21)) := ⟨_, rfl⟩
  have fP1 : Fsh 108 I P1 := by rw [p1]; exact fsh_p fS1 (by omega)
  obtain ⟨S2, r2, h2, F2⟩ := c_text (d := d + 2) (L := L) (I := I) (R := P1) (fsh_m fP1 (by omega)) (fr_i fP1 (by omega))
  have fS2 : Fsh 110 I S2 := fsh_c fP1 (by omega) (fun _ _ => rfl) (fun k hk => F2 k (by omega))
  obtain ⟨P2, p2⟩ : ∃ Q, Q = au S2 3 (au (S2 3) 2 (some 108)) := ⟨_, rfl⟩
  have fP2 : Fsh 110 I P2 := by rw [p2]; exact fsh_p fS2 (by omega)
  obtain ⟨J, S3, r3, h3, F3, t1, t2, t3⟩ := c_alg (d := d + 1) (L := L) (I := I) (R := P2) (fsh_m fP2 (by omega))
  have fS3 : Fsh 159 J S3 := fsh_c fP2 (by omega) (fun k hk => t3 k (by omega)) (fun k hk => F3 k (by omega) (by omega))
  obtain ⟨P3, p3⟩ : ∃ Q, Q = au S3 3 (au (S3 3) 3 (some 110)) := ⟨_, rfl⟩
  have fP3 : Fsh 159 J P3 := by rw [p3]; exact fsh_p fS3 (by omega)
  obtain ⟨S4, r4, h4, F4⟩ := c_div (d := d + 2) (L := L) (I := J) (R := P3) (fsh_m fP3 (by omega)) (fr_i fP3 (by omega))
  have fS4 : Fsh 165 J S4 := fsh_c fP3 (by omega) (fun _ _ => rfl) (fun k hk => F4 k (by omega))
  obtain ⟨P4, p4⟩ : ∃ Q, Q = au S4 3 (au (S4 3) 4 (some 159)) := ⟨_, rfl⟩
  have fP4 : Fsh 165 J P4 := by rw [p4]; exact fsh_p fS4 (by omega)
  obtain ⟨S5, r5, h5, g5, k5, F5⟩ := c_com (d := d) (L := L) (I := J) (R := P4) (fsh_m fP4 (by omega)) (fr_i fP4 (by omega))
  obtain ⟨K, eK⟩ : ∃ Q, Q = bI J 4 := ⟨_, rfl⟩
  rw [← eK] at r5
  have fS5 : Fsh 235 K S5 := fsh_c fP4 (by omega) (fun k hk => by rw [eK]; exact bI_o (fun q hq => by omega)) (fun k hk => F5 k (by omega))
  obtain ⟨P5, p5⟩ : ∃ Q, Q = au S5 3 (au (S5 3) 5 (some 165)) := ⟨_, rfl⟩
  have fP5 : Fsh 235 K P5 := by rw [p5]; exact fsh_p fS5 (by omega)
  obtain ⟨S6, r6, h6, F6⟩ := c_act (d := d + 2) (L := L) (I := K) (R := P5) (fsh_m fP5 (by omega)) (by rw [p5, au_n _ _ (by omega), F5 110 (by omega), p4, au_n _ _ (by omega), F4 110 (by omega), p3, au_n _ _ (by omega)]; exact h3.2.1)
  have fS6 : Fsh 254 K S6 := fsh_c fP5 (by omega) (fun _ _ => rfl) (fun k hk => F6 k (by omega))
  obtain ⟨P6, p6⟩ : ∃ Q, Q = au S6 3 (au (S6 3) 6 (some 235)) := ⟨_, rfl⟩
  have fP6 : Fsh 254 K P6 := by rw [p6]; exact fsh_p fS6 (by omega)
  obtain ⟨S7, r7, h7, g7, F7⟩ := c_rd (d := d + 1) (L := L) (I := K) (R := P6) (fsh_m fP6 (by omega)) (fr_i fP6 (by omega))
  have fS7 : Fsh 297 K S7 := fsh_c fP6 (by omega) (fun _ _ => rfl) (fun k hk => F7 k (by omega))
  obtain ⟨P7, p7⟩ : ∃ Q, Q = au S7 3 (au (S7 3) 7 (some 254)) := ⟨_, rfl⟩
  have fP7 : Fsh 297 K P7 := by rw [p7]; exact fsh_p fS7 (by omega)
  obtain ⟨S8, r8, h8, F8⟩ := c_wr (d := d + 2) (L := L) (I := K) (R := P7) (fsh_m fP7 (by omega)) (fr_i fP7 (by omega))
  have fS8 : Fsh 299 K S8 := fsh_c fP7 (by omega) (fun _ _ => rfl) (fun k hk => F8 k (by omega))
  obtain ⟨P8, p8⟩ : ∃ Q, Q = au S8 3 (au (S8 3) 8 (some 297)) := ⟨_, rfl⟩
  have fP8 : Fsh 299 K P8 := by rw [p8]; exact fsh_p fS8 (by omega)
  have r9 := c_op (d := d + 2) (L := L) (n := 300) (a := 299) (I := K) (R := P8) (u := 0) (by omega) (fsh_m fP8 (by omega)) tg_299 tg_300 (ln_300 L)
  obtain ⟨S9, eS9⟩ : ∃ Q, Q = au P8 299 (au (P8 299) 0 (some 300)) := ⟨_, rfl⟩
  rw [← eS9] at r9
  have F9 : ∀ k, ¬ (299 ≤ k ∧ k < 301) → S9 k = P8 k := fun k hk => by rw [eS9, au_n _ _ (by omega)]
  have h9 : S9 299 0 = some 300 := by rw [eS9, aup]
  have fS9 : Fsh 301 K S9 := fsh_c fP8 (by omega) (fun _ _ => rfl) (fun k hk => F9 k (by omega))
  obtain ⟨P9, p9⟩ : ∃ Q, Q = au S9 3 (au (S9 3) 9 (some 299)) := ⟨_, rfl⟩
  have fP9 : Fsh 301 K P9 := by rw [p9]; exact fsh_p fS9 (by omega)
  have hK3 : ∀ i, K 3 i = 0 := fun i => by rw [eK, bI_o (fun q hq => by omega), t3 3 (by omega)]; exact hI i
  refine ⟨K, P9, ?_, ⟨?_, ?_, ?_, ?_, ?_, ?_, ?_, ?_, ?_, ?_, ?_, ?_, ?_, ?_, ?_, ?_, ?_, ?_, ?_, ?_, ?_, ?_, ?_, ?_, ?_, ?_, ?_, ?_, ?_, ?_, ?_, ?_, ?_, ?_, ?_, ?_, ?_, ?_, ?_, ?_, ?_, ?_, ?_, ?_, ?_, ?_, ?_, ?_, ?_, ?_⟩, fun k hk => by rw [p9, au_n _ _ (by omega), F9 k (by omega), p8, au_n _ _ (by omega), F8 k (by omega), p7, au_n _ _ (by omega), F7 k (by omega), p6, au_n _ _ (by omega), F6 k (by omega), p5, au_n _ _ (by omega), F5 k (by omega), p4, au_n _ _ (by omega), F4 k (by omega), p3, au_n _ _ (by omega), F3 k (by omega) (by omega), p2, au_n _ _ (by omega), F2 k (by omega), p1, au_n _ _ (by omega), F1 k (by omega), p0, au_n _ _ (by omega), F0 k (by omega)], fun n hn k hk => by rw [eK, bI_o (fun q hq => by omega)]; exact t1 n hn k hk, fun n hn k hk hk2 => by rw [eK, bI_o (fun q hq => by omega)]; exact t2 n hn k hk hk2, fun k hk => by rw [eK, bI_k hk, t3 _ (by omega)], fun a h1 h2 => by rw [eK, bI_o h2, t3 _ h1]⟩
  rotate_left
  · rw [p9, aun (by decide), F9 3 (by omega), p8, aun (by decide), F8 3 (by omega), p7, aun (by decide), F7 3 (by omega), p6, aun (by decide), F6 3 (by omega), p5, aun (by decide), F5 3 (by omega), p4, aun (by decide), F4 3 (by omega), p3, aun (by decide), F3 3 (by omega) (by omega), p2, aun (by decide), F2 3 (by omega), p1, aun (by decide), F1 3 (by omega), p0, aup]
  · rw [p9, aun (by decide), F9 3 (by omega), p8, aun (by decide), F8 3 (by omega), p7, aun (by decide), F7 3 (by omega), p6, aun (by decide), F6 3 (by omega), p5, aun (by decide), F5 3 (by omega), p4, aun (by decide), F4 3 (by omega), p3, aun (by decide), F3 3 (by omega) (by omega), p2, aun (by decide), F2 3 (by omega), p1, aup]
  · rw [p9, aun (by decide), F9 3 (by omega), p8, aun (by decide), F8 3 (by omega), p7, aun (by decide), F7 3 (by omega), p6, aun (by decide), F6 3 (by omega), p5, aun (by decide), F5 3 (by omega), p4, aun (by decide), F4 3 (by omega), p3, aun (by decide), F3 3 (by omega) (by omega), p2, aup]
  · rw [p9, aun (by decide), F9 3 (by omega), p8, aun (by decide), F8 3 (by omega), p7, aun (by decide), F7 3 (by omega), p6, aun (by decide), F6 3 (by omega), p5, aun (by decide), F5 3 (by omega), p4, aun (by decide), F4 3 (by omega), p3, aup]
  · rw [p9, aun (by decide), F9 3 (by omega), p8, aun (by decide), F8 3 (by omega), p7, aun (by decide), F7 3 (by omega), p6, aun (by decide), F6 3 (by omega), p5, aun (by decide), F5 3 (by omega), p4, aup]
  · rw [p9, aun (by decide), F9 3 (by omega), p8, aun (by decide), F8 3 (by omega), p7, aun (by decide), F7 3 (by omega), p6, aun (by decide), F6 3 (by omega), p5, aup]
  · rw [p9, aun (by decide), F9 3 (by omega), p8, aun (by decide), F8 3 (by omega), p7, aun (by decide), F7 3 (by omega), p6, aup]
  · rw [p9, aun (by decide), F9 3 (by omega), p8, aun (by decide), F8 3 (by omega), p7, aup]
  · rw [p9, aun (by decide), F9 3 (by omega), p8, aup]
  · rw [p9, aup]
  · exact Sf8_c h0 (fun k h1 h2 => by rw [p9, au_n _ _ (by omega), F9 k (by omega), p8, au_n _ _ (by omega), F8 k (by omega), p7, au_n _ _ (by omega), F7 k (by omega), p6, au_n _ _ (by omega), F6 k (by omega), p5, au_n _ _ (by omega), F5 k (by omega), p4, au_n _ _ (by omega), F4 k (by omega), p3, au_n _ _ (by omega), F3 k (by omega) (by omega), p2, au_n _ _ (by omega), F2 k (by omega), p1, au_n _ _ (by omega), F1 k (by omega), p0, au_n _ _ (by omega)])
  · rw [p9, au_n _ _ (by omega), F9 21 (by omega), p8, au_n _ _ (by omega), F8 21 (by omega), p7, au_n _ _ (by omega), F7 21 (by omega), p6, au_n _ _ (by omega), F6 21 (by omega), p5, au_n _ _ (by omega), F5 21 (by omega), p4, au_n _ _ (by omega), F4 21 (by omega), p3, au_n _ _ (by omega), F3 21 (by omega) (by omega), p2, au_n _ _ (by omega), F2 21 (by omega), p1, au_n _ _ (by omega)]; exact h1
  · exact fun k hk => ⟨by rw [p9, au_n _ _ (by omega), F9 22 (by omega), p8, au_n _ _ (by omega), F8 22 (by omega), p7, au_n _ _ (by omega), F7 22 (by omega), p6, au_n _ _ (by omega), F6 22 (by omega), p5, au_n _ _ (by omega), F5 22 (by omega), p4, au_n _ _ (by omega), F4 22 (by omega), p3, au_n _ _ (by omega), F3 22 (by omega) (by omega), p2, au_n _ _ (by omega), F2 22 (by omega), p1, au_n _ _ (by omega)]; exact (g1 k hk).1, Sf8_c (g1 k hk).2 (fun j h1 h2 => by rw [p9, au_n _ _ (by omega), F9 j (by omega), p8, au_n _ _ (by omega), F8 j (by omega), p7, au_n _ _ (by omega), F7 j (by omega), p6, au_n _ _ (by omega), F6 j (by omega), p5, au_n _ _ (by omega), F5 j (by omega), p4, au_n _ _ (by omega), F4 j (by omega), p3, au_n _ _ (by omega), F3 j (by omega) (by omega), p2, au_n _ _ (by omega), F2 j (by omega), p1, au_n _ _ (by omega)])⟩
  · rw [p9, au_n _ _ (by omega), F9 108 (by omega), p8, au_n _ _ (by omega), F8 108 (by omega), p7, au_n _ _ (by omega), F7 108 (by omega), p6, au_n _ _ (by omega), F6 108 (by omega), p5, au_n _ _ (by omega), F5 108 (by omega), p4, au_n _ _ (by omega), F4 108 (by omega), p3, au_n _ _ (by omega), F3 108 (by omega) (by omega), p2, au_n _ _ (by omega)]; exact h2
  · rw [p9, au_n _ _ (by omega), F9 110 (by omega), p8, au_n _ _ (by omega), F8 110 (by omega), p7, au_n _ _ (by omega), F7 110 (by omega), p6, au_n _ _ (by omega), F6 110 (by omega), p5, au_n _ _ (by omega), F5 110 (by omega), p4, au_n _ _ (by omega), F4 110 (by omega), p3, au_n _ _ (by omega)]; exact h3.1
  · rw [p9, au_n _ _ (by omega), F9 110 (by omega), p8, au_n _ _ (by omega), F8 110 (by omega), p7, au_n _ _ (by omega), F7 110 (by omega), p6, au_n _ _ (by omega), F6 110 (by omega), p5, au_n _ _ (by omega), F5 110 (by omega), p4, au_n _ _ (by omega), F4 110 (by omega), p3, au_n _ _ (by omega)]; exact h3.2.1
  · rw [p9, au_n _ _ (by omega), F9 110 (by omega), p8, au_n _ _ (by omega), F8 110 (by omega), p7, au_n _ _ (by omega), F7 110 (by omega), p6, au_n _ _ (by omega), F6 110 (by omega), p5, au_n _ _ (by omega), F5 110 (by omega), p4, au_n _ _ (by omega), F4 110 (by omega), p3, au_n _ _ (by omega)]; exact h3.2.2.1
  · rw [p9, au_n _ _ (by omega), F9 157 (by omega), p8, au_n _ _ (by omega), F8 157 (by omega), p7, au_n _ _ (by omega), F7 157 (by omega), p6, au_n _ _ (by omega), F6 157 (by omega), p5, au_n _ _ (by omega), F5 157 (by omega), p4, au_n _ _ (by omega), F4 157 (by omega), p3, au_n _ _ (by omega)]; exact h3.2.2.2
  · exact fun i => by rw [p9, au_n _ _ (by omega), F9 111 (by omega), p8, au_n _ _ (by omega), F8 111 (by omega), p7, au_n _ _ (by omega), F7 111 (by omega), p6, au_n _ _ (by omega), F6 111 (by omega), p5, au_n _ _ (by omega), F5 111 (by omega), p4, au_n _ _ (by omega), F4 111 (by omega), p3, au_n _ _ (by omega), F3 111 (by omega) (by omega), p2, au_n _ _ (by omega), F2 111 (by omega), p1, au_n _ _ (by omega), F1 111 (by omega), p0, au_n _ _ (by omega), F0 111 (by omega)]; exact fr_r hf (by omega) tg_111 i
  · exact fun i => by rw [p9, au_n _ _ (by omega), F9 125 (by omega), p8, au_n _ _ (by omega), F8 125 (by omega), p7, au_n _ _ (by omega), F7 125 (by omega), p6, au_n _ _ (by omega), F6 125 (by omega), p5, au_n _ _ (by omega), F5 125 (by omega), p4, au_n _ _ (by omega), F4 125 (by omega), p3, au_n _ _ (by omega), F3 125 (by omega) (by omega), p2, au_n _ _ (by omega), F2 125 (by omega), p1, au_n _ _ (by omega), F1 125 (by omega), p0, au_n _ _ (by omega), F0 125 (by omega)]; exact fr_r hf (by omega) tg_125 i
  · exact fun i => by rw [p9, au_n _ _ (by omega), F9 236 (by omega), p8, au_n _ _ (by omega), F8 236 (by omega), p7, au_n _ _ (by omega), F7 236 (by omega), p6, au_n _ _ (by omega), F6 236 (by omega), p5, au_n _ _ (by omega), F5 236 (by omega), p4, au_n _ _ (by omega), F4 236 (by omega), p3, au_n _ _ (by omega), F3 236 (by omega) (by omega), p2, au_n _ _ (by omega), F2 236 (by omega), p1, au_n _ _ (by omega), F1 236 (by omega), p0, au_n _ _ (by omega), F0 236 (by omega)]; exact fr_r hf (by omega) tg_236 i
  · rw [p9, au_n _ _ (by omega), F9 159 (by omega), p8, au_n _ _ (by omega), F8 159 (by omega), p7, au_n _ _ (by omega), F7 159 (by omega), p6, au_n _ _ (by omega), F6 159 (by omega), p5, au_n _ _ (by omega), F5 159 (by omega), p4, au_n _ _ (by omega)]; exact h4.1
  · rw [p9, au_n _ _ (by omega), F9 159 (by omega), p8, au_n _ _ (by omega), F8 159 (by omega), p7, au_n _ _ (by omega), F7 159 (by omega), p6, au_n _ _ (by omega), F6 159 (by omega), p5, au_n _ _ (by omega), F5 159 (by omega), p4, au_n _ _ (by omega)]; exact h4.2.1
  · rw [p9, au_n _ _ (by omega), F9 159 (by omega), p8, au_n _ _ (by omega), F8 159 (by omega), p7, au_n _ _ (by omega), F7 159 (by omega), p6, au_n _ _ (by omega), F6 159 (by omega), p5, au_n _ _ (by omega), F5 159 (by omega), p4, au_n _ _ (by omega)]; exact h4.2.2.1
  · rw [p9, au_n _ _ (by omega), F9 159 (by omega), p8, au_n _ _ (by omega), F8 159 (by omega), p7, au_n _ _ (by omega), F7 159 (by omega), p6, au_n _ _ (by omega), F6 159 (by omega), p5, au_n _ _ (by omega), F5 159 (by omega), p4, au_n _ _ (by omega)]; exact h4.2.2.2.1
  · rw [p9, au_n _ _ (by omega), F9 159 (by omega), p8, au_n _ _ (by omega), F8 159 (by omega), p7, au_n _ _ (by omega), F7 159 (by omega), p6, au_n _ _ (by omega), F6 159 (by omega), p5, au_n _ _ (by omega), F5 159 (by omega), p4, au_n _ _ (by omega)]; exact h4.2.2.2.2.1
  · rw [p9, au_n _ _ (by omega), F9 159 (by omega), p8, au_n _ _ (by omega), F8 159 (by omega), p7, au_n _ _ (by omega), F7 159 (by omega), p6, au_n _ _ (by omega), F6 159 (by omega), p5, au_n _ _ (by omega), F5 159 (by omega), p4, au_n _ _ (by omega)]; exact h4.2.2.2.2.2
  · rw [p9, au_n _ _ (by omega), F9 165 (by omega), p8, au_n _ _ (by omega), F8 165 (by omega), p7, au_n _ _ (by omega), F7 165 (by omega), p6, au_n _ _ (by omega), F6 165 (by omega), p5, au_n _ _ (by omega)]; exact h5.1
  · rw [p9, au_n _ _ (by omega), F9 165 (by omega), p8, au_n _ _ (by omega), F8 165 (by omega), p7, au_n _ _ (by omega), F7 165 (by omega), p6, au_n _ _ (by omega), F6 165 (by omega), p5, au_n _ _ (by omega)]; exact h5.2.1
  · rw [p9, au_n _ _ (by omega), F9 165 (by omega), p8, au_n _ _ (by omega), F8 165 (by omega), p7, au_n _ _ (by omega), F7 165 (by omega), p6, au_n _ _ (by omega), F6 165 (by omega), p5, au_n _ _ (by omega)]; exact h5.2.2.1
  · rw [p9, au_n _ _ (by omega), F9 165 (by omega), p8, au_n _ _ (by omega), F8 165 (by omega), p7, au_n _ _ (by omega), F7 165 (by omega), p6, au_n _ _ (by omega), F6 165 (by omega), p5, au_n _ _ (by omega)]; exact h5.2.2.2.1
  · rw [p9, au_n _ _ (by omega), F9 165 (by omega), p8, au_n _ _ (by omega), F8 165 (by omega), p7, au_n _ _ (by omega), F7 165 (by omega), p6, au_n _ _ (by omega), F6 165 (by omega), p5, au_n _ _ (by omega)]; exact h5.2.2.2.2.1
  · rw [p9, au_n _ _ (by omega), F9 165 (by omega), p8, au_n _ _ (by omega), F8 165 (by omega), p7, au_n _ _ (by omega), F7 165 (by omega), p6, au_n _ _ (by omega), F6 165 (by omega), p5, au_n _ _ (by omega)]; exact h5.2.2.2.2.2.1
  · rw [p9, au_n _ _ (by omega), F9 165 (by omega), p8, au_n _ _ (by omega), F8 165 (by omega), p7, au_n _ _ (by omega), F7 165 (by omega), p6, au_n _ _ (by omega), F6 165 (by omega), p5, au_n _ _ (by omega)]; exact h5.2.2.2.2.2.2
  · exact fun k hk => ⟨by rw [p9, au_n _ _ (by omega), F9 166 (by omega), p8, au_n _ _ (by omega), F8 166 (by omega), p7, au_n _ _ (by omega), F7 166 (by omega), p6, au_n _ _ (by omega), F6 166 (by omega), p5, au_n _ _ (by omega)]; exact (g5 k hk).1, Bf2_c (g5 k hk).2 (fun j h1 h2 => by rw [p9, au_n _ _ (by omega), F9 j (by omega), p8, au_n _ _ (by omega), F8 j (by omega), p7, au_n _ _ (by omega), F7 j (by omega), p6, au_n _ _ (by omega), F6 j (by omega), p5, au_n _ _ (by omega)])⟩
  · exact fun s hs => ⟨by rw [p9, au_n _ _ (by omega), F9 167 (by omega), p8, au_n _ _ (by omega), F8 167 (by omega), p7, au_n _ _ (by omega), F7 167 (by omega), p6, au_n _ _ (by omega), F6 167 (by omega), p5, au_n _ _ (by omega)]; exact (k5 s hs).1, by rw [p9, au_n _ _ (by omega), F9 (223 + 2 * s) (by omega), p8, au_n _ _ (by omega), F8 (223 + 2 * s) (by omega), p7, au_n _ _ (by omega), F7 (223 + 2 * s) (by omega), p6, au_n _ _ (by omega), F6 (223 + 2 * s) (by omega), p5, au_n _ _ (by omega)]; exact (k5 s hs).2⟩
  · rw [p9, au_n _ _ (by omega), F9 235 (by omega), p8, au_n _ _ (by omega), F8 235 (by omega), p7, au_n _ _ (by omega), F7 235 (by omega), p6, au_n _ _ (by omega)]; exact h6.1
  · rw [p9, au_n _ _ (by omega), F9 235 (by omega), p8, au_n _ _ (by omega), F8 235 (by omega), p7, au_n _ _ (by omega), F7 235 (by omega), p6, au_n _ _ (by omega)]; exact h6.2.1
  · rw [p9, au_n _ _ (by omega), F9 235 (by omega), p8, au_n _ _ (by omega), F8 235 (by omega), p7, au_n _ _ (by omega), F7 235 (by omega), p6, au_n _ _ (by omega)]; exact h6.2.2
  · rw [p9, au_n _ _ (by omega), F9 254 (by omega), p8, au_n _ _ (by omega), F8 254 (by omega), p7, au_n _ _ (by omega)]; exact h7.1
  · rw [p9, au_n _ _ (by omega), F9 254 (by omega), p8, au_n _ _ (by omega), F8 254 (by omega), p7, au_n _ _ (by omega)]; exact h7.2.1
  · rw [p9, au_n _ _ (by omega), F9 254 (by omega), p8, au_n _ _ (by omega), F8 254 (by omega), p7, au_n _ _ (by omega)]; exact h7.2.2.1
  · rw [p9, au_n _ _ (by omega), F9 254 (by omega), p8, au_n _ _ (by omega), F8 254 (by omega), p7, au_n _ _ (by omega)]; exact h7.2.2.2.1
  · rw [p9, au_n _ _ (by omega), F9 254 (by omega), p8, au_n _ _ (by omega), F8 254 (by omega), p7, au_n _ _ (by omega)]; exact h7.2.2.2.2.1
  · rw [p9, au_n _ _ (by omega), F9 254 (by omega), p8, au_n _ _ (by omega), F8 254 (by omega), p7, au_n _ _ (by omega)]; exact h7.2.2.2.2.2.1
  · rw [p9, au_n _ _ (by omega), F9 257 (by omega), p8, au_n _ _ (by omega), F8 257 (by omega), p7, au_n _ _ (by omega)]; exact h7.2.2.2.2.2.2.1
  · rw [p9, au_n _ _ (by omega), F9 259 (by omega), p8, au_n _ _ (by omega), F8 259 (by omega), p7, au_n _ _ (by omega)]; exact h7.2.2.2.2.2.2.2
  · exact fun t ht => Rf7_c (g7 t ht) (fun k h1 h2 => by rw [p9, au_n _ _ (by omega), F9 k (by omega), p8, au_n _ _ (by omega), F8 k (by omega), p7, au_n _ _ (by omega)]) ht
  · rw [p9, au_n _ _ (by omega), F9 297 (by omega), p8, au_n _ _ (by omega)]; exact h8
  · rw [p9, au_n _ _ (by omega)]; exact h9
  refine run_of tb_X11_init (Nat.le_of_ble_eq_true rfl) ?_
  show ∃ ls', am_ev (am_run am_tb (d + 3)) tX11_init ([vR 3], [], GH 4 L I R 0) = _
  apply Exists.intro
  unfold tX11_init
  apply t_B
  · refine x_aload_n rfl ?_
    refine g_super (Nat.le_of_ble_eq_true rfl) ?_
    refine x_aload_n rfl ?_
    refine g_new tg_4 (by decide) (ln_4 L) (fr_i hf (by omega)) (fr_n hf (by omega) tg_4 (by decide)) rfl ?_
    refine x_dup rfl ?_
    refine g_spec (vs := []) (by decide) (by omega) tg_4 rfl (Nat.le_of_ble_eq_true rfl) r0 ?_
    refine g_pr (by omega) tg_3 rfl ?_
    rw [← p0]
    refine x_aload_n rfl ?_
    refine g_new tg_21 (by decide) (ln_21 L) (fr_i fP0 (by omega)) (fr_n fP0 (by omega) tg_21 (by decide)) rfl ?_
    refine x_dup rfl ?_
    refine g_spec (vs := []) (by decide) (by omega) tg_21 rfl (Nat.le_of_ble_eq_true rfl) r1 ?_
    refine g_pr (by omega) tg_3 rfl ?_
    rw [← p1]
    refine x_aload_n rfl ?_
    refine g_new tg_108 (by decide) (ln_108 L) (fr_i fP1 (by omega)) (fr_n fP1 (by omega) tg_108 (by decide)) rfl ?_
    refine x_dup rfl ?_
    refine g_spec (vs := []) (by decide) (by omega) tg_108 rfl (Nat.le_of_ble_eq_true rfl) r2 ?_
    refine g_pr (by omega) tg_3 rfl ?_
    rw [← p2]
    refine x_aload_n rfl ?_
    refine g_new tg_110 (by decide) (ln_110 L) (fr_i fP2 (by omega)) (fr_n fP2 (by omega) tg_110 (by decide)) rfl ?_
    refine x_dup rfl ?_
    refine g_spec (vs := []) (by decide) (by omega) tg_110 rfl (Nat.le_of_ble_eq_true rfl) r3 ?_
    refine g_pr (by omega) tg_3 rfl ?_
    rw [← p3]
    refine x_aload_n rfl ?_
    refine g_new tg_159 (by decide) (ln_159 L) (fr_i fP3 (by omega)) (fr_n fP3 (by omega) tg_159 (by decide)) rfl ?_
    refine x_dup rfl ?_
    refine x_aload_n rfl ?_
    refine g_gr (by omega) tg_3 rfl (by rw [p3, aup]) ?_
    refine g_spec (vs := [vR 110]) (by decide) (by omega) tg_159 rfl (Nat.le_of_ble_eq_true rfl) r4 ?_
    refine g_pr (by omega) tg_3 rfl ?_
    rw [← p4]
    refine x_aload_n rfl ?_
    refine g_new tg_165 (by decide) (ln_165 L) (fr_i fP4 (by omega)) (fr_n fP4 (by omega) tg_165 (by decide)) rfl ?_
    refine x_dup rfl ?_
    refine x_aload_n rfl ?_
    refine g_gr (by omega) tg_3 rfl (by rw [p4, aun (by decide), F4 3 (by omega), p3, aup]) ?_
    refine x_aload_n rfl ?_
    refine g_gr (by omega) tg_3 rfl (by rw [p4, aup]) ?_
    refine g_spec (vs := [vR 110, vR 159]) (by decide) (by omega) tg_165 rfl (Nat.le_of_ble_eq_true rfl) r5 ?_
    refine g_pr (by omega) tg_3 rfl ?_
    rw [← p5]
    refine x_aload_n rfl ?_
    refine g_new tg_235 (by decide) (ln_235 L) (fr_i fP5 (by omega)) (fr_n fP5 (by omega) tg_235 (by decide)) rfl ?_
    refine x_dup rfl ?_
    refine x_aload_n rfl ?_
    refine g_gr (by omega) tg_3 rfl (by rw [p5, aun (by decide), F5 3 (by omega), p4, aun (by decide), F4 3 (by omega), p3, aup]) ?_
    refine g_spec (vs := [vR 110]) (by decide) (by omega) tg_235 rfl (Nat.le_of_ble_eq_true rfl) r6 ?_
    refine g_pr (by omega) tg_3 rfl ?_
    rw [← p6]
    refine x_aload_n rfl ?_
    refine g_new tg_254 (by decide) (ln_254 L) (fr_i fP6 (by omega)) (fr_n fP6 (by omega) tg_254 (by decide)) rfl ?_
    refine x_dup rfl ?_
    refine x_aload_n rfl ?_
    refine g_gr (by omega) tg_3 rfl (by rw [p6, aun (by decide), F6 3 (by omega), p5, aun (by decide), F5 3 (by omega), p4, aun (by decide), F4 3 (by omega), p3, aup]) ?_
    refine x_aload_n rfl ?_
    refine g_gr (by omega) tg_3 rfl (by rw [p6, aun (by decide), F6 3 (by omega), p5, aun (by decide), F5 3 (by omega), p4, aun (by decide), F4 3 (by omega), p3, aun (by decide), F3 3 (by omega) (by omega), p2, aup]) ?_
    refine g_spec (vs := [vR 110, vR 108]) (by decide) (by omega) tg_254 rfl (Nat.le_of_ble_eq_true rfl) r7 ?_
    refine g_pr (by omega) tg_3 rfl ?_
    rw [← p7]
    refine x_aload_n rfl ?_
    refine g_new tg_297 (by decide) (ln_297 L) (fr_i fP7 (by omega)) (fr_n fP7 (by omega) tg_297 (by decide)) rfl ?_
    refine x_dup rfl ?_
    refine g_spec (vs := []) (by decide) (by omega) tg_297 rfl (Nat.le_of_ble_eq_true rfl) r8 ?_
    refine g_pr (by omega) tg_3 rfl ?_
    rw [← p8]
    refine x_aload_n rfl ?_
    refine g_new tg_299 (by decide) (ln_299 L) (fr_i fP8 (by omega)) (fr_n fP8 (by omega) tg_299 (by decide)) rfl ?_
    refine x_dup rfl ?_
    refine g_spec (vs := []) (by decide) (by omega) tg_299 rfl (Nat.le_of_ble_eq_true rfl) r9 ?_
    refine g_pr (by omega) tg_3 rfl ?_
    rw [← p9]
    refine x_aload_n rfl ?_
    refine x_iconst ?_
    refine g_p0 (by omega) tg_3 rfl rfl (hK3 10) ?_
    refine x_aload_n rfl ?_
    refine x_iconst ?_
    refine g_p0 (by omega) tg_3 rfl rfl (hK3 11) ?_
    refine x_aload_n rfl ?_
    refine x_iconst ?_
    refine g_p0 (by omega) tg_3 rfl rfl (hK3 12) ?_
    exact rfl
  exact rfl
