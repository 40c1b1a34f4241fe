/-! how many bits: one by one, and all at once -/
section
def pcF : Nat → Nat → Nat
  | 0, _ => 0
  | n + 1, x => x % 2 + pcF n (x / 2)
theorem and_st (x y : Nat) : x &&& y = 2 * (x / 2 &&& y / 2) + (if x % 2 = 1 ∧ y % 2 = 1 then 1 else 0) := by
  apply Nat.eq_of_testBit_eq
  intro i
  cases i with
  | zero =>
    rw [Nat.testBit_and, Nat.testBit_zero, Nat.testBit_zero, Nat.testBit_zero]
    by_cases h1 : x % 2 = 1 <;> by_cases h2 : y % 2 = 1 <;> simp [h1, h2] <;> omega
  | succ i =>
    rw [Nat.testBit_and, Nat.testBit_succ, Nat.testBit_succ, Nat.testBit_succ]
    have : (2 * (x / 2 &&& y / 2) + (if x % 2 = 1 ∧ y % 2 = 1 then 1 else 0)) / 2 = (x / 2 &&& y / 2) := by split <;> omega
    rw [this, Nat.testBit_and]
theorem pcF_kern : ∀ (n x : Nat), 0 < x → x < 2 ^ n → pcF n (x &&& (x - 1)) + 1 = pcF n x
  | 0, x, h, h2 => by simp at h2; omega
  | n + 1, x, h, h2 => by
    rw [and_st]
    by_cases ho : x % 2 = 1
    · have e1 : (x - 1) % 2 = 0 := by omega
      have e2 : (x - 1) / 2 = x / 2 := by omega
      rw [if_neg (by omega), e2, Nat.and_self, pcF, pcF]
      simp only [Nat.add_zero]
      have e3 : 2 * (x / 2) % 2 = 0 := by omega
      have e4 : 2 * (x / 2) / 2 = x / 2 := by omega
      rw [e3, e4, ho]
      omega
    · have e2 : (x - 1) / 2 = x / 2 - 1 := by omega
      rw [if_neg (by omega), e2, pcF, pcF]
      simp only [Nat.add_zero]
      have e3 : 2 * (x / 2 &&& (x / 2 - 1)) % 2 = 0 := by omega
      have e4 : 2 * (x / 2 &&& (x / 2 - 1)) / 2 = (x / 2 &&& (x / 2 - 1)) := by omega
      have ih := pcF_kern n (x / 2) (by omega) (by rw [Nat.pow_succ] at h2; omega)
      rw [e3, e4]
      omega
theorem pcF_0 : ∀ n, pcF n 0 = 0
  | 0 => rfl
  | n + 1 => by rw [pcF, Nat.zero_div, pcF_0 n]
theorem pcF_le : ∀ n x, pcF n x ≤ n
  | 0, _ => Nat.le_refl 0
  | n + 1, x => by have := pcF_le n (x / 2); rw [pcF]; omega
theorem pcF_8 (n b y : Nat) (hb : b < 256) : pcF (n + 8) (256 * y + b) = pcF 8 b + pcF n y := by
  simp only [pcF]
  have e : (256 * y + b) / 2 / 2 / 2 / 2 / 2 / 2 / 2 / 2 = y := by omega
  rw [e]
  have h0 : (256 * y + b) % 2 = b % 2 := by omega
  have h1 : (256 * y + b) / 2 % 2 = b / 2 % 2 := by omega
  have h2 : (256 * y + b) / 2 / 2 % 2 = b / 2 / 2 % 2 := by omega
  have h3 : (256 * y + b) / 2 / 2 / 2 % 2 = b / 2 / 2 / 2 % 2 := by omega
  have h4 : (256 * y + b) / 2 / 2 / 2 / 2 % 2 = b / 2 / 2 / 2 / 2 % 2 := by omega
  have h5 : (256 * y + b) / 2 / 2 / 2 / 2 / 2 % 2 = b / 2 / 2 / 2 / 2 / 2 % 2 := by omega
  have h6 : (256 * y + b) / 2 / 2 / 2 / 2 / 2 / 2 % 2 = b / 2 / 2 / 2 / 2 / 2 / 2 % 2 := by omega
  have h7 : (256 * y + b) / 2 / 2 / 2 / 2 / 2 / 2 / 2 % 2 = b / 2 / 2 / 2 / 2 / 2 / 2 / 2 % 2 := by omega
  rw [h0, h1, h2, h3, h4, h5, h6, h7]
  omega
/-- an 'and' byte by byte -/
theorem and_8 (x y a b : Nat) (ha : a < 256) (hb : b < 256) : (256 * x + a) &&& (256 * y + b) = 256 * (x &&& y) + (a &&& b) := by
  have e : ∀ z c : Nat, c < 256 → 256 * z + c = 2 ^ 8 * z + c := fun _ _ _ => rfl
  have hab : (a &&& b) < 256 := Nat.lt_of_le_of_lt Nat.and_le_left ha
  apply Nat.eq_of_testBit_eq
  intro i
  rw [Nat.testBit_and]
  rw [e x a ha, e y b hb, e (x &&& y) (a &&& b) hab]
  rw [Nat.testBit_two_pow_mul_add x (show a < 2 ^ 8 from ha), Nat.testBit_two_pow_mul_add y (show b < 2 ^ 8 from hb), Nat.testBit_two_pow_mul_add (x &&& y) (show (a &&& b) < 2 ^ 8 from hab)]
  split
  · rw [Nat.testBit_and]
  · rw [Nat.testBit_and]
/-- the first three stages, byte by byte -/
def w1 (x m : Nat) : Nat := x - ((x / 2) &&& m)
def w2 (x m : Nat) : Nat := (x &&& m) + ((x / 4) &&& m)
def w3 (x m : Nat) : Nat := (x + x / 16) &&& m
theorem w1_b : ∀ (c : Fin 2) (b : Fin 256), (128 * c.val + b.val / 2) &&& 85 = (b.val / 2) &&& 85 := by decide +kernel
theorem w1_l : ∀ (b : Fin 256), (b.val / 2) &&& 85 ≤ b.val := by decide +kernel
theorem and_le_self (x m : Nat) : x / 2 &&& m ≤ x := Nat.le_trans Nat.and_le_left (Nat.div_le_self x 2)
theorem w1_8 (y m b : Nat) (hb : b < 256) : w1 (256 * y + b) (256 * m + 85) = 256 * w1 y m + w1 b 85 := by
  unfold w1
  have e : (256 * y + b) / 2 = 256 * (y / 2) + (128 * (y % 2) + b / 2) := by omega
  rw [e, and_8 _ _ _ _ (by omega) (by omega)]
  have e2 := w1_b ⟨y % 2, by omega⟩ ⟨b, hb⟩
  simp only at e2
  rw [e2]
  have h1 := and_le_self y m
  have h2 := w1_l ⟨b, hb⟩
  simp only at h2
  omega
theorem w2_b : ∀ (c : Fin 4) (b : Fin 256), (64 * c.val + b.val / 4) &&& 51 = (b.val / 4) &&& 51 := by decide +kernel
theorem w2_8 (y m b : Nat) (hb : b < 256) : w2 (256 * y + b) (256 * m + 51) = 256 * w2 y m + w2 b 51 := by
  unfold w2
  have e : (256 * y + b) / 4 = 256 * (y / 4) + (64 * (y % 4) + b / 4) := by omega
  rw [e, and_8 _ _ _ _ hb (by omega), and_8 _ _ _ _ (by omega) (by omega)]
  have e2 := w2_b ⟨y % 4, by omega⟩ ⟨b, hb⟩
  simp only at e2
  rw [e2]
  omega
theorem w3_b : ∀ (a c b : Fin 5), (16 * c.val + (16 * a.val + b.val) + (16 * a.val + b.val) / 16) &&& 15 = (16 * a.val + b.val + (16 * a.val + b.val) / 16) &&& 15 := by decide +kernel
/-- nibbles of at most 4 -/
def nb (x : Nat) : Prop := ∃ a b, a < 5 ∧ b < 5 ∧ x = 16 * a + b
theorem w3_8 (y m b : Nat) (hb : nb b) (hy : y % 16 < 5) : w3 (256 * y + b) (256 * m + 15) = 256 * w3 y m + w3 b 15 := by
  obtain ⟨p, q, hp, hq, rfl⟩ := hb
  unfold w3
  have e : 256 * y + (16 * p + q) + (256 * y + (16 * p + q)) / 16 = 256 * (y + y / 16) + (16 * (y % 16) + (16 * p + q) + (16 * p + q) / 16) := by omega
  rw [e, and_8 _ _ _ _ (by omega) (by omega)]
  have e2 := w3_b ⟨p, hp⟩ ⟨y % 16, hy⟩ ⟨q, hq⟩
  simp only at e2
  rw [e2]
theorem w_byte : ∀ (b : Fin 256), w3 (w2 (w1 b.val 85) 51) 15 = pcF 8 b.val ∧ w1 b.val 85 < 256 ∧ w2 (w1 b.val 85) 51 / 16 < 5 ∧ w2 (w1 b.val 85) 51 % 16 < 5 := by decide +kernel
theorem w_nb (b : Nat) (hb : b < 256) : nb (w2 (w1 b 85) 51) := by
  have := w_byte ⟨b, hb⟩
  simp only at this
  exact ⟨w2 (w1 b 85) 51 / 16, w2 (w1 b 85) 51 % 16, this.2.2.1, this.2.2.2, by omega⟩
/-- all stages on a number of four bytes -/
def swar (x : Nat) : Nat :=
  let v3 := w3 (w2 (w1 x 1431655765) 858993459) 252645135
  let v4 := v3 + v3 / 256
  let v5 := v4 + v4 / 65536
  v5 &&& 63
theorem swar_4 (b0 b1 b2 b3 : Nat) (h0 : b0 < 256) (h1 : b1 < 256) (h2 : b2 < 256) (h3 : b3 < 256) : w3 (w2 (w1 (256 * (256 * (256 * b3 + b2) + b1) + b0) 1431655765) 858993459) 252645135 = 256 * (256 * (256 * pcF 8 b3 + pcF 8 b2) + pcF 8 b1) + pcF 8 b0 := by
  have g0 := w_byte ⟨b0, h0⟩
  have g1 := w_byte ⟨b1, h1⟩
  have g2 := w_byte ⟨b2, h2⟩
  have g3 := w_byte ⟨b3, h3⟩
  simp only at g0 g1 g2 g3
  have s1 : w1 (256 * (256 * (256 * b3 + b2) + b1) + b0) 1431655765 = 256 * (256 * (256 * w1 b3 85 + w1 b2 85) + w1 b1 85) + w1 b0 85 := by
    rw [show (1431655765 : Nat) = 256 * 5592405 + 85 from rfl, w1_8 _ _ _ h0, show (5592405 : Nat) = 256 * 21845 + 85 from rfl, w1_8 _ _ _ h1, show (21845 : Nat) = 256 * 85 + 85 from rfl, w1_8 _ _ _ h2]
  have s2 : w2 (256 * (256 * (256 * w1 b3 85 + w1 b2 85) + w1 b1 85) + w1 b0 85) 858993459 = 256 * (256 * (256 * w2 (w1 b3 85) 51 + w2 (w1 b2 85) 51) + w2 (w1 b1 85) 51) + w2 (w1 b0 85) 51 := by
    rw [show (858993459 : Nat) = 256 * 3355443 + 51 from rfl, w2_8 _ _ _ g0.2.1, show (3355443 : Nat) = 256 * 13107 + 51 from rfl, w2_8 _ _ _ g1.2.1, show (13107 : Nat) = 256 * 51 + 51 from rfl, w2_8 _ _ _ g2.2.1]
  rw [s1, s2]
  rw [show (252645135 : Nat) = 256 * 986895 + 15 from rfl, w3_8 _ _ _ (w_nb b0 h0) (by omega), show (986895 : Nat) = 256 * 3855 + 15 from rfl, w3_8 _ _ _ (w_nb b1 h1) (by omega), show (3855 : Nat) = 256 * 15 + 15 from rfl, w3_8 _ _ _ (w_nb b2 h2) g3.2.2.2]
  rw [g0.1, g1.1, g2.1, g3.1]
theorem swar_pc (x : Nat) (hx : x < 2 ^ 32) : swar x = pcF 32 x := by
  obtain ⟨b0, b1, b2, b3, h0, h1, h2, h3, e⟩ : ∃ b0 b1 b2 b3 : Nat, b0 < 256 ∧ b1 < 256 ∧ b2 < 256 ∧ b3 < 256 ∧ x = 256 * (256 * (256 * b3 + b2) + b1) + b0 := ⟨x % 256, x / 256 % 256, x / 65536 % 256, x / 16777216, by omega, by omega, by omega, by omega, by omega⟩
  rw [e]
  unfold swar
  rw [swar_4 _ _ _ _ h0 h1 h2 h3]
  have p0 := pcF_le 8 b0
  have p1 := pcF_le 8 b1
  have p2 := pcF_le 8 b2
  have p3 := pcF_le 8 b3
  have e2 : pcF 32 (256 * (256 * (256 * b3 + b2) + b1) + b0) = pcF 8 b0 + (pcF 8 b1 + (pcF 8 b2 + pcF 8 b3)) := by
    rw [show (32 : Nat) = 24 + 8 from rfl, pcF_8 24 _ _ h0, show (24 : Nat) = 16 + 8 from rfl, pcF_8 16 _ _ h1, show (16 : Nat) = 8 + 8 from rfl, pcF_8 8 _ _ h2]
  rw [e2]
  simp only
  rw [show (63 : Nat) = 2 ^ 6 - 1 from rfl, Nat.and_two_pow_sub_one_eq_mod]
  generalize pcF 8 b0 = c0 at p0 ⊢
  generalize pcF 8 b1 = c1 at p1 ⊢
  generalize pcF 8 b2 = c2 at p2 ⊢
  generalize pcF 8 b3 = c3 at p3 ⊢
  have q1 : (256 * (256 * (256 * c3 + c2) + c1) + c0) / 256 = 256 * (256 * c3 + c2) + c1 := by omega
  rw [q1]
  have q2 : (256 * (256 * (256 * c3 + c2) + c1) + c0 + (256 * (256 * c3 + c2) + c1)) / 65536 = 256 * c3 + (c2 + c3) := by omega
  rw [q2]
  omega
end
