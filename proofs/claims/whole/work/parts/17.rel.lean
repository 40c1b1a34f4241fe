/-! THE RELATION between the class's memory M and the model's N: what stands for the same state -/
/-- a number of at most b -/
def upto (x : Int32) (b : Nat) : Prop := ∃ n, n ≤ b ∧ x = nI n
/-- word w, told in the class's rows and in the model's row a -/
def wRel (M : ev_Mem) (a : Nat → Int32) (w : Nat) : Prop :=
  (M.1 29 w = a (39 + 13 * w + 3) ∧ M.1 30 w = a (39 + 13 * w) ∧ M.1 31 w = a (39 + 13 * w + 1) ∧ M.1 32 w = a (39 + 13 * w + 2)) ∧
  (upto (a (39 + 13 * w)) 6 ∧ upto (a (39 + 13 * w + 1)) 11 ∧ upto (a (39 + 13 * w + 2)) 9) ∧
  ∃ n, 1 ≤ n ∧ n ≤ 9 ∧ a (39 + 13 * w + 3) = nI n ∧ ∀ i, i < n → M.1 (5 + w) i = a (39 + 13 * w + 4 + i) ∧ upto (a (39 + 13 * w + 4 + i)) 25
def sRel (M : ev_Mem) (a : Nat → Int32) (s : Nat) : Prop :=
  M.1 42 s = a (351 + 6 * s) ∧ ∃ n, 1 ≤ n ∧ n ≤ 5 ∧ a (351 + 6 * s) = nI n ∧ ∀ i, i < n → M.1 (34 + s) i = a (351 + 6 * s + 1 + i) ∧ upto (a (351 + 6 * s + 1 + i)) 11
/-- one line of the book: in the ring at place j, in the model's two ints -/
def lRel (R : Nat → Int32) (j : Nat) (x y : Int32) : Prop :=
  R (4 * j) = x ∧ upto x 9999 ∧ ∃ p q m : Nat, p ≤ 25 ∧ q ≤ 2 ∧ m ≤ 9999 ∧ R (4 * j + 1) = nI p ∧ R (4 * j + 2) = nI q ∧ R (4 * j + 3) = nI m ∧ y = nI ((p * 4 + q) * 10000 + m)
/-- the book behind lc lines: the last wn of them -/
def bRel (R : Nat → Int32) (lc wn : Nat) (g : Nat → Int32) : Prop := wn = min lc 30 ∧ ∀ i, i < wn → lRel R ((lc - wn + i) % 90) (g (2 * i)) (g (2 * i + 1))
/-- what a step keeps: uses, lost, seconds, day, x -/
def kRel (u : Nat → Int32) (lo se da x : Int32) (b : Nat → Int32) : Prop :=
  (∀ l, l < 26 → u l = b (5 + l) ∧ upto (b (5 + l)) 9999) ∧ (lo = b 1 ∧ upto (b 1) (2 ^ 26 - 1)) ∧ (se = b 2 ∧ upto (b 2) 9999) ∧ (da = b 0 ∧ upto (b 0) 9999) ∧ (x = b 3 ∧ upto (b 3) 30516)
/-- the machine at the cells mc .. mc + 3, the model's row a -/
def mRel (B : Nat) (M : ev_Mem) (mc : Nat) (a : Nat → Int32) : Prop :=
  kRel (M.1 (mc + 1)) (M.1 mc 0) (M.1 mc 2) (M.1 mc 3) (M.1 mc 4) (fun i => a (8 + i)) ∧
  ∃ lc wn k e : Nat, lc ≤ B ∧ M.1 mc 6 = nI lc ∧ a 12 = nI wn ∧ bRel (M.1 (mc + 2)) lc wn (fun i => a (3255 + i)) ∧
    (k ≤ 30 ∧ M.1 mc 9 = nI k ∧ a 4 = nI k) ∧ (e < 30 ∧ M.1 mc 8 = nI e) ∧
    ∃ lcs : Nat → Nat, lcs k = lc ∧ (∀ j, j < k → lcs j ≤ lcs (j + 1) ∧ lcs (j + 1) ≤ lcs j + 2) ∧
      ∀ j, j < k → kRel (fun l => M.1 (mc + 3) (31 * ((e + j) % 30) + l)) (M.1 (mc + 3) (31 * ((e + j) % 30) + 26)) (M.1 (mc + 3) (31 * ((e + j) % 30) + 27)) (M.1 (mc + 3) (31 * ((e + j) % 30) + 28)) (M.1 (mc + 3) (31 * ((e + j) % 30) + 29)) (fun i => a (525 + 91 * j + i)) ∧
        M.1 (mc + 3) (31 * ((e + j) % 30) + 30) = nI (lcs j) ∧ ∃ wj, a (525 + 91 * j + 4) = nI wj ∧ bRel (M.1 (mc + 2)) (lcs j) wj (fun i => a (525 + 91 * j + 31 + i))
/-- one line of a report: a byte, and the model's number of it -/
def rRel (x y : Int32) : Prop := (x = 45 ∧ y = 26) ∨ ∃ l, l < 26 ∧ x = nI (97 + l) ∧ y = nI l
/-- the notes at the cells nc .. nc + 12 (without the texts themselves), W words being told -/
def nRel (M : ev_Mem) (nc W : Nat) (a : Nat → Int32) : Prop :=
  (∀ l, l < 26 → M.1 (nc + 1) l = a (399 + 2 * l) ∧ (a (399 + 2 * l) = -1 ∨ upto (a (399 + 2 * l)) 25) ∧ M.1 (nc + 2) l = a (399 + 2 * l + 1) ∧ upto (a (399 + 2 * l + 1)) 9) ∧
  (∃ T, T ≤ 4 ∧ M.1 nc 2 = nI T ∧ a 2 = nI T ∧ M.1 nc 3 = a 3 ∧ (a 3 = -1 ∨ ∃ t, t < T ∧ a 3 = nI t)) ∧
  (∃ p, p ≤ 8 ∧ M.1 nc 5 = nI p ∧ a 5 = nI p ∧ ∀ i, i < p → M.1 (nc + 3) i = a (451 + i) ∧ ∃ w, w < W ∧ a (451 + i) = nI w) ∧
  (∃ r, r ≤ 5 ∧ M.1 nc 8 = nI r ∧ a 6 = nI r ∧ ∀ i, i < r → M.1 (nc + 10) i = a (459 + 10 * i) ∧ ∃ n, 1 ≤ n ∧ n ≤ 9 ∧ a (459 + 10 * i) = nI n ∧ ∀ j, j < n → rRel (M.1 (nc + 5 + i) j) (a (459 + 10 * i + 1 + j))) ∧
  (∃ h, h ≤ 8 ∧ M.1 nc 11 = nI h ∧ a 7 = nI h ∧ ∀ i, i < h → M.1 (nc + 11) i = a (509 + 2 * i) ∧ M.1 (nc + 12) i = a (509 + 2 * i + 1) ∧ (∃ w, w < W ∧ a (509 + 2 * i) = nI w) ∧ upto (a (509 + 2 * i + 1)) 99)
/-- a state: W words and S sentences, the machine at mc, the notes at nc -/
def stRel (B : Nat) (M : ev_Mem) (W S mc nc : Nat) (a : Nat → Int32) : Prop :=
  (W ≤ 24 ∧ a 0 = nI W ∧ ∀ w, w < W → wRel M a w) ∧ (S ≤ 8 ∧ a 1 = nI S ∧ ∀ s, s < S → sRel M a s) ∧ mRel B M mc a ∧ nRel M nc W a
/-- the tape -/
def tRel (M N : ev_Mem) : Prop := ∃ n, n ≤ 300 ∧ M.1 1 1 = nI n ∧ N.1 0 5 = nI n ∧ ∀ i, i < n → M.1 2 i = N.1 5 i ∧ upto (N.1 5 i) 255
/-- reasons; what the last reading said -/
def fRel (M N : ev_Mem) : Prop := (∀ i, i < 3 → M.1 117 i = N.1 3 i ∧ upto (N.1 3 i) 9999) ∧
  ((M.1 81 2 = 0 ∧ N.1 0 6 = -1 ∧ N.1 0 7 = -1) ∨ (M.1 81 2 = 1 ∧ M.1 81 3 = N.1 0 6 ∧ M.1 81 4 = N.1 0 7))
/-- the model's memories that are alike in all that lasts -/
def pe (N N2 : ev_Mem) : Prop := (N.1 1 = N2.1 1 ∧ N.1 2 = N2.1 2 ∧ N.1 3 = N2.1 3 ∧ N.1 4 = N2.1 4 ∧ N.1 5 = N2.1 5) ∧ N.1 0 5 = N2.1 0 5 ∧ N.1 0 6 = N2.1 0 6 ∧ N.1 0 7 = N2.1 0 7
theorem pe.rf {N : ev_Mem} : pe N N := ⟨⟨rfl, rfl, rfl, rfl, rfl⟩, rfl, rfl, rfl⟩
theorem pe.sy {N N2 : ev_Mem} (h : pe N N2) : pe N2 N := ⟨⟨h.1.1.symm, h.1.2.1.symm, h.1.2.2.1.symm, h.1.2.2.2.1.symm, h.1.2.2.2.2.symm⟩, h.2.1.symm, h.2.2.1.symm, h.2.2.2.symm⟩
theorem pe.tr {N N2 N3 : ev_Mem} (h : pe N N2) (k : pe N2 N3) : pe N N3 := ⟨⟨h.1.1.trans k.1.1, h.1.2.1.trans k.1.2.1, h.1.2.2.1.trans k.1.2.2.1, h.1.2.2.2.1.trans k.1.2.2.2.1, h.1.2.2.2.2.trans k.1.2.2.2.2⟩, h.2.1.trans k.2.1, h.2.2.1.trans k.2.2.1, h.2.2.2.trans k.2.2.2⟩
theorem tRel.pe {M N N2 : ev_Mem} (h : pe N N2) (k : tRel M N) : tRel M N2 := by
  obtain ⟨n, h1, h2, h3, h4⟩ := k
  exact ⟨n, h1, h2, by rw [← h.2.1]; exact h3, fun i hi => by rw [← h.1.2.2.2.2]; exact h4 i hi⟩
theorem fRel.pe {M N N2 : ev_Mem} (h : pe N N2) (k : fRel M N) : fRel M N2 := by
  refine ⟨fun i hi => by rw [← h.1.2.2.1]; exact k.1 i hi, ?_⟩
  rw [← h.2.2.1, ← h.2.2.2]
  exact k.2
/-- cells that the relation reads of the class: alike in two memories -/
def xe (M M2 : ev_Mem) : Prop := (∀ k, k < 82 → M.1 k = M2.1 k) ∧ ∀ k, 100 ≤ k → k < 118 → M.1 k = M2.1 k
theorem xe.rf {M : ev_Mem} : xe M M := ⟨fun _ _ => rfl, fun _ _ _ => rfl⟩
theorem xe.tr {M M2 M3 : ev_Mem} (h : xe M M2) (k : xe M2 M3) : xe M M3 := ⟨fun i hi => (h.1 i hi).trans (k.1 i hi), fun i h1 h2 => (h.2 i h1 h2).trans (k.2 i h1 h2)⟩
theorem xe.sy {M M2 : ev_Mem} (h : xe M M2) : xe M2 M := ⟨fun i hi => (h.1 i hi).symm, fun i h1 h2 => (h.2 i h1 h2).symm⟩
