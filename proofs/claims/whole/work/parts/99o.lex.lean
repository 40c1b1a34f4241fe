/-! the tokens of a tape: where they begin and end, of which sort they are -/
section
variable {d : Nat} {M : ev_Mem}
theorem qJ0_charAt {i : Nat} (hi : i < 15) {x : Int32} (hx : vp_in x (sxl i)) : Cl LX (d + 3) mJ0_charAt_5068e [.ref (1010 + i), .int x] M (ev_R (some (.int (nI (sxc i x.toNatClampNeg)))) M) := by
  have h1 := ev_lt hx
  have hl := sxl_lt hi
  obtain ⟨j, hj, rfl⟩ := nI_of (x := x) (fun z => hx (Or.inl z))
  rw [nI_clamp hj] at h1 ⊢
  exact kJ0_charAt hi h1
def isL (n : Nat) : Bool := (decide (97 ≤ n) && decide (n ≤ 122)) || (decide (65 ≤ n) && decide (n ≤ 90))
def isD (n : Nat) : Bool := decide (48 ≤ n) && decide (n ≤ 57)
def isS (n : Nat) : Bool := [35, 40, 41, 42, 43, 44, 45, 47, 59, 60, 61, 62].contains n
def soN (n : Nat) : Nat := if isL n = true then 1 else if isD n = true then 2 else if isS n = true then n else 3
def soI (x : Int32) : Int32 := nI (soN x.toNatClampNeg)
theorem soN_lt : ∀ n, n < 256 → soN n < 256 := by decide +kernel
theorem soI_n {n : Nat} (h : n < 256) : soI (nI n) = nI (soN n) := by unfold soI; rw [nI_clamp (by omega)]
theorem so_a : ∀ n, n < 256 → ¬ nI n < 97 → nI n ≤ 122 → soN n = 1 := by decide +kernel
theorem so_b : ∀ n, n < 256 → ¬ nI n < 65 → ¬ 90 < nI n → soN n = 1 := by decide +kernel
theorem so_c : ∀ n, n < 256 → ¬ nI n < 48 → ¬ 57 < nI n → soN n = 2 := by decide +kernel
def sgq (x : Int32) : Bool := decide (x = 35 ∨ x = 40 ∨ x = 41 ∨ x = 42 ∨ x = 43 ∨ x = 44 ∨ x = 45 ∨ x = 47 ∨ x = 59 ∨ x = 60 ∨ x = 61 ∨ x = 62)
theorem so_d : ∀ n, n < 256 → sgq (nI n) = true → soN n = n := by decide +kernel
theorem so_e : ∀ n, n < 256 → isL n = false → isD n = false → sgq (nI n) = false → soN n = 3 := by decide +kernel
theorem so_l1 : ∀ n, n < 256 → nI n < 97 → (nI n < 65 ∨ 90 < nI n) → isL n = false := by decide +kernel
theorem so_l2 : ∀ n, n < 256 → ¬ nI n ≤ 122 → (nI n < 65 ∨ 90 < nI n) → isL n = false := by decide +kernel
theorem so_d1 : ∀ n, n < 256 → (nI n < 48 ∨ 57 < nI n) → isD n = false := by decide +kernel
theorem kX4_sortOf {x : Int32} (h : upto x 255) : Cl LX d mX4_sortOf [.int x] M (ev_R (some (.int (soI x))) M) := by
  obtain ⟨n, hn, rfl⟩ := h
  have hn : n < 256 := by omega
  rw [soI_n hn]
  have sn : ∀ {z : Bool}, ¬ (nI n = 35) ∧ ¬ (nI n = 40) ∧ ¬ (nI n = 41) ∧ ¬ (nI n = 42) ∧ ¬ (nI n = 43) ∧ ¬ (nI n = 44) ∧ ¬ (nI n = 45) ∧ ¬ (nI n = 47) ∧ ¬ (nI n = 59) ∧ ¬ (nI n = 60) ∧ ¬ (nI n = 61) ∧ ¬ (nI n = 62) → sgq (nI n) = false := fun {z} q => decide_eq_false (fun y => by
    obtain ⟨q1, q2, q3, q4, q5, q6, q7, q8, q9, q10, q11, q12⟩ := q
    rcases y with y | y | y | y | y | y | y | y | y | y | y | y <;> contradiction)
  have s26 : isL n = false → Ev LX d mX4_sortOf 26 [some (.int (nI n))] [] M (ev_R (some (.int (nI (soN n)))) M) := fun hL => by
    refine gX4_sortOf_26 ⟨fun a => ⟨fun b => ⟨by rw [so_d n hn (decide_eq_true b)], rfl⟩, fun b => ⟨by rw [so_e n hn hL (so_d1 n hn (Or.inl a)) (sn (z := true) b)]; rfl, rfl⟩⟩, fun a => ⟨fun c => ⟨fun b => ⟨by rw [so_d n hn (decide_eq_true b)], rfl⟩, fun b => ⟨by rw [so_e n hn hL (so_d1 n hn (Or.inr c)) (sn (z := true) b)]; rfl, rfl⟩⟩, fun c => ⟨by rw [so_c n hn a c]; rfl, rfl⟩⟩⟩
  have s12 : (nI n < 97 ∨ ¬ nI n ≤ 122) → Ev LX d mX4_sortOf 12 [some (.int (nI n))] [] M (ev_R (some (.int (nI (soN n)))) M) := fun h0 => by
    have hL : (nI n < 65 ∨ 90 < nI n) → isL n = false := fun y => by
      rcases h0 with z | z
      · exact so_l1 n hn z y
      · exact so_l2 n hn z y
    exact gX4_sortOf_12 ⟨fun a => s26 (hL (Or.inl a)), fun a => ⟨fun b => s26 (hL (Or.inr b)), fun b => ⟨by rw [so_b n hn a b]; rfl, rfl⟩⟩⟩
  exact Cl_of rfl (Nat.le_of_ble_eq_true rfl) rfl (gX4_sortOf_0 ⟨fun a => s12 (Or.inl a), fun a => ⟨fun b => ⟨by rw [so_a n hn a b]; rfl, rfl⟩, fun b => s12 (Or.inr b)⟩⟩)
/-- the model's questions of a byte -/
def ltq (x : Int32) : Bool := (decide (97 ≤ x) && decide (x ≤ 122)) || (decide (65 ≤ x) && decide (x ≤ 90))
theorem kX11_isFigure {x : Int32} : Cl LM d mX11_isFigure [.int x] M (ev_R (some (.int (bi (iin x 48 57)))) M) := by
  unfold iin
  refine Cl_of rfl (Nat.le_of_ble_eq_true rfl) rfl (gX11_isFigure_0 ⟨fun a => ⟨?_, rfl⟩, fun a => ⟨fun b => ⟨?_, rfl⟩, fun b => ⟨?_, rfl⟩⟩⟩)
  · rw [decide_eq_false (fun y => I_nlt.mpr y a)]; rfl
  · rw [decide_eq_false (p := x ≤ 57) (fun y => I_nlt.mpr y b), Bool.and_false]; rfl
  · rw [decide_eq_true (I_nlt.mp a), decide_eq_true (I_nlt.mp b)]; rfl
theorem kX11_isLetterByte {x : Int32} : Cl LM d mX11_isLetterByte [.int x] M (ev_R (some (.int (bi (ltq x)))) M) := by
  unfold ltq
  have f1 : x < 97 → decide ((97 : Int32) ≤ x) = false := fun a => decide_eq_false (fun y => I_nlt.mpr y a)
  have f2 : ¬ x ≤ 122 → decide (x ≤ 122) = false := fun a => decide_eq_false a
  have f3 : x < 65 → decide ((65 : Int32) ≤ x) = false := fun a => decide_eq_false (fun y => I_nlt.mpr y a)
  have f4 : 90 < x → decide (x ≤ 90) = false := fun a => decide_eq_false (fun y => I_nlt.mpr y a)
  refine Cl_of rfl (Nat.le_of_ble_eq_true rfl) rfl (gX11_isLetterByte_0 ⟨fun a => ⟨fun b => ⟨?_, rfl⟩, fun b => ⟨fun c => ⟨?_, rfl⟩, fun c => ⟨?_, rfl⟩⟩⟩, fun a => ⟨fun b => ⟨?_, rfl⟩, fun b => ⟨fun c => ⟨?_, rfl⟩, fun c => ⟨fun e => ⟨?_, rfl⟩, fun e => ⟨?_, rfl⟩⟩⟩⟩⟩)
  · rw [f1 a, f3 b]; rfl
  · rw [f1 a, f4 c, Bool.and_false]; rfl
  · rw [f1 a, decide_eq_true (I_nlt.mp b), decide_eq_true (I_nlt.mp c)]; rfl
  · rw [decide_eq_true (I_nlt.mp a), decide_eq_true b]; rfl
  · rw [f2 b, f3 c, Bool.and_false]; rfl
  · rw [f2 b, f4 e, Bool.and_false, Bool.and_false]; rfl
  · rw [decide_eq_true (I_nlt.mp c), decide_eq_true (I_nlt.mp e), Bool.true_and, Bool.or_true]; rfl
theorem kX11_isSign {x : Int32} : Cl LM d mX11_isSign [.int x] M (ev_R (some (.int (bi (sgq x)))) M) := by
  refine Cl_of rfl (Nat.le_of_ble_eq_true rfl) rfl (gX11_isSign_0 ⟨fun a => ⟨by unfold sgq; rw [decide_eq_true a]; rfl, rfl⟩, fun q => ⟨?_, rfl⟩⟩)
  obtain ⟨q1, q2, q3, q4, q5, q6, q7, q8, q9, q10, q11, q12⟩ := q
  unfold sgq
  rw [decide_eq_false (fun y => by rcases y with y | y | y | y | y | y | y | y | y | y | y | y <;> contradiction)]; rfl
theorem ltq_n : ∀ n, n < 256 → ltq (nI n) = isL n := by decide +kernel
theorem fig_n : ∀ n, n < 256 → iin (nI n) 48 57 = isD n := by decide +kernel
theorem sgq_n : ∀ n, n < 256 → sgq (nI n) = isS n := by decide +kernel
/-- going on while q holds -/
def rnF (q : Nat → Bool) (n : Nat) : Nat → Nat → Nat
  | 0, p => p
  | k + 1, p => if p < n ∧ q p = true then rnF q n k (p + 1) else p
def rn (q : Nat → Bool) (n p : Nat) : Nat := rnF q n (n - p) p
theorem rn_s {q : Nat → Bool} {n p : Nat} (h : p < n) (hq : q p = true) : rn q n p = rn q n (p + 1) := by
  unfold rn
  rw [show n - p = (n - (p + 1)) + 1 by omega, rnF, if_pos ⟨h, hq⟩]
theorem rn_e {q : Nat → Bool} {n p : Nat} (h : ¬ (p < n ∧ q p = true)) : rn q n p = p := by
  unfold rn
  cases e : n - p with
  | zero => rfl
  | succ k => rw [rnF, if_neg h]
theorem rnF_le {q : Nat → Bool} {n : Nat} : ∀ k p, p ≤ rnF q n k p ∧ rnF q n k p ≤ p + k
  | 0, p => ⟨Nat.le_refl _, Nat.le_refl _⟩
  | k + 1, p => by
    rw [rnF]
    split
    · have := rnF_le (q := q) (n := n) k (p + 1)
      omega
    · omega
theorem rn_le {q : Nat → Bool} {n p : Nat} (h : p ≤ n) : p ≤ rn q n p ∧ rn q n p ≤ n := by
  have := rnF_le (q := q) (n := n) (n - p) p
  unfold rn
  omega
theorem rnF_ok {q : Nat → Bool} {n : Nat} : ∀ k p, n ≤ p + k → (rnF q n k p < n → q (rnF q n k p) = false) ∧ ∀ i, p ≤ i → i < rnF q n k p → q i = true
  | 0, p, h => ⟨fun z => by rw [rnF] at z; omega, fun i h1 h2 => by rw [rnF] at h2; omega⟩
  | k + 1, p, h => by
    rw [rnF]
    split
    · rename_i hc
      have := rnF_ok (q := q) (n := n) k (p + 1) (by omega)
      refine ⟨this.1, fun i h1 h2 => ?_⟩
      by_cases e : i = p
      · rw [e]; exact hc.2
      · exact this.2 i (by omega) h2
    · rename_i hc
      refine ⟨fun z => ?_, fun i h1 h2 => by omega⟩
      cases e : q p with
      | false => rfl
      | true => exact absurd ⟨z, e⟩ hc
theorem rn_ok {q : Nat → Bool} {n p : Nat} : (rn q n p < n → q (rn q n p) = false) ∧ ∀ i, p ≤ i → i < rn q n p → q i = true := rnF_ok (n - p) p (by omega)
/-- where a token begins, its sort, where it ends -/
def skp (b : Nat → Nat) (n p : Nat) : Nat := rn (fun i => b i == 32 || b i == 10) n p
def two (b : Nat → Nat) (n s : Nat) : Prop := (b s = 60 ∨ b s = 62) ∧ s + 1 < n ∧ b (s + 1) = 61
def srt (b : Nat → Nat) (n s : Nat) : Nat := if n ≤ s then 0 else if ((b s == 60 || b s == 62) && (decide (s + 1 < n) && b (s + 1) == 61)) = true then (if b s = 60 then 4 else 5) else soN (b s)
def nxt (b : Nat → Nat) (n s : Nat) : Nat := if n ≤ s then s else if soN (b s) = 1 then rn (fun i => soN (b i) == 1) n (s + 1) else if soN (b s) = 2 then rn (fun i => soN (b i) == 2) n (s + 1) else if ((b s == 60 || b s == 62) && (decide (s + 1 < n) && b (s + 1) == 61)) = true then s + 2 else s + 1
theorem skp_le {b : Nat → Nat} {n p : Nat} (h : p ≤ n) : p ≤ skp b n p ∧ skp b n p ≤ n := rn_le h
theorem nxt_le {b : Nat → Nat} {n s : Nat} (h : s ≤ n) : s ≤ nxt b n s ∧ nxt b n s ≤ n ∧ (s < n → s < nxt b n s) := by
  unfold nxt
  split
  · omega
  · split
    · have := rn_le (q := fun i => soN (b i) == 1) (n := n) (p := s + 1) (by omega); omega
    · split
      · have := rn_le (q := fun i => soN (b i) == 2) (n := n) (p := s + 1) (by omega); omega
      · split
        · rename_i z
          simp only [Bool.and_eq_true, decide_eq_true_eq] at z
          omega
        · omega
end
