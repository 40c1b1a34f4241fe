/-! small helpers: booleans as ints, ranges, normal forms of ints -/
theorem ev_lt {i : Int32} {n : Nat} (h : vp_in i n) : i.toNatClampNeg < n := Nat.not_le.mp fun q => h (Or.inr q)
theorem ev_mkT {i : Int32} (h : vp_in i 4) : ev_isT (61 + 5 * i.toNatClampNeg) := ⟨_, ev_lt h, rfl⟩
/-- a boolean as an int -/
def bi (b : Bool) : Int32 := if b = true then 1 else 0
theorem bi_t : bi true = 1 := rfl
theorem bi_f : bi false = 0 := rfl
theorem bi_0 (b : Bool) : bi b = 0 ↔ b = false := by cases b <;> decide
theorem bi_n0 (b : Bool) : ¬ bi b = 0 ↔ b = true := by cases b <;> decide
theorem bi_1 (b : Bool) : bi b = 1 ↔ b = true := by cases b <;> decide
theorem bi_nar (b : Bool) : narrow .boolean (.int (bi b)) = .int (bi b) := by cases b <;> rfl
theorem bi_fit (b : Bool) : fits .boolean (.int (bi b)) = true := by cases b <;> rfl
theorem bi_vn (b : Bool) : vp_nar .boolean (bi b) = bi b := by cases b <;> rfl
/-- a range -/
def iin (x lo hi : Int32) : Bool := decide (lo ≤ x) && decide (x ≤ hi)
theorem iin_t {x lo hi : Int32} : iin x lo hi = true ↔ lo ≤ x ∧ x ≤ hi := by simp [iin]
theorem iin_f {x lo hi : Int32} : iin x lo hi = false ↔ ¬ (lo ≤ x ∧ x ≤ hi) := by
  rw [← iin_t, Bool.not_eq_true]
/-- a bit of a set -/
def hs (s l : Int32) : Bool := !decide (((s >>> (l &&& 31)) &&& 1) = 0)
/-- literals as nI -/
theorem nl (n : Nat) : (OfNat.ofNat n : Int32) = nI (OfNat.ofNat n) := rfl
theorem nl_m1 (n : Nat) : nI (n + 1) + (-1) = nI n := pk_m1 n
theorem I_lt {a b : Int32} : a < b ↔ a.toInt < b.toInt := Int32.lt_iff_toInt_lt
theorem I_le {a b : Int32} : a ≤ b ↔ a.toInt ≤ b.toInt := Int32.le_iff_toInt_le
theorem I_eq {a b : Int32} : a = b ↔ a.toInt = b.toInt := Int32.toInt_inj.symm
theorem I_nlt {a b : Int32} : ¬ a < b ↔ b ≤ a := by rw [I_lt, I_le]; omega
theorem I_nle {a b : Int32} : ¬ a ≤ b ↔ b < a := by rw [I_lt, I_le]; omega
theorem I_0 : (0 : Int32).toInt = 0 := rfl
theorem I_m1 : (-1 : Int32).toInt = -1 := rfl
theorem iin_N {x : Int32} {n : Nat} (hn : n < 2 ^ 31) : iin x 0 (nI n - 1) = true ↔ ∃ j, j < n ∧ x = nI j := by
  rw [iin_t]
  constructor
  · intro ⟨h1, h2⟩
    obtain ⟨j, hj, rfl⟩ := nI_of (x := x) (by rw [I_lt, I_0]; rw [I_le, I_0] at h1; omega)
    refine ⟨j, ?_, rfl⟩
    rw [I_le, nI_toInt hj] at h2
    cases n with
    | zero => rw [show nI 0 - 1 = (-1 : Int32) from rfl, I_m1] at h2; omega
    | succ n => rw [nI_pred, nI_toInt (by omega)] at h2; omega
  · rintro ⟨j, hj, rfl⟩
    cases n with
    | zero => omega
    | succ n => rw [nI_pred]; exact ⟨nI_pos' (by omega), nI_le (by omega) (by omega)⟩
theorem iin_lit {x : Int32} (m : Nat) (hm : m < 2 ^ 31) : iin x 0 (nI m) = true ↔ ∃ j, j ≤ m ∧ x = nI j := by
  rw [iin_t]
  constructor
  · intro ⟨h1, h2⟩
    obtain ⟨j, hj, rfl⟩ := nI_of (x := x) (by rw [I_lt, I_0]; rw [I_le, I_0] at h1; omega)
    exact ⟨j, (nI_leI hj hm).mp h2, rfl⟩
  · rintro ⟨j, hj, rfl⟩
    exact ⟨nI_pos' (by omega), nI_le hj hm⟩
theorem wr_same {M : ev_Mem} {k j : Nat} {v : Int32} : (ev_wr M k j v).1 k j = v := ev_wr_s M k j v
theorem wr_ne {M : ev_Mem} {k j a b : Nat} {v : Int32} (h : ¬ (a = k ∧ b = j)) : (ev_wr M k j v).1 a b = M.1 a b := if_neg h
theorem wr_cell {M : ev_Mem} {k j a : Nat} {v : Int32} (h : a ≠ k) : (ev_wr M k j v).1 a = M.1 a := funext fun b => if_neg (fun q => h q.1)
theorem wr_row {M : ev_Mem} {k j : Nat} {v : Int32} : (ev_wr M k j v).1 k = upd (M.1 k) j v := (ev_up M k j v).symm
theorem wr_two {M : ev_Mem} {k j : Nat} {v : Int32} : (ev_wr M k j v).2 = M.2 := rfl
theorem wr_idem {M : ev_Mem} {k j : Nat} : ev_wr M k j (M.1 k j) = M := by
  refine Prod.ext (funext fun a => funext fun b => ?_) rfl
  show (if a = k ∧ b = j then M.1 k j else M.1 a b) = M.1 a b
  by_cases h : a = k ∧ b = j
  · rw [if_pos h, h.1, h.2]
  · rw [if_neg h]
theorem ev_iaN {L : List ev_C} {d : Nat} {y : ev_Y} {pc : Nat} {ls : List (Option Value)} {st : List Value} {M : ev_Mem} {Q : Option Value → ev_Mem → Prop} {k n j : Nat} {kid : Nat → Nat} {i : Int32} (hd : decode y.2.1 pc = .ok (.iaload, 1)) (hL : L[k]? = some (.inl (0, n, 0, kid))) (hi : i = nI j ∧ j < 2 ^ 31) (hj : j < n) (kk : Ev L d y (pc + 1) ls (.int (M.1 k j) :: st) M Q) : Ev L d y pc ls (.int i :: .ref k :: st) M Q := by
  obtain ⟨rfl, h⟩ := hi
  refine ev_iald hd hL (fun q => q.elim (nI_pos h) (fun q => by rw [nI_clamp h] at q; omega)) ?_
  rw [nI_clamp h]
  exact kk
theorem ev_isN {L : List ev_C} {d : Nat} {y : ev_Y} {pc : Nat} {ls : List (Option Value)} {st : List Value} {M : ev_Mem} {Q : Option Value → ev_Mem → Prop} {k n j : Nat} {kid : Nat → Nat} {i v : Int32} (hd : decode y.2.1 pc = .ok (.iastore, 1)) (hL : L[k]? = some (.inl (0, n, 0, kid))) (hi : i = nI j ∧ j < 2 ^ 31) (hj : j < n) (kk : Ev L d y (pc + 1) ls st (ev_wr M k j v) Q) : Ev L d y pc ls (.int v :: .int i :: .ref k :: st) M Q := by
  obtain ⟨rfl, h⟩ := hi
  refine ev_iast hd hL (fun q => q.elim (nI_pos h) (fun q => by rw [nI_clamp h] at q; omega)) ?_
  rw [nI_clamp h]
  exact kk
