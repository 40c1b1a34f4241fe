/-! NUMBERS OF LAWS: as ints and as longs -/
section
def bdd (x : Int32) : Prop := -1000000 ≤ x.toInt ∧ x.toInt ≤ 1000000
theorem bm32 {a : Int} (h1 : -1000000 ≤ a) (h2 : a ≤ 1000000) : a.bmod (2 ^ 32) = a := by
  unfold Int.bmod
  simp only
  split <;> omega
theorem bm64 {a : Int} (h1 : -1000000 ≤ a) (h2 : a ≤ 1000000) : a.bmod (2 ^ 64) = a := by
  unfold Int.bmod
  simp only
  split <;> omega
theorem clp_b (w : Int64) : -1000000 ≤ (clp w).toInt ∧ (clp w).toInt ≤ 1000000 := by
  have e1 : (1000000 : Int64).toInt = 1000000 := by decide
  have e2 : (-1000000 : Int64).toInt = -1000000 := by decide
  unfold clp
  split
  · rename_i z
    rw [fa_le64, e1] at z
    split
    · rename_i z2
      rw [fa_le64, e2] at z2
      exact ⟨z2, z⟩
    · rw [e2]; omega
  · rw [e1]; omega
theorem clp_i (w : Int64) : (clp w).toInt32.toInt = (clp w).toInt := by
  have h := clp_b w
  rw [Int64.toInt_toInt32]
  exact bm32 h.1 h.2
theorem clp_32 (w : Int64) : (clp w).toInt32.toInt64 = clp w := by
  rw [fa_eq64, Int32.toInt_toInt64, clp_i]
theorem clp_bd (w : Int64) : bdd (clp w).toInt32 := by
  unfold bdd
  rw [clp_i]
  exact clp_b w
theorem td_b {a c : Int} (h1 : -1000000 ≤ a) (h2 : a ≤ 1000000) : -1000000 ≤ a.tdiv c ∧ a.tdiv c ≤ 1000000 := by
  have h := Int.natAbs_tdiv a c
  have h3 : (a.tdiv c).natAbs ≤ a.natAbs := by rw [h]; exact Nat.div_le_self _ _
  omega
theorem div_w {x z : Int32} (h : bdd x) : (x / z).toInt64 = x.toInt64 / z.toInt64 := by
  have t := td_b (c := z.toInt) h.1 h.2
  rw [fa_eq64, Int32.toInt_toInt64, Int32.toInt_div, Int64.toInt_div, Int32.toInt_toInt64, Int32.toInt_toInt64, bm32 t.1 t.2, bm64 t.1 t.2]
theorem neg_w {x : Int32} (h : bdd x) : (-x).toInt64 = -x.toInt64 ∧ bdd (-x) := by
  have hx : (-x).toInt = -x.toInt := by
    rw [Int32.toInt_neg]
    exact bm32 (by have := h.2; omega) (by have := h.1; omega)
  refine ⟨?_, ?_⟩
  · rw [fa_eq64, Int32.toInt_toInt64, hx, Int64.toInt_neg, Int32.toInt_toInt64]
    exact (bm64 (by have := h.2; omega) (by have := h.1; omega)).symm
  · unfold bdd; rw [hx]; have := h.1; have := h.2; omega
theorem nI_toI {n : Nat} (h : n < 2 ^ 31) : (nI n).toInt = n := by
  first | exact fa_int h | exact nI_toInt h | exact pk_toInt h
theorem upto_bd {x : Int32} {m : Nat} (h : upto x m) (hm : m ≤ 1000000) : bdd x := by
  obtain ⟨c, hc, rfl⟩ := h
  unfold bdd
  rw [nI_toI (by omega)]
  omega
theorem us_w {us : Nat → Int32} {x : Int32} : (if iin x 0 25 = true then us x.toNatClampNeg else 0).toInt64 = usM us x.toInt64 := by
  unfold usM
  have e : (0 ≤ x.toInt64 ∧ x.toInt64 < 26) ↔ iin x 0 25 = true := by
    unfold iin
    rw [show (0 : Int64) = (0 : Int32).toInt64 from rfl, show (26 : Int64) = (26 : Int32).toInt64 from rfl, fa_wide_le, fa_wide_lt]
    simp only [Bool.and_eq_true, decide_eq_true_eq, fa_le, fa_lt]
    have e0 : (0 : Int32).toInt = 0 := by decide
    have e1 : (25 : Int32).toInt = 25 := by decide
    have e2 : (26 : Int32).toInt = 26 := by decide
    rw [e0, e1, e2]
    omega
  by_cases z : iin x 0 25 = true
  · rw [if_pos z, if_pos (e.mpr z), Int32.toInt32_toInt64]
  · rw [if_neg z, if_neg (fun h => z (e.mp h))]; rfl
/-- the class's operations beside the model's -/
def opC (m : Nat) : Nat := if m = 5 then 8 else if m = 6 then 9 else if m = 7 then 10 else if m = 8 then 11 else if m = 10 then 12 else if m = 11 then 13 else if m = 12 then 14 else if m = 13 then 15 else if m = 14 then 16 else if m = 15 then 17 else if m = 21 then 18 else 19
theorem bin_v {m : Nat} {x z : Int32} (hm : m = 5 ∨ m = 6 ∨ m = 7 ∨ m = 8) (hx : bdd x) : (clp (jn (nI (opC m)) x z)).toInt32.toInt64 = tw (nI m) x.toInt64 z.toInt64 := by
  rw [clp_32]
  rcases hm with rfl | rfl | rfl | rfl
  · rfl
  · rfl
  · rfl
  · show clp (if z = 0 then 0 else (x / z).toInt64) = if z.toInt64 = 0 then 0 else clp (x.toInt64 / z.toInt64)
    by_cases q : z = 0
    · rw [if_pos q, q, if_pos (by rfl)]; rfl
    · rw [if_neg q, if_neg (show ¬ z.toInt64 = 0 from fun e => q ((fa_wide_eq z 0).mp e)), div_w hx]
theorem cl01 (c : Bool) : (clp (if c = true then 1 else 0)).toInt32 = bi c := by cases c <;> decide
theorem cmp_v {m : Nat} {x z : Int32} (hm : 10 ≤ m ∧ m ≤ 15) : (clp (jn (nI (opC m)) x z)).toInt32 = bi (asq (nI m) x.toInt64 z.toInt64) := by
  have k1 : ∀ {p : Prop} (c : Bool) (_ : Decidable p), (p ↔ c = false) → (clp (if p then 0 else 1)).toInt32 = bi c := by
    intro p c dp h
    cases c with
    | true => rw [if_neg (fun z => by have := h.mp z; cases this)]; decide
    | false => rw [if_pos (h.mpr rfl)]; decide
  have k2 : ∀ {p : Prop} (c : Bool) (_ : Decidable p), (p ↔ c = true) → (clp (if p then 1 else 0)).toInt32 = bi c := by
    intro p c dp h
    cases c with
    | true => rw [if_pos (h.mpr rfl)]; decide
    | false => rw [if_neg (fun z => by have := h.mp z; cases this)]; decide
  obtain ⟨h1, h2⟩ := hm
  have : m = 10 ∨ m = 11 ∨ m = 12 ∨ m = 13 ∨ m = 14 ∨ m = 15 := by omega
  rcases this with rfl | rfl | rfl | rfl | rfl | rfl
  · show (clp (if z ≤ x then 0 else 1)).toInt32 = bi (decide (x.toInt64 < z.toInt64))
    exact k1 _ _ (by rw [decide_eq_false_iff_not, fa_wide_lt, fa_le, fa_lt]; omega)
  · show (clp (if z < x then 0 else 1)).toInt32 = bi (decide (x.toInt64 ≤ z.toInt64))
    exact k1 _ _ (by rw [decide_eq_false_iff_not, fa_wide_le, fa_le, fa_lt]; omega)
  · show (clp (if x ≤ z then 0 else 1)).toInt32 = bi (decide (z.toInt64 < x.toInt64))
    exact k1 _ _ (by rw [decide_eq_false_iff_not, fa_wide_lt, fa_le, fa_lt]; omega)
  · show (clp (if x < z then 0 else 1)).toInt32 = bi (decide (z.toInt64 ≤ x.toInt64))
    exact k1 _ _ (by rw [decide_eq_false_iff_not, fa_wide_le, fa_le, fa_lt]; omega)
  · show (clp (if x = z then 1 else 0)).toInt32 = bi (decide (x.toInt64 = z.toInt64))
    exact k2 _ _ (by rw [decide_eq_true_iff, fa_wide_eq])
  · show (clp (if x = z then 0 else 1)).toInt32 = bi (!decide (x.toInt64 = z.toInt64))
    exact k1 _ _ (by rw [Bool.not_eq_false', decide_eq_true_iff, fa_wide_eq])
theorem con_v {m : Nat} {x z : Bool} (hm : m = 21 ∨ m = 22) : (clp (jn (nI (opC m)) (bi x) (bi z))).toInt32 = bi (jnb (nI m) (bi x) (bi z)) := by
  rcases hm with rfl | rfl <;> cases x <;> cases z <;> decide +kernel
/-- an operation and its number in one -/
def enc (o x : Nat) : Int32 := nI o ||| (nI x <<< (5 &&& 31))
theorem enc_0 : ∀ a, a < 100 → ∀ c, c < 100 → enc 1 (100 * a + c) &&& 31 = 1 ∧ enc 1 (100 * a + c) >>> (5 &&& 31) = nI (100 * a + c) := by decide +kernel
theorem enc_1 {x : Nat} (h : x < 10000) : enc 1 x &&& 31 = 1 ∧ enc 1 x >>> (5 &&& 31) = nI x := by
  have := enc_0 (x / 100) (by omega) (x % 100) (by omega)
  rwa [show 100 * (x / 100) + x % 100 = x by omega] at this
theorem enc_2 : ∀ x, x < 512 → (enc 2 x &&& 31 = 2 ∧ enc 2 x >>> (5 &&& 31) = nI x) ∧ (enc 6 x &&& 31 = 6 ∧ enc 6 x >>> (5 &&& 31) = nI x) ∧ (enc 7 x &&& 31 = 7 ∧ enc 7 x >>> (5 &&& 31) = nI x) := by decide +kernel
theorem op_32 : ∀ o, o < 32 → nI o &&& 31 = nI o := by decide +kernel
end
