/-! contracts of the leaves -/
section
variable {d : Nat} {M : ev_Mem}
theorem ok_res {r0 : Option Value} {a b : Int32} {M0 : ev_Mem} (h : a = b) (hr : r0 = some (.int b)) : ev_R r0 M0 (some (.int a)) M0 := ⟨by rw [hr, h], rfl⟩
theorem hs_0 {s l : Int32} : hs s l = false ↔ ((s >>> (l &&& 31)) &&& 1) = 0 := by simp [hs]
theorem hs_1 {s l : Int32} : hs s l = true ↔ ¬ ((s >>> (l &&& 31)) &&& 1) = 0 := by simp [hs]
theorem and1 (x : Int32) : x &&& 1 = 0 ∨ x &&& 1 = 1 := by
  obtain ⟨j, hj, e⟩ := pk_andE x (m := 1) 1 rfl
  rw [e]
  match j, hj with
  | 0, _ => exact Or.inl rfl
  | 1, _ => exact Or.inr rfl
  | j + 2, h => exact absurd h (by omega)
theorem kX10_has {x y : Int32} : Cl LX d mX10_has [.int x, .int y] M (ev_R (some (.int (bi (hs x y)))) M) :=
  Cl_of rfl (Nat.le_of_ble_eq_true rfl) rfl (gX10_has_0 ⟨fun h => ⟨by rw [hs_0.mpr h, bi_f], rfl⟩, fun h => ⟨by rw [hs_1.mpr h, bi_t], rfl⟩⟩)
theorem kX11_has {x y : Int32} : Cl LM d mX11_has [.int x, .int y] M (ev_R (some (.int (bi (hs x y)))) M) :=
  Cl_of rfl (Nat.le_of_ble_eq_true rfl) rfl (gX11_has_0 ⟨fun h => ⟨by rw [hs_0.mpr ((and1 _).resolve_right h), bi_f], rfl⟩, fun h => ⟨by rw [hs_1.mpr (fun q => by rw [h] at q; revert q; decide), bi_t], rfl⟩⟩)
theorem kX11_isIn {x lo hi : Int32} : Cl LM d mX11_isIn [.int x, .int lo, .int hi] M (ev_R (some (.int (bi (iin x lo hi)))) M) :=
  Cl_of rfl (Nat.le_of_ble_eq_true rfl) rfl (gX11_isIn_0 ⟨fun h => ⟨by rw [iin_f.mpr (fun q => I_nlt.mpr q.1 h), bi_f], rfl⟩, fun h => ⟨fun h2 => ⟨by rw [iin_f.mpr (fun q => I_nlt.mpr q.2 h2), bi_f], rfl⟩, fun h2 => ⟨by rw [iin_t.mpr ⟨I_nlt.mp h, I_nlt.mp h2⟩, bi_t], rfl⟩⟩⟩)
theorem I_26 {x : Int32} : ¬ 26 ≤ x ↔ x ≤ 25 := by rw [I_le, I_le, show (26 : Int32).toInt = 26 from rfl, show (25 : Int32).toInt = 25 from rfl]; omega
theorem I_12 {x : Int32} : ¬ 12 ≤ x ↔ x ≤ 11 := by rw [I_le, I_le, show (12 : Int32).toInt = 12 from rfl, show (11 : Int32).toInt = 11 from rfl]; omega
theorem kX10_isLetter {x : Int32} : Cl LX d mX10_isLetter [.int x] M (ev_R (some (.int (bi (iin x 0 25)))) M) :=
  Cl_of rfl (Nat.le_of_ble_eq_true rfl) rfl (gX10_isLetter_0 ⟨fun h => ⟨by rw [iin_f.mpr (fun q => I_nlt.mpr q.1 h), bi_f], rfl⟩, fun h => ⟨fun h2 => ⟨by rw [iin_f.mpr (fun q => I_26.mpr q.2 h2), bi_f], rfl⟩, fun h2 => ⟨by rw [iin_t.mpr ⟨I_nlt.mp h, I_26.mp h2⟩, bi_t], rfl⟩⟩⟩)
theorem kX10_isSense {x : Int32} : Cl LX d mX10_isSense [.int x] M (ev_R (some (.int (bi (iin x 0 11)))) M) :=
  Cl_of rfl (Nat.le_of_ble_eq_true rfl) rfl (gX10_isSense_0 ⟨fun h => ⟨by rw [iin_f.mpr (fun q => I_nlt.mpr q.1 h), bi_f], rfl⟩, fun h => ⟨fun h2 => ⟨by rw [iin_f.mpr (fun q => I_12.mpr q.2 h2), bi_f], rfl⟩, fun h2 => ⟨by rw [iin_t.mpr ⟨I_nlt.mp h, I_12.mp h2⟩, bi_t], rfl⟩⟩⟩)
theorem kX10_isSmall {x : Int32} : Cl LX d mX10_isSmall [.int x] M (ev_R (some (.int (bi (iin x 97 122)))) M) :=
  Cl_of rfl (Nat.le_of_ble_eq_true rfl) rfl (gX10_isSmall_0 ⟨fun h => ⟨by rw [iin_f.mpr (fun q => I_nlt.mpr q.1 h), bi_f], rfl⟩, fun h => ⟨fun h2 => ⟨by rw [iin_f.mpr (fun q => I_nlt.mpr q.2 h2), bi_f], rfl⟩, fun h2 => ⟨by rw [iin_t.mpr ⟨I_nlt.mp h, I_nlt.mp h2⟩, bi_t], rfl⟩⟩⟩)
/-- the lower of two -/
def imin (x y : Int32) : Int32 := if y < x then y else x
theorem ev_min {L : List ev_C} {d : Nat} {y : ev_Y} {pc : Nat} {ls : List (Option Value)} {st : List Value} {M : ev_Mem} {Q : Option Value → ev_Mem → Prop} {idx : Nat} {x z : Int32} (hd : decode y.2.1 pc = .ok (.invokestatic idx, 3)) (hw : ev_LS y.1.cls idx mJ9_min_7cf53 2) (h1 : 1 ≤ d) (hst : (st.map fun v => v.category).sum ≤ 8) (k : Ev L d y (pc + 3) ls (.int (imin x z) :: st) M Q) : Ev L d y pc ls (.int z :: .int x :: st) M Q := by
  intro p l e R s m args below meth c H locs D ad ids lsA X hl
  have k2 := k p l e R s m args below meth c H locs D ad ids lsA X hl
  obtain ⟨hx, hb, hr, hml, hown, hts, hlk, ⟨hr1, hr2⟩, hK, hP, hJ, hS, hSt⟩ := X
  obtain ⟨⟨w1, w2, w3, w4⟩, w5, w6⟩ := hw
  have e9 : cJ9_min_7cf53 = Lib.Math.min.code := by decide +kernel
  have w2' : Cond.code yJ9_min_7cf53 Lib.Math.min.code 2 (some .int) ∈ ev_T := e9 ▸ w2
  exact va_mmin hx hb (hml.trans hl.1.symm) hown (hts _ w5) (hts _ w6) (hts _ w1) (hts _ w2') (by omega) (by rw [ev_cats]; omega) (Nat.zero_le _) (Nat.zero_le _) hd k2
/-- the higher of two longs -/
def lmax (x y : Int64) : Int64 := if y < x then x else y
theorem ev_maxL {L : List ev_C} {d : Nat} {y : ev_Y} {pc : Nat} {ls : List (Option Value)} {st : List Value} {M : ev_Mem} {Q : Option Value → ev_Mem → Prop} {idx : Nat} {x z : Int64} (hd : decode y.2.1 pc = .ok (.invokestatic idx, 3)) (hw : ev_LS y.1.cls idx mJ9_max_f86c9 2) (h1 : 1 ≤ d) (hst : (st.map fun v => v.category).sum ≤ 8) (k : Ev L d y (pc + 3) ls (.long (lmax x z) :: st) M Q) : Ev L d y pc ls (.long z :: .long x :: st) M Q := by
  intro p l e R s m args below meth c H locs D ad ids lsA X hl
  have k2 := k p l e R s m args below meth c H locs D ad ids lsA X hl
  obtain ⟨hx, hb, hr, hml, hown, hts, hlk, ⟨hr1, hr2⟩, hK, hP, hJ, hS, hSt⟩ := X
  obtain ⟨⟨w1, w2, w3, w4⟩, w5, w6⟩ := hw
  have e9 : cJ9_max_f86c9 = Lib.MathLoose.max_long.code := by decide +kernel
  have w2' : Cond.code yJ9_max_f86c9 Lib.MathLoose.max_long.code 4 (some .long) ∈ ev_T := e9 ▸ w2
  exact va_mmax_long hx hb (hml.trans hl.1.symm) hown (hts _ w5) (hts _ w6) (hts _ w1) (hts _ w2') (by omega) (by rw [ev_cats]; omega) (Nat.zero_le _) (Nat.zero_le _) hd k2
theorem ev_Rr {r : Option Value} {a b : ev_Mem} : ev_R r a r b ↔ b = a := ⟨fun h => h.2, fun h => ⟨rfl, h⟩⟩
/-- Integer.bitCount as it is written -/
def bc (x0 : Int32) : Int32 :=
  let v1 := x0 - (((x0.toUInt32 >>> (((1 : Int32)).toUInt32 &&& Int32.toUInt32 31)).toInt32) &&& 1431655765)
  let v2 := (v1 &&& 858993459) + (((v1.toUInt32 >>> (((2 : Int32)).toUInt32 &&& Int32.toUInt32 31)).toInt32) &&& 858993459)
  let v3 := (v2 + ((v2.toUInt32 >>> (((4 : Int32)).toUInt32 &&& Int32.toUInt32 31)).toInt32)) &&& 252645135
  let v4 := v3 + ((v3.toUInt32 >>> (((8 : Int32)).toUInt32 &&& Int32.toUInt32 31)).toInt32)
  let v5 := v4 + ((v4.toUInt32 >>> (((16 : Int32)).toUInt32 &&& Int32.toUInt32 31)).toInt32)
  v5 &&& 63
theorem kJ6_bitCount {x : Int32} : Cl LX d mJ6_bitCount_0f7a4 [.int x] M (ev_R (some (.int (bc x))) M) :=
  Cl_of rfl (Nat.le_of_ble_eq_true rfl) rfl (gJ6_bitCount_0f7a4_0 (fun v1 e1 v2 e2 v3 e3 v4 e4 v5 e5 => ⟨by subst e1; subst e2; subst e3; subst e4; subst e5; rfl, rfl⟩))
/-- an array's cells up to i are v -/
def mfl (M : ev_Mem) (k i : Nat) (v : Int32) : ev_Mem := (fun a b => if a = k ∧ b < i then v else M.1 a b, M.2)
theorem mfl_s {M : ev_Mem} {k i : Nat} {v : Int32} : ev_wr (mfl M k i v) k i v = mfl M k (i + 1) v := by
  refine Prod.ext (funext fun a => funext fun b => ?_) rfl
  show (if a = k ∧ b = i then v else if a = k ∧ b < i then v else M.1 a b) = if a = k ∧ b < i + 1 then v else M.1 a b
  by_cases h : a = k
  · by_cases h2 : b = i
    · rw [if_pos ⟨h, h2⟩, if_pos ⟨h, by omega⟩]
    · rw [if_neg (fun q => h2 q.2)]
      by_cases h3 : b < i
      · rw [if_pos ⟨h, h3⟩, if_pos ⟨h, by omega⟩]
      · rw [if_neg (fun q => h3 q.2), if_neg (fun q => by have := q.2; omega)]
  · rw [if_neg (fun q => h q.1), if_neg (fun q => h q.1), if_neg (fun q => h q.1)]
theorem mfl_0 {M : ev_Mem} {k : Nat} {v : Int32} : mfl M k 0 v = M := Prod.ext (funext fun a => funext fun b => if_neg (fun q => by have := q.2; omega)) rfl
theorem kJ7_fill {k n : Nat} {kid : Nat → Nat} {v : Int32} (hk : LX[k]? = some (.inl (0, n, 0, kid))) (hn : n < 2 ^ 31) : Cl LX d mJ7_fill_53178 [.ref k, .int v] M (ev_R none (mfl M k n v)) := by
  refine Cl_of rfl (Nat.le_of_ble_eq_true rfl) rfl (gJ7_fill_53178_0 hk ?_)
  have lp : ∀ (j i : Nat), i + j = n → Ev LX d mJ7_fill_53178 5 [some (.ref k), some (.int v), some (.int (nI i)), some (.int (nI n))] [] (mfl M k i v) (ev_R none (mfl M k n v)) := by
    intro j
    induction j with
    | zero =>
      intro i hi
      have hi : i = n := by omega
      subst hi
      exact gJ7_fill_53178_5 hk ⟨fun _ => ⟨rfl, rfl⟩, fun h => absurd (nI_le (Nat.le_refl i) hn) h⟩
    | succ j ih =>
      intro i hi
      refine gJ7_fill_53178_5 hk ⟨fun h => absurd h (nI_ge (by omega) hn), fun _ => ⟨vp_in_nI (by omega) hn, fun M1 e1 => ?_⟩⟩
      subst e1
      rw [nI_1, nI_clamp (by omega), mfl_s]
      exact ih (i + 1) (by omega)
  have := lp n 0 (by omega)
  rw [mfl_0] at this
  exact this
/-- as many words as fit -/
def okW (M : ev_Mem) : Prop := ∃ n, n ≤ 24 ∧ M.1 3 5 = nI n
def okS (M : ev_Mem) : Prop := ∃ n, n ≤ 8 ∧ M.1 3 8 = nI n
theorem kX0_hasWord {x : Int32} (h : okW M) : Cl LX d mX0_hasWord [.ref 3, .int x] M (ev_R (some (.int (bi (iin x 0 (M.1 3 5 - 1))))) M) := by
  obtain ⟨n, hn, e⟩ := h
  refine Cl_of rfl (Nat.le_of_ble_eq_true rfl) rfl (gX0_hasWord_0 ⟨fun h => ⟨?_, rfl⟩, fun h => ⟨fun h2 => ⟨?_, rfl⟩, fun h2 => ⟨fun h3 => ⟨?_, rfl⟩, fun h3 => ⟨?_, rfl⟩⟩⟩⟩)
  · rw [iin_f.mpr (fun q => I_nlt.mpr q.1 h), bi_f]
  · rw [e] at h2 ⊢
    have : iin x 0 (nI n - 1) = false := by
      rw [← Bool.not_eq_true, iin_N (by omega)]
      rintro ⟨j, hj, rfl⟩
      exact nI_ge hj (by omega) h2
    rw [this, bi_f]
  · rw [e] at h2
    exfalso
    refine h2 ?_
    refine Int32.le_trans (nI_le (b := 24) hn (by omega)) h3
  · rw [e] at h2 ⊢
    obtain ⟨j, hj, rfl⟩ := nI_of h
    have : iin (nI j) 0 (nI n - 1) = true := by
      rw [iin_N (by omega)]
      exact ⟨j, by rcases Nat.lt_or_ge j n with q | q; exact q; exact absurd (nI_le q (by omega)) h2, rfl⟩
    rw [this, bi_t]
theorem kX0_hasSentence {x : Int32} (h : okS M) : Cl LX d mX0_hasSentence [.ref 3, .int x] M (ev_R (some (.int (bi (iin x 0 (M.1 3 8 - 1))))) M) := by
  obtain ⟨n, hn, e⟩ := h
  refine Cl_of rfl (Nat.le_of_ble_eq_true rfl) rfl (gX0_hasSentence_0 ⟨fun h => ⟨?_, rfl⟩, fun h => ⟨fun h2 => ⟨?_, rfl⟩, fun h2 => ⟨fun h3 => ⟨?_, rfl⟩, fun h3 => ⟨?_, rfl⟩⟩⟩⟩)
  · rw [iin_f.mpr (fun q => I_nlt.mpr q.1 h), bi_f]
  · rw [e] at h2 ⊢
    have : iin x 0 (nI n - 1) = false := by
      rw [← Bool.not_eq_true, iin_N (by omega)]
      rintro ⟨j, hj, rfl⟩
      exact nI_ge hj (by omega) h2
    rw [this, bi_f]
  · rw [e] at h2
    exfalso
    refine h2 ?_
    refine Int32.le_trans (nI_le (b := 8) hn (by omega)) h3
  · rw [e] at h2 ⊢
    obtain ⟨j, hj, rfl⟩ := nI_of h
    have : iin (nI j) 0 (nI n - 1) = true := by
      rw [iin_N (by omega)]
      exact ⟨j, by rcases Nat.lt_or_ge j n with q | q; exact q; exact absurd (nI_le q (by omega)) h2, rfl⟩
    rw [this, bi_t]
/-- between 0 and a top -/
def wth (x t : Int32) : Int32 := if 0 ≤ x then (if x ≤ t then x else t) else 0
theorem kX1_within {x t : Int32} : Cl LX d mX1_within [.int x, .int t] M (ev_R (some (.int (wth x t))) M) :=
  Cl_of rfl (Nat.le_of_ble_eq_true rfl) rfl (gX1_within_0 ⟨fun h => ⟨fun h2 => ⟨by rw [wth, if_pos h, if_pos h2], rfl⟩, fun h2 => ⟨by rw [wth, if_pos h, if_neg h2], rfl⟩⟩, fun h => ⟨by rw [wth, if_neg h], rfl⟩⟩)
def clp (x : Int64) : Int64 := if x ≤ 1000000 then (if -1000000 ≤ x then x else -1000000) else 1000000
theorem kX1_clipped {x : Int64} : Cl LX d mX1_clipped [.long x] M (ev_R (some (.int (clp x).toInt32)) M) :=
  Cl_of rfl (Nat.le_of_ble_eq_true rfl) rfl (gX1_clipped_0 ⟨fun h => ⟨fun h2 => ⟨by rw [clp, if_pos ((lg_cmp_le _ _).mp h), if_pos ((lg_cmp_ge _ _).mp h2)], rfl⟩, fun h2 => ⟨by rw [clp, if_pos ((lg_cmp_le _ _).mp h), if_neg (fun q => h2 ((lg_cmp_ge _ _).mpr q))]; rfl, rfl⟩⟩, fun h => ⟨by rw [clp, if_neg (fun q => h ((lg_cmp_le _ _).mpr q))]; rfl, rfl⟩⟩)
theorem kX11_clip {x : Int64} : Cl LM d mX11_clip [.long x] M (ev_R (some (.long (clp x))) M) :=
  Cl_of rfl (Nat.le_of_ble_eq_true rfl) rfl (gX11_clip_0 ⟨fun h => ⟨fun h2 => ⟨by rw [clp, if_pos ((lg_cmp_le _ _).mp h), if_pos ((lg_cmp_ge _ _).mp h2)], rfl⟩, fun h2 => ⟨by rw [clp, if_pos ((lg_cmp_le _ _).mp h), if_neg (fun q => h2 ((lg_cmp_ge _ _).mpr q))], rfl⟩⟩, fun h => ⟨by rw [clp, if_neg (fun q => h ((lg_cmp_le _ _).mpr q))], rfl⟩⟩)
/-- a long between two ints -/
def bnd (x : Int64) (lo hi : Int32) : Int32 := if lo.toInt64 ≤ x then (if x ≤ hi.toInt64 then x.toInt32 else hi) else lo
theorem kX11_bound {x : Int64} {lo hi : Int32} : Cl LM d mX11_bound [.long x, .int lo, .int hi] M (ev_R (some (.int (bnd x lo hi))) M) :=
  Cl_of rfl (Nat.le_of_ble_eq_true rfl) rfl (gX11_bound_0 ⟨fun h => ⟨fun h2 => ⟨by rw [bnd, if_pos ((lg_cmp_ge _ _).mp h), if_pos ((lg_cmp_le _ _).mp h2)], rfl⟩, fun h2 => ⟨by rw [bnd, if_pos ((lg_cmp_ge _ _).mp h), if_neg (fun q => h2 ((lg_cmp_le _ _).mpr q))], rfl⟩⟩, fun h => ⟨by rw [bnd, if_neg (fun q => h ((lg_cmp_ge _ _).mpr q))], rfl⟩⟩)
/-- two of a law's values, joined, as the class has it -/
def jn (o x z : Int32) : Int64 := if o = 8 then x.toInt64 + z.toInt64 else if o = 9 then x.toInt64 - z.toInt64 else if o = 10 then x.toInt64 * z.toInt64 else if o = 11 then (if z = 0 then 0 else (x / z).toInt64) else if o = 12 then (if z ≤ x then 0 else 1) else if o = 13 then (if z < x then 0 else 1) else if o = 14 then (if x ≤ z then 0 else 1) else if o = 15 then (if x < z then 0 else 1) else if o = 16 then (if x = z then 1 else 0) else if o = 17 then (if x = z then 0 else 1) else if o = 18 then (x &&& z).toInt64 else (x ||| z).toInt64
theorem kX1_join {o x z : Int32} : Cl LX d mX1_join [.int o, .int x, .int z] M (ev_R (some (.long (jn o x z))) M) := by
  refine Cl_of rfl (Nat.le_of_ble_eq_true rfl) rfl (gX1_join_0 ⟨?_, ?_, ?_, ?_, ?_, ?_, ?_, ?_, ?_, ?_, ?_, ?_⟩)
  · rintro rfl; exact ⟨rfl, rfl⟩
  · rintro rfl; exact ⟨rfl, rfl⟩
  · rintro rfl; exact ⟨rfl, rfl⟩
  · rintro rfl; exact ⟨fun h => ⟨h, by show some (Value.long _) = some (Value.long (if z = 0 then _ else _)); rw [if_neg h], rfl⟩, fun h => ⟨by show some (Value.long _) = some (Value.long (if z = 0 then _ else _)); rw [if_pos h], rfl⟩⟩
  · rintro rfl; exact ⟨fun h => ⟨by show _ = some (Value.long (if z ≤ x then _ else _)); rw [if_pos h], rfl⟩, fun h => ⟨by show _ = some (Value.long (if z ≤ x then _ else _)); rw [if_neg h], rfl⟩⟩
  · rintro rfl; exact ⟨fun h => ⟨by show _ = some (Value.long (if z < x then _ else _)); rw [if_pos h], rfl⟩, fun h => ⟨by show _ = some (Value.long (if z < x then _ else _)); rw [if_neg h], rfl⟩⟩
  · rintro rfl; exact ⟨fun h => ⟨by show _ = some (Value.long (if x ≤ z then _ else _)); rw [if_pos h], rfl⟩, fun h => ⟨by show _ = some (Value.long (if x ≤ z then _ else _)); rw [if_neg h], rfl⟩⟩
  · rintro rfl; exact ⟨fun h => ⟨by show _ = some (Value.long (if x < z then _ else _)); rw [if_pos h], rfl⟩, fun h => ⟨by show _ = some (Value.long (if x < z then _ else _)); rw [if_neg h], rfl⟩⟩
  · rintro rfl; exact ⟨fun h => ⟨by show _ = some (Value.long (if x = z then _ else _)); rw [if_neg h], rfl⟩, fun h => ⟨by show _ = some (Value.long (if x = z then _ else _)); rw [if_pos h], rfl⟩⟩
  · rintro rfl; exact ⟨fun h => ⟨by show _ = some (Value.long (if x = z then _ else _)); rw [if_pos h], rfl⟩, fun h => ⟨by show _ = some (Value.long (if x = z then _ else _)); rw [if_neg h], rfl⟩⟩
  · rintro rfl; exact ⟨rfl, rfl⟩
  · rintro ⟨h1, h2, h3, h4, h5, h6, h7, h8, h9, h10, h11⟩
    exact ⟨by rw [jn, if_neg h1, if_neg h2, if_neg h3, if_neg h4, if_neg h5, if_neg h6, if_neg h7, if_neg h8, if_neg h9, if_neg h10, if_neg h11], rfl⟩
end
