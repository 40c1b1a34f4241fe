section
variable {d : Nat} {N : ev_Mem}
/-- letters packed to one number -/
def pkL (l : List Nat) : Nat := l.foldl (fun a c => a * 256 + c) 0
theorem pkL_sn (l : List Nat) (c : Nat) : pkL (l ++ [c]) = pkL l * 256 + c := by unfold pkL; rw [List.foldl_append]; rfl
theorem sncs (l : List Nat) : l = [] ∨ ∃ (l' : List Nat) (c : Nat), l = l' ++ [c] := by
  rcases List.eq_nil_or_concat l with h | ⟨l', c, h⟩
  · exact Or.inl h
  · exact Or.inr ⟨l', c, by rw [h, List.concat_eq_append]⟩
theorem gD_l {l : List Nat} {c i : Nat} (h : i < l.length) : (l ++ [c]).getD i 0 = l.getD i 0 := by
  rw [List.getD_eq_getElem?_getD, List.getD_eq_getElem?_getD, List.getElem?_append_left h]
theorem gD_r {l : List Nat} {c : Nat} : (l ++ [c]).getD l.length 0 = c := by
  rw [List.getD_eq_getElem?_getD, List.getElem?_append_right (Nat.le_refl _), Nat.sub_self]
  rfl
def pkB (b : Nat → Nat) (s : Nat) : Nat → Nat
  | 0 => 0
  | k + 1 => pkB b s k * 256 + b (s + k)
theorem pkB_lt {b : Nat → Nat} {s : Nat} : ∀ k, (∀ i, i < k → b (s + i) < 256) → pkB b s k < 256 ^ k
  | 0, _ => by rw [pkB]; omega
  | k + 1, h => by
    have ih := pkB_lt (b := b) (s := s) k (fun i hi => h i (by omega))
    have := h k (by omega)
    rw [pkB, Nat.pow_succ]
    omega
theorem pkB_ge {b : Nat → Nat} {s : Nat} : ∀ k, (∀ i, i < k + 1 → 1 ≤ b (s + i)) → 256 ^ k ≤ pkB b s (k + 1)
  | 0, h => by have := h 0 (by omega); rw [pkB, pkB]; omega
  | k + 1, h => by
    have ih := pkB_ge (b := b) (s := s) k (fun i hi => h i (by omega))
    rw [pkB, Nat.pow_succ]
    omega
theorem pkL_lt : ∀ (k : Nat) (l : List Nat), l.length = k → (∀ c ∈ l, c < 256) → pkL l < 256 ^ k
  | 0, l, e, _ => by
    obtain rfl := List.eq_nil_of_length_eq_zero e
    decide
  | k + 1, l, e, h => by
    rcases sncs l with rfl | ⟨l', c, rfl⟩
    · cases e
    · rw [List.length_append, List.length_singleton] at e
      have ih := pkL_lt k l' (by omega) (fun c hc => h c (List.mem_append_left _ hc))
      have := h c (by simp)
      rw [pkL_sn, Nat.pow_succ]
      omega
/-- letters packed alike are alike -/
theorem pkL_inj {b : Nat → Nat} {s : Nat} : ∀ (k : Nat) (l : List Nat), (∀ i, i < k → 1 ≤ b (s + i) ∧ b (s + i) < 256) → (∀ c ∈ l, 1 ≤ c ∧ c < 256) → (pkB b s k = pkL l ↔ k = l.length ∧ ∀ i, i < k → b (s + i) = l.getD i 0)
  | 0, l, _, hl => by
    rcases sncs l with rfl | ⟨l', c, rfl⟩
    · simp [pkB, pkL]
    · have := hl c (by simp)
      rw [pkL_sn, pkB, List.length_append, List.length_singleton]
      constructor
      · intro h; omega
      · intro h; omega
  | k + 1, l, hb, hl => by
    have b0 := hb k (by omega)
    rcases sncs l with rfl | ⟨l', c, rfl⟩
    · rw [pkB]
      constructor
      · intro h; have : pkL [] = 0 := rfl; omega
      · intro h; cases h.1
    · have hc := hl c (by simp)
      have ih := pkL_inj (b := b) (s := s) k l' (fun i hi => hb i (by omega)) (fun c hc => hl c (List.mem_append_left _ hc))
      rw [pkL_sn, pkB, List.length_append, List.length_singleton]
      constructor
      · intro h
        obtain ⟨e1, e2⟩ := ih.mp (by omega)
        refine ⟨by omega, fun i hi => ?_⟩
        rcases Nat.lt_or_ge i k with z | z
        · rw [e2 i z, gD_l (by omega)]
        · obtain rfl : i = k := by omega
          rw [e1, gD_r, ← e1]
          omega
      · rintro ⟨e1, e2⟩
        have e0 : k = l'.length := by omega
        have h1 := ih.mpr ⟨e0, fun i hi => by rw [e2 i (by omega), gD_l (by omega)]⟩
        have h2 := e2 k (by omega)
        rw [e0, gD_r, ← e0] at h2
        omega
theorem spK_small {b : Nat → Nat} {s : Nat} : ∀ k, k ≤ 7 → (∀ i, i < k → b (s + i) < 256) → spK b s k = pkB b s k
  | 0, _, _ => rfl
  | k + 1, hk, h => by
    have ih := spK_small (b := b) (s := s) k (by omega) (fun i hi => h i (by omega))
    have h1 := pkB_lt (b := b) (s := s) k (fun i hi => h i (by omega))
    have h2 : 256 ^ k ≤ 256 ^ 6 := Nat.pow_le_pow_right (by omega) (by omega)
    rw [spK, ih, pkB, if_pos (Nat.div_eq_of_lt (Nat.lt_of_lt_of_le h1 (Nat.le_trans h2 (by decide))))]
theorem spK_big {b : Nat → Nat} {s : Nat} : ∀ k, (∀ i, i < k + 7 → 1 ≤ b (s + i) ∧ b (s + i) < 256) → 2 ^ 48 ≤ spK b s (k + 7)
  | 0, h => by
    rw [spK_small 7 (by omega) (fun i hi => (h i (by omega)).2)]
    exact Nat.le_trans (by decide) (pkB_ge 6 (fun i hi => (h i (by omega)).1))
  | k + 1, h => by
    have ih := spK_big (b := b) (s := s) k (fun i hi => h i (by omega))
    rw [show k + 1 + 7 = (k + 7) + 1 by omega, spK]
    split
    · rename_i z
      have := Nat.div_eq_zero_iff.mp z
      omega
    · omega
/-- the word of a token, packed -/
theorem spK_iff {b : Nat → Nat} {s k : Nat} {l : List Nat} (hb : ∀ i, i < k → 1 ≤ b (s + i) ∧ b (s + i) < 256) (h6 : l.length ≤ 6) (hl : ∀ c ∈ l, 1 ≤ c ∧ c < 256) : spK b s k = pkL l ↔ k = l.length ∧ ∀ i, i < k → b (s + i) = l.getD i 0 := by
  rcases Nat.lt_or_ge k 7 with z | z
  · rw [spK_small k (by omega) (fun i hi => (hb i hi).2)]
    exact pkL_inj k l hb hl
  · have h1 := spK_big (b := b) (s := s) (k - 7) (fun i hi => hb i (by omega))
    rw [show k - 7 + 7 = k by omega] at h1
    have h2 := pkL_lt l.length l rfl (fun c hc => (hl c hc).2)
    have h3 : 256 ^ l.length ≤ 256 ^ 6 := Nat.pow_le_pow_right (by omega) h6
    have h4 : (256 : Nat) ^ 6 = 2 ^ 48 := by decide
    constructor
    · intro h; omega
    · intro h; omega
theorem weq_iff {b : Nat → Nat} {s e : Nat} {l : List Nat} : weq b s e l = true ↔ e - s = l.length ∧ ∀ i, i < e - s → b (s + i) = l.getD i 0 := by
  unfold weq
  rw [Bool.and_eq_true, beq_iff_eq, al_t]
  constructor
  · rintro ⟨h1, h2⟩
    exact ⟨h1, fun i hi => beq_iff_eq.mp (h2 i (by omega))⟩
  · rintro ⟨h1, h2⟩
    exact ⟨h1, fun i hi => beq_iff_eq.mpr (h2 i (by omega))⟩
def okw (l : List Nat) : Prop := l.length ≤ 6 ∧ ∀ c ∈ l, 1 ≤ c ∧ c < 256
theorem tkN_2 : ∀ c, c < 256 → (nI (tkN c) = 2 ↔ c = 1) := by decide +kernel
theorem spelt_iff {n s : Nat} {l : List Nat} {b : Nat → Nat} (hb : ∀ i, i < n → b i < 256) (hk : mkS N b n s) (h1 : srt b n s = 1) (hl : okw l) : lg_cmp (N.2 0 12) (lN (pkL l)) = 0 ↔ tkW b n s l = true := by
  have la := let_all hb h1
  have e1 := hk.2.2.2.2 h1
  obtain ⟨hs, -, -⟩ := srt_1 hb h1
  have el := nxt_le (b := b) (n := n) (s := s) (by omega)
  have l1 := spK_lt (b := b) (s := s) (nxt b n s - s) (fun i hi => by have := la i hi; omega)
  have l2 := pkL_lt l.length l rfl (fun c hc => (hl.2 c hc).2)
  have l3 : 256 ^ l.length ≤ 256 ^ 6 := Nat.pow_le_pow_right (by omega) hl.1
  have l4 : (256 : Nat) ^ 6 = 2 ^ 48 := by decide
  rw [e1, lg_cmp_eq, pk_lEQ (by omega) (by omega)]
  unfold tkW
  rw [show (srt b n s == 1) = true from beq_iff_eq.mpr h1, Bool.true_and, weq_iff]
  exact spK_iff (fun i hi => by have := la i hi; omega) hl.1 hl.2
theorem isw_e {n s : Nat} {l : List Nat} {b : Nat → Nat} (hb : ∀ i, i < n → b i < 256) (hk : mkS N b n s) (hl : okw l) : isw N (lN (pkL l)) = tkW b n s l := by
  have sl := srt_lt (b := b) (n := n) (s := s) hb
  unfold isw
  rw [hk.2.2.1]
  by_cases z : srt b n s = 1
  · rw [decide_eq_true ((tkN_2 _ sl).mpr z), Bool.true_and]
    have := spelt_iff hb hk z hl
    cases c : tkW b n s l with
    | true => exact decide_eq_true (this.mpr c)
    | false => exact decide_eq_false (fun h => by rw [this.mp h] at c; cases c)
  · rw [decide_eq_false (fun h => z ((tkN_2 _ sl).mp h)), Bool.false_and]
    unfold tkW
    rw [show (srt b n s == 1) = false from beq_eq_false_iff_ne.mpr z, Bool.false_and]
/-- words of bytes -/
theorem wsh_n {a c : Nat} (ha : a < 2 ^ 54) (hc : c < 256) : wsh (lN a) (nI c) = lN (a * 256 + c) := by
  unfold wsh
  rw [show (8 : Int32) = nI 8 from rfl, wb_shl a (by omega), show (nI c).toInt64 = lN c from nI_l (by omega)]
  exact g_or (k := 8) (by decide) hc (by omega)
theorem w3_n {x y z : Nat} (hx : x < 256) (hy : y < 256) (hz : z < 256) : w3f (nI x) (nI y) (nI z) = lN (pkL [x, y, z]) := by
  unfold w3f w2f
  rw [show (nI x).toInt64 = lN x from nI_l (by omega), wsh_n (by omega) hy, wsh_n (by omega) hz]
  unfold pkL; simp only [List.foldl_cons, List.foldl_nil, Nat.zero_mul, Nat.zero_add]
theorem w4_n {x y z w : Nat} (hx : x < 256) (hy : y < 256) (hz : z < 256) (hw : w < 256) : w4f (nI x) (nI y) (nI z) (nI w) = lN (pkL [x, y, z, w]) := by
  unfold w4f
  rw [w3_n hx hy hz]
  have := pkL_lt 3 [x, y, z] rfl (by simp only [List.mem_cons, List.not_mem_nil, or_false]; rintro c (rfl | rfl | rfl) <;> assumption)
  rw [wsh_n (by omega) hw, ← pkL_sn]
  rfl
end
