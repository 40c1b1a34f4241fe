/-! THE RELATION OF TWO TEXTS' LAWS: whatever the names and the uses, the same value -/
section
/-- which names a kind of law may hold -/
def nmK (k i : Nat) : Prop := i < 2 ∨ (k = 0 ∧ 2 ≤ i ∧ i < 7) ∨ (k = 1 ∧ 7 ≤ i ∧ i < 9) ∨ (k = 2 ∧ 9 ≤ i ∧ i < 12)
def agr (k : Nat) (f g : Nat → Int32) : Prop := ∀ i, nmK k i → f i = g i ∧ upto (f i) 1000000
def okU (us : Nat → Int32) : Prop := ∀ l, l < 26 → upto (us l) 9999
def usM (us : Nat → Int32) (x : Int64) : Int64 := if 0 ≤ x ∧ x < 26 then (us x.toInt32.toNatClampNeg).toInt64 else 0
theorem usv_eq {N : ev_Mem} : usv N = usM (fun l => N.1 1 (13 + l)) := by
  funext x
  unfold usv usM
  by_cases h : 0 ≤ x ∧ x < 26
  · rw [if_pos h, if_pos h]
    obtain ⟨j, hj, rfl⟩ := pk_lOf (L_nlt.mpr h.1)
    have hj26 : j < 26 := (pk_lLT (a := j) (b := 26) hj (by omega)).mp h.2
    rw [lN_i, show (13 : Int32) = nI 13 from rfl, nI_add, nI_clamp (by omega), nI_clamp (by omega)]
  · rw [if_neg h, if_neg h]
def lawR (M N : ev_Mem) (t k : Nat) : Prop :=
  ∃ n, n ≤ 24 ∧ N.1 4 (945 * t) = nI n ∧
    ((M.1 (61 + 5 * t + 4) k = -1 ∧ fcl (N.1 4) t (nI k) 0 n = none) ∨
    ∃ p q u c i j : Nat, (p < 300 ∧ M.1 (61 + 5 * t + 4) k = nI p) ∧ (u ≤ 300 ∧ M.1 (61 + 5 * t) 1 = nI u) ∧ (q < u ∧ M.1 (61 + 5 * t + 1) q &&& 31 = 0) ∧ fcl (N.1 4) t (nI k) 0 n = some c ∧
      N.1 4 (945 * t + 1 + 14 * c + 1) = nI i ∧ N.1 4 (945 * t + 1 + 14 * c + 2) = nI j ∧ i ≤ j ∧ j ≤ 304 ∧
      ∀ f g us, agr k f g → okU us → ∃ (v : Int32) (m : Nat), m < 300 ∧ vgo (M.1 (61 + 5 * t + 1)) f us u m p [] q [v] ∧ mgo (N.1 4) (945 * t + 337) g (usM us) (j - i) i [] [] [v.toInt64] [] ∧ -1000000 ≤ v.toInt ∧ v.toInt ≤ 1000000)
theorem lawR_cg {M M2 N N2 : ev_Mem} {t k : Nat} (hM : ∀ i, 61 + 5 * t ≤ i → i < 61 + 5 * t + 5 → M.1 i = M2.1 i) (hN : N.1 4 = N2.1 4) (h : lawR M N t k) : lawR M2 N2 t k := by
  unfold lawR at h ⊢
  rw [hM (61 + 5 * t) (by omega) (by omega), hM (61 + 5 * t + 1) (by omega) (by omega), hM (61 + 5 * t + 4) (by omega) (by omega), hN] at h
  exact h
/-- vgo goes one way alone -/
theorem vgo_det {c nm us : Nat → Int32} {u : Nat} : ∀ {n m p : Nat} {l : List Int32} {q : Nat} {a b : Int32}, (c q &&& 31 = 0) → vgo c nm us u n p l q [a] → vgo c nm us u m p l q [b] → a = b
  | 0, 0, p, l, q, a, b, _, h1, h2 => by
    obtain ⟨rfl, rfl⟩ := h1
    obtain ⟨-, h⟩ := h2
    cases h
    rfl
  | 0, m + 1, p, l, q, a, b, hq, h1, h2 => by
    obtain ⟨rfl, rfl⟩ := h1
    obtain ⟨-, p1, l1, hv, -⟩ := h2
    exfalso
    unfold vst at hv
    simp only [hq] at hv
    simp at hv
  | n + 1, 0, p, l, q, a, b, hq, h1, h2 => by
    obtain ⟨rfl, rfl⟩ := h2
    obtain ⟨-, p1, l1, hv, -⟩ := h1
    exfalso
    unfold vst at hv
    simp only [hq] at hv
    simp at hv
  | n + 1, m + 1, p, l, q, a, b, hq, h1, h2 => by
    obtain ⟨-, p1, l1, hv, -, h1⟩ := h1
    obtain ⟨-, p2, l2, hv2, -, h2⟩ := h2
    rw [hv] at hv2
    cases hv2
    exact vgo_det hq h1 h2
theorem agr.sy {k : Nat} {f g : Nat → Int32} (h : agr k f g) : agr k g f := fun i hi => ⟨(h i hi).1.symm, by rw [← (h i hi).1]; exact (h i hi).2⟩
theorem agr.l {k : Nat} {f g : Nat → Int32} (h : agr k f g) : agr k f f := fun i hi => ⟨rfl, (h i hi).2⟩
/-- the model's side of it -/
theorem lawR_txk {M N : ev_Mem} {t k : Nat} {g us : Nat → Int32} (h : lawR M N t k) (ht : t < 4) (hg : agr k g g) (hu : okU us) : txk (N.1 4) g (usM us) (nI t) (nI k) := by
  obtain ⟨n, hn, e0, h⟩ := h
  refine Or.inr ⟨t, n, ht, hn, rfl, e0, fun c hc => ?_⟩
  rcases h with ⟨-, h⟩ | ⟨p, q, u, c2, i, j, -, -, -, h1, h2, h3, h4, h5, h6⟩
  · rw [h] at hc; cases hc
  · rw [h1] at hc
    cases hc
    obtain ⟨v, m, -, -, hm, -⟩ := h6 g g us hg hu
    exact ⟨i, j, _, h2, h3, h4, h5, hm⟩
/-- names that a law may not hold don't matter -/
theorem lawR_syv {M N : ev_Mem} {t k : Nat} {f g us : Nat → Int32} {wo tp : Int32} (h : lawR M N t k) (ht : t < 4) (hg : agr k f g) (hu : okU us) : syv (N.1 4) f (usM us) (nI t) (nI k) wo tp = syv (N.1 4) g (usM us) (nI t) (nI k) wo tp := by
  obtain ⟨n, hn, e0, h⟩ := h
  unfold syv
  rw [if_neg (nI_pos (by omega)), nI_clamp (by omega), e0, nI_clamp (by omega)]
  rw [if_neg (nI_pos (by omega))]
  rcases h with ⟨-, h⟩ | ⟨p, q, u, c2, i, j, -, -, ⟨-, hq⟩, h1, h2, h3, h4, h5, h6⟩
  · rw [h]
  · rw [h1]
    simp only
    obtain ⟨v, m, -, hv, hm, -⟩ := h6 f f us hg.l hu
    obtain ⟨v2, m2, -, hv2, hm2, -⟩ := h6 f g us hg hu
    rw [lwv_eq h2 h3 h4 h5 hm, lwv_eq h2 h3 h4 h5 hm2, vgo_det hq hv hv2]
end
