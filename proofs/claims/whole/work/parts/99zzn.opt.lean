/-! CALL: text -/
section
variable {d B : Nat} {M N : ev_Mem}
theorem mst_cg {tx tx2 nm : Nat → Int32} {cb i : Nat} {us : Int64 → Int64} {V : List Int64} {S : List Bool} (h1 : tx2 (cb + 2 * i) = tx (cb + 2 * i)) (h2 : tx2 (cb + 2 * i + 1) = tx (cb + 2 * i + 1)) : mst tx2 cb nm us i V S = mst tx cb nm us i V S := by
  unfold mst
  rw [h1, h2]
theorem mgo_cg {tx tx2 nm : Nat → Int32} {cb : Nat} {us : Int64 → Int64} : ∀ {n i : Nat} {V : List Int64} {S : List Bool} {V2 : List Int64} {S2 : List Bool}, (∀ j, cb + 2 * i ≤ j → j < cb + 2 * (i + n) → tx2 j = tx j) → mgo tx cb nm us n i V S V2 S2 → mgo tx2 cb nm us n i V S V2 S2
  | 0, i, V, S, V2, S2, _, h => h
  | n + 1, i, V, S, V2, S2, e, h => by
    obtain ⟨Va, Sa, hs, hl, h⟩ := h
    exact ⟨Va, Sa, by rw [mst_cg (e _ (by omega) (by omega)) (e _ (by omega) (by omega))]; exact hs, hl, mgo_cg (fun j a b => e j (by omega) (by omega)) h⟩
theorem fcl_cg {tx tx2 : Nat → Int32} {t : Nat} {k : Int32} : ∀ (n c : Nat), (∀ i, c ≤ i → i < c + n → tx2 (945 * t + 1 + 14 * i) = tx (945 * t + 1 + 14 * i)) → fcl tx2 t k c n = fcl tx t k c n
  | 0, _, _ => rfl
  | n + 1, c, h => by rw [fcl, fcl, h c (by omega) (by omega), fcl_cg n (c + 1) (fun i a b => h i (by omega) (by omega))]
theorem clR_cg {c tx tx2 : Nat → Int32} {u st x q : Nat} (e : ∀ j, x < j → j < x + 14 → tx2 j = tx j) (h : clR c tx u st x q) : clR c tx2 u st x q := by
  obtain ⟨h3, h4, h5, h6, h7⟩ := h
  refine ⟨fun z => ?_, fun z => ?_, fun z => ?_, fun z => ?_, fun z => ?_⟩
  · obtain ⟨len, a1, a2, a3, a4, a5, a6, a7, a8, a9⟩ := h3 z
    rw [e (x + 1) (by omega) (by omega), e (x + 2) (by omega) (by omega), e (x + 3) (by omega) (by omega), e (x + 4) (by omega) (by omega)]
    exact ⟨len, a1, a2, a3, a4, a5, fun i hi => by rw [e (x + 5 + i) (by omega) (by omega)]; exact a6 i hi, a7, a8, a9⟩
  · obtain ⟨m, a1, a2, a3, a4, a5, a6⟩ := h4 z
    rw [e (x + 1) (by omega) (by omega)]
    exact ⟨m, a1, a2, a3, a4, a5, fun i hi => by rw [e (x + 2 + i) (by omega) (by omega)]; exact a6 i hi⟩
  · rw [e (x + 2) (by omega) (by omega), e (x + 4) (by omega) (by omega), e (x + 5) (by omega) (by omega)]
    exact h5 z
  · rw [e (x + 2) (by omega) (by omega)]
    exact h6 z
  · rw [e (x + 1) (by omega) (by omega)]
    exact h7 z
theorem txtR_c2 {M2 N2 : ev_Mem} {t : Nat} (hM : ∀ i, 61 + 5 * t ≤ i → i < 61 + 5 * t + 5 → M2.1 i = M.1 i) (hN : ∀ j, 945 * t ≤ j → j < 945 * t + 945 → N2.1 4 j = N.1 4 j) (h : txtR M N t) : txtR M2 N2 t := by
  have h := txtR_cg (N2 := N) (fun i a b => (hM i a b).symm) rfl h
  refine ⟨fun k hk => ?_, ?_⟩
  · obtain ⟨n, hn, e0, h⟩ := h.1 k hk
    refine ⟨n, hn, by rw [hN (945 * t) (by omega) (by omega)]; exact e0, ?_⟩
    have ef : fcl (N2.1 4) t (nI k) 0 n = fcl (N.1 4) t (nI k) 0 n := fcl_cg n 0 (fun i a b => hN _ (by omega) (by omega))
    rw [ef]
    rcases h with h | ⟨p, q, u, c, i, j, a1, a2, a3, a4, a5, a6, a7, a8, a9⟩
    · exact Or.inl h
    · have hc := fcl_lt a4
      refine Or.inr ⟨p, q, u, c, i, j, a1, a2, a3, a4, by rw [hN _ (by omega) (by omega)]; exact a5, by rw [hN _ (by omega) (by omega)]; exact a6, a7, a8, fun f g us ha ho => ?_⟩
      obtain ⟨v, m, b1, b2, b3, b4⟩ := a9 f g us ha ho
      exact ⟨v, m, b1, b2, mgo_cg (fun x y z => hN x (by omega) (by omega)) b3, b4⟩
  · obtain ⟨n, u, ⟨a1, a2, a3⟩, a4, a5⟩ := h.2
    refine ⟨n, u, ⟨a1, a2, by rw [hN (945 * t) (by omega) (by omega)]; exact a3⟩, a4, fun k hk => ?_⟩
    obtain ⟨q, st, b1, b2, b3, b4, b5, b6⟩ := a5 k hk
    exact ⟨q, st, b1, b2, b3, b4, by rw [hN _ (by omega) (by omega)]; exact b5, clR_cg (fun j y z => hN j (by omega) (by omega)) b6⟩
theorem RX_tx {M2 N2 : ev_Mem} {T T2 : Nat} (h : RX B M N) (hT : N.1 1 2 = nI T) (hT4 : T < 4) (hT2 : T ≤ T2 ∧ T2 ≤ 4) (c : ∀ k, k < 61 + 5 * T ∨ 100 ≤ k → k ≠ 47 → M2.1 k = M.1 k) (c47 : ∀ j, j ≠ 2 → M2.1 47 j = M.1 47 j) (d47 : M2.1 47 2 = nI T2) (n1 : ∀ j, j ≠ 2 → N2.1 1 j = N.1 1 j) (n12 : N2.1 1 2 = nI T2) (n2 : N2.1 2 = N.1 2) (n3 : N2.1 3 = N.1 3) (n4 : ∀ j, j < 945 * T → N2.1 4 j = N.1 4 j) (n5 : N2.1 5 = N.1 5) (n05 : N2.1 0 5 = N.1 0 5) (ht : ∀ t, T ≤ t → t < T2 → txtR M2 N2 t) (hf : M2.1 81 2 = 1 ∧ M2.1 81 3 = N2.1 0 6 ∧ M2.1 81 4 = N2.1 0 7) : RX B M2 N2 := by
  obtain ⟨W, S, T', Wk, Sk, Tk, ⟨h1, h1a, h1b, h1c, h1d⟩, ⟨h2, h2a, h2b, h2c⟩, h3, h4, h5, h6⟩ := h
  have eT : T' = T := (nI_eq (by omega) (by omega)).mp (h1c.symm.trans hT)
  subst eT
  obtain ⟨q1, q2, q3, q4, q5⟩ := nRel_iff.mp h1.2.2.2
  refine ⟨W, S, T2, Wk, Sk, Tk, ⟨?_, by rw [c 3 (by omega) (by omega)]; exact h1a, by rw [c 3 (by omega) (by omega)]; exact h1b, n12, hT2.2⟩, ⟨?_, by rw [c 0 (by omega) (by omega)]; exact h2a, by rw [c 0 (by omega) (by omega)]; exact h2b, by rw [n2]; exact h2c⟩, by omega, fun t ht2 => ?_, ?_, ?_⟩
  · refine stRel_dn h1 (fun k hk => c k (by omega) (by omega)) (fun k a b => c k (by omega) (by omega)) (n1 4 (by omega)) ⟨n1 0 (by omega), n1 1 (by omega)⟩ (fun i a => n1 i (by omega)) (nRel_iff.mpr ?_)
    have c5 : (fun i => M2.1 (47 + 5 + i)) 0 = M.1 52 := c 52 (by omega) (by omega)
    refine ⟨?_, ?_, ?_, ?_, ?_⟩
    · rw [c 48 (by omega) (by omega), c 49 (by omega) (by omega)]
      exact nR1_cg (fun i a b => n1 i (by omega)) q1
    · obtain ⟨t, k1, k2, k3, k4, k5⟩ := q2
      have et : t = T' := (nI_eq (by omega) (by omega)).mp (k3.symm.trans hT)
      subst et
      refine ⟨T2, hT2.2, d47, n12, by rw [c47 3 (by omega), n1 3 (by omega)]; exact k4, ?_⟩
      rw [n1 3 (by omega)]
      rcases k5 with k5 | ⟨x, x1, x2⟩
      · exact Or.inl k5
      · exact Or.inr ⟨x, by omega, x2⟩
    · rw [c47 5 (by omega), c 50 (by omega) (by omega)]
      exact nR3_cg (Nat.le_refl _) (n1 5 (by omega)) (fun i a b => n1 i (by omega)) q3
    · rw [c47 8 (by omega), c 57 (by omega) (by omega)]
      obtain ⟨r, r1, r2, r3, r4⟩ := nR4_cg (a2 := N2.1 1) (n1 6 (by omega)) (fun i a b => n1 i (by omega)) q4
      refine ⟨r, r1, r2, r3, fun i hi => ?_⟩
      have := r4 i hi
      simp only at this ⊢
      rw [c (47 + 5 + i) (by omega) (by omega)]
      exact this
    · rw [c47 11 (by omega), c 58 (by omega) (by omega), c 59 (by omega) (by omega)]
      exact nR5_cg (Nat.le_refl _) (n1 7 (by omega)) (fun i a b => n1 i (by omega)) q5
  · rw [n2]
    exact stRel_xe (fun k hk => (c k (by omega) (by omega)).symm) (fun k a b => (c k (by omega) (by omega)).symm) (fun k a b => (c k (by omega) (by omega)).symm) h2
  · rcases Nat.lt_or_ge t T' with z | z
    · exact txtR_c2 (fun i a b => c i (by omega) (by omega)) (fun j a b => n4 j (by omega)) (h4 t z)
    · exact ht t z ht2
  · obtain ⟨n, k1, k2, k3, k4⟩ := h5
    exact ⟨n, k1, by rw [c 1 (by omega) (by omega)]; exact k2, by rw [n05]; exact k3, by rw [c 2 (by omega) (by omega), n5]; exact k4⟩
  · refine ⟨by rw [c 117 (by omega) (by omega), n3]; exact h6.1, Or.inr hf⟩
end
