/-! WHAT A DEED THAT WAS READ HOLDS -/
section
variable {b : Nat → Nat} {n : Nat}
theorem nxs_gt {s : Nat} (h : s < n) : s < nxs b n s ∧ nxs b n s ≤ n := by
  have el := nxt_le (b := b) (n := n) (s := s) (by omega)
  have sk := skp_le (b := b) (n := n) (p := nxt b n s) el.2.1
  unfold nxs
  omega
theorem thn_i {O : DR} {F : Nat → DR} {v : List Nat} {s2 : Nat} (h : thn O F = Sum.inr (v, s2)) : ∃ v1 s1 v2, O = Sum.inr (v1, s1) ∧ F s1 = Sum.inr (v2, s2) ∧ v = v1 ++ v2 := by
  cases O with
  | inl e =>
    change (Sum.inl e : DR) = Sum.inr (v, s2) at h
    cases h
  | inr p =>
    obtain ⟨v1, s1⟩ := p
    unfold thn at h
    simp only at h
    cases e : F s1 with
    | inl x =>
      rw [e] at h
      cases h
    | inr p2 =>
      obtain ⟨v2, s3⟩ := p2
      rw [e] at h
      cases h
      exact ⟨v1, s1, v2, rfl, e, rfl⟩
theorem ltR_i {m s : Nat} {v : List Nat} {s2 : Nat} (h : ltR b n m s = Sum.inr (v, s2)) : s < n ∧ s2 = nxs b n s ∧ 1 ≤ v.length ∧ v.length ≤ m ∧ ∀ i, i < v.length → v.getD i 0 < 26 := by
  unfold ltR at h
  split at h
  · rename_i h1
    split at h
    · cases h
    · rename_i h2
      split at h
      · rename_i h3
        cases h
        have hs := srt_end (b := b) (n := n) (s := s) (by omega)
        have el := nxt_le (b := b) (n := n) (s := s) (by omega)
        rw [lts_len]
        refine ⟨hs, rfl, by omega, by omega, fun i hi => ?_⟩
        rw [lts_at _ i hi]
        have h3' : al (fun i => decide (97 ≤ b (s + i)) && decide (b (s + i) ≤ 122)) (nxt b n s - s) = true := h3
        have := al_t.mp h3' i hi
        simp only [Bool.and_eq_true, decide_eq_true_eq] at this
        omega
      · cases h
  · cases h
theorem wdR_i {i s : Nat} {v : List Nat} {s2 : Nat} (h : wdR b n i s = Sum.inr (v, s2)) : v = [] ∧ s2 = nxs b n s ∧ s < n := by
  unfold wdR at h
  split at h
  · rename_i z
    cases h
    have := tkW_s z
    exact ⟨rfl, rfl, srt_end (b := b) (by omega)⟩
  · cases h
theorem nuR_i {lo hi s : Nat} {v : List Nat} {s2 : Nat} (h : nuR b n lo hi s = Sum.inr (v, s2)) : v = [nuN b n s] ∧ s2 = nxs b n s ∧ (lo ≤ nuN b n s ∧ nuN b n s ≤ hi) ∧ s < n := by
  obtain ⟨h1, h2, h3, h4, h5⟩ := nuR_1 h
  exact ⟨h1, h2, ⟨h3, h4⟩, srt_end (b := b) (by omega)⟩
theorem ssR_i : ∀ (r s : Nat) (v : List Nat) (s2 : Nat), ssR b n r s = Sum.inr (v, s2) → (1 ≤ v.length ∧ v.length ≤ r ∧ ∀ i, i < v.length → v.getD i 0 ≤ 11) ∧ s ≤ s2
  | 0, s, v, s2, h => by
    rw [ssR] at h
    cases h
  | r + 1, s, v, s2, h => by
    rw [ssR] at h
    cases e : nuR b n 0 11 s with
    | inl x =>
      rw [e] at h
      cases h
    | inr p =>
      obtain ⟨v1, s1⟩ := p
      rw [e] at h
      simp only at h
      obtain ⟨rfl, rfl, q2, q3⟩ := nuR_i e
      have g1 := nxs_gt (b := b) q3
      by_cases z : srt b n (nxs b n s) = 44
      · rw [if_pos z] at h
        have hs1 := srt_end (b := b) (n := n) (s := nxs b n s) (by omega)
        have g2 := nxs_gt (b := b) hs1
        by_cases y : r = 0
        · rw [if_pos y] at h
          cases h
        · rw [if_neg y] at h
          cases e2 : ssR b n r (nxs b n (nxs b n s)) with
          | inl x =>
            rw [e2] at h
            cases h
          | inr p2 =>
            obtain ⟨w, s3⟩ := p2
            rw [e2] at h
            cases h
            obtain ⟨⟨i1, i2, i3⟩, i4⟩ := ssR_i r _ _ _ e2
            refine ⟨⟨by simp, by simp only [List.length_append, List.length_cons, List.length_nil]; omega, fun i hi => ?_⟩, by omega⟩
            cases i with
            | zero => exact q2.2
            | succ i =>
              simp only [List.length_append, List.length_cons, List.length_nil] at hi
              exact i3 i (by omega)
      · rw [if_neg z] at h
        cases h
        refine ⟨⟨by simp, by simp, fun i hi => ?_⟩, by omega⟩
        cases i with
        | zero => exact q2.2
        | succ i =>
          simp only [List.length_cons, List.length_nil] at hi
          omega
def okv (q : Nat) (vs : List Nat) : Prop :=
  vs.length ≤ 12 ∧
  (q = 3 → ∃ ls kd se st, vs = ls ++ [kd, se, st] ∧ 1 ≤ ls.length ∧ ls.length ≤ 9 ∧ (∀ i, i < ls.length → ls.getD i 0 < 26) ∧ kd ≤ 6 ∧ se ≤ 11 ∧ st ≤ 9) ∧
  (q = 4 → 1 ≤ vs.length ∧ vs.length ≤ 5 ∧ ∀ i, i < vs.length → vs.getD i 0 ≤ 11) ∧
  (q = 5 → ∃ a c l, vs = [a, c, l] ∧ a < 26 ∧ c < 26 ∧ l ≤ 9) ∧
  (q = 6 → ∃ a, vs = [a] ∧ a < 26) ∧
  (7 ≤ q → ∃ a, vs = [a] ∧ (q = 7 → a ≤ 23) ∧ (q = 8 → a ≤ 7) ∧ (q = 9 → 1 ≤ a ∧ a ≤ 40))
theorem deed_3k {s : Nat} {vs : List Nat} {s2 : Nat} (h : deed b n 3 s = Sum.inr (vs, s2)) : okv 3 vs ∧ s ≤ s2 := by
  have d3 : deed b n 3 s = thn (ltR b n 9 s) fun s => thn (wdR b n 10 s) fun s => thn (nuR b n 0 6 s) fun s => thn (wdR b n 11 s) fun s => thn (nuR b n 0 11 s) fun s => thn (wdR b n 12 s) fun s => nuR b n 0 9 s := rfl
  rw [d3] at h
  obtain ⟨v1, t1, w1, e1, k1, rfl⟩ := thn_i h
  obtain ⟨v2, t2, w2, e2, k2, rfl⟩ := thn_i k1
  obtain ⟨v3, t3, w3, e3, k3, rfl⟩ := thn_i k2
  obtain ⟨v4, t4, w4, e4, k4, rfl⟩ := thn_i k3
  obtain ⟨v5, t5, w5, e5, k5, rfl⟩ := thn_i k4
  obtain ⟨v6, t6, w6, e6, k6, rfl⟩ := thn_i k5
  obtain ⟨a1, f1, l1, l2, l3⟩ := ltR_i e1
  obtain ⟨rfl, f2, a2⟩ := wdR_i e2
  obtain ⟨rfl, f3, n3, a3⟩ := nuR_i e3
  obtain ⟨rfl, f4, a4⟩ := wdR_i e4
  obtain ⟨rfl, f5, n5, a5⟩ := nuR_i e5
  obtain ⟨rfl, f6, a6⟩ := wdR_i e6
  obtain ⟨rfl, f7, n7, a7⟩ := nuR_i k6
  have g1 := nxs_gt (b := b) a1
  have g2 := nxs_gt (b := b) a2
  have g3 := nxs_gt (b := b) a3
  have g4 := nxs_gt (b := b) a4
  have g5 := nxs_gt (b := b) a5
  have g6 := nxs_gt (b := b) a6
  have g7 := nxs_gt (b := b) a7
  refine ⟨⟨?_, fun _ => ⟨v1, _, _, _, rfl, l1, l2, l3, n3.2, n5.2, n7.2⟩, fun z => absurd z (by decide), fun z => absurd z (by decide), fun z => absurd z (by decide), fun z => absurd z (by decide)⟩, by omega⟩
  simp only [List.length_append, List.length_cons, List.length_nil]
  omega
theorem deed_5k {s : Nat} {vs : List Nat} {s2 : Nat} (h : deed b n 5 s = Sum.inr (vs, s2)) : okv 5 vs ∧ s ≤ s2 := by
  have d5 : deed b n 5 s = thn (ltR b n 1 s) fun s => thn (wdR b n 13 s) fun s => thn (ltR b n 1 s) fun s => thn (wdR b n 14 s) fun s => nuR b n 0 9 s := rfl
  rw [d5] at h
  obtain ⟨v1, t1, w1, e1, k1, rfl⟩ := thn_i h
  obtain ⟨v2, t2, w2, e2, k2, rfl⟩ := thn_i k1
  obtain ⟨v3, t3, w3, e3, k3, rfl⟩ := thn_i k2
  obtain ⟨v4, t4, w4, e4, k4, rfl⟩ := thn_i k3
  obtain ⟨a1, f1, -⟩ := ltR_i e1
  obtain ⟨rfl, f2, a2⟩ := wdR_i e2
  obtain ⟨a3, f3, -⟩ := ltR_i e3
  obtain ⟨rfl, f4, a4⟩ := wdR_i e4
  obtain ⟨rfl, f5, n5, a5⟩ := nuR_i k4
  obtain ⟨rfl, m1, -⟩ := ltR_1 e1 (by omega)
  obtain ⟨rfl, m3, -⟩ := ltR_1 e3 (by omega)
  have g1 := nxs_gt (b := b) a1
  have g2 := nxs_gt (b := b) a2
  have g3 := nxs_gt (b := b) a3
  have g4 := nxs_gt (b := b) a4
  have g5 := nxs_gt (b := b) a5
  exact ⟨⟨by simp, fun z => absurd z (by decide), fun z => absurd z (by decide), fun _ => ⟨_, _, _, rfl, by omega, by omega, n5.2⟩, fun z => absurd z (by decide), fun z => absurd z (by decide)⟩, by omega⟩
theorem deed_nk {q lo hi s : Nat} {vs : List Nat} {s2 : Nat} (hq : 7 ≤ q) (h : nuR b n lo hi s = Sum.inr (vs, s2)) (k : (q = 7 → hi ≤ 23) ∧ (q = 8 → hi ≤ 7) ∧ (q = 9 → 1 ≤ lo ∧ hi ≤ 40)) : okv q vs ∧ s ≤ s2 := by
  obtain ⟨rfl, f1, n1, a1⟩ := nuR_i h
  have g1 := nxs_gt (b := b) a1
  obtain ⟨k7, k8, k9⟩ := k
  exact ⟨⟨by simp, fun z => by omega, fun z => by omega, fun z => by omega, fun z => by omega, fun _ => ⟨_, rfl, fun z => by have := k7 z; omega, fun z => by have := k8 z; omega, fun z => by have := k9 z; omega⟩⟩, by omega⟩
theorem deed_ok {q s : Nat} {vs : List Nat} {s2 : Nat} (h : deed b n q s = Sum.inr (vs, s2)) (hq : 3 ≤ q ∧ q ≤ 9) : okv q vs ∧ s ≤ s2 := by
  rcases (show q = 3 ∨ q = 4 ∨ q = 5 ∨ q = 6 ∨ q = 7 ∨ q = 8 ∨ q = 9 by omega) with rfl | rfl | rfl | rfl | rfl | rfl | rfl
  · exact deed_3k h
  · obtain ⟨⟨h1, h2, h3⟩, h4⟩ := ssR_i (b := b) (n := n) 5 s vs s2 h
    exact ⟨⟨by omega, fun z => absurd z (by decide), fun _ => ⟨h1, h2, h3⟩, fun z => absurd z (by decide), fun z => absurd z (by decide), fun z => absurd z (by decide)⟩, h4⟩
  · exact deed_5k h
  · have e1 : ltR b n 1 s = Sum.inr (vs, s2) := h
    obtain ⟨a1, f1, -⟩ := ltR_i e1
    obtain ⟨rfl, m1, -⟩ := ltR_1 e1 (by omega)
    have g1 := nxs_gt (b := b) a1
    exact ⟨⟨by simp, fun z => absurd z (by decide), fun z => absurd z (by decide), fun z => absurd z (by decide), fun _ => ⟨_, rfl, by omega⟩, fun z => absurd z (by decide)⟩, by omega⟩
  · exact deed_nk (lo := 0) (hi := 23) (by omega) h ⟨fun _ => by omega, fun z => by omega, fun z => by omega⟩
  · exact deed_nk (lo := 0) (hi := 7) (by omega) h ⟨fun _ => by omega, fun z => by omega, fun z => by omega⟩
  · exact deed_nk (lo := 1) (hi := 40) (by omega) h ⟨fun _ => by omega, fun z => by omega, fun z => by omega⟩
end
