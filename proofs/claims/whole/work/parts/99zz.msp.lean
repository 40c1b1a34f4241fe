section
variable {d : Nat} {N : ev_Mem}
theorem lts_at {b : Nat → Nat} {s : Nat} : ∀ m i, i < m → (lts' b s m).getD i 0 = b (s + i) - 97
  | 0, i, h => by omega
  | m + 1, i, h => by
    rw [lts']
    rcases Nat.lt_or_ge i m with w | w
    · rw [gD_l (by rw [lts_len]; exact w)]
      exact lts_at m i w
    · obtain rfl : i = m := by omega
      have := gD_r (l := lts' b s i) (c := b (s + i) - 97)
      rw [lts_len] at this
      exact this
theorem kX11_spelled {n s x m : Nat} (h : mdS N n s) (hx : x + m < 3700) (hm : m ≤ 9) : Cl LM (d + 2) mX11_spelled [.ref 0, .int (nI x), .int (nI m)] N (fun r N2 => (∃ f, ltR (byN N) n m s = Sum.inl (f, s) ∧ 1 ≤ f ∧ f ≤ 8 ∧ r = some (.int (nI f)) ∧ mdS N2 n s ∧ mfd x (x + 1 + m) N N2) ∨ (∃ vs, ltR (byN N) n m s = Sum.inr (vs, nxs (byN N) n s) ∧ r = some (.int 0) ∧ mdS N2 n (nxs (byN N) n s) ∧ mfd x (x + 1 + m) N N2 ∧ N2.1 4 x = nI vs.length ∧ ∀ i, i < vs.length → N2.1 4 (x + 1 + i) = nI (vs.getD i 0))) := by
  have b := md_b h
  have el := nxt_le (b := byN N) (n := n) (s := s) h.2.2
  have t2 := tkN_2 _ b.2.2
  refine Cl_of rfl (Nat.le_of_ble_eq_true rfl) rfl (gX11_spelled_0 ?_)
  rw [h.2.1.2.2.1, h.2.1.1, h.2.1.2.1, t2, pk_sub el.1]
  refine ⟨fun h1 => ⟨fun z => ?_, fun z => ?_⟩, fun n1 => Or.inl ⟨1, by unfold ltR; rw [if_neg n1], by omega, by omega, rfl, h, mfd.rf⟩⟩
  · have hsn := srt_end (b := byN N) (n := n) (s := s) (by omega)
    have z1 : ¬ m < nxt (byN N) n s - s := fun q => absurd z (nI_ge q (by omega))
    have lp : ∀ j, j ≤ nxt (byN N) n s - s → ∀ N1, mdS N1 n s → mfd x (x + 1 + m) N N1 → (∀ i, i < j → (decide (97 ≤ byN N (s + i)) && decide (byN N (s + i) ≤ 122)) = true ∧ N1.1 4 (x + 1 + i) = nI (byN N (s + i) - 97)) → Ev LM (d + 2) mX11_spelled 31 [some (.ref 0), some (.int (nI x)), none, some (.int (nI (nxt (byN N) n s - s))), some (.int (nI j))] [] N1 (fun r N2 => (∃ f, ltR (byN N) n m s = Sum.inl (f, s) ∧ 1 ≤ f ∧ f ≤ 8 ∧ r = some (.int (nI f)) ∧ mdS N2 n s ∧ mfd x (x + 1 + m) N N2) ∨ (∃ vs, ltR (byN N) n m s = Sum.inr (vs, nxs (byN N) n s) ∧ r = some (.int 0) ∧ mdS N2 n (nxs (byN N) n s) ∧ mfd x (x + 1 + m) N N2 ∧ N2.1 4 x = nI vs.length ∧ ∀ i, i < vs.length → N2.1 4 (x + 1 + i) = nI (vs.getD i 0))) := by
      refine dn ?_ (fun j hj ih => ?_)
      · intro N1 m1 f1 cs
        refine gX11_spelled_31 ⟨fun _ => ⟨vp_in_nI (by omega) (by omega), fun N2 e2 => ?_⟩, fun q => absurd (nI_le (Nat.le_refl _) (by omega)) q⟩
        rw [nI_clamp (by omega)] at e2
        have m2 : mdS N2 n s := by rw [e2]; exact md_w m1
        have f2 : mfd x (x + 1) N1 N2 := by rw [e2]; exact mfd_w
        have f12 := f1.tr (f2.up (Nat.le_refl _) (by omega))
        refine ⟨_, md_nx (a := x) (c := x) m2 hsn, fun zr N3 hz => ?_⟩
        obtain ⟨rfl, m3, f3, lt⟩ := hz
        rw [mfd_by f12] at m3
        have c4 : ∀ j, N3.1 4 j = N2.1 4 j := fun j => f3.2.2 j (by omega)
        refine gX11_spelled_103 (Or.inr ⟨lts' (byN N) s (nxt (byN N) n s - s), ?_, rfl, m3, f12.tr (f3.up (Nat.le_refl _) (by omega)), ?_, fun i hi => ?_⟩)
        · unfold ltR
          rw [if_pos h1, if_neg z1, if_pos (show sma (byN N) n s = true from al_t.mpr (fun i hi => (cs i hi).1))]
        · rw [c4, e2, wr_same, lts_len]
        · rw [lts_len] at hi
          rw [c4, f2.2.2 _ (by omega), (cs i hi).2, lts_at _ _ hi]
      · intro N1 m1 f1 cs
        have b1 := mfd_by f1
        have e9 := m1.2.1.1
        have e3 : nI s + nI j = nI (s + j) := nI_add s j
        have e4 : (nI x + 1) + nI j = nI (x + 1 + j) := by rw [nI_1, nI_add]
        obtain ⟨k1, k2, k3⟩ := bt_in m1.1 (i := s + j) (by omega)
        rw [b1] at k2 k3
        refine gX11_spelled_31 ⟨fun q => absurd q (nI_ge hj (by omega)), fun _ => ?_⟩
        rw [e9, e3, e4, k2, smi _ k3]
        refine ⟨k1, fun q => ⟨k1, vp_in_nI (by omega) (by omega), fun N2 e2 => ?_⟩, fun q => Or.inl ⟨7, ?_, by omega, by omega, rfl, m1, f1⟩⟩
        · have q' := q
          rw [Bool.and_eq_true, decide_eq_true_iff, decide_eq_true_iff] at q'
          rw [nI_clamp (by omega), show (97 : Int32) = nI 97 from rfl, pk_sub q'.1] at e2
          rw [nI_1]
          have f2 : mfd (x + 1 + j) (x + 1 + j + 1) N1 N2 := by rw [e2]; exact mfd_w
          refine ih N2 (by rw [e2]; exact md_w m1) (f1.tr (f2.up (by omega) (by omega))) (fun i hi => ?_)
          rcases Nat.lt_or_ge i j with w | w
          · exact ⟨(cs i w).1, by rw [f2.2.2 _ (by omega)]; exact (cs i w).2⟩
          · obtain rfl : i = j := by omega
            exact ⟨q, by rw [e2, wr_same]⟩
        · unfold ltR sma
          rw [if_pos h1, if_neg z1, al_f hj q, if_neg (by decide)]
    exact lp 0 (by omega) N h mfd.rf (fun i hi => by omega)
  · have z1 : m < nxt (byN N) n s - s := by
      rcases Nat.lt_or_ge m (nxt (byN N) n s - s) with q | q
      · exact q
      · exact absurd (nI_le q (by omega)) z
    exact Or.inl ⟨7, by unfold ltR; rw [if_pos h1, if_pos z1], by omega, by omega, rfl, h, mfd.rf⟩
end
