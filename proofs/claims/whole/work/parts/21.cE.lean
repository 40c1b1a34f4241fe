/-! a law runs -/
section
variable {d : Nat} {M : ev_Mem}
theorem I_0le {x : Int32} (h : ¬ x < 0) : ∃ j : Nat, j < 2 ^ 31 ∧ x = nI j := nI_of h
theorem run_go {k u : Nat} {Q : Option Value → ev_Mem → Prop} (hk : ev_isT k) (hu : u ≤ 300) : ∀ (n p s : Nat) (l : List Int32) (q : Nat) (l2 : List Int32) (M : ev_Mem), M.1 k 1 = nI u → s + n ≤ 300 → stk M l → vgo (M.1 (k + 1)) (M.1 84) (M.1 44) u n p l q l2 →
    (∀ M2, lf2 M M2 → stk M2 l2 → Ev LX (d + 1) mX1_run 23 [some (.ref 83), some (.ref k), none, some (.int (nI q)), some (.int (nI (s + n))), none, none, none] [] M2 Q) →
    Ev LX (d + 1) mX1_run 23 [some (.ref 83), some (.ref k), none, some (.int (nI p)), some (.int (nI s)), none, none, none] [] M Q := by
  have hk61 : k < 83 ∧ k + 1 < 83 := by obtain ⟨j, hj, rfl⟩ := hk; omega
  intro n
  induction n with
  | zero =>
    intro p s l q l2 M hM hs hst hv kk
    obtain ⟨rfl, rfl⟩ := hv
    exact kk M lf2.rf hst
  | succ n ih =>
    intro p s l q l2 M hM hs hst hv kk
    obtain ⟨hp, p1, l1, hv1, hl1, hv2⟩ := hv
    -- what follows a step
    have nx : ∀ (M2 : ev_Mem), lf2 M M2 → stk M2 l1 → Ev LX (d + 1) mX1_run 23 [some (.ref 83), some (.ref k), none, some (.int (nI p1)), some (.int (nI s + 1)), none, none, none] [] M2 Q := by
      intro M2 hf hst2
      rw [nI_1]
      have e1 : M2.1 (k + 1) = M.1 (k + 1) := hf.1.1 _ (Or.inl hk61.2)
      have e2 : M2.1 44 = M.1 44 := hf.1.1 _ (Or.inl (by omega))
      have e3 : M2.1 84 = M.1 84 := hf.2
      refine ih p1 (s + 1) l1 q l2 M2 (by rw [hf.1.1 k (Or.inl hk61.1)]; exact hM) (by omega) hst2 (by rw [e1, e2, e3]; exact hv2) (fun M3 hf3 hst3 => ?_)
      rw [show s + 1 + n = s + (n + 1) by omega]
      exact kk M3 (hf.tr hf3) hst3
    refine gX1_run_23 hk ⟨fun h => ?_, fun _ => ⟨fun h => ?_, fun _ => ⟨fun h => ?_, fun _ => ⟨vp_in_nI (by omega) (by omega), fun v1 e1 => ⟨vp_in_nI (by omega) (by omega), fun v2 e2 => ?_⟩⟩⟩⟩⟩
    · exact absurd h (nI_ge (b := 300) (by omega) (by omega))
    · exact absurd h (nI_pos (by omega))
    · rw [hM] at h
      exact absurd h (nI_ge hp (by omega))
    · rw [nI_clamp (by omega)] at e1 e2
      unfold vst at hv1
      simp only [← e1, ← e2] at hv1
      refine ⟨fun h => ?_, fun h => ?_, fun h => ?_, fun h => ?_, fun h => ?_, fun h => ?_, fun h => ?_, fun h => ?_, fun h => ?_⟩
      · subst h
        simp at hv1
      · rw [if_pos h] at hv1
        cases hv1
        have hl : l.length < 64 := by simp only [List.length_cons] at hl1; omega
        refine ⟨stk_hgt hst hl, fun M5 e5 => ?_⟩
        rw [e5, nI_1]
        exact nx _ lf2_push (stk_push hst hl)
      · rw [if_neg (by rw [h]; decide), if_pos h] at hv1
        cases hv1
        have hl : l.length < 64 := by simp only [List.length_cons] at hl1; omega
        refine ⟨fun h2 => ⟨stk_hgt hst hl, fun M6 e6 => ?_⟩, fun h2 => ⟨fun h3 => ⟨stk_hgt hst hl, fun M7 e7 => ?_⟩, fun h3 => ⟨?_, stk_hgt hst hl, fun M8 e8 => ?_⟩⟩⟩
        · have hz : iin v2 0 11 = false := iin_f.mpr (fun z => I_nlt.mpr z.1 h2)
          rw [hz] at nx
          rw [e6, nI_1]
          exact nx _ lf2_push (stk_push hst hl)
        · have hz : iin v2 0 11 = false := iin_f.mpr (fun z => I_12.mpr z.2 h3)
          rw [hz] at nx
          rw [e7, nI_1]
          exact nx _ lf2_push (stk_push hst hl)
        · rw [vp_in_iff]
          have q1 := I_nlt.mp h2
          have q2 := I_12.mp h3
          rw [I_le, I_0] at q1
          rw [I_le, show (11 : Int32).toInt = 11 from rfl] at q2
          omega
        · have hz : iin v2 0 11 = true := iin_t.mpr ⟨I_nlt.mp h2, I_12.mp h3⟩
          rw [hz] at nx
          rw [e8, nI_1]
          exact nx _ lf2_push (stk_push hst hl)
      · rw [if_neg (by rw [h]; decide), if_neg (by rw [h]; decide), if_neg (by rw [h]; decide), if_neg (by rw [h]; decide)] at hv1
        match l, hst, hv1 with
        | [], _, hv1 => cases hv1
        | x :: t, hst, hv1 =>
          simp only [if_pos h] at hv1
          cases hv1
          have hl : t.length < 64 := by simp only [List.length_cons] at hl1; omega
          refine ⟨stk_hgp hst, fun M9 e9 => ⟨by rw [e9]; exact stk_hgt (stk_pop hst) hl, fun M10 e10 => ?_⟩⟩
          rw [e10, e9, nI_1, stk_top hst]
          exact nx _ (lf2_pop.tr lf2_push) (stk_push (stk_pop hst) hl)
      · rw [if_neg (by rw [h]; decide), if_neg (by rw [h]; decide), if_neg (by rw [h]; decide), if_neg (by rw [h]; decide)] at hv1
        match l, hst, hv1 with
        | [], _, hv1 => cases hv1
        | x :: t, hst, hv1 =>
          simp only [if_pos h, if_neg (show ¬ v1 = 3 by rw [h]; decide)] at hv1
          cases hv1
          have hl : t.length < 64 := by simp only [List.length_cons] at hl1; omega
          refine ⟨stk_hgp hst, fun M9 e9 => ⟨by rw [e9]; exact stk_hgt (stk_pop hst) hl, fun M10 e10 => ?_⟩⟩
          have e44 : M9.1 44 = M.1 44 := by rw [e9]; exact lf2_pop.1.1 44 (Or.inl (by omega))
          rw [e44, e9, stk_top hst] at e10
          rw [e10, nI_1]
          exact nx _ (lf2_pop.tr lf2_push) (stk_push (stk_pop hst) hl)
      · rw [if_neg (by rw [h]; decide), if_neg (by rw [h]; decide), if_neg (by rw [h]; decide), if_neg (by rw [h]; decide)] at hv1
        match l, hst, hv1 with
        | [], _, hv1 => cases hv1
        | x :: t, hst, hv1 =>
          simp only [if_pos h, if_neg (show ¬ v1 = 3 by rw [h]; decide), if_neg (show ¬ v1 = 4 by rw [h]; decide)] at hv1
          cases hv1
          have hl : t.length < 64 := by simp only [List.length_cons] at hl1; omega
          refine ⟨stk_hgp hst, fun M9 e9 => ⟨by rw [e9]; exact stk_hgt (stk_pop hst) hl, fun M10 e10 => ?_⟩⟩
          rw [e10, e9, nI_1, stk_top hst]
          exact nx _ (lf2_pop.tr lf2_push) (stk_push (stk_pop hst) hl)
      · rw [if_neg (by rw [h]; decide), if_neg (by rw [h]; decide), if_neg (by rw [h]; decide), if_neg (by rw [h]; decide)] at hv1
        match l, hst, hv1 with
        | [], _, hv1 => cases hv1
        | x :: t, hst, hv1 =>
          simp only [if_pos h, if_neg (show ¬ v1 = 3 by rw [h]; decide), if_neg (show ¬ v1 = 4 by rw [h]; decide), if_neg (show ¬ v1 = 5 by rw [h]; decide)] at hv1
          refine ⟨stk_hgp hst, fun M9 e9 => ⟨fun h2 => ?_, fun h2 => ?_⟩⟩
          · rw [stk_top hst] at h2
            rw [if_neg h2] at hv1
            cases hv1
            rw [e9, nI_1]
            exact nx _ lf2_pop (stk_pop hst)
          · rw [stk_top hst] at h2
            rw [if_pos h2] at hv1
            by_cases h0 : 0 ≤ v2
            · rw [if_pos h0] at hv1
              cases hv1
              obtain ⟨j, hj, ej⟩ := nI_of (x := v2) (I_nlt.mpr h0)
              rw [ej, nI_clamp hj] at nx
              rw [e9, ej]
              exact nx _ lf2_pop (stk_pop hst)
            · rw [if_neg h0] at hv1
              cases hv1
      · rw [if_neg (by rw [h]; decide), if_neg (by rw [h]; decide), if_pos h] at hv1
        by_cases h0 : 0 ≤ v2
        · rw [if_pos h0] at hv1
          cases hv1
          obtain ⟨j, hj, ej⟩ := nI_of (x := v2) (I_nlt.mpr h0)
          rw [ej, nI_clamp hj] at nx
          rw [ej]
          exact nx _ lf2.rf hst
        · rw [if_neg h0] at hv1
          cases hv1
      · obtain ⟨n0, n1, n2, n3, n4, n5, n6, n7⟩ := h
        rw [if_neg n1, if_neg n2, if_neg n7, if_neg n0] at hv1
        match l, hst, hv1 with
        | [], _, hv1 => cases hv1
        | [x], hst, hv1 =>
          simp only [if_neg n3, if_neg n4, if_neg n5, if_neg n6] at hv1
          cases hv1
        | x :: z :: t, hst, hv1 =>
          simp only [if_neg n3, if_neg n4, if_neg n5, if_neg n6] at hv1
          cases hv1
          have hl : t.length < 64 := by simp only [List.length_cons] at hl1; omega
          refine ⟨stk_hgp hst, fun M16 e16 => ⟨by rw [e16]; exact stk_hgp (stk_pop hst), fun M17 e17 => ⟨by rw [e17, e16]; exact stk_hgt (stk_pop (stk_pop hst)) hl, fun M18 e18 => ?_⟩⟩⟩
          rw [e18, e17, e16, nI_1, stk_top hst, stk_top (stk_pop hst)]
          exact nx _ ((lf2_pop.tr lf2_pop).tr lf2_push) (stk_push (stk_pop (stk_pop hst)) hl)
/-- a law, from p on, comes to its stop with v on the stack -/
theorem qX1_run {k u n p q : Nat} {v : Int32} (hk : ev_isT k) (hu : u ≤ 300) (hM : M.1 k 1 = nI u) (hn : n < 300) (hv : vgo (M.1 (k + 1)) (upd (M.1 84) 0 (M.1 43 3)) (M.1 44) u n p [] q [v]) (hq : q < u) (hc : M.1 (k + 1) q &&& 31 = 0) : Cl LX (d + 1) mX1_run [.ref 83, .ref k, .int (nI p)] M (fun r M2 => r = some (.int v) ∧ lfr M M2) := by
  have hk61 : k < 83 ∧ k + 1 < 83 := by obtain ⟨j, hj, rfl⟩ := hk; omega
  refine Cl_of rfl (Nat.le_of_ble_eq_true rfl) rfl (gX1_run_0 hk (fun M1 e1 M2 e2 => ?_))
  have e84 : M2.1 84 = upd (M.1 84) 0 (M.1 43 3) := by rw [e2, wr_cell (by omega), e1, wr_row]
  have em2 : M2.2 = M.2 := by rw [e2, e1]; rfl
  have eo : ∀ i, i < 83 ∨ 85 < i → M2.1 i = M.1 i := fun i hi => by rw [e2, wr_cell (by omega), e1, wr_cell (by omega)]
  refine run_go hk hu n p 0 [] q [v] M2 (by rw [eo k (Or.inl hk61.1)]; exact hM) (by omega) ⟨by simp, by rw [e2, wr_same]; rfl, fun i hi => by simp at hi⟩ (by rw [eo (k + 1) (Or.inl hk61.2), eo 44 (Or.inl (by omega)), e84]; exact hv) (fun M3 hf hst => ?_)
  have ec : M3.1 (k + 1) q &&& 31 = 0 := by rw [hf.1.1 (k + 1) (Or.inl hk61.2), eo (k + 1) (Or.inl hk61.2)]; exact hc
  have eu : M3.1 k 1 = nI u := by rw [hf.1.1 k (Or.inl hk61.1), eo k (Or.inl hk61.1)]; exact hM
  refine gX1_run_23 hk ⟨fun h => ?_, fun _ => ⟨fun h => ?_, fun _ => ⟨fun h => ?_, fun _ => ⟨vp_in_nI (by omega) (by omega), fun v1 e1 => ⟨vp_in_nI (by omega) (by omega), fun v2 e2 => ?_⟩⟩⟩⟩⟩
  · exact absurd h (nI_ge (b := 300) (by omega) (by omega))
  · exact absurd h (nI_pos (by omega))
  · rw [eu] at h
    exact absurd h (nI_ge hq (by omega))
  · rw [nI_clamp (by omega), ec] at e1
    refine ⟨fun _ => ⟨stk_hgp hst, fun M4 e4 => ⟨by rw [stk_top hst], ?_⟩⟩, fun h => ?_, fun h => ?_, fun h => ?_, fun h => ?_, fun h => ?_, fun h => ?_, fun h => ?_, fun h => ?_⟩
    · rw [e4]
      refine ⟨fun i hi => ?_, ?_⟩
      · rw [lf2_pop.1.1 i hi, hf.1.1 i hi, eo i hi]
      · rw [lf2_pop.1.2, hf.1.2]; exact em2
    · rw [e1] at h; exact absurd h (by decide)
    · rw [e1] at h; exact absurd h (by decide)
    · rw [e1] at h; exact absurd h (by decide)
    · rw [e1] at h; exact absurd h (by decide)
    · rw [e1] at h; exact absurd h (by decide)
    · rw [e1] at h; exact absurd h (by decide)
    · rw [e1] at h; exact absurd h (by decide)
    · exact absurd e1 h.1
end
