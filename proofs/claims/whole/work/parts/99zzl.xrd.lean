/-! THE CLASS READS A TEXT -/
section
variable {d : Nat} {M : ev_Mem}
def ccR (M : ev_Mem) (n kt : Nat) (L : List CL) (O : CR) (r : Option Value) (M2 : ev_Mem) : Prop := (∃ f s2, O = Sum.inl (f, s2) ∧ 1 ≤ f ∧ f ≤ 8 ∧ r = some (.int 0) ∧ M2.1 81 3 = nI f ∧ M2.1 81 4 = nI s2 ∧ cfx kt M M2) ∨ (∃ x s2, O = Sum.inr (x, s2) ∧ r = some (.int 1) ∧ tX M2 n kt (L ++ [x]) s2 ∧ cfx kt M M2 ∧ M2.1 81 3 = M.1 81 3 ∧ M2.1 81 4 = M.1 81 4)
theorem kX4_readClause {n kt s : Nat} {L : List CL} (h : tX M n kt L s) : Cl LX (d + 80) mX4_readClause [.ref 81, .int (nI L.length)] M (ccR M n kt L (cs1 (byM M) n L s)) := by
  obtain ⟨u, hr, hus, ⟨h4, hL24⟩, hl, hw⟩ := h
  obtain ⟨hp, hk, hs, h1, hT, hu⟩ := id hr
  have kb := isT_b hT
  have n3 := hp.1
  refine Cl_of rfl (Nat.le_of_ble_eq_true rfl) rfl (gX4_readClause_0 (d := d + 79) ⟨_, kX4_rankIn (d := d + 75) (i := 0) (ws := clW) (by omega) clW_e (by decide) hp hs hk, fun zr zM hz => ?_⟩)
  rw [hz.1, hz.2]
  have kt1 : (M.1 81 1).toNatClampNeg = kt := by rw [h1, nI_clamp (by omega)]
  have kt2 : ¬ M.1 81 1 = 0 ∧ ev_isT (M.1 81 1).toNatClampNeg := by
    rw [h1, nI_clamp (by omega)]
    exact ⟨nI_ne0 (by omega) (by omega), hT⟩
  have fl : ∀ f, 1 ≤ f → f ≤ 8 → cs1 (byM M) n L s = Sum.inl (f, s) → ∀ M1, M1 = flM M (nI f) → ccR M n kt L (cs1 (byM M) n L s) (some (.int 0)) M1 := fun f g1 g2 e M1 e1 => by
    refine Or.inl ⟨f, s, e, g1, g2, rfl, ?_, ?_, by rw [e1]; exact cfx_fl⟩
    · rw [e1]; unfold flM; rw [wr_ne (by omega), wr_same]
    · rw [e1]; unfold flM; rw [wr_same]; exact hk.2.1
  rcases cl_c (byM M) n s with e | ⟨q, hq, e, hs1, hsn, h3⟩
  · rw [e]
    exact gX4_readClause_6 ⟨fun z => absurd rfl z, fun _ M4 e4 => fl 1 (by omega) (by omega) (by unfold cs1; rw [if_pos e]) M4 e4⟩
  · have e1 : cs1 (byM M) n L s = cs2 (byM M) n L q s := by
      unfold cs1
      rw [if_neg (by rw [e]; exact nI_nm1 (by omega)), e, nI_clamp (by omega)]
    rw [e]
    have l24 : nI L.length < 24 ↔ L.length < 24 := nI_lt_iff (b := 24) (by omega) (by omega)
    have six : (decide (q < 3) && hsK L q) = false → ¬ L.length < 24 → ∀ M1, M1 = flM M 6 → ccR M n kt L (cs1 (byM M) n L s) (some (.int 0)) M1 := fun z y M1 eM => fl 6 (by omega) (by omega) (by rw [e1]; unfold cs2; rw [z, if_neg (by decide), if_pos (by omega)]) M1 eM
    have q2 : (2 : Int32) < nI q ↔ 2 < q := nI_lt_iff (a := 2) (b := q) (by omega) (by omega)
    have go : (decide (q < 3) && hsK L q) = false → L.length < 24 → ((¬ M.1 81 1 = 0 ∧ ev_isT (M.1 81 1).toNatClampNeg) ∧ ∃ Q2 : Option Value → ev_Mem → Prop, Cl LX (d + 79) mX8_begin [.ref ((M.1 81 1).toNatClampNeg), .int (nI q)] M Q2 ∧ ∀ (zr : Option Value) (zM : ev_Mem), Q2 zr zM → Ev LX (d + 80) mX4_readClause 63 [some (.ref 81), none, some (.int (nI q)), none] (zr.toList ++ []) zM (ccR M n kt L (cs1 (byM M) n L s))) := by
      intro nl l24
      have ec : cs1 (byM M) n L s = cs3 (byM M) n q (bdR (byM M) n q (nxs (byM M) n s)) := by rw [e1]; unfold cs2; rw [nl, if_neg (by decide), if_neg (by omega)]
      refine ⟨kt2, ?_⟩
      rw [kt1]
      refine ⟨_, kX8_begin hT l24 h4 hu hq, fun zr M1 hz => ?_⟩
      obtain ⟨rfl, o0, ⟨o1, o2⟩, ⟨o3, o4⟩, ⟨o5, o6⟩, o7, o8⟩ := hz
      have c1 : cfx kt M M1 := ⟨fun i a b => o0 i (by omega) (by omega) (by omega) (by omega), fun j _ => by rw [o0 81 (by omega) (by omega) (by omega) (by omega)]⟩
      have b1 : byM M1 = byM M := cfx_by hT c1
      have r1 : rdQ M1 n kt s u := by
        refine ⟨⟨hp.1, ?_, ?_⟩, ?_, hs, ?_, hT, (o1 1 (by omega)).trans hu⟩
        · rw [c1.1 1 (by omega) (by omega)]; exact hp.2.1
        · rw [c1.1 2 (by omega) (by omega)]; exact hp.2.2
        · unfold tkS
          rw [b1, o0 81 (by omega) (by omega) (by omega) (by omega)]
          exact hk
        · rw [o0 81 (by omega) (by omega) (by omega) (by omega)]; exact h1
      refine gX4_readClause_63 (d := d + 79) ⟨_, adv_q (d := d + 78) r1 hsn, fun zr M2 hz => ?_⟩
      obtain ⟨rfl, r2, p2⟩ := hz
      rw [b1] at r2
      have b2 : byM M2 = byM M := (pfz_by hT p2).trans b1
      refine xcl_b (d := d) r2 (by omega) (by omega) (fun v M3 hb => ?_)
      rw [b2] at hb
      rw [ec]
      rcases hb with ⟨f, s2, eO, g1, g2, rfl, g3, g4, g5⟩ | ⟨vs, K, s2, u2, eO, rfl, r3, z3, g1, g2, g3⟩
      · exact gX4_readClause_106 (d := d + 79) ⟨fun _ => Or.inl ⟨f, s2, by rw [eO]; rfl, g1, g2, rfl, g3, g4, (c1.tr (cfx_z (cfz_p p2))).tr g5⟩, fun y => absurd rfl y⟩
      · have z13 := (cfz_p p2).tr z3 (Nat.le_refl _)
        have b3 : byM M3 = byM M := (cfx_by hT (cfx_z z13)).trans b1
        refine gX4_readClause_106 (d := d + 79) ⟨fun y => absurd y (by decide), fun _ => ⟨_, kX4_expectSign (d := d + 77) (c := 59) r3 (by omega) (by omega), fun zr M4 hz => ?_⟩⟩
        rw [b3] at hz
        rcases hz with ⟨t1, rfl, r4, p4, lt⟩ | ⟨t1, rfl, rfl⟩
        · refine gX4_readClause_117 ⟨fun y => absurd y (by decide), fun _ => ?_⟩
          have z14 := z13.tr (cfz_p p4) g1
          have z34 := p4
          refine Or.inr ⟨(q, vs, K), nxs (byM M) n s2, by rw [eO]; unfold cs3; simp only; rw [if_pos t1], rfl, ⟨u2, ⟨r4.1, r4.2.1, r4.2.2.1, r4.2.2.2.1, hT, r4.2.2.2.2.2.1⟩, by omega, ⟨?_, ?_⟩, fun i hi => ?_, fun k hk3 => ⟨fun y => ?_, fun i hi y => ?_⟩⟩, c1.tr (cfx_z z14), ?_, ?_⟩
          · rw [z14.2.2.1 4 (by omega), o2, List.length_append, List.length_singleton]
          · rw [List.length_append, List.length_singleton]; omega
          · rw [List.length_append, List.length_singleton] at hi
            rcases Nat.lt_or_ge i L.length with y | y
            · rw [gl_l y]
              obtain ⟨st, k1, k2, k3, k4⟩ := hl i y
              refine ⟨st, k1, ?_, ?_, ctX_cg g1 (fun j a => ?_) k4⟩
              · rw [z14.1 (kt + 2) (by omega) (by omega) (by omega), o3 i (by omega)]; exact k2
              · rw [z14.1 (kt + 3) (by omega) (by omega) (by omega), o5 i (by omega)]; exact k3
              · rw [z14.2.2.2 j a, o0 (kt + 1) (by omega) (by omega) (by omega) (by omega)]
            · obtain rfl : i = L.length := by omega
              rw [gl_r]
              refine ⟨u, by omega, ?_, ?_, ctX_cg (Nat.le_refl _) (fun j a => p4.2.2.2 j a) g3⟩
              · rw [z14.1 (kt + 2) (by omega) (by omega) (by omega)]; exact o4
              · rw [z14.1 (kt + 3) (by omega) (by omega) (by omega)]; exact o6
          · rw [hsK_a, Bool.or_eq_false_iff] at y
            have ne : k ≠ q := fun z => by rw [z] at y; exact absurd y.2 (by simp)
            rw [z14.1 (kt + 4) (by omega) (by omega) (by omega), o7 k ne]
            exact (hw k hk3).1 y.1
          · rw [List.length_append, List.length_singleton] at hi
            rw [z14.1 (kt + 4) (by omega) (by omega) (by omega), z14.1 (kt + 3) (by omega) (by omega) (by omega)]
            rcases Nat.lt_or_ge i L.length with w | w
            · rw [gl_l w] at y
              have ne : k ≠ q := fun z => by
                rw [z] at y hk3
                rw [decide_eq_true hk3, Bool.true_and] at nl
                exact hsK_f nl w y
              rw [o7 k ne, o5 i (by omega)]
              exact (hw k hk3).2 i w y
            · obtain rfl : i = L.length := by omega
              rw [gl_r] at y
              have y : q = k := y
              subst y
              rw [o8 hk3, o6]
          · rw [z14.2.1 3 (by omega), o0 81 (by omega) (by omega) (by omega) (by omega)]
          · rw [z14.2.1 4 (by omega), o0 81 (by omega) (by omega) (by omega) (by omega)]
        · refine gX4_readClause_117 ⟨fun _ => Or.inl ⟨1, s2, by rw [eO]; unfold cs3; simp only; rw [if_neg t1], by omega, by omega, rfl, ?_, ?_, (c1.tr (cfx_z z13)).tr cfx_fl⟩, fun y => absurd rfl y⟩
          · unfold flM; rw [wr_ne (by omega), wr_same]
          · unfold flM; rw [wr_same]; exact r3.2.1.2.1
    refine gX4_readClause_6 (d := d + 79) ⟨fun _ => ⟨fun z => ?_, fun z => ?_⟩, fun z => absurd z (nI_nm1 (by omega))⟩
    · have q3 := q2.mp z
      have nl : (decide (q < 3) && hsK L q) = false := by rw [decide_eq_false (by omega), Bool.false_and]
      rw [l24]
      exact ⟨fun y => go nl y, fun y => six nl y⟩
    · have q3 : q < 3 := by
        rcases Nat.lt_or_ge q 3 with y | y
        · exact y
        · exact absurd (q2.mpr (by omega)) z
      refine ⟨kt2, vp_in_nI (by omega) (by omega), ?_⟩
      rw [l24, nI_clamp (by omega)]
      have lw : (M.1 ((M.1 81 1).toNatClampNeg + 4) q = -1) ↔ hsK L q = false := by
        rw [kt1]
        constructor
        · intro y
          cases hh : hsK L q with
          | false => rfl
          | true =>
            obtain ⟨i, hi, ei⟩ := hsK_t hh
            obtain ⟨st, k1, -, k3, -⟩ := hl i hi
            rw [(hw q q3).2 i hi ei, k3] at y
            exact absurd y (nI_nm1 (by omega))
        · exact fun y => (hw q q3).1 y
      rw [lw]
      refine ⟨fun y => ⟨fun y2 => go (by rw [y, Bool.and_false]) y2, fun y2 => six (by rw [y, Bool.and_false]) y2⟩, fun y => fl 4 (by omega) (by omega) ?_⟩
      rw [e1]
      unfold cs2
      rw [decide_eq_true q3, Bool.true_and, if_pos (by simpa using y)]
def xtR (M : ev_Mem) (n kt : Nat) (O : (Nat × Nat) ⊕ List CL) (r : Option Value) (M2 : ev_Mem) : Prop := (∃ f s2, O = Sum.inl (f, s2) ∧ 1 ≤ f ∧ f ≤ 8 ∧ r = some (.int 0) ∧ M2.1 81 3 = nI f ∧ M2.1 81 4 = nI s2 ∧ cfx kt M M2) ∨ (∃ L s, O = Sum.inr L ∧ r = some (.int 1) ∧ tX M2 n kt L s ∧ cfx kt M M2 ∧ M2.1 81 3 = M.1 81 3 ∧ M2.1 81 4 = M.1 81 4)
theorem xrd_lp {n kt : Nat} (hT : ev_isT kt) : ∀ (f : Nat) (L : List CL) (s : Nat) (M1 : ev_Mem), L.length + f = 25 → tX M1 n kt L s → cfx kt M M1 → (M1.1 81 3 = M.1 81 3 ∧ M1.1 81 4 = M.1 81 4) → Ev LX (d + 81) mX4_read 38 [some (.ref 81), none, some (.int (nI L.length))] [] M1 (xtR M n kt (rdT (byM M) n f L s)) := by
  intro f
  induction f with
  | zero =>
    intro L s M1 hf h fr f34
    obtain ⟨u, -, -, ⟨-, h24⟩, -⟩ := h
    omega
  | succ f ih =>
    intro L s M1 hf h fr f34
    have b1 : byM M1 = byM M := cfx_by hT fr
    obtain ⟨u, ⟨hp, hk, hs, -⟩, -, ⟨-, h24⟩, -⟩ := id h
    have sl := srt_lt (b := byM M1) (n := n) (s := s) (fun i hi => tk_by hp hi)
    have e5 : M1.1 81 5 = 0 ↔ srt (byM M1) n s = 0 := by rw [hk.1]; exact nI_eq (b := 0) (by omega) (by omega)
    refine gX4_read_38 (d := d + 80) hT ?_
    rw [e5, b1, rdT]
    refine ⟨fun z => absurd ((nI_lt_iff (a := 24) (by omega) (by omega)).mp z) (by omega), fun _ => ⟨fun z => Or.inr ⟨L, s, by rw [if_pos z], rfl, h, fr, f34⟩, fun z => ⟨_, kX4_readClause h, fun zr M2 hz => ?_⟩⟩⟩
    rw [if_neg z, ← b1]
    rcases hz with ⟨g, s2, e, g1, g2, rfl, g3, g4, f2⟩ | ⟨x, s2, e, rfl, h2, f2, k3, k4⟩
    · exact gX4_read_56 hT ⟨fun y => absurd rfl y, fun _ => Or.inl ⟨g, s2, by rw [e], g1, g2, rfl, g3, g4, fr.tr f2⟩⟩
    · refine gX4_read_56 hT ⟨fun _ => ?_, fun y => absurd y (by decide)⟩
      rw [e, b1, nI_1]
      have := ih (L ++ [x]) s2 M2 (by rw [List.length_append, List.length_singleton]; omega) h2 (fr.tr f2) ⟨k3.trans f34.1, k4.trans f34.2⟩
      rw [List.length_append, List.length_singleton] at this
      exact this
end
