/-! CALL: text -/
section
variable {d B : Nat} {M N : ev_Mem}
theorem op_text (h : RX B M N) : OQ 200 mX10_text mX11_text [] B M N := by
  obtain ⟨n, n300, eM, eN, tt⟩ := RX_tr h
  obtain ⟨T, hT4, mT, nT⟩ : ∃ T, T ≤ 4 ∧ M.1 47 2 = nI T ∧ N.1 1 2 = nI T := by
    obtain ⟨W, S, T, Wk, Sk, Tk, ⟨h1, -⟩, -⟩ := id h
    obtain ⟨-, ⟨T, k1, k2, k3, -⟩, -⟩ := nRel_iff.mp h1.2.2.2
    exact ⟨T, k1, k2, k3⟩
  by_cases e : T = 4
  · refine (op_ro (v := some (.int (-1))) h (Cl_of rfl (Nat.le_of_ble_eq_true rfl) rfl (gX10_text_0 (d := 199) ⟨fun z => ⟨rfl, xq.rf⟩, fun _ => ⟨fun z => ?_, fun _ => ⟨rfl, xq.rf⟩⟩⟩)) (Cl_of rfl (Nat.le_of_ble_eq_true rfl) rfl (gX11_text_0 (d := 199) ⟨fun z => absurd (by rw [nT, e]; rfl) z, fun _ => ⟨rfl, pe.rf⟩⟩))).oq
    rw [mT, e] at z
    exact absurd z (by decide)
  · have hT : T < 4 := by omega
    have hkt : ev_isT (61 + 5 * T) := ⟨T, hT, rfl⟩
    have hp : tpK M n := ⟨n300, eM, fun i hi => by rw [(tt i hi).1]; exact (tt i hi).2⟩
    have hq : tpN N n := ⟨n300, eN, fun i hi => (tt i hi).2⟩
    have hb : bq (byM M) (byN N) n := fun i hi => by unfold byM byN; rw [(tt i hi).1]
    have eO : rdT (byM M) n 25 [] (skp (byM M) n 0) = rdT (byN N) n 25 [] (skp (byN N) n 0) := by rw [skp_cg hb, rdT_cg hb]
    have R' : RX B (ev_wr M 1 1 0) (ev_wr N 0 5 0) := RX_tp h (fun k _ a _ _ => wr_cell a) (fun k a _ => wr_cell (by omega)) ⟨wr_ne (by omega), wr_ne (by omega)⟩ ⟨0, by omega, wr_same, wr_same, fun i hi => absurd hi (by omega)⟩
    have r1 : (ev_wr M 1 1 0).1 1 = upd (M.1 1) 1 0 := wr_row
    have nl : ¬ nI T < 0 := fun z => absurd (nI_0le (i := T) (by omega)) (fun y => I_nlt.mpr y z)
    have l4 : nI T < 4 := nI_lt (b := 4) hT (by omega)
    cases hO : rdT (byN N) n 25 [] (skp (byN N) n 0) with
    | inl p =>
      obtain ⟨f, s2⟩ := p
      refine ⟨some (.int (-1)), vok _, fun M2 => (M2.1 81 2 = 1 ∧ M2.1 81 3 = nI f ∧ M2.1 81 4 = nI s2) ∧ ∀ i, i ≠ 81 → i < 61 + 5 * T ∨ 61 + 5 * T + 5 ≤ i → M2.1 i = (ev_wr M 1 1 0).1 i, fun N2 => (N2.1 0 6 = nI f ∧ N2.1 0 7 = nI s2 ∧ N2.1 0 5 = 0) ∧ (∀ i, i ≠ 0 → i ≠ 4 → i ≠ 6 → N2.1 i = N.1 i) ∧ ∀ j, j < 945 * T → N2.1 4 j = N.1 4 j, ?_, ?_, ?_⟩
      · refine Cl_of rfl (Nat.le_of_ble_eq_true rfl) rfl (gX10_text_0 (d := 199) ?_)
        rw [mT, nI_clamp (by omega)]
        refine ⟨fun z => absurd z nl, fun _ => ⟨fun _ => ⟨vp_in_nI (by omega) (by omega), _, kX4_read (d := 118) hkt hp, fun zr M2 hz => ?_⟩, fun z => absurd l4 z⟩⟩
        rw [eO, hO] at hz
        rcases hz with ⟨f', s', e, -, -, rfl, g3, g4⟩ | ⟨L, s, e, -⟩
        · cases e
          refine gX10_text_32 fun M3 e3 => ⟨fun z => absurd rfl z, fun _ => ⟨rfl, ⟨?_, ?_, ?_⟩, fun i a b => ?_⟩⟩
          · rw [e3, wr_cell (by omega)]; exact g3.1
          · rw [e3, wr_cell (by omega)]; exact g3.2.1
          · rw [e3, wr_cell (by omega)]; exact g3.2.2
          · by_cases i1 : i = 1
            · subst i1
              rw [r1, e3, wr_row, g4 1 (by omega) (by omega)]
            · rw [e3, wr_cell i1, wr_cell i1, g4 i a b]
        · cases e
      · refine Cl_of rfl (Nat.le_of_ble_eq_true rfl) rfl (gX11_text_0 (d := 199) ⟨fun _ => ⟨_, kX11_readText (d := 187) hq nT hT, fun zr N2 hz => ?_⟩, fun z => ?_⟩)
        · rw [hO] at hz
          rcases hz with ⟨f', s', e, g1, g2, rfl, g3, g4⟩ | ⟨L, s, e, -⟩
          · cases e
            refine gX11_text_17 fun M1 e1 => ?_
            have a6 : M1.1 0 6 = nI f := by rw [e1, wr_same]
            have nz := nI_ne0 g1 (show f < 2 ^ 31 by omega)
            rw [a6]
            refine ⟨fun _ M2 e2 M3 e3 => ?_, fun z => absurd z nz⟩
            have b6 : M3.1 0 6 = nI f := by rw [e3, wr_ne (by omega), e2, wr_ne (by omega)]; exact a6
            rw [b6]
            refine ⟨fun z => absurd z nz, fun _ => ⟨rfl, ⟨b6, ?_, ?_⟩, fun i a b c => ?_, fun j a => ?_⟩⟩
            · rw [e3, wr_ne (by omega), e2, wr_same, e1, wr_ne (by omega)]; exact g3
            · rw [e3, wr_same]
            · rw [e3, wr_cell a, e2, wr_cell a, e1, wr_cell a, g4.1 i a b c]
            · rw [e3, wr_cell (by omega), e2, wr_cell (by omega), e1, wr_cell (by omega), g4.2.2 j (by omega)]
          · cases e
        · rw [nT] at z
          exact absurd ((nI_eq (b := 4) (by omega) (by omega)).mp z) e
      · intro M2 N2 ⟨⟨a1, a2, a3⟩, a4⟩ ⟨⟨b1, b2, b3⟩, b4, b5⟩
        refine RX_up (B := B) (by omega) (RX_tx (T := T) (T2 := T) R' (by rw [wr_cell (by omega)]; exact nT) hT (by omega) (fun k x y => a4 k (by omega) (by omega)) (fun j x => by rw [a4 47 (by omega) (by omega)]) ?_ (fun j x => by rw [b4 1 (by omega) (by omega) (by omega), wr_cell (by omega)]) ?_ ?_ ?_ (fun j x => by rw [b5 j x, wr_cell (by omega)]) ?_ ?_ (fun t x y => by omega) ⟨a1, ?_, ?_⟩)
        · rw [a4 47 (by omega) (by omega), wr_cell (by omega)]; exact mT
        · rw [b4 1 (by omega) (by omega) (by omega)]; exact nT
        · rw [b4 2 (by omega) (by omega) (by omega), wr_cell (by omega)]
        · rw [b4 3 (by omega) (by omega) (by omega), wr_cell (by omega)]
        · rw [b4 5 (by omega) (by omega) (by omega), wr_cell (by omega)]
        · rw [b3, wr_same]
        · rw [a2, b1]
        · rw [a3, b2]
    | inr L =>
      refine ⟨some (.int (nI T)), vok _, fun M2 => ∃ Mr s, tX Mr n (61 + 5 * T) L s ∧ (Mr.1 81 2 = 1 ∧ Mr.1 81 3 = 0 ∧ Mr.1 81 4 = -1) ∧ (∀ i, i ≠ 81 → i < 61 + 5 * T ∨ 61 + 5 * T + 5 ≤ i → Mr.1 i = M.1 i) ∧ M2 = ev_wr (ev_wr Mr 1 1 0) 47 2 (nI (T + 1)), fun N2 => ∃ Nr s, tM Nr n (945 * T) L s ∧ tfm (945 * T) N Nr ∧ N2 = ev_wr (ev_wr (ev_wr (ev_wr Nr 0 6 0) 0 7 (-1)) 0 5 0) 1 2 (nI (T + 1)), ?_, ?_, ?_⟩
      · refine Cl_of rfl (Nat.le_of_ble_eq_true rfl) rfl (gX10_text_0 (d := 199) ?_)
        rw [mT, nI_clamp (by omega)]
        refine ⟨fun z => absurd z nl, fun _ => ⟨fun _ => ⟨vp_in_nI (by omega) (by omega), _, kX4_read (d := 118) hkt hp, fun zr M2 hz => ?_⟩, fun z => absurd l4 z⟩⟩
        rw [eO, hO] at hz
        rcases hz with ⟨f', s', e, -⟩ | ⟨L', s, e, rfl, g3, g4, g5⟩
        · cases e
        · cases e
          refine gX10_text_32 fun M3 e3 => ⟨fun _ M4 e4 => ⟨rfl, M2, s, g3, g4, g5, ?_⟩, fun z => absurd z (by decide)⟩
          rw [e4, e3, nI_1]
      · refine Cl_of rfl (Nat.le_of_ble_eq_true rfl) rfl (gX11_text_0 (d := 199) ⟨fun _ => ⟨_, kX11_readText (d := 187) hq nT hT, fun zr N2 hz => ?_⟩, fun z => ?_⟩)
        · rw [hO] at hz
          rcases hz with ⟨f', s', e, -⟩ | ⟨L', s, e, rfl, g3, g4⟩
          · cases e
          · cases e
            refine gX11_text_17 fun M1 e1 => ?_
            have a6 : M1.1 0 6 = 0 := by rw [e1, wr_same]
            rw [a6]
            refine ⟨fun z => absurd rfl z, fun _ M5 e5 M6 e6 => ?_⟩
            have b6 : M6.1 0 6 = 0 := by rw [e6, wr_ne (by omega), e5, wr_ne (by omega)]; exact a6
            have b1 : M6.1 1 2 = nI T := by rw [e6, wr_cell (by omega), e5, wr_cell (by omega), e1, wr_cell (by omega), g4.1 1 (by omega) (by omega) (by omega)]; exact nT
            rw [b6, b1, nI_1]
            refine ⟨fun _ M7 e7 => ⟨?_, N2, s, g3, g4, ?_⟩, fun z => absurd rfl z⟩
            · rw [e7, wr_same, nI_pred]
            · rw [e7, e6, e5, e1]
        · rw [nT] at z
          exact absurd ((nI_eq (b := 4) (by omega) (by omega)).mp z) e
      · rintro M2 N2 ⟨Mr, s, x1, ⟨x2, x3, x4⟩, x5, rfl⟩ ⟨Nr, s', y1, y2, rfl⟩
        have tx := txt_mk x1 y1
        refine RX_up (B := B) (by omega) (RX_tx (T := T) (T2 := T + 1) R' (by rw [wr_cell (by omega)]; exact nT) hT (by omega) (fun k a b => ?_) (fun j a => ?_) wr_same (fun j a => ?_) wr_same ?_ ?_ (fun j a => ?_) ?_ ?_ (fun t a b => ?_) ⟨?_, ?_, ?_⟩)
        · rw [wr_cell b]
          by_cases i1 : k = 1
          · subst i1
            rw [r1, wr_row, x5 1 (by omega) (by omega)]
          · rw [wr_cell i1, wr_cell i1, x5 k (by omega) (by omega)]
        · rw [wr_ne (by omega), wr_cell (by omega), wr_cell (by omega), x5 47 (by omega) (by omega)]
        · rw [wr_ne (by omega), wr_cell (by omega), wr_cell (by omega), wr_cell (by omega), wr_cell (by omega), y2.1 1 (by omega) (by omega) (by omega)]
        · rw [wr_cell (by omega), wr_cell (by omega), wr_cell (by omega), wr_cell (by omega), wr_cell (by omega), y2.1 2 (by omega) (by omega) (by omega)]
        · rw [wr_cell (by omega), wr_cell (by omega), wr_cell (by omega), wr_cell (by omega), wr_cell (by omega), y2.1 3 (by omega) (by omega) (by omega)]
        · rw [wr_cell (by omega), wr_cell (by omega), wr_cell (by omega), wr_cell (by omega), wr_cell (by omega), y2.2.2 j (by omega)]
        · rw [wr_cell (by omega), wr_cell (by omega), wr_cell (by omega), wr_cell (by omega), wr_cell (by omega), y2.1 5 (by omega) (by omega) (by omega)]
        · rw [wr_cell (by omega), wr_same, wr_same]
        · obtain rfl : t = T := by omega
          refine txtR_c2 (fun i a b => ?_) (fun j a b => ?_) tx
          · rw [wr_cell (by omega), wr_cell (by omega)]
          · rw [wr_cell (by omega), wr_cell (by omega), wr_cell (by omega), wr_cell (by omega)]
        · rw [wr_cell (by omega), wr_cell (by omega)]; exact x2
        · rw [wr_cell (by omega), wr_cell (by omega), wr_cell (by omega), wr_ne (by omega), wr_ne (by omega), wr_same]; exact x3
        · rw [wr_cell (by omega), wr_cell (by omega), wr_cell (by omega), wr_ne (by omega), wr_same]; exact x4
end
