/-! CALLS: stiffs, page, made -/
section
variable {d B : Nat} {M N : ev_Mem}
/-- a call on the notes alone -/
theorem RX_nt {M2 N2 : ev_Mem} {W S T Wk Sk Tk : Nat}
    (h1 : stRel B M W S 43 47 (N.1 1) ∧ M.1 3 5 = nI W ∧ M.1 3 8 = nI S ∧ N.1 1 2 = nI T ∧ T ≤ 4)
    (h : (stRel B M Wk Sk 100 104 (N.1 2) ∧ M.1 0 16 = nI Wk ∧ M.1 0 17 = nI Sk ∧ N.1 2 2 = nI Tk) ∧ (Wk ≤ W ∧ Sk ≤ S ∧ Tk ≤ T) ∧ (∀ t, t < T → txtR M N t) ∧ tRel M N ∧ fRel M N)
    (c : ∀ k, k < 47 ∨ 60 ≤ k → M2.1 k = M.1 k) (n : ∀ k, k ≤ 5 → k ≠ 1 → N2.1 k = N.1 k) (ha : ∀ i, i < 5 ∨ (8 ≤ i ∧ i < 399) ∨ (525 ≤ i ∧ i < 3315) → N2.1 1 i = N.1 1 i)
    (hn : nRel M2 47 W (N2.1 1)) : RX (B + 2000) M2 N2 := by
  refine RX_dn (B := B) (M := M) (N := N) (T := T) (by omega) ⟨stRel_up (B := B) (by omega) ?_, by rw [ha 2 (by omega)]; exact h1.2.2.2.1, h1.2.2.2.2⟩ ⟨h1.2.1, h1.2.2.1⟩ h (fun k _ => c k (by omega)) (fun k _ _ => c k (by omega)) (fun k _ _ => c k (by omega)) n
  exact stRel_dn h1.1 (fun k _ => c k (by omega)) (fun k _ _ => c k (by omega)) (ha 4 (by omega)) ⟨ha 0 (by omega), ha 1 (by omega)⟩ (fun i q => ha i (by omega)) hn
theorem wd_t {x : Int32} {W : Nat} {a : Int32} (hW : W ≤ 24) (e : a = nI W) (hx : ∃ w, w < W ∧ x = nI w) : iin x 0 (a - 1) = true := by
  rw [e]; exact (iin_N (by omega)).mpr hx
theorem wd_f {x : Int32} {W : Nat} {a : Int32} (hW : W ≤ 24) (e : a = nI W) (hx : ¬ ∃ w, w < W ∧ x = nI w) : iin x 0 (a - 1) = false := by
  rw [e, ← Bool.not_eq_true, iin_N (by omega)]; exact hx
theorem op_rf {D r : Nat} {x m : ev_Y} {as : List Value} {v : Option Value} (hr : r < 3) (h : RX B M N) (hx : Cl LX D x (.ref 0 :: as) M (fun z M2 => z = v ∧ xq (rfs M 117 r) M2)) (hm : Cl LM D m (.ref 0 :: as) N (fun z N2 => z = v ∧ pe (rfs N 3 r) N2)) (hv : vOK x v := by first | exact vok _ | exact vol _) : OP D x m as B M N :=
  ⟨v, hv, rfs N 3 r, Cl.mono hx (fun _ _ q => ⟨q.1, RX_up (by omega) (RX_xq q.2 (RX_rfs hr h))⟩), hm⟩
theorem c0 : (0 : Int32).toNatClampNeg = 0 := rfl
theorem c1 : (1 : Int32).toNatClampNeg = 1 := rfl
theorem c2 : (2 : Int32).toNatClampNeg = 2 := rfl
theorem v03 : vp_in (0 : Int32) 3 := vp_in_nI (n := 0) (by omega) (by omega)
theorem v13 : vp_in (1 : Int32) 3 := vp_in_nI (n := 1) (by omega) (by omega)
theorem v23 : vp_in (2 : Int32) 3 := vp_in_nI (n := 2) (by omega) (by omega)
theorem op_page (h : RX B M N) (x : Int32) : OP 200 mX10_page mX11_page [.int x] B M N := by
  obtain ⟨W, S, T, Wk, Sk, Tk, h1, h2, h3, h4, h5, h6⟩ := id h
  have hsd := (RX_sd h1 h4).1
  have hW := hsd.w24
  have okw : okW M := ⟨W, hW, hsd.mw⟩
  obtain ⟨q1, q2, q3, q4, q5⟩ := nRel_iff.mp h1.1.2.2.2
  by_cases hx1 : x = -1
  · subst hx1
    refine ⟨some (.int 0), vok _, ev_wr N 1 5 0, Cl_of rfl (Nat.le_of_ble_eq_true rfl) rfl (gX10_page_0 ⟨fun z => absurd rfl z, fun _ M1 e1 => ⟨rfl, ?_⟩⟩), Cl_of rfl (Nat.le_of_ble_eq_true rfl) rfl (gX11_page_0 ⟨fun z => absurd rfl z, fun _ M1 e1 => ⟨rfl, by rw [e1]; exact pe.rf⟩⟩)⟩
    rw [e1]
    refine RX_nt h1 ⟨h2, h3, h4, h5, h6⟩ (fun k _ => wr_cell (by omega)) (fun k _ _ => wr_cell (by omega)) (fun i _ => wr_ne (by omega)) ?_
    rw [wr_up]
    refine nRel_iff.mpr ⟨?_, ?_, ?_, ?_, ?_⟩
    · rw [wr_cell (by omega), wr_cell (by omega)]
      exact nR1_cg (fun i _ _ => upd_ne (by omega)) q1
    · rw [wr_ne (by omega), wr_ne (by omega)]
      exact nR2_cg (upd_ne (by omega)) (upd_ne (by omega)) q2
    · exact ⟨0, by omega, wr_same, upd_eq, fun i hi => absurd hi (by omega)⟩
    · rw [wr_ne (by omega), wr_cell (by omega)]
      rw [show (fun i => (ev_wr M 47 5 0).1 (47 + 5 + i)) = fun i => M.1 (47 + 5 + i) from funext fun i => wr_cell (by omega)]
      exact nR4_cg (upd_ne (by omega)) (fun i _ _ => upd_ne (by omega)) q4
    · rw [wr_ne (by omega), wr_cell (by omega), wr_cell (by omega)]
      exact nR5_cg (Nat.le_refl _) (upd_ne (by omega)) (fun i _ _ => upd_ne (by omega)) q5
  · by_cases hx : ∃ w, w < W ∧ x = nI w
    · have zm := wd_t hW hsd.mw hx
      have zn := wd_t hW hsd.nw hx
      obtain ⟨p, p8, pm, pn, pr⟩ := id q3
      by_cases hp : p = 8
      · subst hp
        refine op_rf (r := 1) (v := some (.int (-2))) (by omega) h ?_ ?_
        · refine Cl_of rfl (Nat.le_of_ble_eq_true rfl) rfl (gX10_page_0 ⟨fun _ => ⟨okw, fun _ => ⟨fun z => ?_, fun _ => ⟨v13, fun M1 e1 => ⟨rfl, by rw [e1, c1]; exact xq.rf⟩⟩⟩, fun z => bb z zm⟩, fun z => absurd z hx1⟩)
          rw [pm] at z; exact absurd z (by decide)
        · refine Cl_of rfl (Nat.le_of_ble_eq_true rfl) rfl (gX11_page_0 ⟨fun _ => ⟨fun z => bb z zn, fun _ => ⟨fun z => absurd pn z, fun _ => ⟨fun z => bb z zn, fun _ => ⟨v13, fun M1 e1 => ⟨rfl, by rw [e1, c1]; exact pe.rf⟩⟩⟩⟩⟩, fun z => absurd z hx1⟩)
      · have hp7 : p < 8 := by omega
        refine ⟨some (.int (nI (p + 1))), vok _, ev_wr (ev_wr N 1 (451 + p) x) 1 5 (nI (p + 1)), ?_, ?_⟩
        · refine Cl_of rfl (Nat.le_of_ble_eq_true rfl) rfl (gX10_page_0 ⟨fun _ => ⟨okw, fun _ => ⟨fun _ => ?_, fun z => absurd (by rw [pm]; exact nI_lt (b := 8) hp7 (by omega)) z⟩, fun z => bb z zm⟩, fun z => absurd z hx1⟩)
          rw [pm, nI_clamp (by omega)]
          refine ⟨vp_in_nI hp7 (by omega), fun M1 e1 M2 e2 => ?_⟩
          rw [e1, wr_cell (by omega), pm, nI_1] at e2
          rw [e2, wr_same]
          refine ⟨rfl, ?_⟩
          have c : ∀ k, k ≠ 47 → k ≠ 50 → (ev_wr (ev_wr M 50 p x) 47 5 (nI (p + 1))).1 k = M.1 k := fun k k1 k2 => by rw [wr_cell k1, wr_cell k2]
          have ne : ∀ j, j ≠ 5 → (ev_wr (ev_wr M 50 p x) 47 5 (nI (p + 1))).1 47 j = M.1 47 j := fun j hj => by rw [wr_ne (by omega), wr_cell (by omega)]
          have an : ∀ i, i ≠ 5 → i ≠ 451 + p → (ev_wr (ev_wr N 1 (451 + p) x) 1 5 (nI (p + 1))).1 1 i = N.1 1 i := fun i k1 k2 => by rw [wr_ne (by omega), wr_ne (by omega)]
          refine RX_nt h1 ⟨h2, h3, h4, h5, h6⟩ (fun k _ => c k (by omega) (by omega)) (fun k _ _ => by rw [wr_cell (by omega), wr_cell (by omega)]) (fun i _ => an i (by omega) (by omega)) ?_
          refine nRel_iff.mpr ⟨?_, ?_, ?_, ?_, ?_⟩
          · rw [c _ (by omega) (by omega), c _ (by omega) (by omega)]
            exact nR1_cg (fun i _ _ => an i (by omega) (by omega)) q1
          · rw [ne _ (by omega), ne _ (by omega)]
            exact nR2_cg (an _ (by omega) (by omega)) (an _ (by omega) (by omega)) q2
          · refine ⟨p + 1, by omega, wr_same, wr_same, fun i hi => ?_⟩
            have a1 : (ev_wr (ev_wr M 50 p x) 47 5 (nI (p + 1))).1 50 p = x := by rw [wr_cell (by omega), wr_same]
            have a2 : (ev_wr (ev_wr N 1 (451 + p) x) 1 5 (nI (p + 1))).1 1 (451 + p) = x := by rw [wr_ne (by omega), wr_same]
            have b1 : ∀ i, i ≠ p → (ev_wr (ev_wr M 50 p x) 47 5 (nI (p + 1))).1 50 i = M.1 50 i := fun i hi => by rw [wr_cell (by omega), wr_ne (by omega)]
            by_cases e : i = p
            · rw [e, a2]
              exact ⟨a1, hx⟩
            · rw [an _ (by omega) (by omega)]
              exact ⟨(b1 i e).trans (pr i (by omega)).1, (pr i (by omega)).2⟩
          · rw [ne _ (by omega), c _ (by omega) (by omega), show (fun i => (ev_wr (ev_wr M 50 p x) 47 5 (nI (p + 1))).1 (47 + 5 + i)) = fun i => M.1 (47 + 5 + i) from funext fun i => c _ (by omega) (by omega)]
            exact nR4_cg (an _ (by omega) (by omega)) (fun i _ _ => an _ (by omega) (by omega)) q4
          · rw [ne _ (by omega), c _ (by omega) (by omega), c _ (by omega) (by omega)]
            exact nR5_cg (Nat.le_refl _) (an _ (by omega) (by omega)) (fun i _ _ => an _ (by omega) (by omega)) q5
        · refine Cl_of rfl (Nat.le_of_ble_eq_true rfl) rfl (gX11_page_0 ⟨fun _ => ⟨fun z => bb z zn, fun _ => ⟨fun _ => ?_, fun z => absurd ((nI_eq (b := 8) (by omega) (by omega)).mp (pn.symm.trans z)) hp⟩⟩, fun z => absurd z hx1⟩)
          have e451 : (451 : Int32) + nI p = nI (451 + p) := by rw [show (451 : Int32) = nI 451 from rfl, nI_add]
          rw [pn, e451, nI_clamp (by omega)]
          refine ⟨vp_in_nI (by omega) (by omega), fun M1 e1 M2 e2 => ?_⟩
          rw [e1, wr_ne (by omega), pn, nI_1] at e2
          rw [e2, wr_same]
          exact ⟨rfl, pe.rf⟩
    · have zm := wd_f hW hsd.mw hx
      have zn := wd_f hW hsd.nw hx
      refine op_rf (r := 0) (v := some (.int (-2))) (by omega) h ?_ ?_
      · exact Cl_of rfl (Nat.le_of_ble_eq_true rfl) rfl (gX10_page_0 ⟨fun _ => ⟨okw, fun z => bb z zm, fun _ => ⟨v03, fun M1 e1 => ⟨rfl, by rw [e1, c0]; exact xq.rf⟩⟩⟩, fun z => absurd z hx1⟩)
      · exact Cl_of rfl (Nat.le_of_ble_eq_true rfl) rfl (gX11_page_0 ⟨fun _ => ⟨fun _ => ⟨fun _ => ⟨v03, fun M1 e1 => ⟨rfl, by rw [e1, c0]; exact pe.rf⟩⟩, fun z => bb z zn⟩, fun z => bb z zn⟩, fun z => absurd z hx1⟩)
theorem op_stiffs (h : RX B M N) (x y : Int32) : OP 200 mX10_stiffs mX11_stiffs [.int x, .int y] B M N := by
  obtain ⟨W, S, T, Wk, Sk, Tk, h1, h2, h3, h4, h5, h6⟩ := id h
  have hsd := (RX_sd h1 h4).1
  have hW := hsd.w24
  have okw : okW M := ⟨W, hW, hsd.mw⟩
  obtain ⟨q1, q2, q3, q4, q5⟩ := nRel_iff.mp h1.1.2.2.2
  by_cases hx1 : x = -1
  · subst hx1
    refine ⟨some (.int 0), vok _, ev_wr N 1 7 0, Cl_of rfl (Nat.le_of_ble_eq_true rfl) rfl (gX10_stiffs_0 ⟨fun z => absurd rfl z, fun _ M1 e1 => ⟨rfl, ?_⟩⟩), Cl_of rfl (Nat.le_of_ble_eq_true rfl) rfl (gX11_stiffs_0 ⟨fun z => absurd rfl z, fun _ M1 e1 => ⟨rfl, by rw [e1]; exact pe.rf⟩⟩)⟩
    rw [e1]
    refine RX_nt h1 ⟨h2, h3, h4, h5, h6⟩ (fun k _ => wr_cell (by omega)) (fun k _ _ => wr_cell (by omega)) (fun i _ => wr_ne (by omega)) ?_
    rw [wr_up]
    refine nRel_iff.mpr ⟨?_, ?_, ?_, ?_, ?_⟩
    · rw [wr_cell (by omega), wr_cell (by omega)]
      exact nR1_cg (fun i _ _ => upd_ne (by omega)) q1
    · rw [wr_ne (by omega), wr_ne (by omega)]
      exact nR2_cg (upd_ne (by omega)) (upd_ne (by omega)) q2
    · rw [wr_ne (by omega), wr_cell (by omega)]
      exact nR3_cg (Nat.le_refl _) (upd_ne (by omega)) (fun i _ _ => upd_ne (by omega)) q3
    · rw [wr_ne (by omega), wr_cell (by omega)]
      rw [show (fun i => (ev_wr M 47 11 0).1 (47 + 5 + i)) = fun i => M.1 (47 + 5 + i) from funext fun i => wr_cell (by omega)]
      exact nR4_cg (upd_ne (by omega)) (fun i _ _ => upd_ne (by omega)) q4
    · exact ⟨0, by omega, wr_same, upd_eq, fun i hi => absurd hi (by omega)⟩
  · obtain ⟨p, p8, pm, pn, pr⟩ := id q5
    by_cases hall : ((∃ w, w < W ∧ x = nI w) ∧ iin y 0 99 = true) ∧ p < 8
    · obtain ⟨⟨hx, hy⟩, hp7⟩ := hall
      have zm := wd_t hW hsd.mw hx
      have zn := wd_t hW hsd.nw hx
      obtain ⟨yn, y99, ey⟩ := (iin_lit 99 (by omega)).mp hy
      have y1 : ¬ y < 0 := I_nlt.mpr (iin_t.mp hy).1
      have y2 : ¬ 99 < y := I_nlt.mpr (iin_t.mp hy).2
      refine ⟨some (.int (nI (p + 1))), vok _, ev_wr (ev_wr (ev_wr N 1 (509 + 2 * p) x) 1 (509 + 2 * p + 1) y) 1 7 (nI (p + 1)), ?_, ?_⟩
      · refine Cl_of rfl (Nat.le_of_ble_eq_true rfl) rfl (gX10_stiffs_0 ⟨fun _ => ⟨okw, fun z => bb z zm, fun _ => ⟨fun z => absurd z y1, fun _ => ⟨fun z => absurd z y2, fun _ => ⟨fun _ => ?_, fun z => absurd (by rw [pm]; exact nI_lt (b := 8) hp7 (by omega)) z⟩⟩⟩⟩, fun z => absurd z hx1⟩)
        rw [pm, nI_clamp (by omega)]
        refine ⟨vp_in_nI hp7 (by omega), fun M1 e1 => ?_⟩
        rw [e1, wr_cell (by omega), pm, nI_clamp (by omega)]
        refine ⟨vp_in_nI hp7 (by omega), fun M2 e2 M3 e3 => ?_⟩
        rw [e2, wr_cell (by omega), wr_cell (by omega), pm, nI_1] at e3
        rw [e3, wr_same]
        refine ⟨rfl, ?_⟩
        have c : ∀ k, k ≠ 47 → k ≠ 58 → k ≠ 59 → (ev_wr (ev_wr (ev_wr M 58 p x) 59 p y) 47 11 (nI (p + 1))).1 k = M.1 k := fun k k1 k2 k3 => by rw [wr_cell k1, wr_cell k3, wr_cell k2]
        have ne : ∀ j, j ≠ 11 → (ev_wr (ev_wr (ev_wr M 58 p x) 59 p y) 47 11 (nI (p + 1))).1 47 j = M.1 47 j := fun j hj => by rw [wr_ne (by omega), wr_cell (by omega), wr_cell (by omega)]
        have an : ∀ i, i ≠ 7 → i ≠ 509 + 2 * p → i ≠ 509 + 2 * p + 1 → (ev_wr (ev_wr (ev_wr N 1 (509 + 2 * p) x) 1 (509 + 2 * p + 1) y) 1 7 (nI (p + 1))).1 1 i = N.1 1 i := fun i k1 k2 k3 => by rw [wr_ne (by omega), wr_ne (by omega), wr_ne (by omega)]
        refine RX_nt h1 ⟨h2, h3, h4, h5, h6⟩ (fun k _ => c k (by omega) (by omega) (by omega)) (fun k _ _ => by rw [wr_cell (by omega), wr_cell (by omega), wr_cell (by omega)]) (fun i _ => an i (by omega) (by omega) (by omega)) ?_
        refine nRel_iff.mpr ⟨?_, ?_, ?_, ?_, ?_⟩
        · rw [c _ (by omega) (by omega) (by omega), c _ (by omega) (by omega) (by omega)]
          exact nR1_cg (fun i _ _ => an i (by omega) (by omega) (by omega)) q1
        · rw [ne _ (by omega), ne _ (by omega)]
          exact nR2_cg (an _ (by omega) (by omega) (by omega)) (an _ (by omega) (by omega) (by omega)) q2
        · rw [ne _ (by omega), c _ (by omega) (by omega) (by omega)]
          exact nR3_cg (Nat.le_refl _) (an _ (by omega) (by omega) (by omega)) (fun i _ _ => an _ (by omega) (by omega) (by omega)) q3
        · rw [ne _ (by omega), c _ (by omega) (by omega) (by omega)]
          obtain ⟨r, r1, r2, r3, r4⟩ := q4
          refine ⟨r, r1, r2, by rw [an _ (by omega) (by omega) (by omega)]; exact r3, fun i hi => ?_⟩
          obtain ⟨s1, n, s2, s3, s4, s5⟩ := r4 i hi
          rw [an _ (by omega) (by omega) (by omega)]
          refine ⟨s1, n, s2, s3, s4, fun j hj => ?_⟩
          rw [an _ (by omega) (by omega) (by omega)]
          show rRel ((ev_wr (ev_wr (ev_wr M 58 p x) 59 p y) 47 11 (nI (p + 1))).1 (47 + 5 + i) j) _
          rw [c _ (by omega) (by omega) (by omega)]
          exact s5 j hj
        · refine ⟨p + 1, by omega, wr_same, wr_same, fun i hi => ?_⟩
          have a1 : (ev_wr (ev_wr (ev_wr M 58 p x) 59 p y) 47 11 (nI (p + 1))).1 58 p = x := by rw [wr_cell (by omega), wr_cell (by omega), wr_same]
          have a2 : (ev_wr (ev_wr (ev_wr M 58 p x) 59 p y) 47 11 (nI (p + 1))).1 59 p = y := by rw [wr_cell (by omega), wr_same]
          have a3 : (ev_wr (ev_wr (ev_wr N 1 (509 + 2 * p) x) 1 (509 + 2 * p + 1) y) 1 7 (nI (p + 1))).1 1 (509 + 2 * p) = x := by rw [wr_ne (by omega), wr_ne (by omega), wr_same]
          have a4 : (ev_wr (ev_wr (ev_wr N 1 (509 + 2 * p) x) 1 (509 + 2 * p + 1) y) 1 7 (nI (p + 1))).1 1 (509 + 2 * p + 1) = y := by rw [wr_ne (by omega), wr_same]
          have b1 : ∀ i, i ≠ p → (ev_wr (ev_wr (ev_wr M 58 p x) 59 p y) 47 11 (nI (p + 1))).1 58 i = M.1 58 i := fun i hi => by rw [wr_cell (by omega), wr_cell (by omega), wr_ne (by omega)]
          have b2 : ∀ i, i ≠ p → (ev_wr (ev_wr (ev_wr M 58 p x) 59 p y) 47 11 (nI (p + 1))).1 59 i = M.1 59 i := fun i hi => by rw [wr_cell (by omega), wr_ne (by omega), wr_cell (by omega)]
          by_cases e : i = p
          · rw [e, a3, a4]
            exact ⟨a1, a2, hx, yn, y99, ey⟩
          · rw [an _ (by omega) (by omega) (by omega), an _ (by omega) (by omega) (by omega)]
            obtain ⟨s1, s2, s3⟩ := pr i (by omega)
            exact ⟨(b1 i e).trans s1, (b2 i e).trans s2, s3⟩
      · refine Cl_of rfl (Nat.le_of_ble_eq_true rfl) rfl (gX11_stiffs_0 ⟨fun _ => ⟨fun z => bb z zn, fun _ => ⟨fun z => bb z hy, fun _ => ⟨fun _ => ?_, fun z => absurd ((nI_eq (b := 8) (by omega) (by omega)).mp (pn.symm.trans z)) (by omega)⟩⟩⟩, fun z => absurd z hx1⟩)
        have e509 : (509 : Int32) + 2 * nI p = nI (509 + 2 * p) := by rw [show (509 : Int32) = nI 509 from rfl, show (2 : Int32) = nI 2 from rfl, pk_mul, nI_add]
        rw [pn, e509, nI_clamp (by omega)]
        refine ⟨vp_in_nI (by omega) (by omega), fun M1 e1 => ?_⟩
        rw [e1, wr_ne (by omega), pn, e509, nI_1, nI_clamp (by omega)]
        refine ⟨vp_in_nI (by omega) (by omega), fun M2 e2 M3 e3 => ?_⟩
        rw [e2, wr_ne (by omega), wr_ne (by omega), pn, nI_1] at e3
        rw [e3, wr_same]
        exact ⟨rfl, pe.rf⟩
    · refine op_ro (v := some (.int (-2))) h ?_ ?_
      · refine Cl_of rfl (Nat.le_of_ble_eq_true rfl) rfl (gX10_stiffs_0 ⟨fun _ => ⟨okw, fun _ => ⟨rfl, xq.rf⟩, fun zx => ⟨fun _ => ⟨rfl, xq.rf⟩, fun y1 => ⟨fun _ => ⟨rfl, xq.rf⟩, fun y2 => ⟨fun zp => ?_, fun _ => ⟨rfl, xq.rf⟩⟩⟩⟩⟩, fun z => absurd z hx1⟩)
        rw [hsd.mw] at zx
        rw [pm] at zp
        exact absurd ⟨⟨(iin_N (by omega)).mp zx, iin_t.mpr ⟨I_nlt.mp y1, I_nlt.mp y2⟩⟩, (nI_ltI (b := 8) (by omega) (by omega)).mp zp⟩ hall
      · refine Cl_of rfl (Nat.le_of_ble_eq_true rfl) rfl (gX11_stiffs_0 ⟨fun _ => ⟨fun _ => ⟨rfl, pe.rf⟩, fun zx => ⟨fun _ => ⟨rfl, pe.rf⟩, fun zy => ⟨fun zp => ?_, fun _ => ⟨rfl, pe.rf⟩⟩⟩⟩, fun z => absurd z hx1⟩)
        rw [hsd.nw] at zx
        refine absurd ⟨⟨(iin_N (by omega)).mp zx, zy⟩, ?_⟩ hall
        have : p ≠ 8 := fun e => zp (by rw [pn, e]; rfl)
        omega
theorem op_made (h : RX B M N) (x y u : Int32) : OP 200 mX10_made mX11_made [.int x, .int y, .int u] B M N := by
  obtain ⟨W, S, T, Wk, Sk, Tk, h1, h2, h3, h4, h5, h6⟩ := id h
  obtain ⟨q1, q2, q3, q4, q5⟩ := nRel_iff.mp h1.1.2.2.2
  by_cases hall : ((iin x 0 25 = true ∧ iin y 0 25 = true) ∧ ¬ x = y) ∧ iin u 0 9 = true
  · obtain ⟨⟨⟨hx, hy⟩, hxy⟩, hu⟩ := hall
    obtain ⟨l, hl, rfl⟩ := (iin_lit 25 (by omega)).mp hx
    have e399 : (399 : Int32) + 2 * nI l = nI (399 + 2 * l) := by rw [show (399 : Int32) = nI 399 from rfl, show (2 : Int32) = nI 2 from rfl, pk_mul, nI_add]
    refine ⟨some (.int 1), vok _, ev_wr (ev_wr N 1 (399 + 2 * l) y) 1 (399 + 2 * l + 1) u, ?_, ?_⟩
    · refine Cl_of rfl (Nat.le_of_ble_eq_true rfl) rfl (gX10_made_0 ⟨fun z => bb z hx, fun _ => ⟨fun z => bb z hy, fun _ => ⟨fun z => absurd z hxy, fun _ => ⟨fun z => absurd z (I_nlt.mpr (iin_t.mp hu).1), fun _ => ⟨fun _ => ?_, fun z => absurd (iin_t.mp hu).2 z⟩⟩⟩⟩⟩)
      rw [nI_clamp (by omega)]
      refine ⟨vp_in_nI (by omega) (by omega), fun M1 e1 => ⟨vp_in_nI (by omega) (by omega), fun M2 e2 => ⟨rfl, ?_⟩⟩⟩
      rw [e2, e1]
      have c : ∀ k, k ≠ 48 → k ≠ 49 → (ev_wr (ev_wr M 48 l y) 49 l u).1 k = M.1 k := fun k k1 k2 => by rw [wr_cell k2, wr_cell k1]
      have an : ∀ i, i ≠ 399 + 2 * l → i ≠ 399 + 2 * l + 1 → (ev_wr (ev_wr N 1 (399 + 2 * l) y) 1 (399 + 2 * l + 1) u).1 1 i = N.1 1 i := fun i k1 k2 => by rw [wr_ne (by omega), wr_ne (by omega)]
      refine RX_nt h1 ⟨h2, h3, h4, h5, h6⟩ (fun k _ => c k (by omega) (by omega)) (fun k _ _ => by rw [wr_cell (by omega), wr_cell (by omega)]) (fun i _ => an i (by omega) (by omega)) ?_
      refine nRel_iff.mpr ⟨?_, ?_, ?_, ?_, ?_⟩
      · intro i hi
        by_cases e : i = l
        · subst e
          rw [wr_cell (by omega), wr_same, wr_ne (by omega), wr_same, wr_same, wr_same]
          obtain ⟨b, hb, eb⟩ := (iin_lit 25 (by omega)).mp hy
          obtain ⟨b2, hb2, eb2⟩ := (iin_lit 9 (by omega)).mp hu
          exact ⟨rfl, Or.inr ⟨b, hb, eb⟩, rfl, b2, hb2, eb2⟩
        · rw [an _ (by omega) (by omega), an _ (by omega) (by omega), wr_cell (by omega), wr_ne (by omega), wr_ne (by omega), wr_cell (by omega)]
          exact q1 i hi
      · rw [c _ (by omega) (by omega)]
        exact nR2_cg (an _ (by omega) (by omega)) (an _ (by omega) (by omega)) q2
      · rw [c _ (by omega) (by omega), c _ (by omega) (by omega)]
        exact nR3_cg (Nat.le_refl _) (an _ (by omega) (by omega)) (fun i _ _ => an _ (by omega) (by omega)) q3
      · rw [c _ (by omega) (by omega), c _ (by omega) (by omega), show (fun i => (ev_wr (ev_wr M 48 l y) 49 l u).1 (47 + 5 + i)) = fun i => M.1 (47 + 5 + i) from funext fun i => c _ (by omega) (by omega)]
        exact nR4_cg (an _ (by omega) (by omega)) (fun i _ _ => an _ (by omega) (by omega)) q4
      · rw [c _ (by omega) (by omega), c _ (by omega) (by omega), c _ (by omega) (by omega)]
        exact nR5_cg (Nat.le_refl _) (an _ (by omega) (by omega)) (fun i _ _ => an _ (by omega) (by omega)) q5
    · refine Cl_of rfl (Nat.le_of_ble_eq_true rfl) rfl (gX11_made_0 ⟨fun z => bb z hx, fun _ => ⟨fun z => bb z hy, fun _ => ⟨fun z => absurd z hxy, fun _ => ⟨fun _ => ?_, fun z => bb z hu⟩⟩⟩⟩)
      rw [e399, nI_1, nI_clamp (by omega), nI_clamp (by omega)]
      refine ⟨vp_in_nI (by omega) (by omega), fun M1 e1 => ⟨vp_in_nI (by omega) (by omega), fun M2 e2 => ⟨rfl, ?_⟩⟩⟩
      rw [e2, e1]
      exact pe.rf
  · refine op_rf (r := 0) (v := some (.int 0)) (by omega) h ?_ ?_
    · have fin : ∀ M1, M1 = rfs M 117 (0 : Int32).toNatClampNeg → (some (Value.int 0) = some (Value.int 0) ∧ xq (rfs M 117 0) M1) := fun M1 e1 => ⟨rfl, by rw [e1, c0]; exact xq.rf⟩
      refine Cl_of rfl (Nat.le_of_ble_eq_true rfl) rfl (gX10_made_0 ⟨fun _ => ⟨v03, fin⟩, fun a1 => ⟨fun _ => ⟨v03, fin⟩, fun a2 => ⟨fun _ => ⟨v03, fin⟩, fun a3 => ⟨fun _ => ⟨v03, fin⟩, fun a4 => ⟨fun a5 => ?_, fun _ => ⟨v03, fin⟩⟩⟩⟩⟩⟩)
      exact absurd ⟨⟨⟨a1, a2⟩, a3⟩, iin_t.mpr ⟨I_nlt.mp a4, a5⟩⟩ hall
    · have fin : ∀ M1, M1 = rfs N 3 (0 : Int32).toNatClampNeg → (some (Value.int 0) = some (Value.int 0) ∧ pe (rfs N 3 0) M1) := fun M1 e1 => ⟨rfl, by rw [e1, c0]; exact pe.rf⟩
      refine Cl_of rfl (Nat.le_of_ble_eq_true rfl) rfl (gX11_made_0 ⟨fun _ => ⟨v03, fin⟩, fun a1 => ⟨fun _ => ⟨v03, fin⟩, fun a2 => ⟨fun _ => ⟨v03, fin⟩, fun a3 => ⟨fun a4 => ?_, fun _ => ⟨v03, fin⟩⟩⟩⟩⟩)
      exact absurd ⟨⟨⟨a1, a2⟩, a3⟩, a4⟩ hall
end
