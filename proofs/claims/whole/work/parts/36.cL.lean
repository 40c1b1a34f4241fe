/-! wearing and noticing in the class; all three in the model -/
section
variable {d : Nat} {M N : ev_Mem}
theorem kX1_wearOdds {t l : Nat} {lo : Int32} (ht : t < 4) (hl26 : l < 26) (hl : lawR M N t 1) (hu : okU (M.1 44)) (hb : upto (M.1 43 3) 1000000 ∧ upto (bc lo) 1000000) :
    Cl LX (d + 2) mX1_wearOdds [.ref 83, .ref (61 + 5 * t), .int (nI l), .int lo] M (fun r M2 => r = some (.int (syv (N.1 4) (nW (M.1 43 3) (bc lo) (nI l) (M.1 44 l)) (usM (M.1 44)) (nI t) 1 (M.1 44 l / 10) 10)) ∧ lfr M M2) := by
  have hk : ev_isT (61 + 5 * t) := ⟨t, ht, rfl⟩
  have hul : upto (M.1 44 l) 1000000 := by obtain ⟨n, h1, h2⟩ := hu l hl26; exact ⟨n, by omega, h2⟩
  refine Cl_of rfl (Nat.le_of_ble_eq_true rfl) rfl (gX1_wearOdds_0 hk ⟨fun hz => ?_, fun hz => ⟨vp_in_nI hl26 (by omega), ?_, ⟨fun _ _ => rfl, rfl⟩⟩⟩)
  · intro M1 e1 M2 e2
    refine ⟨vp_in_nI hl26 (by omega), fun M3 e3 => ?_⟩
    rw [nI_clamp (by omega)] at e3
    have c1 : ∀ i, i ≠ 84 → M1.1 i = M.1 i := fun i hi => by rw [e1, wr_cell hi]
    have c2 : ∀ i, i ≠ 84 → M2.1 i = M.1 i := fun i hi => by rw [e2, wr_cell hi, c1 i hi]
    have c6 : ∀ i, i ≠ 84 → M3.1 i = M.1 i := fun i hi => by rw [e3, wr_cell hi, c2 i hi]
    have r6 : M3.1 84 = upd (upd (upd (M.1 84) 1 (bc lo)) 7 (nI l)) 8 (M.1 44 l) := by
      have f3 := e3
      rw [c2 44 (by omega)] at f3
      rw [f3, wr_row, e2, wr_row, e1, wr_row]
    obtain ⟨p, hp3, hp⟩ := lawR_some hl hz
    obtain ⟨v, hv, hs⟩ := run_law (d := d) (M := M3) (N := N) (M0 := M) (t := t) (k := 1) (p := p) (f := upd (M3.1 84) 0 (M3.1 43 3)) (g := nW (M.1 43 3) (bc lo) (nI l) (M.1 44 l)) (us := M.1 44) ht hl hp hp3 (c6 _ (by omega)) (by rw [c6 _ (by omega)]) rfl (c6 44 (by omega)).symm (by
      intro i hi
      rw [r6, c6 43 (by omega)]
      rcases hi with h | h | h | h
      · match i, h with
        | 0, _ => exact ⟨rfl, hb.1⟩
        | 1, _ => exact ⟨rfl, hb.2⟩
        | i + 2, h => exact absurd h (by omega)
      · exact absurd h.1 (by omega)
      · obtain ⟨-, h7, h9⟩ := h
        have : i = 7 ∨ i = 8 := by omega
        rcases this with rfl | rfl
        · exact ⟨rfl, l, by omega, rfl⟩
        · exact ⟨rfl, hul⟩
      · exact absurd h.1 (by omega)) hu (M.1 44 l / 10) 10
    refine ⟨_, by rw [c6 _ (by omega), hp]; exact hv, fun zr zM q => ?_⟩
    rw [q.1]
    refine gX1_wearOdds_77 (s0 := v) hk ⟨by rw [hs]; rfl, ?_⟩
    have l3 := q.2
    rw [e3] at l3
    have l2 := lfr_84 l3
    rw [e2] at l2
    have l1 := lfr_84 l2
    rw [e1] at l1
    exact lfr_84 l1
  · have := lawR_none (g := nW (M.1 43 3) (bc lo) (nI l) (M.1 44 l)) (us := M.1 44) (wo := M.1 44 l / 10) (tp := 10) ht hl hz
    rw [show (1 : Int32) = nI 1 from rfl, this, nI_clamp (by omega), wth_bnd]
theorem kX1_wearOddsN {l : Nat} {lo x : Int32} {g : Nat → Int32} {us : Int64 → Int64} (hx : x < 0) (hl26 : l < 26) :
    Cl LX (d + 2) mX1_wearOdds [.ref 83, .null, .int (nI l), .int lo] M (fun r M2 => r = some (.int (syv (N.1 4) g us x 1 (M.1 44 l / 10) 10)) ∧ lfr M M2) := by
  refine Cl_of rfl (Nat.le_of_ble_eq_true rfl) rfl (gX1_wearOddsN_0 ⟨vp_in_nI hl26 (by omega), ?_, ⟨fun _ _ => rfl, rfl⟩⟩)
  rw [syv_no hx, nI_clamp (by omega), wth_bnd]
theorem kX1_noticeOdds {t : Nat} {li to se lo : Int32} (ht : t < 4) (hl : lawR M N t 2) (hu : okU (M.1 44)) (hb : upto (M.1 43 3) 1000000 ∧ upto (bc lo) 1000000 ∧ upto li 1000000 ∧ upto to 1000000 ∧ upto se 1000000) :
    Cl LX (d + 2) mX1_noticeOdds [.ref 83, .ref (61 + 5 * t), .int li, .int to, .int se, .int lo] M (fun r M2 => r = some (.int (syv (N.1 4) (nN (M.1 43 3) (bc lo) li to se) (usM (M.1 44)) (nI t) 2 (to / 4) 10)) ∧ lfr M M2) := by
  have hk : ev_isT (61 + 5 * t) := ⟨t, ht, rfl⟩
  refine Cl_of rfl (Nat.le_of_ble_eq_true rfl) rfl (gX1_noticeOdds_0 hk ⟨fun hz => ?_, fun hz => ⟨?_, ⟨fun _ _ => rfl, rfl⟩⟩⟩)
  · intro M1 e1 M2 e2 M3 e3 M4 e4
    have c6 : ∀ i, i ≠ 84 → M4.1 i = M.1 i := fun i hi => by rw [e4, wr_cell hi, e3, wr_cell hi, e2, wr_cell hi, e1, wr_cell hi]
    have r6 : M4.1 84 = upd (upd (upd (upd (M.1 84) 1 (bc lo)) 9 li) 10 to) 11 se := by
      rw [e4, wr_row, e3, wr_row, e2, wr_row, e1, wr_row]
    obtain ⟨p, hp3, hp⟩ := lawR_some hl hz
    obtain ⟨v, hv, hs⟩ := run_law (d := d) (M := M4) (N := N) (M0 := M) (t := t) (k := 2) (p := p) (f := upd (M4.1 84) 0 (M4.1 43 3)) (g := nN (M.1 43 3) (bc lo) li to se) (us := M.1 44) ht hl hp hp3 (c6 _ (by omega)) (by rw [c6 _ (by omega)]) rfl (c6 44 (by omega)).symm (by
      intro i hi
      rw [r6, c6 43 (by omega)]
      rcases hi with h | h | h | h
      · match i, h with
        | 0, _ => exact ⟨rfl, hb.1⟩
        | 1, _ => exact ⟨rfl, hb.2.1⟩
        | i + 2, h => exact absurd h (by omega)
      · exact absurd h.1 (by omega)
      · exact absurd h.1 (by omega)
      · obtain ⟨-, h7, h9⟩ := h
        have : i = 9 ∨ i = 10 ∨ i = 11 := by omega
        rcases this with rfl | rfl | rfl
        · exact ⟨rfl, hb.2.2.1⟩
        · exact ⟨rfl, hb.2.2.2.1⟩
        · exact ⟨rfl, hb.2.2.2.2⟩) hu (to / 4) 10
    refine ⟨_, by rw [c6 _ (by omega), hp]; exact hv, fun zr zM q => ?_⟩
    rw [q.1]
    refine gX1_noticeOdds_70 (s0 := v) hk ⟨by rw [hs]; rfl, ?_⟩
    have l4 := q.2
    rw [e4] at l4
    have l3 := lfr_84 l4
    rw [e3] at l3
    have l2 := lfr_84 l3
    rw [e2] at l2
    have l1 := lfr_84 l2
    rw [e1] at l1
    exact lfr_84 l1
  · have := lawR_none (g := nN (M.1 43 3) (bc lo) li to se) (us := M.1 44) (wo := to / 4) (tp := 10) ht hl hz
    rw [show (2 : Int32) = nI 2 from rfl, this, wth_bnd]
theorem kX1_noticeOddsN {li to se lo x : Int32} {g : Nat → Int32} {us : Int64 → Int64} (hx : x < 0) :
    Cl LX (d + 2) mX1_noticeOdds [.ref 83, .null, .int li, .int to, .int se, .int lo] M (fun r M2 => r = some (.int (syv (N.1 4) g us x 2 (to / 4) 10)) ∧ lfr M M2) := by
  refine Cl_of rfl (Nat.le_of_ble_eq_true rfl) rfl (gX1_noticeOddsN_0 ⟨?_, ⟨fun _ _ => rfl, rfl⟩⟩)
  rw [syv_no hx, wth_bnd]
-- the model
/-- text x of the model has a twin in some class's memory -/
def lawI (N : ev_Mem) (x : Int32) (k : Nat) : Prop := x < 0 ∨ ∃ t, t < 4 ∧ x = nI t ∧ ∃ M, lawR M N t k
def nfr (N N2 : ev_Mem) : Prop := (∀ k, k ≠ 7 → k ≠ 9 → N2.1 k = N.1 k) ∧ ∀ k, k ≠ 8 → N2.2 k = N.2 k
theorem nfr.rf : nfr N N := ⟨fun _ _ _ => rfl, fun _ _ => rfl⟩
theorem nfr.tr {N2 N3 : ev_Mem} (h : nfr N N2) (k : nfr N2 N3) : nfr N N3 := ⟨fun i h1 h2 => (k.1 i h1 h2).trans (h.1 i h1 h2), fun i h1 => (k.2 i h1).trans (h.2 i h1)⟩
theorem nfr_wr {j : Nat} {v : Int32} : nfr N (ev_wr N 7 j v) := ⟨fun _ h _ => wr_cell h, fun _ _ => rfl⟩
theorem nfr_mfr {N2 : ev_Mem} (h : mfr N N2) : nfr N N2 := ⟨fun k _ h2 => h.1 k h2, h.2⟩
theorem nfr_nm : nfr N (nmM N) := nfr_wr.tr nfr_wr
theorem lawI_txk {x : Int32} {k : Nat} {g us : Nat → Int32} (h : lawI N x k) (hg : agr k g g) (hu : okU us) : txk (N.1 4) g (usM us) x (nI k) := by
  rcases h with h | ⟨t, ht, rfl, M, h⟩
  · exact Or.inl h
  · exact lawR_txk h ht hg hu
theorem lawI_syv {x : Int32} {k : Nat} {f g us : Nat → Int32} {wo tp : Int32} (h : lawI N x k) (hg : agr k f g) (hu : okU us) : syv (N.1 4) f (usM us) x (nI k) wo tp = syv (N.1 4) g (usM us) x (nI k) wo tp := by
  rcases h with h | ⟨t, ht, rfl, M, h⟩
  · rw [syv_no h, syv_no h]
  · exact lawR_syv h ht hg hu
theorem nm_row : (nmM N).1 7 = upd (upd (N.1 7) 0 (N.1 1 8)) 1 (bc (N.1 1 9)) := by
  unfold nmM
  rw [wr_row, wr_row]
end
