/-! what the class's laws say: the same as the model's -/
section
variable {d : Nat} {M N : ev_Mem}
def nS (day go k to ln ho ex : Int32) : Nat → Int32 := fun i => if i = 0 then day else if i = 1 then go else if i = 2 then k else if i = 3 then to else if i = 4 then ln else if i = 5 then ho else if i = 6 then ex else 0
def nW (day go l u : Int32) : Nat → Int32 := fun i => if i = 0 then day else if i = 1 then go else if i = 7 then l else if i = 8 then u else 0
def nN (day go li to se : Int32) : Nat → Int32 := fun i => if i = 0 then day else if i = 1 then go else if i = 9 then li else if i = 10 then to else if i = 11 then se else 0
theorem wth_bnd {v t : Int32} : wth v t = bnd v.toInt64 0 t := by
  unfold wth bnd
  by_cases h : 0 ≤ v
  · rw [if_pos h, if_pos ((fa_wide_le 0 v).mpr h)]
    by_cases h2 : v ≤ t
    · rw [if_pos h2, if_pos ((fa_wide_le v t).mpr h2), Int32.toInt32_toInt64]
    · rw [if_neg h2, if_neg (fun z => h2 ((fa_wide_le v t).mp z))]
  · rw [if_neg h, if_neg (fun z => h ((fa_wide_le 0 v).mp z))]
theorem bnd_in {x : Int32} {n : Nat} (h : upto x n) (hn : n < 2 ^ 31) : bnd x.toInt64 0 (nI n) = x := by
  obtain ⟨j, hj, rfl⟩ := h
  rw [← wth_bnd, wth, if_pos (nI_pos' (by omega)), if_pos (nI_le hj hn)]
theorem lfr_84 {j : Nat} {v : Int32} {M2 : ev_Mem} (h : lfr (ev_wr M 84 j v) M2) : lfr M M2 := ⟨fun i hi => by rw [h.1 i hi, wr_cell (by omega)], h.2⟩
/-- a law of the class runs, whatever its row's other names hold -/
theorem run_law {t k p : Nat} {f g us : Nat → Int32} {M0 : ev_Mem} (ht : t < 4) (hn : lawR M0 N t k) (hp : M0.1 (61 + 5 * t + 4) k = nI p) (hp3 : p < 300) (h1 : M.1 (61 + 5 * t + 1) = M0.1 (61 + 5 * t + 1)) (h2 : M.1 (61 + 5 * t) 1 = M0.1 (61 + 5 * t) 1) (hf : f = upd (M.1 84) 0 (M.1 43 3)) (hus : us = M.1 44) (ha : agr k f g) (hu : okU us) (wo : Int32) (tp : Int32) :
    ∃ v, Cl LX (d + 1) mX1_run [.ref 83, .ref (61 + 5 * t), .int (nI p)] M (fun r M2 => r = some (.int v) ∧ lfr M M2) ∧ wth v tp = syv (N.1 4) g (usM us) (nI t) (nI k) wo tp := by
  obtain ⟨n, hn24, e0, h⟩ := hn
  rcases h with ⟨hz, -⟩ | ⟨p2, q, u, c, i, j, ⟨hp2, ep⟩, ⟨hu3, eu⟩, ⟨hq, hc⟩, e1, e2, e3, e4, e5, e6⟩
  · rw [hp] at hz
    exact absurd hz (fun z => by
      have := congrArg Int32.toInt z
      rw [nI_toInt (by omega), I_m1] at this
      omega)
  · have : p = p2 := by
      rw [hp] at ep
      exact (nI_eq (by omega) (by omega)).mp ep
    subst this
    obtain ⟨v, m, hm, hv, hmo, -⟩ := e6 f g us ha hu
    refine ⟨v, ?_, ?_⟩
    · rw [hf, hus] at hv
      exact qX1_run (d := d) (u := u) (n := m) (q := q) ⟨t, ht, rfl⟩ hu3 (by rw [h2]; exact eu) hm (by rw [h1]; exact hv) hq (by rw [h1]; exact hc)
    · unfold syv
      rw [if_neg (nI_pos (by omega)), nI_clamp (by omega), e0, nI_clamp (by omega), e1]
      simp only
      rw [lwv_eq e2 e3 e4 e5 hmo, wth_bnd]
theorem lawR_none {t k : Nat} {g us : Nat → Int32} {wo tp : Int32} (ht : t < 4) (h : lawR M N t k) (hz : M.1 (61 + 5 * t + 4) k = -1) : syv (N.1 4) g (usM us) (nI t) (nI k) wo tp = bnd wo.toInt64 0 tp := by
  obtain ⟨n, hn24, e0, h⟩ := h
  unfold syv
  rw [if_neg (nI_pos (by omega)), nI_clamp (by omega), e0, nI_clamp (by omega)]
  rcases h with ⟨-, h⟩ | ⟨p2, q, u, c, i, j, ⟨hp2, ep⟩, -⟩
  · rw [h]
  · rw [hz] at ep
    exact absurd ep.symm (fun z => by
      have := congrArg Int32.toInt z
      rw [nI_toInt (by omega), I_m1] at this
      omega)
theorem lawR_some {t k : Nat} (h : lawR M N t k) (hz : ¬ M.1 (61 + 5 * t + 4) k = -1) : ∃ p, p < 300 ∧ M.1 (61 + 5 * t + 4) k = nI p := by
  obtain ⟨n, hn24, e0, h⟩ := h
  rcases h with ⟨h, -⟩ | ⟨p2, q, u, c, i, j, h, -⟩
  · exact absurd h hz
  · exact ⟨p2, h⟩
theorem syv_no {tx g : Nat → Int32} {us : Int64 → Int64} {x k wo tp : Int32} (h : x < 0) : syv tx g us x k wo tp = bnd wo.toInt64 0 tp := by rw [syv, if_pos h]
theorem kX1_stiffness {t w : Nat} {ho ex go : Int32} (ht : t < 4) (hw : w < 24) (hl : lawR M N t 0) (hu : okU (M.1 44)) (hb : upto (M.1 43 3) 1000000 ∧ upto go 1000000 ∧ upto (M.1 30 w) 1000000 ∧ upto (M.1 32 w) 1000000 ∧ upto (M.1 29 w) 1000000 ∧ upto ho 1000000 ∧ upto ex 1000000) (ht9 : upto (M.1 32 w + ex) 99) :
    Cl LX (d + 2) mX1_stiffness [.ref 83, .ref (61 + 5 * t), .int (nI w), .int ho, .int ex, .int go] M (fun r M2 => r = some (.int (syv (N.1 4) (nS (M.1 43 3) go (M.1 30 w) (M.1 32 w) (M.1 29 w) ho ex) (usM (M.1 44)) (nI t) 0 (M.1 32 w + ex) 99)) ∧ lfr M M2) := by
  have hk : ev_isT (61 + 5 * t) := ⟨t, ht, rfl⟩
  refine Cl_of rfl (Nat.le_of_ble_eq_true rfl) rfl (gX1_stiffness_0 hk ⟨fun hz => ?_, fun hz => ⟨vp_in_nI hw (by omega), ?_, ⟨fun _ _ => rfl, rfl⟩⟩⟩)
  · intro M1 e1
    refine ⟨vp_in_nI hw (by omega), fun M2 e2 => ⟨vp_in_nI hw (by omega), fun M3 e3 => ⟨vp_in_nI hw (by omega), fun M4 e4 M5 e5 M6 e6 => ?_⟩⟩⟩
    rw [nI_clamp (by omega)] at e2 e3 e4
    have c1 : ∀ i, i ≠ 84 → M1.1 i = M.1 i := fun i hi => by rw [e1, wr_cell hi]
    have c2 : ∀ i, i ≠ 84 → M2.1 i = M.1 i := fun i hi => by rw [e2, wr_cell hi, c1 i hi]
    have c3 : ∀ i, i ≠ 84 → M3.1 i = M.1 i := fun i hi => by rw [e3, wr_cell hi, c2 i hi]
    have c6 : ∀ i, i ≠ 84 → M6.1 i = M.1 i := fun i hi => by rw [e6, wr_cell hi, e5, wr_cell hi, e4, wr_cell hi, c3 i hi]
    have r6 : M6.1 84 = upd (upd (upd (upd (upd (upd (M.1 84) 1 go) 2 (M.1 30 w)) 3 (M.1 32 w)) 4 (M.1 29 w)) 5 ho) 6 ex := by
      have f2 := e2
      have f3 := e3
      have f4 := e4
      rw [c1 30 (by omega)] at f2
      rw [c2 32 (by omega)] at f3
      rw [c3 29 (by omega)] at f4
      rw [e6, wr_row, e5, wr_row, f4, wr_row, f3, wr_row, f2, wr_row, e1, wr_row]
    obtain ⟨p, hp3, hp⟩ := lawR_some hl hz
    obtain ⟨v, hv, hs⟩ := run_law (d := d) (M := M6) (N := N) (M0 := M) (t := t) (k := 0) (p := p) (f := upd (M6.1 84) 0 (M6.1 43 3)) (g := nS (M.1 43 3) go (M.1 30 w) (M.1 32 w) (M.1 29 w) ho ex) (us := M.1 44) ht hl hp hp3 (c6 _ (by omega)) (by rw [c6 _ (by omega)]) rfl (c6 44 (by omega)).symm (by
      intro i hi
      rw [r6, c6 43 (by omega)]
      have hi7 : i < 7 := by
        rcases hi with h | h | h | h
        · omega
        · omega
        · exact absurd h.1 (by omega)
        · exact absurd h.1 (by omega)
      match i, hi7 with
      | 0, _ => exact ⟨rfl, hb.1⟩
      | 1, _ => exact ⟨rfl, hb.2.1⟩
      | 2, _ => exact ⟨rfl, hb.2.2.1⟩
      | 3, _ => exact ⟨rfl, hb.2.2.2.1⟩
      | 4, _ => exact ⟨rfl, hb.2.2.2.2.1⟩
      | 5, _ => exact ⟨rfl, hb.2.2.2.2.2.1⟩
      | 6, _ => exact ⟨rfl, hb.2.2.2.2.2.2⟩
      | i + 7, h => exact absurd h (by omega)) hu (M.1 32 w + ex) 99
    refine ⟨_, by rw [c6 _ (by omega), hp]; exact hv, fun zr zM q => ?_⟩
    rw [q.1]
    refine gX1_stiffness_107 (s0 := v) hk ⟨by rw [hs]; rfl, ?_⟩
    have l6 := q.2
    rw [e6] at l6
    have l5 := lfr_84 l6
    rw [e5] at l5
    have l4 := lfr_84 l5
    rw [e4] at l4
    have l3 := lfr_84 l4
    rw [e3] at l3
    have l2 := lfr_84 l3
    rw [e2] at l2
    have l1 := lfr_84 l2
    rw [e1] at l1
    exact lfr_84 l1
  · have := lawR_none (g := nS (M.1 43 3) go (M.1 30 w) (M.1 32 w) (M.1 29 w) ho ex) (us := M.1 44) (wo := M.1 32 w + ex) (tp := 99) ht hl hz
    rw [show (0 : Int32) = nI 0 from rfl, this, nI_clamp (by omega), show (99 : Int32) = nI 99 from rfl, bnd_in ht9 (by omega)]
theorem kX1_stiffnessN {w : Nat} {ho ex go x : Int32} {g : Nat → Int32} {us : Int64 → Int64} (hx : x < 0) (hw : w < 24) (ht9 : upto (M.1 32 w + ex) 99) :
    Cl LX (d + 2) mX1_stiffness [.ref 83, .null, .int (nI w), .int ho, .int ex, .int go] M (fun r M2 => r = some (.int (syv (N.1 4) g us x 0 (M.1 32 w + ex) 99)) ∧ lfr M M2) := by
  refine Cl_of rfl (Nat.le_of_ble_eq_true rfl) rfl (gX1_stiffnessN_0 ⟨vp_in_nI hw (by omega), ?_, ⟨fun _ _ => rfl, rfl⟩⟩)
  rw [syv_no hx, nI_clamp (by omega), show (99 : Int32) = nI 99 from rfl, bnd_in ht9 (by omega)]
end
