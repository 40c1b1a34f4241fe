/-! the class: keys are supposed to be lost -/
section
variable {d : Nat} {M N : ev_Mem} {W T : Nat} {lo : Int32}
theorem sdR_cg {M2 : ev_Mem} (hM : ∀ k, k < 82 → M2.1 k = M.1 k) (h : sdR M N W T lo) : sdR M2 N W T lo := by
  obtain ⟨h1, h2, h3, h4, h5, h6, h7, h8, h9, h10, h11, h12, h13, h14, h15⟩ := h
  refine ⟨h1, by rw [hM 3 (by omega)]; exact h2, h3, fun w hw => wRel_cg (by omega) (fun k _ _ => (hM k (by omega)).symm) (fun _ _ _ => rfl) (h4 w hw), by rw [hM 48 (by omega), hM 49 (by omega)]; exact h5, h6, h7, by rw [hM 43 (by omega)]; exact h8, by rw [hM 44 (by omega)]; exact h9, h10, by rw [hM 47 (by omega)]; exact h11, h12, by rw [hM 47 (by omega)]; exact h13, h14, fun t ht k hk => lawR_cg (fun i _ _ => (hM i (by omega)).symm) rfl (h15 t ht k hk)⟩
theorem mfl_cell {k i a : Nat} {v : Int32} (h : a ≠ k) : (mfl M k i v).1 a = M.1 a := by
  funext b
  unfold mfl
  exact if_neg (fun q => h q.1)
def ufr (M M2 : ev_Mem) : Prop := (∀ k, k < 83 ∨ 90 < k → M2.1 k = M.1 k) ∧ (∀ j, j ≠ 3 → j ≠ 8 → M2.1 86 j = M.1 86 j) ∧ M2.2 = M.2
theorem ufr.rf : ufr M M := ⟨fun _ _ => rfl, fun _ _ _ => rfl, rfl⟩
theorem ufr.tr {M1 M2 : ev_Mem} (h : ufr M M1) (k : ufr M1 M2) : ufr M M2 := ⟨fun i hi => (k.1 i hi).trans (h.1 i hi), fun j h1 h2 => (k.2.1 j h1 h2).trans (h.2.1 j h1 h2), k.2.2.trans h.2.2⟩
theorem ufr_wr {k j : Nat} {v : Int32} (hk : 87 ≤ k) (hk2 : k ≤ 90) : ufr M (ev_wr M k j v) := ⟨fun i hi => wr_cell (by omega), fun i _ _ => wr_ne (by omega), rfl⟩
theorem ufr_86 {j : Nat} {v : Int32} (hj : j = 3 ∨ j = 8) : ufr M (ev_wr M 86 j v) := ⟨fun i hi => wr_cell (by omega), fun i _ _ => wr_ne (by omega), rfl⟩
theorem ufr_lfr {M2 : ev_Mem} (h : lfr M M2) : ufr M M2 := ⟨fun i hi => h.1 i (by omega), fun j _ _ => by rw [h.1 86 (by omega)], h.2⟩
def heldI (M N : ev_Mem) (W : Nat) : Prop := ∀ w, w < W → ∀ h, h < 10 → M.1 89 (10 * w + h) = -1 ∨ M.1 90 (10 * w + h) = hvl N (N.1 1 3) (M.1 86 8) w (nI h) (M.1 89 (10 * w + h))
def supO (M N : ev_Mem) (i : Nat) : Prop := ∀ w, w < i → M.1 87 w = bi (mC N (nI w)) ∧ (mC N (nI w) = true → M.1 88 w = stN N (N.1 1 3) w)
theorem supp_lp (h : sdR M N W T lo) {Mi : ev_Mem} (hf : ufr M Mi) (h3 : Mi.1 86 3 = lo) (h8 : Mi.1 86 8 = bc lo) (hh : heldI Mi N W) :
    Ev LX (d + 4) mX6_suppose 34 [some (.ref 86), some (tv (N.1 1 3)), some (.int lo), some (.int (bc lo)), some (.int 0), none, none, none] [] Mi (fun r M2 => r = none ∧ ufr M M2 ∧ M2.1 86 3 = lo ∧ M2.1 86 8 = bc lo ∧ heldI M2 N W ∧ supO M2 N W) := by
  have hW := h.w24
  have hT := h.t4
  have htv := tv_ok (x := N.1 1 3) (by rcases h.ti with z | ⟨t, ht, z⟩; exact Or.inl z; exact Or.inr ⟨t, by omega, z⟩)
  have lp : ∀ i, i ≤ W → ∀ Mi, ufr M Mi → Mi.1 86 3 = lo → Mi.1 86 8 = bc lo → heldI Mi N W → supO Mi N i → Ev LX (d + 4) mX6_suppose 34 [some (.ref 86), some (tv (N.1 1 3)), some (.int lo), some (.int (bc lo)), some (.int (nI i)), none, none, none] [] Mi (fun r M2 => r = none ∧ ufr M M2 ∧ M2.1 86 3 = lo ∧ M2.1 86 8 = bc lo ∧ heldI M2 N W ∧ supO M2 N W) := by
    refine dn ?_ (fun i hi ih => ?_)
    · intro Mi hf h3 h8 hh hs
      refine gX6_supposeV_34 htv ⟨fun _ => ⟨rfl, hf, h3, h8, hh, hs⟩, fun z => absurd ?_ z⟩
      rw [hf.1 3 (by omega), h.mw]; exact nI_le (Nat.le_refl _) (by omega)
    · intro Mi hf h3 h8 hh hs
      have hv : vp_in (nI i) 24 := vp_in_nI (by omega) (by omega)
      have c0 : ∀ k, k < 82 → Mi.1 k = M.1 k := fun k hk => hf.1 k (by omega)
      have s0 := sdR_cg c0 h
      refine gX6_supposeV_34 (d := d + 1) htv ⟨fun z => ?_, fun _ => ⟨sd_wd s0 hi, hv, fun M1 e1 => ?_⟩⟩
      · rw [hf.1 3 (by omega), h.mw] at z
        exact absurd z (nI_ge (by omega) (by omega))
      · rw [sd_xC s0 hi, nI_clamp (by omega)] at e1
        have f1 : ufr M M1 := by rw [e1]; exact hf.tr (ufr_wr (by omega) (by omega))
        have c1 : ∀ k, k < 82 → M1.1 k = M.1 k := fun k hk => f1.1 k (by omega)
        have s1 := sdR_cg c1 h
        have e86 : M1.1 86 = Mi.1 86 := by rw [e1, wr_cell (by omega)]
        have e89 : M1.1 89 = Mi.1 89 := by rw [e1, wr_cell (by omega)]
        have e90 : M1.1 90 = Mi.1 90 := by rw [e1, wr_cell (by omega)]
        have e88 : M1.1 88 = Mi.1 88 := by rw [e1, wr_cell (by omega)]
        have r87 : M1.1 87 (nI i).toNatClampNeg = bi (mC N (nI i)) := by rw [nI_clamp (by omega), e1, wr_same]
        have o87 : ∀ w, w < i → M1.1 87 w = Mi.1 87 w := fun w hw => by rw [e1, wr_ne (by omega)]
        refine ⟨hv, fun z => ?_, fun z => ?_⟩
        · rw [r87] at z
          have hC : mC N (nI i) = true := (bi_n0 _).mp z
          refine ⟨sd_wd s1 hi, sd_wd s1 hi, fun v1 ev => ?_⟩
          have hH : mH N (nI i) ≤ 9 := by rw [← sd_xH h hi]; exact xH_le (sd_wd h hi)
          have ev2 : v1 = nI (10 * i + mH N (nI i)) := by
            rw [ev, sd_xH s1 hi, show (10 : Int32) = nI 10 from rfl, pk_mul, nI_add, Nat.mul_comm]
          have hv1 : vp_in v1 240 := by rw [ev2]; exact vp_in_nI (by omega) (by omega)
          have hcl : v1.toNatClampNeg = 10 * i + mH N (nI i) := by rw [ev2, nI_clamp (by omega)]
          have hex := sd_ex h hi
          refine ⟨hv1, fun y => ?_, fun y => ?_⟩
          · rw [hcl, sd_xE s1 hi] at y
            refine ⟨hv1, hv, fun M2 e2 => ?_⟩
            rw [nI_clamp (by omega), hcl, e90] at e2
            have hst : Mi.1 90 (10 * i + mH N (nI i)) = stN N (N.1 1 3) i := by
              rcases hh i hi (mH N (nI i)) (by omega) with q | q
              · rw [e89, q] at y
                obtain ⟨j, hj, ej⟩ := hex
                rw [ej] at y
                exact absurd y.symm (nI_nm1 (by omega))
              · rw [q, h8, ← e89, y, stN_hvl, h.lo]
            rw [hst] at e2
            have f2 : ufr M M2 := by rw [e2]; exact f1.tr (ufr_wr (by omega) (by omega))
            rw [nI_1]
            have g86 : M2.1 86 = Mi.1 86 := by rw [e2, wr_cell (by omega), e86]
            refine ih M2 f2 (by rw [g86]; exact h3) (by rw [g86]; exact h8) ?_ ?_
            · unfold heldI
              rw [g86, e2, wr_cell (by omega), wr_cell (by omega), e89, e90]
              exact hh
            · intro w hw
              rcases Nat.lt_or_ge w i with q | q
              · have := hs w q
                rw [e2, wr_cell (by omega), o87 w q, wr_ne (by omega), e88]
                exact this
              · obtain rfl : w = i := by omega
                rw [e2, wr_cell (by omega), wr_same]
                rw [nI_clamp (by omega)] at r87
                exact ⟨r87, fun _ => rfl⟩
          · refine ⟨hv1, fun M3 e3 => ?_⟩
            rw [hcl, sd_xE s1 hi] at e3
            have f3 : ufr M M3 := by rw [e3]; exact f1.tr (ufr_wr (by omega) (by omega))
            have c3 : ∀ k, k < 82 → M3.1 k = M.1 k := fun k hk => f3.1 k (by omega)
            rw [sd_xH s1 hi, sd_xE s1 hi]
            refine ⟨_, stiffV (d := d + 1) h c3 hi h.ti (bc_up h.lu) ⟨_, hH, rfl⟩ hex, fun zr zM q => ?_⟩
            rw [q.1]
            have f4 : ufr M zM := f3.tr (ufr_lfr q.2)
            have l4 := q.2.1
            refine gX6_supposeV_152 htv ⟨hv1, fun M5 e5 => ⟨hv1, hv, fun M6 e6 => ?_⟩⟩
            rw [hcl] at e5
            rw [hcl, nI_clamp (by omega), show M5.1 90 (10 * i + mH N (nI i)) = hvl N (N.1 1 3) (bc lo) i (nI (mH N (nI i))) (mE N (nI i)) by rw [e5, wr_same]] at e6
            have f6 : ufr M M6 := by rw [e6, e5]; exact (f4.tr (ufr_wr (by omega) (by omega))).tr (ufr_wr (by omega) (by omega))
            have g86 : M6.1 86 = Mi.1 86 := by rw [e6, wr_cell (by omega), e5, wr_cell (by omega), l4 86 (by omega), e3, wr_cell (by omega), e86]
            have g89 : M6.1 89 = upd (Mi.1 89) (10 * i + mH N (nI i)) (mE N (nI i)) := by rw [e6, wr_cell (by omega), e5, wr_cell (by omega), l4 89 (by omega), e3, wr_row, e89]
            have g90 : M6.1 90 = upd (Mi.1 90) (10 * i + mH N (nI i)) (hvl N (N.1 1 3) (bc lo) i (nI (mH N (nI i))) (mE N (nI i))) := by
              rw [e6, wr_cell (by omega), e5, wr_row, l4 90 (by omega), e3, wr_cell (by omega), e90]
            rw [nI_1]
            refine ih M6 f6 (by rw [g86]; exact h3) (by rw [g86]; exact h8) ?_ ?_
            · intro w hw hq hq10
              rw [g86, g89, g90]
              by_cases ew : 10 * w + hq = 10 * i + mH N (nI i)
              · have e1 : w = i := by omega
                have e2 : hq = mH N (nI i) := by omega
                rw [ew, pk_us, pk_us, h8, e1, e2]
                exact Or.inr rfl
              · rw [pk_un ew, pk_un ew]
                exact hh w hw hq hq10
            · intro w hw
              have k87 : M6.1 87 = M1.1 87 := by rw [e6, wr_cell (by omega), e5, wr_cell (by omega), l4 87 (by omega), e3, wr_cell (by omega)]
              have k88 : M6.1 88 = upd (Mi.1 88) i (stN N (N.1 1 3) i) := by
                rw [e6, wr_row, e5, wr_cell (by omega), l4 88 (by omega), e3, wr_cell (by omega), e88, stN_hvl, h.lo]
              rw [k87, k88]
              rcases Nat.lt_or_ge w i with q | q
              · rw [o87 w q, pk_un (by omega)]; exact hs w q
              · obtain rfl : w = i := by omega
                rw [nI_clamp (by omega)] at r87
                rw [pk_us]
                exact ⟨r87, fun _ => rfl⟩
        · rw [r87] at z
          have hC : mC N (nI i) = false := (bi_0 _).mp z
          rw [nI_1]
          refine ih M1 f1 (by rw [e86]; exact h3) (by rw [e86]; exact h8) ?_ ?_
          · unfold heldI; rw [e86, e89, e90]; exact hh
          · intro w hw
            rcases Nat.lt_or_ge w i with q | q
            · rw [o87 w q, e88]; exact hs w q
            · obtain rfl : w = i := by omega
              rw [nI_clamp (by omega)] at r87
              exact ⟨r87, fun q => by rw [hC] at q; cases q⟩
  exact lp 0 (by omega) Mi hf h3 h8 hh (fun w hw => absurd hw (by omega))
theorem kX6_suppose (h : sdR M N W T lo) (hh : M.1 86 8 = -1 ∨ heldI M N W) :
    Cl LX (d + 4) mX6_suppose [.ref 86, tv (N.1 1 3), .int lo] M (fun r M2 => r = none ∧ ufr M M2 ∧ M2.1 86 3 = lo ∧ M2.1 86 8 = bc lo ∧ heldI M2 N W ∧ supO M2 N W) := by
  have hT := h.t4
  have htv := tv_ok (x := N.1 1 3) (by rcases h.ti with z | ⟨t, ht, z⟩; exact Or.inl z; exact Or.inr ⟨t, by omega, z⟩)
  have body : Ev LX (d + 4) mX6_suppose 0 [some (.ref 86), some (tv (N.1 1 3)), some (.int lo), none, none, none, none, none] [] M (fun r M2 => r = none ∧ ufr M M2 ∧ M2.1 86 3 = lo ∧ M2.1 86 8 = bc lo ∧ heldI M2 N W ∧ supO M2 N W) := by
    refine gX6_supposeV_0 (d := d + 3) htv fun M1 e1 => ⟨fun z => ?_, fun z => ?_⟩
    · have e8 : M1.1 86 8 = M.1 86 8 := by rw [e1, wr_ne (by omega)]
      refine supp_lp h (by rw [e1]; exact ufr_86 (Or.inl rfl)) (by rw [e1, wr_same]) z.symm ?_
      rcases hh with q | q
      · rw [e8, q] at z
        obtain ⟨j, hj, ej⟩ := bc_up h.lu
        rw [ej] at z
        exact absurd z (nI_nm1 (by omega))
      · unfold heldI
        rw [e8, e1, wr_cell (by omega), wr_cell (by omega)]
        exact q
    · refine ⟨_, kJ7_fill (d := d + 3) (M := M1) lx_89 (by omega), fun zr zM q => ?_⟩
      rw [q.1, q.2]
      refine gX6_supposeV_26 htv fun M2 e2 => ?_
      have c2 : ∀ k, k ≠ 86 → k ≠ 89 → M2.1 k = M.1 k := fun k h1 h2 => by
        rw [e2, wr_cell h1, mfl_cell h2, e1, wr_cell h1]
      refine supp_lp h ⟨fun k hk => c2 k (by omega) (by omega), fun j h1 h2 => ?_, ?_⟩ ?_ (by rw [e2, wr_same]) (fun w hw hq hq10 => Or.inl ?_)
      · rw [e2, wr_ne (by omega), mfl_cell (by omega), e1, wr_ne (by omega)]
      · rw [e2, e1]; rfl
      · rw [e2, wr_ne (by omega), mfl_cell (by omega), e1, wr_same]
      · have := h.w24
        rw [e2, wr_cell (by omega)]
        exact if_pos ⟨rfl, by omega⟩
  rcases htv with e | ⟨k, hk, e⟩
  · rw [e] at body ⊢; exact Cl_of rfl (Nat.le_of_ble_eq_true rfl) rfl body
  · rw [e] at body ⊢; exact Cl_of rfl (Nat.le_of_ble_eq_true rfl) rfl body
/-- what is heard, as costs -/
def snN (N : ev_Mem) (w : Nat) : Nat := (sfw N w).toNatClampNeg
theorem syv_up {tx nm : Nat → Int32} {us : Int64 → Int64} {x k wo : Int32} {t : Nat} (ht : t < 2 ^ 31) : upto (syv tx nm us x k wo (nI t)) t := by
  have hb : ∀ v : Int64, upto (bnd v 0 (nI t)) t := by
    intro v
    unfold bnd
    by_cases h1 : (0 : Int32).toInt64 ≤ v
    · rw [if_pos h1]
      by_cases h2 : v ≤ (nI t).toInt64
      · rw [if_pos h2]
        obtain ⟨j, hj, rfl⟩ := pk_lOf (x := v) (L_nlt.mpr h1)
        rw [nI_l ht] at h2
        have := (pk_lLE hj (by omega)).mp h2
        exact ⟨j, this, lN_i j⟩
      · rw [if_neg h2]; exact ⟨t, Nat.le_refl _, rfl⟩
    · rw [if_neg h1]; exact ⟨0, by omega, rfl⟩
  unfold syv
  split
  · exact hb _
  · split <;> exact hb _
theorem sfw_sn {w : Nat} : sfw N w = nI (snN N w) ∧ (snN N w ≤ 99 ∨ snN N w = FARn) := by
  unfold snN
  by_cases hC : mC N (nI w) = true
  · have e : sfw N w = stN N (N.1 1 3) w := by unfold sfw; rw [if_pos hC]
    obtain ⟨j, hj, ej⟩ := syv_up (tx := N.1 4) (nm := nS (N.1 1 8) (bc (N.1 1 9)) (aw N w 0) (aw N w 2) (aw N w 3) (nI (mH N (nI w))) (mE N (nI w))) (us := usM (uNs N)) (x := N.1 1 3) (k := 0) (wo := aw N w 2 + mE N (nI w)) (t := 99) (by omega)
    have e2 : stN N (N.1 1 3) w = nI j := ej
    rw [e, e2, nI_clamp (by omega)]
    exact ⟨rfl, Or.inl hj⟩
  · have e : sfw N w = nI FARn := by unfold sfw; rw [if_neg hC]; rfl
    rw [e, nI_clamp (by unfold FARn; omega)]
    exact ⟨rfl, Or.inr rfl⟩
theorem supO_sn (h : supO M N W) : snR M (snN N) W := by
  intro w hw
  obtain ⟨h1, h2⟩ := h w hw
  by_cases hC : mC N (nI w) = true
  · right
    have e : sfw N w = stN N (N.1 1 3) w := by unfold sfw; rw [if_pos hC]
    obtain ⟨e1, e2⟩ := sfw_sn (N := N) (w := w)
    refine ⟨by rw [h1, hC]; decide, by rw [h2 hC, ← e, ← e1], ?_⟩
    obtain ⟨j, hj, ej⟩ := syv_up (tx := N.1 4) (nm := nS (N.1 1 8) (bc (N.1 1 9)) (aw N w 0) (aw N w 2) (aw N w 3) (nI (mH N (nI w))) (mE N (nI w))) (us := usM (uNs N)) (x := N.1 1 3) (k := 0) (wo := aw N w 2 + mE N (nI w)) (t := 99) (by omega)
    have e3 : stN N (N.1 1 3) w = nI j := ej
    unfold snN
    rw [e, e3, nI_clamp (by omega)]
    exact hj
  · left
    refine ⟨by rw [h1, Bool.not_eq_true _ |>.mp hC]; rfl, ?_⟩
    unfold snN sfw
    rw [if_neg hC]
    rfl
end
