/-! the model: what each place and all behind it cost -/
section
variable {d : Nat} {N : ev_Mem}
/-- k places from the last on, the first of them by word w -/
def cpk (kd se : Nat → Int32) (sn : Nat → Nat) (W : Nat) (row : Nat → Int32) (n : Nat) : Nat → Nat → Nat
  | 0, w => if se w = row (n - 1) ∧ sn w < FARn then sn w else FARn
  | k + 1, w => if se w = row (n - 1 - (k + 1)) ∧ sn w < FARn then (if bsv (fun v => cpk kd se sn W row n k v + btw kd w v) W < FARn then sn w + bsv (fun v => cpk kd se sn W row n k v + btw kd w v) W else FARn) else FARn
theorem cpk_b {kd se : Nat → Int32} {sn : Nat → Nat} {W : Nat} {row : Nat → Int32} {n : Nat} (hs : ∀ w, w < W → sn w < FARn → sn w ≤ 99) : ∀ k, k < 100 → ∀ w, w < W → cpk kd se sn W row n k w = FARn ∨ cpk kd se sn W row n k w ≤ 102 * (k + 1)
  | 0, _, w, hw => by
    rw [cpk]
    split
    · rename_i h; have := hs w hw h.2; exact Or.inr (by omega)
    · exact Or.inl rfl
  | k + 1, hk, w, hw => by
    rw [cpk]
    split
    · rename_i h
      split
      · rename_i h2
        obtain ⟨m, hm, em⟩ := bsv_at h2
        have hmW := (bst_lt hm).1
        have ih := cpk_b (kd := kd) (se := se) (row := row) (n := n) hs k (by omega) m hmW
        have h3 := btw_le (kd := kd) (w := w) (v := m)
        have h4 := hs w hw h.2
        refine Or.inr ?_
        rw [← em] at h2 ⊢
        unfold FARn at *
        omega
      · exact Or.inl rfl
    · exact Or.inl rfl
theorem cpk_far {kd se : Nat → Int32} {sn : Nat → Nat} {W : Nat} {row : Nat → Int32} {n k w : Nat} (h : ¬ (se w = row (n - 1 - k) ∧ sn w < FARn)) : cpk kd se sn W row n k w = FARn := by
  cases k with
  | zero => rw [cpk]; exact if_neg h
  | succ k => rw [cpk, if_neg h]
def rfr (N N2 : ev_Mem) : Prop := (∀ k, k ≠ 12 → N2.1 k = N.1 k) ∧ N2.2 = N.2
theorem rfr.rf : rfr N N := ⟨fun _ _ => rfl, rfl⟩
theorem rfr_wr {N2 : ev_Mem} {j : Nat} {v : Int32} (h : rfr N N2) : rfr N (ev_wr N2 12 j v) := ⟨fun k hk => by rw [wr_cell hk]; exact h.1 k hk, h.2⟩
theorem atN_1 {N2 : ev_Mem} {s p w : Nat} (h : rfr N N2) : atN N2 s p w = atN N s p w := by
  unfold atN
  rw [aw_1 (h.1 1 (by omega)), h.1 1 (by omega), h.1 11 (by omega)]
/-- what the model's row of rests holds of the places from p on -/
def rsO (N N2 : ev_Mem) (s n W : Nat) (sn : Nat → Nat) (p : Nat) : Prop := ∀ q, p ≤ q → q < n → ∀ w, w < W → atN N s q w = true → N2.1 12 (24 * q + w) = nI (cpk (fun w => aw N w 0) (fun w => aw N w 1) sn W (fun q => N.1 1 (351 + 6 * s + 1 + q)) n (n - 1 - q) w)
theorem at_cpk {s n W p w : Nat} {sn : Nat → Nat} (hn : p < n) (hsn : N.1 11 w = nI (sn w)) (hb : sn w < 2 ^ 31) : atN N s p w = true ↔ (aw N w 1 = N.1 1 (351 + 6 * s + 1 + (n - 1 - (n - 1 - p))) ∧ sn w < FARn) := by
  unfold atN
  rw [show n - 1 - (n - 1 - p) = p by omega, hsn, Bool.and_eq_true, decide_eq_true_eq, decide_eq_true_eq, show (1000000 : Int32) = nI 1000000 from rfl, nI_ltI hb (by omega)]
  rfl
theorem kX11_layRests {s n W : Nat} {sn : Nat → Nat} (hs : s < 8) (hn1 : 1 ≤ n) (hn5 : n ≤ 5) (hn : N.1 1 (351 + 6 * s) = nI n) (hW : N.1 1 0 = nI W) (hW24 : W ≤ 24) (hsn : ∀ w, w < W → N.1 11 w = nI (sn w) ∧ (sn w ≤ 99 ∨ sn w = FARn)) :
    Cl LM (d + 3) mX11_layRests [.ref 0, .int (nI s)] N (fun r N2 => r = none ∧ rfr N N2 ∧ rsO N N2 s n W sn 0) := by
  have e351 : (351 : Int32) + 6 * nI s = nI (351 + 6 * s) := by rw [show (351 : Int32) = nI 351 from rfl, show (6 : Int32) = nI 6 from rfl, pk_mul, nI_add]
  have i351 : vp_in ((351 : Int32) + 6 * nI s) 3315 := by rw [e351]; exact vp_in_nI (by omega) (by omega)
  have hs99 : ∀ w, w < W → sn w < FARn → sn w ≤ 99 := fun w hw h => by rcases (hsn w hw).2 with z | z; exact z; omega
  have hsb : ∀ w, w < W → sn w < 2 ^ 31 := fun w hw => by rcases (hsn w hw).2 with z | z; omega; rw [z]; unfold FARn; omega
  -- the inner loop at place p, behind it all is laid
  have inner : ∀ (p : Nat), p < n → ∀ (j i : Nat) (N1 : ev_Mem), i + j = W → rfr N N1 → rsO N N1 s n W sn (p + 1) → (∀ w, w < i → atN N s p w = true → N1.1 12 (24 * p + w) = nI (cpk (fun w => aw N w 0) (fun w => aw N w 1) sn W (fun q => N.1 1 (351 + 6 * s + 1 + q)) n (n - 1 - p) w)) →
      (∀ N2, rfr N N2 → rsO N N2 s n W sn p → Ev LM (d + 1 + 2) mX11_layRests 8 [some (.ref 0), some (.int (nI s)), some (.int (nI p + (-1))), none, none, none] [] N2 (fun r N2 => r = none ∧ rfr N N2 ∧ rsO N N2 s n W sn 0)) →
      Ev LM (d + 1 + 2) mX11_layRests 14 [some (.ref 0), some (.int (nI s)), some (.int (nI p)), some (.int (nI i)), none, none] [] N1 (fun r N2 => r = none ∧ rfr N N2 ∧ rsO N N2 s n W sn 0) := by
    intro p hp j
    induction j with
    | zero =>
      intro i N1 hi hf ho ha kk
      obtain rfl : i = W := by omega
      refine gX11_layRests_14 ⟨fun _ => ?_, fun z => absurd ?_ z⟩
      · refine kk N1 hf (fun q hq hqn w hw hat => ?_)
        rcases Nat.lt_or_ge p q with z | z
        · exact ho q (by omega) hqn w hw hat
        · obtain rfl : q = p := by omega
          exact ha w hw hat
      · rw [hf.1 1 (by omega), hW]
        exact nI_le (Nat.le_refl _) (by omega)
    | succ j ih =>
      intro i N1 hi hf ho ha kk
      have eat : atQ N1 (nI s) (nI p) (nI i) = atN N s p i := by
        unfold atQ
        rw [nI_clamp (by omega), nI_clamp (by omega), nI_clamp (by omega), atN_1 hf]
      have i24 : (24 : Int32) * nI p + nI i = nI (24 * p + i) := by rw [show (24 : Int32) = nI 24 from rfl, pk_mul, nI_add]
      -- a store, and on
      have nx : ∀ v : Int32, (atN N s p i = true → v = nI (cpk (fun w => aw N w 0) (fun w => aw N w 1) sn W (fun q => N.1 1 (351 + 6 * s + 1 + q)) n (n - 1 - p) i)) → Ev LM (d + 1 + 2) mX11_layRests 14 [some (.ref 0), some (.int (nI s)), some (.int (nI p)), some (.int (nI i + 1)), none, none] [] (ev_wr N1 12 (24 * p + i) v) (fun r N2 => r = none ∧ rfr N N2 ∧ rsO N N2 s n W sn 0) := by
        intro v hv
        rw [nI_1]
        refine ih (i + 1) _ (by omega) (rfr_wr hf) (fun q hq hqn w hw hat => ?_) (fun w hw hat => ?_) kk
        · rw [wr_row, pk_un (by omega)]
          exact ho q hq hqn w hw hat
        · rw [wr_row]
          by_cases ew : w = i
          · subst ew; rw [pk_us]; exact hv hat
          · rw [pk_un (by omega)]; exact ha w (by omega) hat
      refine gX11_layRests_14 ⟨fun z => ?_, fun _ => ⟨⟨vp_in_nI hs (by omega), vp_in_nI (by omega) (by omega), vp_in_nI (by omega) (by omega)⟩, fun h => ⟨i351, fun hz => ?_, fun hz => ?_⟩, fun h => ?_⟩⟩
      · rw [hf.1 1 (by omega), hW] at z
        exact absurd z (nI_ge (by omega) (by omega))
      · -- not the last place
        rw [eat] at h
        rw [e351, nI_clamp (by omega), hf.1 1 (by omega), hn, nI_1] at hz
        have hpn : p + 1 < n := by
          have : p + 1 ≠ n := fun e => hz (by rw [e])
          omega
        have hat := (at_cpk (n := n) (W := W) (sn := sn) hp (hsn i (by omega)).1 (hsb i (by omega))).mp h
        have ekk : n - 1 - p = (n - 1 - (p + 1)) + 1 := by omega
        refine ⟨_, by
          rw [nI_1]
          exact kX11_nextOf (d := d) (N := N1) (s := s) (p := p + 1) (W := W) (x := nI i) (F := fun v => cpk (fun w => aw N w 0) (fun w => aw N w 1) sn W (fun q => N.1 1 (351 + 6 * s + 1 + q)) n (n - 1 - (p + 1)) v + btw (fun w => aw N w 0) i v) hs (by omega) (by rw [hf.1 1 (by omega)]; exact hW) hW24 (Or.inr ⟨i, by omega, rfl⟩) (fun v hv hat2 => by
            rw [atN_1 hf] at hat2
            have hc := cpk_b (kd := fun w => aw N w 0) (se := fun w => aw N w 1) (row := fun q => N.1 1 (351 + 6 * s + 1 + q)) (n := n) hs99 (n - 1 - (p + 1)) (by omega) v hv
            have hbt := btw_le (kd := fun w => aw N w 0) (w := i) (v := v)
            refine ⟨by unfold FARn at hc; omega, ?_⟩
            rw [nxv, if_neg (fun q => by have := congrArg Int32.toInt q; rw [nI_toInt (by omega), I_m1] at this; omega), ho (p + 1) (Nat.le_refl _) hpn v hv hat2, nI_clamp (by omega), aw_1 (hf.1 1 (by omega)), bhd_btw (kd := fun w => aw N w 0) (by omega) (by omega), nI_add]) (fun v hv hat2 => by
            rw [atN_1 hf] at hat2
            have : ¬ (aw N v 1 = N.1 1 (351 + 6 * s + 1 + (n - 1 - (n - 1 - (p + 1)))) ∧ sn v < FARn) := fun q => by
              rw [(at_cpk (n := n) (W := W) (sn := sn) hpn (hsn v hv).1 (hsb v hv)).mpr q] at hat2
              cases hat2
            rw [cpk_far this]
            omega), fun zr zM q => ?_⟩
        rw [q.1, q.2]
        refine gX11_layRests_61 (s0 := _) ⟨i351, fun z => ?_, fun _ => ⟨fun hm => ?_, fun hm => ?_⟩⟩
        · rw [e351, nI_clamp (by omega), hf.1 1 (by omega), hn, nI_1] at z
          exact absurd z (nI_ge hpn (by omega))
        · cases eb : bst (fun v => cpk (fun w => aw N w 0) (fun w => aw N w 1) sn W (fun q => N.1 1 (351 + 6 * s + 1 + q)) n (n - 1 - (p + 1)) v + btw (fun w => aw N w 0) i v) W with
          | none => rw [eb] at hm; exact absurd rfl hm
          | some m =>
            obtain ⟨hmW, hmF⟩ := bst_lt eb
            refine ⟨vp_in_nI (by omega) (by omega), fun _ => ⟨⟨vp_in_nI (by omega) (by omega), vp_in_nI (n := m) (by omega) (by omega)⟩, ?_, by rw [i24]; exact vp_in_nI (by omega) (by omega), fun M3 e3 => ?_⟩, fun z => absurd z (by rw [eb] at hm; exact hm)⟩
            · show vp_in ((24 : Int32) * nI p + 24 + nI m) 120
              rw [show (24 : Int32) = nI 24 from rfl, pk_mul, nI_add, nI_add]
              exact vp_in_nI (by omega) (by omega)
            · have e24m : (24 : Int32) * nI p + 24 + nI m = nI (24 * (p + 1) + m) := by
                rw [show (24 : Int32) = nI 24 from rfl, pk_mul, nI_add, nI_add, show 24 * p + 24 + m = 24 * (p + 1) + m by omega]
              have hatm : atN N s (p + 1) m = true := by
                cases hq2 : atN N s (p + 1) m with
                | true => rfl
                | false =>
                  exfalso
                  have : ¬ (aw N m 1 = N.1 1 (351 + 6 * s + 1 + (n - 1 - (n - 1 - (p + 1)))) ∧ sn m < FARn) := fun q => by
                    rw [(at_cpk (n := n) (W := W) (sn := sn) hpn (hsn m hmW).1 (hsb m hmW)).mpr q] at hq2
                    cases hq2
                  rw [cpk_far this] at hmF
                  omega
              rw [i24, nI_clamp (by omega)] at e3
              rw [e3]
              refine nx _ (fun _ => ?_)
              show N1.1 11 (nI i).toNatClampNeg + (bhd (N1.1 1 (39 + 13 * nI i + 0).toNatClampNeg) (N1.1 1 (39 + 13 * nI m + 0).toNatClampNeg) (nI i) (nI m) + N1.1 12 ((24 : Int32) * nI p + 24 + nI m).toNatClampNeg) = _
              rw [e24m, nI_clamp (by omega), nI_clamp (by omega), aw0 (by omega), aw0 (by omega), aw_1 (hf.1 1 (by omega)), hf.1 11 (by omega), (hsn i (by omega)).1, ho (p + 1) (Nat.le_refl _) hpn m hmW hatm, bhd_btw (kd := fun w => aw N w 0) (by omega) (by omega), nI_add, nI_add, ekk, cpk, if_pos (by rw [← ekk]; exact hat), if_pos (by rw [bsv_some eb]; exact hmF), bsv_some eb]
              rw [Nat.add_comm (btw _ _ _)]
        · cases eb : bst (fun v => cpk (fun w => aw N w 0) (fun w => aw N w 1) sn W (fun q => N.1 1 (351 + 6 * s + 1 + q)) n (n - 1 - (p + 1)) v + btw (fun w => aw N w 0) i v) W with
          | some m =>
            rw [eb] at hm
            have := congrArg Int32.toInt hm
            have hmW := (bst_lt eb).1
            rw [show onI (some m) = nI m from rfl, nI_toInt (by omega), I_m1] at this
            omega
          | none =>
            refine ⟨by rw [i24]; exact vp_in_nI (by omega) (by omega), fun M5 e5 => ?_⟩
            rw [i24, nI_clamp (by omega)] at e5
            rw [e5]
            refine nx _ (fun _ => ?_)
            rw [ekk, cpk, if_pos (by rw [← ekk]; exact hat), if_neg (by rw [bsv_none eb]; omega)]
            rfl
      · -- the last place
        rw [eat] at h
        rw [e351, nI_clamp (by omega), hf.1 1 (by omega), hn, nI_1] at hz
        have hpn : p + 1 = n := (nI_eq (by omega) (by omega)).mp hz
        have hat := (at_cpk (n := n) (W := W) (sn := sn) hp (hsn i (by omega)).1 (hsb i (by omega))).mp h
        refine gX11_layRests_61 ⟨i351, fun _ => ⟨vp_in_nI (by omega) (by omega), fun z => absurd rfl z, fun _ => ⟨by rw [i24]; exact vp_in_nI (by omega) (by omega), fun M2 e2 => ?_⟩⟩, fun z => absurd ?_ z⟩
        · rw [i24, nI_clamp (by omega)] at e2
          rw [e2]
          refine nx _ (fun _ => ?_)
          rw [nI_clamp (by omega), hf.1 11 (by omega), (hsn i (by omega)).1, Int32.add_zero, show n - 1 - p = 0 by omega, cpk, if_pos (by rw [show n - 1 = n - 1 - (n - 1 - p) by omega]; exact hat)]
        · rw [e351, nI_clamp (by omega), hf.1 1 (by omega), hn, nI_1, hpn]
          exact nI_le (Nat.le_refl _) (by omega)
      · rw [eat] at h
        rw [nI_1]
        refine ih (i + 1) N1 (by omega) hf ho (fun w hw hat => ?_) kk
        by_cases ew : w = i
        · subst ew; rw [h] at hat; cases hat
        · exact ha w (by omega) hat
  refine Cl_of rfl (Nat.le_of_ble_eq_true rfl) rfl (gX11_layRests_0 ⟨i351, fun v1 e1 => ?_⟩)
  rw [e351, nI_clamp (by omega), hn] at e1
  have outer : ∀ (q : Nat) (N1 : ev_Mem), q ≤ n → rfr N N1 → rsO N N1 s n W sn q → Ev LM (d + 1 + 2) mX11_layRests 8 [some (.ref 0), some (.int (nI s)), some (.int (nI q - 1)), none, none, none] [] N1 (fun r N2 => r = none ∧ rfr N N2 ∧ rsO N N2 s n W sn 0) := by
    intro q
    induction q with
    | zero =>
      intro N1 hq hf ho
      exact gX11_layRests_8 ⟨fun _ => ⟨rfl, hf, ho⟩, fun z => absurd (by decide) z⟩
    | succ q ih =>
      intro N1 hq hf ho
      rw [nI_pred]
      refine gX11_layRests_8 ⟨fun z => absurd z (nI_pos (by omega)), fun _ => ?_⟩
      refine inner q (by omega) W 0 N1 (by omega) hf ho (fun w hw => absurd hw (by omega)) (fun N2 hf2 ho2 => ?_)
      have := ih N2 (by omega) hf2 ho2
      rw [Int32.sub_eq_add_neg] at this
      exact this
  rw [e1]
  exact outer n N (Nat.le_refl _) rfr.rf (fun q hq hqn => absurd hq (by omega))
end
