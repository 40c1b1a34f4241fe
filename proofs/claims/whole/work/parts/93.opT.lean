/-! CALLS: turn, sense -/
section
variable {d B : Nat} {M N : ev_Mem} {W T S s f : Nat} {lo : Int32}
theorem xq_118 {j : Nat} {v : Int32} : xq M (ev_wr M 118 j v) := ⟨fun k hk => wr_cell (by omega), fun j _ => by rw [wr_cell (by omega)], fun k h1 h2 => wr_cell (by omega)⟩
theorem RX_B {B2 : Nat} (h : RX B M N) (hB : B ≤ B2) : RX B2 M N := RX_up hB h
theorem op_turn (h : RX B M N) (x : Int32) : OQ 200 mX10_turn mX11_turn [.int x] B M N := by
  obtain ⟨W, S, T, Wk, Sk, Tk, h1, h2, h3, h4, h5, h6⟩ := id h
  have hsd := (RX_sd h1 h4).1
  have W24 := hsd.w24
  have okw : okW M := ⟨W, W24, hsd.mw⟩
  have finX : ∀ r : Nat, ∀ M1, M1 = rfs M 117 r → (some (Value.int (-1)) = some (Value.int (-1)) ∧ xq (rfs M 117 r) M1) := fun r M1 e1 => ⟨rfl, by rw [e1]; exact xq.rf⟩
  have finM : ∀ r : Nat, ∀ M1, M1 = rfs N 3 r → (some (Value.int (-1)) = some (Value.int (-1)) ∧ pe (rfs N 3 r) M1) := fun r M1 e1 => ⟨rfl, by rw [e1]; exact pe.rf⟩
  by_cases hx : ∃ w, w < W ∧ x = nI w
  · obtain ⟨w, hw, rfl⟩ := hx
    have zm := wd_t W24 hsd.mw ⟨w, hw, rfl⟩
    have zn := wd_t W24 hsd.nw ⟨w, hw, rfl⟩
    have vw : vp_in (nI w) 24 := vp_in_nI (by omega) (by omega)
    obtain ⟨l1, l9, l3, l29, ll⟩ := sd_ln hsd hw
    obtain ⟨⟨-, e30, e31, e32⟩, ⟨-, u11, u9⟩, -⟩ := hsd.wr w hw
    have e30 : M.1 30 w = aw N w 0 := e30
    have e31 : M.1 31 w = aw N w 1 := e31
    have e32 : M.1 32 w = aw N w 2 := e32
    by_cases hW : W = 24
    · refine oq_rf (r := 1) (v := some (.int (-1))) (by omega) h ?_ ?_
      · refine Cl_of rfl (Nat.le_of_ble_eq_true rfl) rfl (gX10_turn_0 (d := 199) ⟨okw, fun _ => ⟨fun z => ?_, fun _ => ⟨v13, finX 1⟩⟩, fun z => bb z zm⟩)
        rw [hsd.mw, hW] at z; exact absurd z (by decide)
      · exact Cl_of rfl (Nat.le_of_ble_eq_true rfl) rfl (gX11_turn_0 (d := 198) ⟨fun _ => ⟨fun z => absurd (by rw [hsd.nw, hW]; rfl) z, fun _ => ⟨v13, finM 1⟩⟩, fun z => bb z zn⟩)
    · have hW : W < 24 := by omega
      have mlt : M.1 3 5 < 24 := by rw [hsd.mw]; exact nI_lt (b := 24) hW (by omega)
      have nne : ¬ N.1 1 0 = 24 := fun z => by have := (nI_eq (b := 24) (by omega) (by omega)).mp (hsd.nw.symm.trans z); omega
      have a0 : N.1 1 (39 + 13 * nI w + 0).toNatClampNeg = aw N w 0 := aw0 (by omega)
      by_cases good : aw N w 0 = 0 ∧ lnW N w ≤ 6
      · obtain ⟨g1, g2⟩ := good
        let g : Nat → Int32 := fun i => if i = 0 then 3 else if i = 1 then 8 else if i = 2 then 3 else aw N w (4 + (i - 3))
        have g3 : ∀ i, g (3 + i) = aw N w (4 + i) := fun i => by
          show (if 3 + i = 0 then _ else if 3 + i = 1 then _ else if 3 + i = 2 then _ else aw N w (4 + (3 + i - 3))) = _
          rw [if_neg (by omega), if_neg (by omega), if_neg (by omega), show 3 + i - 3 = i by omega]
        refine ⟨some (.int (nI W)), vok _, fun M2 => ∃ M1, xq M M1 ∧ M1.1 3 = M.1 3 ∧ twO M1 M2 W (lnW N w + 3) g 2 (aw N w 1) (aw N w 2), fun N2 => mtO N N2 W (lnW N w + 3) g 2 (aw N w 1) (aw N w 2) ∧ ∀ k, k ≠ 1 → N2.1 k = N.1 k, ?_, ?_, ?_⟩
        · refine Cl_of rfl (Nat.le_of_ble_eq_true rfl) rfl (gX10_turn_0 (d := 199) ⟨okw, fun _ => ⟨fun _ => ⟨vw, vw, ?_⟩, fun z => absurd mlt z⟩, fun z => bb z zm⟩)
          rw [nI_clamp (by omega), e30, l29]
          have l3e : nI (lnW N w) + 3 = nI (lnW N w + 3) := by rw [show (3 : Int32) = nI 3 from rfl, nI_add]
          refine ⟨fun z => absurd g1 z, fun _ => ⟨fun _ A1 f1 A2 f2 A3 f3 => ?_, fun z => absurd (by rw [l3e]; exact nI_le (b := 9) (by omega) (by omega)) z⟩⟩
          have lp : ∀ i, i ≤ lnW N w → ∀ M2, (∀ k, k ≠ 118 → M2.1 k = M.1 k) → (M2.1 118 0 = 100 ∧ M2.1 118 1 = 105 ∧ M2.1 118 2 = 100) → (∀ j, j < i → M2.1 118 (3 + j) = 97 + aw N w (4 + j)) → Ev LX 200 mX10_turn 97 [some (.ref 0), some (.int (nI w)), some (.int (nI (lnW N w))), some (.int (nI i))] [] M2 (fun r M2 => r = some (.int (nI W)) ∧ ∃ M1, xq M M1 ∧ M1.1 3 = M.1 3 ∧ twO M1 M2 W (lnW N w + 3) g 2 (aw N w 1) (aw N w 2)) := by
            refine dn ?_ (fun i hi ih => ?_)
            · intro M2 hc h0 hr
              refine gX10_turn_97 (d := 199) ⟨fun _ => ⟨vw, vw, ?_⟩, fun z => absurd (nI_le (Nat.le_refl _) (by omega)) z⟩
              rw [nI_clamp (by omega), hc 31 (by omega), hc 32 (by omega), e31, e32, l3e]
              refine ⟨_, kX0_tellWord (d := 199) (fr := 0) lx_118 (W := W) (by rw [hc 3 (by omega)]; exact hsd.mw) hW (by omega) (by omega) (by omega) (by omega), fun zr M3 q3 => ?_⟩
              rw [q3.1]
              refine gX10_turn_164 ⟨rfl, M2, ⟨fun k hk => hc k (by omega), fun j _ => by rw [hc 81 (by omega)], fun k k1 k2 => hc k (by omega)⟩, hc 3 (by omega), twO_cg (fun i hi => ?_) q3.2⟩
              rw [Nat.zero_add]
              by_cases i0 : i = 0
              · rw [i0, h0.1]; rfl
              · by_cases i1 : i = 1
                · rw [i1, h0.2.1]; rfl
                · by_cases i2 : i = 2
                  · rw [i2, h0.2.2]; rfl
                  · obtain ⟨j, rfl⟩ : ∃ j, i = 3 + j := ⟨i - 3, by omega⟩
                    obtain ⟨-, l, hl, el⟩ := ll j (by omega)
                    rw [hr j (by omega), g3, el, show (97 : Int32) = nI 97 from rfl, nI_add, pk_sub (by omega), show 97 + l - 97 = l by omega]
            · intro M2 hc h0 hr
              refine gX10_turn_97 (d := 199) ⟨fun z => absurd z (nI_ge hi (by omega)), fun _ => ⟨vw, vp_in_nI (by omega) (by omega), ?_⟩⟩
              rw [show nI i + 3 = nI (3 + i) by rw [show (3 : Int32) = nI 3 from rfl, nI_add, Nat.add_comm], nI_clamp (by omega), nI_clamp (by omega), nI_clamp (by omega), hc (5 + w) (by omega), (ll i hi).1]
              refine ⟨vp_in_nI (by omega) (by omega), fun M3 e3 => ?_⟩
              rw [nI_1]
              refine ih M3 (fun k hk => by rw [e3, wr_cell hk]; exact hc k hk) (by rw [e3, wr_ne (by omega), wr_ne (by omega), wr_ne (by omega)]; exact h0) (fun j hj => ?_)
              rw [e3]
              by_cases e : j = i
              · rw [e, wr_same]
              · rw [wr_ne (by omega)]; exact hr j (by omega)
          refine lp 0 (by omega) A3 (fun k hk => by rw [f3, wr_cell hk, f2, wr_cell hk, f1, wr_cell hk]) ⟨?_, ?_, ?_⟩ (fun j hj => absurd hj (by omega))
          · rw [f3, wr_ne (by omega), f2, wr_ne (by omega), f1, wr_same]
          · rw [f3, wr_ne (by omega), f2, wr_same]
          · rw [f3, wr_same]
        · refine Cl_of rfl (Nat.le_of_ble_eq_true rfl) rfl (gX11_turn_0 (d := 198) ⟨fun _ => ⟨fun _ => ⟨awi0 (by omega), ?_⟩, fun z => absurd z nne⟩, fun z => bb z zn⟩)
          rw [a0]
          refine ⟨fun z => absurd g1 z, fun _ => ⟨awi3 (by omega), ?_⟩⟩
          rw [aw3 (by omega), l3]
          refine ⟨fun _ => ⟨awi3 (by omega), ?_⟩, fun z => absurd (nI_le (b := 6) g2 (by omega)) z⟩
          have ex : ∀ c : Nat, nI (39 + 13 * W) + nI c = nI (39 + 13 * W + c) := fun c => nI_add _ _
          rw [hsd.nw, e39', show nI (39 + 13 * W) + 3 = nI (39 + 13 * W + 3) from ex 3, show nI (39 + 13 * W) + 4 = nI (39 + 13 * W + 4) from ex 4, nI_1, show nI (39 + 13 * W + 4) + 2 = nI (39 + 13 * W + 4 + 2) from nI_add _ 2, show (3 : Int32) + nI (lnW N w) = nI (lnW N w + 3) by rw [show (3 : Int32) = nI 3 from rfl, nI_add, Nat.add_comm], nI_clamp (by omega), nI_clamp (by omega), nI_clamp (by omega), nI_clamp (by omega)]
          refine ⟨vp_in_nI (by omega) (by omega), fun A1 f1 => ⟨vp_in_nI (by omega) (by omega), fun A2 f2 => ⟨vp_in_nI (by omega) (by omega), fun A3 f3 => ⟨vp_in_nI (by omega) (by omega), fun A4 f4 => ?_⟩⟩⟩⟩
          have lp : ∀ i, i ≤ lnW N w → ∀ N2, (∀ k, k ≠ 1 → N2.1 k = N.1 k) → (∀ j, j < 39 + 13 * W ∨ 39 + 13 * W + 13 ≤ j → N2.1 1 j = N.1 1 j) → N2.1 1 (39 + 13 * W + 3) = nI (lnW N w + 3) → (∀ j, j < 3 + i → N2.1 1 (39 + 13 * W + (4 + j)) = g j) → Ev LM 200 mX11_turn 120 [some (.ref 0), some (.int (nI w)), some (.int (nI (39 + 13 * W))), some (.int (nI i))] [] N2 (fun r N2 => r = some (.int (nI W)) ∧ mtO N N2 W (lnW N w + 3) g 2 (aw N w 1) (aw N w 2) ∧ ∀ k, k ≠ 1 → N2.1 k = N.1 k) := by
            have aww : ∀ N2 : ev_Mem, (∀ j, j < 39 + 13 * W ∨ 39 + 13 * W + 13 ≤ j → N2.1 1 j = N.1 1 j) → ∀ c, c < 13 → aw N2 w c = aw N w c := fun N2 ha c hc => by unfold aw; exact ha _ (by omega)
            refine dn ?_ (fun i hi ih => ?_)
            · intro N2 hc ha h3 hl
              refine gX11_turn_120 (d := 199) ⟨awi3 (by omega), ?_⟩
              rw [aw3 (by omega), aw1 (by omega), aw2 (by omega), aww N2 ha 3 (by omega), aww N2 ha 1 (by omega), aww N2 ha 2 (by omega), l3]
              refine ⟨fun _ => ⟨awi1 (by omega), awi2 (by omega), _, kX11_lay (d := 199) (W := W) (by rw [ha 0 (by omega)]; exact hsd.nw) hW, fun zr N3 q3 => ?_⟩, fun z => absurd (nI_le (Nat.le_refl _) (by omega)) z⟩
              rw [q3.1]
              exact gX11_turn_173 ⟨rfl, mtO_of hW (by omega) (N1 := N2) ha h3 (fun j hj => hl j (by omega)) q3.2.2, fun k hk => by rw [q3.2.1 k hk]; exact hc k hk⟩
            · intro N2 hc ha h3 hl
              refine gX11_turn_120 (d := 199) ⟨awi3 (by omega), ?_⟩
              rw [aw3 (by omega), aw4 (by omega) (by omega), aww N2 ha 3 (by omega), aww N2 ha (4 + i) (by omega), l3]
              refine ⟨fun z => absurd z (nI_ge hi (by omega)), fun _ => ⟨awi4 (by omega) (by omega), ?_⟩⟩
              rw [show nI (39 + 13 * W) + 4 + 3 + nI i = nI (39 + 13 * W + (4 + (3 + i))) by rw [show (4 : Int32) = nI 4 from rfl, show (3 : Int32) = nI 3 from rfl, nI_add, nI_add, nI_add, Nat.add_assoc, Nat.add_assoc], nI_clamp (by omega)]
              refine ⟨vp_in_nI (by omega) (by omega), fun N3 e3 => ?_⟩
              rw [nI_1]
              refine ih N3 (fun k hk => by rw [e3, wr_cell hk]; exact hc k hk) (fun j hj => by rw [e3, wr_ne (by omega)]; exact ha j hj) (by rw [e3, wr_ne (by omega)]; exact h3) (fun j hj => ?_)
              rw [e3]
              by_cases e : j = 3 + i
              · rw [e, wr_same, g3]
              · rw [wr_ne (by omega)]; exact hl j (by omega)
          refine lp 0 (by omega) A4 (fun k hk => by rw [f4, wr_cell hk, f3, wr_cell hk, f2, wr_cell hk, f1, wr_cell hk]) (fun j hj => by rw [f4, wr_ne (by omega), f3, wr_ne (by omega), f2, wr_ne (by omega), f1, wr_ne (by omega)]) (by rw [f4, wr_ne (by omega), f3, wr_ne (by omega), f2, wr_ne (by omega), f1, wr_same]) (fun j hj => ?_)
          have : j = 0 ∨ j = 1 ∨ j = 2 := by omega
          rcases this with rfl | rfl | rfl
          · rw [f4, wr_ne (by omega), f3, wr_ne (by omega), f2, Nat.add_zero, wr_same]; rfl
          · rw [f4, wr_ne (by omega), f3, show 39 + 13 * W + (4 + 1) = 39 + 13 * W + 4 + 1 by omega, wr_same]; rfl
          · rw [f4, show 39 + 13 * W + (4 + 2) = 39 + 13 * W + 4 + 2 by omega, wr_same]; rfl
        · rintro M2 N2 ⟨M1, q1, q2, q3⟩ ⟨q4, q5⟩
          have hR := RX_xq q1 h
          obtain ⟨n, t1, t2, t3, t4⟩ := RX_tr hR
          refine RX_wd2 hR (by rw [q2]; exact hsd.mw) hW (by omega) (by omega) (fun i hi => ?_) ⟨2, by omega, rfl⟩ u11 u9 q3 (fun _ _ _ _ => rfl) q4 (fun k k1 k2 => q5 k (by omega)) (by rw [q5 0 (by omega)]; exact ⟨rfl, rfl⟩) ⟨n, t1, ?_, by rw [q5 0 (by omega)]; exact t3, ?_⟩
          · by_cases i3 : i < 3
            · have : i = 0 ∨ i = 1 ∨ i = 2 := by omega
              rcases this with rfl | rfl | rfl
              · exact ⟨3, by omega, rfl⟩
              · exact ⟨8, by omega, rfl⟩
              · exact ⟨3, by omega, rfl⟩
            · obtain ⟨j, rfl⟩ : ∃ j, i = 3 + j := ⟨i - 3, by omega⟩
              rw [g3]; exact (ll j (by omega)).2
          · rw [q3.1 1 (by omega) (by omega) (by omega)]; exact t2
          · rw [q3.1 2 (by omega) (by omega) (by omega), q5 5 (by omega)]; exact t4
      · refine oq_rf (r := 2) (v := some (.int (-1))) (by omega) h ?_ ?_
        · refine Cl_of rfl (Nat.le_of_ble_eq_true rfl) rfl (gX10_turn_0 (d := 199) ⟨okw, fun _ => ⟨fun _ => ⟨vw, vw, ?_⟩, fun z => absurd mlt z⟩, fun z => bb z zm⟩)
          rw [nI_clamp (by omega), e30, l29]
          refine ⟨fun _ => ⟨v23, finX 2⟩, fun z => ⟨fun y => ?_, fun _ => ⟨v23, finX 2⟩⟩⟩
          rw [show (3 : Int32) = nI 3 from rfl, nI_add] at y
          have := (nI_leI (b := 9) (by omega) (by omega)).mp y
          exact absurd ⟨z, by omega⟩ good
        · refine Cl_of rfl (Nat.le_of_ble_eq_true rfl) rfl (gX11_turn_0 (d := 198) ⟨fun _ => ⟨fun _ => ⟨awi0 (by omega), ?_⟩, fun z => absurd z nne⟩, fun z => bb z zn⟩)
          rw [a0]
          refine ⟨fun _ => ⟨v23, finM 2⟩, fun z => ⟨awi3 (by omega), ?_⟩⟩
          rw [aw3 (by omega), l3]
          refine ⟨fun y => ?_, fun _ => ⟨v23, finM 2⟩⟩
          exact absurd ⟨z, (nI_leI (b := 6) (by omega) (by omega)).mp y⟩ good
  · refine oq_rf (r := 0) (v := some (.int (-1))) (by omega) h ?_ ?_
    · exact Cl_of rfl (Nat.le_of_ble_eq_true rfl) rfl (gX10_turn_0 (d := 199) ⟨okw, fun z => bb z (wd_f W24 hsd.mw hx), fun _ => ⟨v03, finX 0⟩⟩)
    · exact Cl_of rfl (Nat.le_of_ble_eq_true rfl) rfl (gX11_turn_0 (d := 198) ⟨fun z => bb z (wd_f W24 hsd.nw hx), fun _ => ⟨v03, finM 0⟩⟩)
/-- the model's sentenceOf over what is to be said -/
theorem sayM {n : Nat} (h : RX B M N) (hS8 : S ≤ 8) (hS : N.1 1 1 = nI S) (hn1 : 1 ≤ n) (hn : n ≤ 5) : Cl LM (d + 1) mX11_sentenceOf [.ref 0, .int (nI n)] N (fun r N2 => ((¬ ∀ i, i < n → iin (N.1 10 i) 0 11 = true) ∧ r = some (.int (-1)) ∧ N2 = rfs N 3 0) ∨ ((∀ i, i < n → iin (N.1 10 i) 0 11 = true) ∧ ((S = 8 ∧ r = some (.int (-1)) ∧ N2 = rfs N 3 1) ∨ (S < 8 ∧ r = some (.int (nI S)) ∧ msO N N2 S n (N.1 10) ∧ ∀ k, k ≠ 1 → N2.1 k = N.1 k)))) := by
  refine Cl_of rfl (Nat.le_of_ble_eq_true rfl) rfl (gX11_sentenceOf_0 ?_)
  have l2 : ∀ i, i ≤ n → (∀ j, j < n → iin (N.1 10 j) 0 11 = true) → S < 8 → ∀ N2, (∀ k, k ≠ 1 → N2.1 k = N.1 k) → (∀ j, j < 351 + 6 * S ∨ 351 + 6 * S + 6 ≤ j → N2.1 1 j = N.1 1 j) → N2.1 1 (351 + 6 * S) = nI n → (∀ j, j < i → N2.1 1 (351 + 6 * S + 1 + j) = N.1 10 j) → Ev LM (d + 1) mX11_sentenceOf 74 [some (.ref 0), some (.int (nI n)), some (.int (nI (351 + 6 * S))), some (.int (nI i))] [] N2 (fun r N2 => ((¬ ∀ i, i < n → iin (N.1 10 i) 0 11 = true) ∧ r = some (.int (-1)) ∧ N2 = rfs N 3 0) ∨ ((∀ i, i < n → iin (N.1 10 i) 0 11 = true) ∧ ((S = 8 ∧ r = some (.int (-1)) ∧ N2 = rfs N 3 1) ∨ (S < 8 ∧ r = some (.int (nI S)) ∧ msO N N2 S n (N.1 10) ∧ ∀ k, k ≠ 1 → N2.1 k = N.1 k)))) := by
    refine dn ?_ (fun i hi ih => ?_)
    · intro hall hS7 N2 hc ha h0 hl
      refine gX11_sentenceOf_74 ⟨fun _ N3 e3 => ?_, fun z => absurd (nI_le (Nat.le_refl _) (by omega)) z⟩
      rw [ha 1 (by omega), hS, nI_1] at e3
      refine Or.inr ⟨hall, Or.inr ⟨hS7, by rw [e3, wr_same, nI_pred], ⟨fun j j1 j2 => by rw [e3, wr_ne (by omega)]; exact ha j j2, by rw [e3, wr_same], by rw [e3, wr_ne (by omega)]; exact h0, fun j hj => by rw [e3, wr_ne (by omega)]; exact hl j hj⟩, fun k hk => by rw [e3, wr_cell hk]; exact hc k hk⟩⟩
    · intro hall hS7 N2 hc ha h0 hl
      refine gX11_sentenceOf_74 ⟨fun z => absurd z (nI_ge hi (by omega)), fun _ => ⟨vp_in_nI (by omega) (by omega), ?_⟩⟩
      rw [nI_1, nI_add, nI_clamp (by omega), nI_clamp (by omega), hc 10 (by omega)]
      refine ⟨vp_in_nI (by omega) (by omega), fun N3 e3 => ?_⟩
      rw [nI_1]
      refine ih hall hS7 N3 (fun k hk => by rw [e3, wr_cell hk]; exact hc k hk) (fun j hj => by rw [e3, wr_ne (by omega)]; exact ha j hj) (by rw [e3, wr_ne (by omega)]; exact h0) (fun j hj => ?_)
      rw [e3]
      by_cases e : j = i
      · rw [e, wr_same]
      · rw [wr_ne (by omega)]; exact hl j (by omega)
  have lp : ∀ i, i ≤ n → (∀ j, j < i → iin (N.1 10 j) 0 11 = true) → Ev LM (d + 1) mX11_sentenceOf 2 [some (.ref 0), some (.int (nI n)), some (.int (nI i)), none] [] N (fun r N2 => ((¬ ∀ i, i < n → iin (N.1 10 i) 0 11 = true) ∧ r = some (.int (-1)) ∧ N2 = rfs N 3 0) ∨ ((∀ i, i < n → iin (N.1 10 i) 0 11 = true) ∧ ((S = 8 ∧ r = some (.int (-1)) ∧ N2 = rfs N 3 1) ∨ (S < 8 ∧ r = some (.int (nI S)) ∧ msO N N2 S n (N.1 10) ∧ ∀ k, k ≠ 1 → N2.1 k = N.1 k)))) := by
    refine dn ?_ (fun i hi ih => ?_)
    · intro ha
      refine gX11_sentenceOf_2 ⟨fun _ => ⟨fun z => ?_, fun z => ⟨v13, fun N3 e3 => Or.inr ⟨ha, Or.inl ⟨?_, rfl, by rw [e3, c1]⟩⟩⟩⟩, fun z => absurd (nI_le (Nat.le_refl _) (by omega)) z⟩
      · have hS7 : S < 8 := by
          have : S ≠ 8 := fun e => z (by rw [hS, e]; rfl)
          omega
        rw [hS, s351 hS7, nI_clamp (by omega)]
        refine ⟨vp_in_nI (by omega) (by omega), fun N3 e3 => ?_⟩
        exact l2 0 (by omega) ha hS7 N3 (fun k hk => by rw [e3, wr_cell hk]) (fun j hj => by rw [e3, wr_ne (by omega)]) (by rw [e3, wr_same]) (fun j hj => absurd hj (by omega))
      · rw [hS] at z; exact (nI_eq (b := 8) (by omega) (by omega)).mp z
    · intro ha
      refine gX11_sentenceOf_2 ⟨fun z => absurd z (nI_ge hi (by omega)), fun _ => ⟨vp_in_nI (by omega) (by omega), ?_⟩⟩
      rw [nI_clamp (by omega)]
      refine ⟨fun z => ?_, fun z => ⟨v03, fun N3 e3 => Or.inl ⟨fun q => bb z (q i hi), rfl, by rw [e3, c0]⟩⟩⟩
      rw [nI_1]
      refine ih (fun j hj => ?_)
      by_cases e : j = i
      · rw [e]; exact z
      · exact ha j (by omega)
  exact lp 0 (by omega) (fun j hj => absurd hj (by omega))
def sel5 (a b c e f : Int32) (i : Nat) : Int32 := if i = 0 then a else if i = 1 then b else if i = 2 then c else if i = 3 then e else f
theorem op_sense (h : RX B M N) (x a b c e f : Int32) : OQ 200 mX10_sense mX11_sense [.int x, .int a, .int b, .int c, .int e, .int f] B M N := by
  obtain ⟨W, S, W24, S8, mW, nW, mS, nS⟩ := RX_WS h
  by_cases hx : iin x 1 5 = true
  · obtain ⟨x1, x2⟩ := iin_t.mp hx
    obtain ⟨n, hn, rfl⟩ := nI_of (x := x) (by rw [I_lt, I_0]; rw [I_le, show (1 : Int32).toInt = 1 from rfl] at x1; omega)
    have n1 := (nI_leI (a := 1) (by omega) hn).mp x1
    have n5 := (nI_leI (b := 5) hn (by omega)).mp x2
    have row : ∀ (Z : ev_Mem) (k : Nat), ∀ Z1, Z1 = ev_wr Z k 0 a → ∀ Z2, Z2 = ev_wr Z1 k 1 b → ∀ Z3, Z3 = ev_wr Z2 k 2 c → ∀ Z4, Z4 = ev_wr Z3 k 3 e → ∀ Z5, Z5 = ev_wr Z4 k 4 f → (∀ j, j ≠ k → Z5.1 j = Z.1 j) ∧ ∀ i, i < 5 → Z5.1 k i = sel5 a b c e f i := by
      intro Z k Z1 e1 Z2 e2 Z3 e3 Z4 e4 Z5 e5
      refine ⟨fun j hj => by rw [e5, wr_cell hj, e4, wr_cell hj, e3, wr_cell hj, e2, wr_cell hj, e1, wr_cell hj], fun i hi => ?_⟩
      have : i = 0 ∨ i = 1 ∨ i = 2 ∨ i = 3 ∨ i = 4 := by omega
      rcases this with rfl | rfl | rfl | rfl | rfl
      · rw [e5, wr_ne (by omega), e4, wr_ne (by omega), e3, wr_ne (by omega), e2, wr_ne (by omega), e1, wr_same]; rfl
      · rw [e5, wr_ne (by omega), e4, wr_ne (by omega), e3, wr_ne (by omega), e2, wr_same]; rfl
      · rw [e5, wr_ne (by omega), e4, wr_ne (by omega), e3, wr_same]; rfl
      · rw [e5, wr_ne (by omega), e4, wr_same]; rfl
      · rw [e5, wr_same]; rfl
    by_cases hall : ∀ i, i < n → iin (sel5 a b c e f i) 0 11 = true
    · by_cases h8 : S = 8
      · refine oq_rf (r := 1) (v := some (.int (-1))) (by omega) h ?_ ?_
        · refine Cl_of rfl (Nat.le_of_ble_eq_true rfl) rfl (gX10_sense_0 (d := 199) ⟨fun z => absurd z (nI_nlt (b := 1) n1 hn), fun _ => ⟨fun _ A1 f1 A2 f2 A3 f3 A4 f4 A5 f5 => ?_, fun z => absurd x2 z⟩⟩)
          obtain ⟨hc, hr⟩ := row M 118 A1 f1 A2 f2 A3 f3 A4 f4 A5 f5
          have lp : ∀ i, i ≤ n → Ev LX 200 mX10_sense 57 [some (.ref 0), some (.int (nI n)), none, none, none, none, none, some (.int (nI i))] [] A5 (fun z M2 => z = some (.int (-1)) ∧ xq (rfs M 117 1) M2) := by
            refine dn ?_ (fun i hi ih => ?_)
            · refine gX10_sense_57 (d := 199) ⟨fun _ => ⟨_, Cl_of (Q := fun z M2 => z = some (.int (-1)) ∧ M2 = rfs A5 117 1) rfl (Nat.le_of_ble_eq_true rfl) rfl (gX10_addSentence_0 (d := 198) lx_118 ⟨fun z => ?_, fun _ => ⟨v13, fun M1 e1 => ⟨rfl, by rw [e1, c1]⟩⟩⟩), fun zr M3 q3 => ?_⟩, fun z => absurd (nI_le (Nat.le_refl _) (by omega)) z⟩
              · rw [hc 3 (by omega), mS, h8] at z; exact absurd z (by decide)
              · rw [q3.1]
                refine gX10_sense_98 ⟨rfl, ?_⟩
                rw [q3.2]
                have e117 : A5.1 117 = M.1 117 := hc 117 (by omega)
                refine ⟨fun k hk => by rw [rfs_cell (by omega), rfs_cell (by omega), hc k (by omega)], fun j _ => by rw [rfs_cell (by omega), rfs_cell (by omega), hc 81 (by omega)], fun k k1 k2 => ?_⟩
                by_cases ek : k = 117
                · subst ek
                  unfold rfs
                  rw [e117]
                  split
                  · exact e117
                  · rw [wr_row, wr_row, e117]
                · rw [rfs_cell ek, rfs_cell ek, hc k (by omega)]
            · refine gX10_sense_57 (d := 199) ⟨fun z => absurd z (nI_ge hi (by omega)), fun _ => ⟨vp_in_nI (by omega) (by omega), ?_⟩⟩
              rw [nI_clamp (by omega), hr i (by omega)]
              exact ⟨fun _ => by rw [nI_1]; exact ih, fun z => bb z (hall i hi)⟩
          exact lp 0 (by omega)
        · refine Cl_of rfl (Nat.le_of_ble_eq_true rfl) rfl (gX11_sense_0 (d := 199) ⟨fun _ A1 f1 A2 f2 A3 f3 A4 f4 A5 f5 => ?_, fun z => bb z hx⟩)
          obtain ⟨hc, hr⟩ := row N 10 A1 f1 A2 f2 A3 f3 A4 f4 A5 f5
          have hp : pe N A5 := me_pe (fun k hk => hc k (by omega))
          refine ⟨_, sayM (d := 198) (RX_pe hp h) S8 (by rw [hc 1 (by omega)]; exact nS) n1 n5, fun zr N3 q3 => ?_⟩
          have hall5 : ∀ i, i < n → iin (A5.1 10 i) 0 11 = true := fun i hi => by rw [hr i (by omega)]; exact hall i hi
          rcases q3 with ⟨q, -⟩ | ⟨-, ⟨-, e1, e2⟩ | ⟨q, -⟩⟩
          · exact absurd hall5 q
          · rw [e1]
            refine gX11_sense_58 ⟨rfl, ?_⟩
            rw [e2]
            have e3 : A5.1 3 = N.1 3 := hc 3 (by omega)
            refine ⟨⟨?_, ?_, ?_, ?_, ?_⟩, ?_, ?_, ?_⟩
            · rw [rfs_cell (by omega), rfs_cell (by omega), hc 1 (by omega)]
            · rw [rfs_cell (by omega), rfs_cell (by omega), hc 2 (by omega)]
            · unfold rfs
              rw [e3]
              split
              · exact e3.symm
              · rw [wr_row, wr_row, e3]
            · rw [rfs_cell (by omega), rfs_cell (by omega), hc 4 (by omega)]
            · rw [rfs_cell (by omega), rfs_cell (by omega), hc 5 (by omega)]
            · rw [rfs_cell (by omega), rfs_cell (by omega), hc 0 (by omega)]
            · rw [rfs_cell (by omega), rfs_cell (by omega), hc 0 (by omega)]
            · rw [rfs_cell (by omega), rfs_cell (by omega), hc 0 (by omega)]
          · omega
      · have S7 : S < 8 := by omega
        refine ⟨some (.int (nI S)), vok _, fun M2 => ∃ M1, xq M M1 ∧ M1.1 3 = M.1 3 ∧ tsO M1 M2 S n (sel5 a b c e f), fun N2 => ∃ N1, pe N N1 ∧ N1.1 1 = N.1 1 ∧ msO N1 N2 S n (sel5 a b c e f) ∧ ∀ k, k ≠ 1 → N2.1 k = N1.1 k, ?_, ?_, ?_⟩
        · refine Cl_of rfl (Nat.le_of_ble_eq_true rfl) rfl (gX10_sense_0 (d := 199) ⟨fun z => absurd z (nI_nlt (b := 1) n1 hn), fun _ => ⟨fun _ A1 f1 A2 f2 A3 f3 A4 f4 A5 f5 => ?_, fun z => absurd x2 z⟩⟩)
          obtain ⟨hc, hr⟩ := row M 118 A1 f1 A2 f2 A3 f3 A4 f4 A5 f5
          have hxq : xq M A5 := ⟨fun k hk => hc k (by omega), fun j _ => by rw [hc 81 (by omega)], fun k k1 k2 => hc k (by omega)⟩
          have lp : ∀ i, i ≤ n → Ev LX 200 mX10_sense 57 [some (.ref 0), some (.int (nI n)), none, none, none, none, none, some (.int (nI i))] [] A5 (fun z M2 => z = some (.int (nI S)) ∧ ∃ M1, xq M M1 ∧ M1.1 3 = M.1 3 ∧ tsO M1 M2 S n (sel5 a b c e f)) := by
            refine dn ?_ (fun i hi ih => ?_)
            · refine gX10_sense_57 (d := 199) ⟨fun _ => ⟨_, Cl_of (Q := fun z M2 => z = some (.int (nI S)) ∧ tsO A5 M2 S n (sel5 a b c e f)) rfl (Nat.le_of_ble_eq_true rfl) rfl (gX10_addSentence_0 (d := 198) lx_118 ⟨fun _ => ⟨_, kX0_tellSentence (d := 198) (fr := 0) lx_118 (S := S) (by rw [hc 3 (by omega)]; exact mS) S7 n5 (by omega) (by omega) (by omega), fun zr M3 q3 => ?_⟩, fun z => absurd ?_ z⟩), fun zr M3 q3 => ?_⟩, fun z => absurd (nI_le (Nat.le_refl _) (by omega)) z⟩
              · rw [q3.1]
                obtain ⟨t1, t2, t3, t4, t5, t6⟩ := q3.2
                refine gX10_addSentence_28 lx_118 ⟨rfl, t1, t2, t3, t4, t5, fun i hi => ?_⟩
                rw [t6 i hi]
                show A5.1 118 (0 + i) = _
                rw [Nat.zero_add, hr i (by omega)]
              · rw [hc 3 (by omega), mS]; exact nI_lt (b := 8) S7 (by omega)
              · rw [q3.1]
                exact gX10_sense_98 ⟨rfl, A5, hxq, hc 3 (by omega), q3.2⟩
            · refine gX10_sense_57 (d := 199) ⟨fun z => absurd z (nI_ge hi (by omega)), fun _ => ⟨vp_in_nI (by omega) (by omega), ?_⟩⟩
              rw [nI_clamp (by omega), hr i (by omega)]
              exact ⟨fun _ => by rw [nI_1]; exact ih, fun z => bb z (hall i hi)⟩
          exact lp 0 (by omega)
        · refine Cl_of rfl (Nat.le_of_ble_eq_true rfl) rfl (gX11_sense_0 (d := 199) ⟨fun _ A1 f1 A2 f2 A3 f3 A4 f4 A5 f5 => ?_, fun z => bb z hx⟩)
          obtain ⟨hc, hr⟩ := row N 10 A1 f1 A2 f2 A3 f3 A4 f4 A5 f5
          have hp : pe N A5 := me_pe (fun k hk => hc k (by omega))
          refine ⟨_, sayM (d := 198) (RX_pe hp h) S8 (by rw [hc 1 (by omega)]; exact nS) n1 n5, fun zr N3 q3 => ?_⟩
          have hall5 : ∀ i, i < n → iin (A5.1 10 i) 0 11 = true := fun i hi => by rw [hr i (by omega)]; exact hall i hi
          rcases q3 with ⟨q, -⟩ | ⟨-, ⟨q, -⟩ | ⟨-, e1, e2, e3⟩⟩
          · exact absurd hall5 q
          · omega
          · rw [e1]
            obtain ⟨t1, t2, t3, t4⟩ := e2
            exact gX11_sense_58 ⟨rfl, A5, hp, hc 1 (by omega), ⟨t1, t2, t3, fun i hi => by rw [t4 i hi, hr i (by omega)]⟩, e3⟩
        · rintro M2 N2 ⟨M1, q1, q2, q3⟩ ⟨N1, q4, -, q5, q6⟩
          refine RX_sn2 (RX_pe q4 (RX_xq q1 h)) (by rw [q2]; exact mS) S7 n1 n5 (fun i hi => ?_) q3 q5 (fun k k1 k2 => q6 k k2)
          obtain ⟨j, hj, ej⟩ := (iin_lit 11 (by omega)).mp (hall i hi)
          exact ⟨j, hj, ej⟩
    · refine oq_rf (r := 0) (v := some (.int (-1))) (by omega) h ?_ ?_
      · refine Cl_of rfl (Nat.le_of_ble_eq_true rfl) rfl (gX10_sense_0 (d := 199) ⟨fun z => absurd z (nI_nlt (b := 1) n1 hn), fun _ => ⟨fun _ A1 f1 A2 f2 A3 f3 A4 f4 A5 f5 => ?_, fun z => absurd x2 z⟩⟩)
        obtain ⟨hc, hr⟩ := row M 118 A1 f1 A2 f2 A3 f3 A4 f4 A5 f5
        have lp : ∀ i, i ≤ n → (∀ j, j < i → iin (sel5 a b c e f j) 0 11 = true) → Ev LX 200 mX10_sense 57 [some (.ref 0), some (.int (nI n)), none, none, none, none, none, some (.int (nI i))] [] A5 (fun z M2 => z = some (.int (-1)) ∧ xq (rfs M 117 0) M2) := by
          refine dn ?_ (fun i hi ih => ?_)
          · intro ha; exact absurd ha hall
          · intro ha
            refine gX10_sense_57 (d := 199) ⟨fun z => absurd z (nI_ge hi (by omega)), fun _ => ⟨vp_in_nI (by omega) (by omega), ?_⟩⟩
            rw [nI_clamp (by omega), hr i (by omega)]
            refine ⟨fun z => ?_, fun z => ⟨v03, fun M1 e1 => ⟨rfl, ?_⟩⟩⟩
            · rw [nI_1]
              refine ih (fun j hj => ?_)
              by_cases e : j = i
              · rw [e]; exact z
              · exact ha j (by omega)
            · rw [e1, c0]
              have e117 : A5.1 117 = M.1 117 := hc 117 (by omega)
              refine ⟨fun k hk => by rw [rfs_cell (by omega), rfs_cell (by omega), hc k (by omega)], fun j _ => by rw [rfs_cell (by omega), rfs_cell (by omega), hc 81 (by omega)], fun k k1 k2 => ?_⟩
              by_cases ek : k = 117
              · subst ek
                unfold rfs
                rw [e117]
                split
                · exact e117
                · rw [wr_row, wr_row, e117]
              · rw [rfs_cell ek, rfs_cell ek, hc k (by omega)]
        exact lp 0 (by omega) (fun j hj => absurd hj (by omega))
      · refine Cl_of rfl (Nat.le_of_ble_eq_true rfl) rfl (gX11_sense_0 (d := 199) ⟨fun _ A1 f1 A2 f2 A3 f3 A4 f4 A5 f5 => ?_, fun z => bb z hx⟩)
        obtain ⟨hc, hr⟩ := row N 10 A1 f1 A2 f2 A3 f3 A4 f4 A5 f5
        have hp : pe N A5 := me_pe (fun k hk => hc k (by omega))
        refine ⟨_, sayM (d := 198) (RX_pe hp h) S8 (by rw [hc 1 (by omega)]; exact nS) n1 n5, fun zr N3 q3 => ?_⟩
        have no : ¬ ∀ i, i < n → iin (A5.1 10 i) 0 11 = true := fun q => hall (fun i hi => by rw [← hr i (by omega)]; exact q i hi)
        rcases q3 with ⟨-, e1, e2⟩ | ⟨q, -⟩
        · rw [e1]
          refine gX11_sense_58 ⟨rfl, ?_⟩
          rw [e2]
          have e3 : A5.1 3 = N.1 3 := hc 3 (by omega)
          refine ⟨⟨?_, ?_, ?_, ?_, ?_⟩, ?_, ?_, ?_⟩
          · rw [rfs_cell (by omega), rfs_cell (by omega), hc 1 (by omega)]
          · rw [rfs_cell (by omega), rfs_cell (by omega), hc 2 (by omega)]
          · unfold rfs
            rw [e3]
            split
            · exact e3.symm
            · rw [wr_row, wr_row, e3]
          · rw [rfs_cell (by omega), rfs_cell (by omega), hc 4 (by omega)]
          · rw [rfs_cell (by omega), rfs_cell (by omega), hc 5 (by omega)]
          · rw [rfs_cell (by omega), rfs_cell (by omega), hc 0 (by omega)]
          · rw [rfs_cell (by omega), rfs_cell (by omega), hc 0 (by omega)]
          · rw [rfs_cell (by omega), rfs_cell (by omega), hc 0 (by omega)]
        · exact absurd q no
  · have hx : iin x 1 5 = false := by rwa [Bool.not_eq_true] at hx
    refine oq_rf (r := 0) (v := some (.int (-1))) (by omega) h ?_ ?_
    · have fin : ∀ M1, M1 = rfs M 117 (0 : Int32).toNatClampNeg → (some (Value.int (-1)) = some (Value.int (-1)) ∧ xq (rfs M 117 0) M1) := fun M1 e1 => ⟨rfl, by rw [e1, c0]; exact xq.rf⟩
      refine Cl_of rfl (Nat.le_of_ble_eq_true rfl) rfl (gX10_sense_0 (d := 199) ⟨fun _ => ⟨v03, fin⟩, fun z => ⟨fun y => absurd ⟨I_nlt.mp z, y⟩ (iin_f.mp hx), fun _ => ⟨v03, fin⟩⟩⟩)
    · have fin : ∀ M1, M1 = rfs N 3 (0 : Int32).toNatClampNeg → (some (Value.int (-1)) = some (Value.int (-1)) ∧ pe (rfs N 3 0) M1) := fun M1 e1 => ⟨rfl, by rw [e1, c0]; exact pe.rf⟩
      exact Cl_of rfl (Nat.le_of_ble_eq_true rfl) rfl (gX11_sense_0 (d := 199) ⟨fun z => bb z hx, fun _ => ⟨v03, fin⟩⟩)
end
