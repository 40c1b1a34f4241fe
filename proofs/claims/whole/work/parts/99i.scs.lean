/-! what a script's clauses do: made letters, lost keys, turned words, writing, days -/
section
variable {d B : Nat} {M N : ev_Mem} {W T S s f : Nat} {lo : Int32}
/-- letters made of others -/
theorem RX_md {l : Nat} {y u : Int32} (h : RX B M N) (hl : l < 26) (hy : upto y 25) (hu : upto u 9) : RX B (ev_wr (ev_wr M 48 l y) 49 l u) (rowM N 1 (upd (upd (N.1 1) (399 + 2 * l) y) (399 + 2 * l + 1) u)) := by
  obtain ⟨W, S, T, Wk, Sk, Tk, h1, h2, h3, h4, h5, h6⟩ := id h
  obtain ⟨q1, q2, q3, q4, q5⟩ := nRel_iff.mp h1.1.2.2.2
  have c : ∀ k, k ≠ 48 → k ≠ 49 → (ev_wr (ev_wr M 48 l y) 49 l u).1 k = M.1 k := fun k k1 k2 => by rw [wr_cell k2, wr_cell k1]
  have an : ∀ i, i ≠ 399 + 2 * l → i ≠ 399 + 2 * l + 1 → (rowM N 1 (upd (upd (N.1 1) (399 + 2 * l) y) (399 + 2 * l + 1) u)).1 1 i = N.1 1 i := fun i k1 k2 => by rw [rowM_s, upd_ne k2, upd_ne k1]
  refine RXe_nt h1 ⟨h2, h3, h4, h5, h6⟩ (fun k _ => c k (by omega) (by omega)) (fun k _ k2 => rowM_n k2) (fun i _ => an i (by omega) (by omega)) ?_
  refine nRel_iff.mpr ⟨?_, ?_, ?_, ?_, ?_⟩
  · intro i hi
    by_cases e : i = l
    · subst e
      rw [wr_cell (by omega), wr_same, wr_same, rowM_s, upd_ne (by omega), upd_eq, upd_eq]
      exact ⟨rfl, Or.inr hy, rfl, hu⟩
    · rw [an _ (by omega) (by omega), an _ (by omega) (by omega), wr_cell (by omega), wr_ne (by omega), wr_ne (by omega), wr_cell (by omega)]
      exact q1 i hi
  · rw [c _ (by omega) (by omega)]
    exact nR2_cg (an _ (by omega) (by omega)) (an _ (by omega) (by omega)) q2
  · rw [c _ (by omega) (by omega), c _ (by omega) (by omega)]
    exact nR3_cg (Nat.le_refl _) (an _ (by omega) (by omega)) (fun i _ _ => an _ (by omega) (by omega)) q3
  · rw [c _ (by omega) (by omega), c _ (by omega) (by omega), show (fun i => (ev_wr (ev_wr M 48 l y) 49 l u).1 (47 + 5 + i)) = fun i => M.1 (47 + 5 + i) from funext fun i => c _ (by omega) (by omega)]
    exact nR4_cg (an _ (by omega) (by omega)) (fun i _ _ => an _ (by omega) (by omega)) q4
  · rw [c _ (by omega) (by omega), c _ (by omega) (by omega), c _ (by omega) (by omega)]
    exact nR5_cg (Nat.le_refl _) (an _ (by omega) (by omega)) (fun i _ _ => an _ (by omega) (by omega)) q5
theorem v_made {B0 : Nat} {M0 : ev_Mem} (h0 : RX B0 M0 N) (x y u : Int32) : OV mX10_made mX11_made [.int x, .int y, .int u] [.int x, .int y, .int u] B0 N := by
  by_cases hall : ((iin x 0 25 = true ∧ iin y 0 25 = true) ∧ ¬ x = y) ∧ iin u 0 9 = true
  · obtain ⟨⟨⟨hx, hy⟩, hxy⟩, hu⟩ := hall
    obtain ⟨l, hl, rfl⟩ := (iin_lit 25 (by omega)).mp hx
    have uy : upto y 25 := by obtain ⟨b, hb, eb⟩ := (iin_lit 25 (by omega)).mp hy; exact ⟨b, hb, eb⟩
    have uu : upto u 9 := by obtain ⟨b, hb, eb⟩ := (iin_lit 9 (by omega)).mp hu; exact ⟨b, hb, eb⟩
    have e399 : (399 : Int32) + 2 * nI l = nI (399 + 2 * l) := by rw [show (399 : Int32) = nI 399 from rfl, show (2 : Int32) = nI 2 from rfl, pk_mul, nI_add]
    refine ⟨true, rowM N 1 (upd (upd (N.1 1) (399 + 2 * l) y) (399 + 2 * l + 1) u), ⟨_, RX_up (by omega) (RX_md h0 (by omega) uy uu)⟩, ⟨by rw [rowM_s, upd_ne (by omega), upd_ne (by omega)], rowM_n (by omega)⟩, fun d Na hp => ?_, fun d B M hB h => ?_⟩
    · refine Cl_of rfl (Nat.le_of_ble_eq_true rfl) rfl (gX11_made_0 ⟨fun z => bb z hx, fun _ => ⟨fun z => bb z hy, fun _ => ⟨fun z => absurd z hxy, fun _ => ⟨fun _ => ?_, fun z => bb z hu⟩⟩⟩⟩)
      rw [e399, nI_1, nI_clamp (by omega), nI_clamp (by omega)]
      refine ⟨vp_in_nI (by omega) (by omega), fun M1 e1 => ⟨vp_in_nI (by omega) (by omega), fun M2 e2 => ⟨rfl, pe_row hp ?_ (fun k k1 _ => by rw [e2, wr_cell k1, e1, wr_cell k1])⟩⟩⟩
      rw [e2, wr_row, e1, wr_row, hp.r1]
    · refine Cl_of rfl (Nat.le_of_ble_eq_true rfl) rfl (gX10_made_0 ⟨fun z => bb z hx, fun _ => ⟨fun z => bb z hy, fun _ => ⟨fun z => absurd z hxy, fun _ => ⟨fun z => absurd z (I_nlt.mpr (iin_t.mp hu).1), fun _ => ⟨fun _ => ?_, fun z => absurd (iin_t.mp hu).2 z⟩⟩⟩⟩⟩)
      rw [nI_clamp (by omega)]
      refine ⟨vp_in_nI (by omega) (by omega), fun M1 e1 => ⟨vp_in_nI (by omega) (by omega), fun M2 e2 => ⟨rfl, ?_⟩⟩⟩
      rw [e2, e1]
      exact RX_up (by omega) (RX_md h (by omega) uy uu)
  · refine ov_rf (r := 0) (by omega) h0 (fun d Na hp => ?_) (fun d B M h => ?_)
    · have fin : ∀ M1, M1 = rfs Na 3 (0 : Int32).toNatClampNeg → (some (Value.int 0) = some (Value.int 0) ∧ pe (rfs Na 3 0) M1) := fun M1 e1 => ⟨rfl, by rw [e1, c0]; exact pe.rf⟩
      refine Cl_of rfl (Nat.le_of_ble_eq_true rfl) rfl (gX11_made_0 ⟨fun _ => ⟨v03, fin⟩, fun a1 => ⟨fun _ => ⟨v03, fin⟩, fun a2 => ⟨fun _ => ⟨v03, fin⟩, fun a3 => ⟨fun a4 => ?_, fun _ => ⟨v03, fin⟩⟩⟩⟩⟩)
      exact absurd ⟨⟨⟨a1, a2⟩, a3⟩, a4⟩ hall
    · have fin : ∀ M1, M1 = rfs M 117 (0 : Int32).toNatClampNeg → (some (Value.int 0) = some (Value.int 0) ∧ xq (rfs M 117 0) M1) := fun M1 e1 => ⟨rfl, by rw [e1, c0]; exact xq.rf⟩
      refine Cl_of rfl (Nat.le_of_ble_eq_true rfl) rfl (gX10_made_0 ⟨fun _ => ⟨v03, fin⟩, fun a1 => ⟨fun _ => ⟨v03, fin⟩, fun a2 => ⟨fun _ => ⟨v03, fin⟩, fun a3 => ⟨fun _ => ⟨v03, fin⟩, fun a4 => ⟨fun a5 => ?_, fun _ => ⟨v03, fin⟩⟩⟩⟩⟩⟩)
      exact absurd ⟨⟨⟨a1, a2⟩, a3⟩, iin_t.mpr ⟨I_nlt.mp a4, a5⟩⟩ hall
theorem v_key {B0 : Nat} {M0 : ev_Mem} (h0 : RX B0 M0 N) (x : Int32) : OV mX10_key mX11_key [.int x] [.int x] B0 N := by
  by_cases hx : iin x 0 25 = true
  · by_cases hl : hs (N.1 1 9) x = true
    · refine ov_rf (r := 2) (by omega) h0 (fun d Na hp => ?_) (fun d B M h => ?_)
      · have hl' : hs (Na.1 1 9) x = true := by rw [hp.r1]; exact hl
        exact Cl_of rfl (Nat.le_of_ble_eq_true rfl) rfl (gX11_key_0 (d := d + 18) ⟨fun z => bb z hx, fun _ => ⟨fun z => bb z hl', fun _ => ⟨fun z => bb z hx, fun _ => ⟨v23, fun M4 e4 => ⟨rfl, by rw [e4, c2]; exact pe.rf⟩⟩⟩⟩⟩)
      · refine Cl_of rfl (Nat.le_of_ble_eq_true rfl) rfl (gX10_key_0 (d := d + 19) ⟨fun _ => ⟨fun z => ?_, fun _ => ⟨v23, fun M4 e4 => ⟨rfl, by rw [e4, c2]; exact xq.rf⟩⟩⟩, fun z => bb z hx⟩)
        rw [(RX_lo h).1] at z
        exact bb z hl
    · have hl : hs (N.1 1 9) x = false := Bool.not_eq_true _ ▸ hl
      obtain ⟨k, e0, lc0, wn, hk, m90, k4, he0, m80, -, -, -, -⟩ := kq_ex (RX_mr h0)
      obtain ⟨l, hl25, rfl⟩ := (iin_lit 25 (by omega)).mp hx
      have hl26 : l < 26 := by omega
      refine ⟨true, rowM N 1 (upd (keA (N.1 1) k) 9 (keA (N.1 1) k 9 ||| (1 <<< (nI l &&& 31)))), ?_, ⟨by rw [rowM_s, upd_ne (by omega), keA_lo (by omega) (by omega)], rowM_n (by omega)⟩, fun d Na hp => ?_, fun d B M hB h => ?_⟩
      · obtain ⟨m2, P2, ho⟩ := mk_ex (M0.1 43) (M0.1 44) (M0.1 46) k e0
        exact ⟨_, (RQ_ex h0 (by omega) (by omega) (mq_up (B := B0) (q := 0) (q2 := 0) (by omega) (by omega) (mq_lose (mq_keep (RX_mr h0) hk m90 he0 m80 ho) hl26)) (fun i i1 i2 => by rw [upd_ne (by omega), keA_lo i1 (by omega)])).1⟩
      · refine Cl_of rfl (Nat.le_of_ble_eq_true rfl) rfl (gX11_key_0 (d := d + 18) ⟨fun z => bb z hx, fun _ => ⟨fun _ => ⟨_, kX11_keep (d := d + 19) hk (by rw [hp.r1]; exact k4), fun zr N2 q => ?_⟩, fun z => ?_⟩⟩)
        · rw [q.1, q.2, hp.r1]
          refine gX11_key_38 fun M1 e1 => ⟨rfl, ?_⟩
          rw [rowM_w, rowM_s] at e1
          rw [e1]
          exact mn_row hp rfl
        · rw [hp.r1] at z; exact bb z hl
      · obtain ⟨k', e, lc, wn', hk', m9, k4', he, m8, -, -, -, -⟩ := kq_ex (RX_mr h)
        have ek : k' = k := (nI_eq (by omega) (by omega)).mp (k4'.symm.trans k4)
        subst ek
        refine Cl_of rfl (Nat.le_of_ble_eq_true rfl) rfl (gX10_key_0 (d := d + 19) ⟨fun _ => ⟨fun _ => ⟨_, kX9_markStep (d := d + 18) hk' m9 he m8, fun zr M2 q => ?_⟩, fun z => ?_⟩, fun z => bb z hx⟩)
        · rw [q.1]
          refine gX10_key_44 fun M3 e3 => ⟨rfl, ?_⟩
          have hm := mq_lose (mq_keep (RX_mr h) hk' m9 he m8 q.2.2) hl26
          refine RX_mc (q := 0) h (by omega) (by omega) (M2 := M3) ?_ (fun c c1 c2 => by rw [e3, wr_cell (by omega), q.2.1 c (by omega) (by omega)]) (fun i i1 i2 => by rw [rowM_s, upd_ne (by omega), keA_lo i1 (by omega)]) (fun c c1 c2 => rowM_n c2)
          rw [rowM_s, e3, wr_row, wr_cell (by omega), wr_cell (by omega), wr_cell (by omega), q.2.1 44 (by omega) (by omega), q.2.1 45 (by omega) (by omega)]
          exact mq_up (by omega) (by omega) hm
        · rw [(RX_lo h).1] at z
          exact bb z hl
  · have hx : iin x 0 25 = false := Bool.not_eq_true _ ▸ hx
    refine ov_rf (r := 0) (by omega) h0 (fun d Na hp => ?_) (fun d B M h => ?_)
    · exact Cl_of rfl (Nat.le_of_ble_eq_true rfl) rfl (gX11_key_0 (d := d + 18) ⟨fun _ => ⟨fun _ => ⟨v03, fun M4 e4 => ⟨rfl, by rw [e4, c0]; exact pe.rf⟩⟩, fun z => bb z hx⟩, fun z => bb z hx⟩)
    · exact Cl_of rfl (Nat.le_of_ble_eq_true rfl) rfl (gX10_key_0 (d := d + 19) ⟨fun z => bb z hx, fun _ => ⟨v03, fun M4 e4 => ⟨rfl, by rw [e4, c0]; exact xq.rf⟩⟩⟩)
/-- a turned word's letters -/
def tgN (N : ev_Mem) (w : Nat) : Nat → Int32 := fun i => if i = 0 then 3 else if i = 1 then 8 else if i = 2 then 3 else aw N w (4 + (i - 3))
theorem tg3 {w i : Nat} : tgN N w (3 + i) = aw N w (4 + i) := by
  unfold tgN
  rw [if_neg (by omega), if_neg (by omega), if_neg (by omega), show 3 + i - 3 = i by omega]
theorem kX10_turn {w : Nat} (hsd : sdR M N W T (M.1 43 0)) (hw : w < W) (hW : W < 24) (g1 : aw N w 0 = 0) (g2 : lnW N w ≤ 6) : Cl LX (d + 20) mX10_turn [.ref 0, .int (nI w)] M (fun r M2 => r = some (.int (nI W)) ∧ ∃ M1, xq M M1 ∧ M1.1 3 = M.1 3 ∧ twO M1 M2 W (lnW N w + 3) (tgN N w) 2 (aw N w 1) (aw N w 2)) := by
  have W24 := hsd.w24
  have okw : okW M := ⟨W, W24, hsd.mw⟩
  have zm := wd_t W24 hsd.mw ⟨w, hw, rfl⟩
  have vw : vp_in (nI w) 24 := vp_in_nI (by omega) (by omega)
  obtain ⟨l1, l9, l3, l29, ll⟩ := sd_ln hsd hw
  obtain ⟨⟨-, e30, e31, e32⟩, ⟨-, u11, u9⟩, -⟩ := hsd.wr w hw
  have e30 : M.1 30 w = aw N w 0 := e30
  have e31 : M.1 31 w = aw N w 1 := e31
  have e32 : M.1 32 w = aw N w 2 := e32
  have mlt : M.1 3 5 < 24 := by rw [hsd.mw]; exact nI_lt (b := 24) hW (by omega)
  refine Cl_of rfl (Nat.le_of_ble_eq_true rfl) rfl (gX10_turn_0 (d := d + 19) ⟨okw, fun _ => ⟨fun _ => ⟨vw, vw, ?_⟩, fun z => absurd mlt z⟩, fun z => bb z zm⟩)
  rw [nI_clamp (by omega), e30, l29]
  have l3e : nI (lnW N w) + 3 = nI (lnW N w + 3) := by rw [show (3 : Int32) = nI 3 from rfl, nI_add]
  refine ⟨fun z => absurd g1 z, fun _ => ⟨fun _ A1 f1 A2 f2 A3 f3 => ?_, fun z => absurd (by rw [l3e]; exact nI_le (b := 9) (by omega) (by omega)) z⟩⟩
  have lp : ∀ i, i ≤ lnW N w → ∀ M2, (∀ k, k ≠ 118 → M2.1 k = M.1 k) → (M2.1 118 0 = 100 ∧ M2.1 118 1 = 105 ∧ M2.1 118 2 = 100) → (∀ j, j < i → M2.1 118 (3 + j) = 97 + aw N w (4 + j)) → Ev LX (d + 20) mX10_turn 97 [some (.ref 0), some (.int (nI w)), some (.int (nI (lnW N w))), some (.int (nI i))] [] M2 (fun r M2 => r = some (.int (nI W)) ∧ ∃ M1, xq M M1 ∧ M1.1 3 = M.1 3 ∧ twO M1 M2 W (lnW N w + 3) (tgN N w) 2 (aw N w 1) (aw N w 2)) := by
    refine dn ?_ (fun i hi ih => ?_)
    · intro M2 hc h0 hr
      refine gX10_turn_97 (d := d + 19) ⟨fun _ => ⟨vw, vw, ?_⟩, fun z => absurd (nI_le (Nat.le_refl _) (by omega)) z⟩
      rw [nI_clamp (by omega), hc 31 (by omega), hc 32 (by omega), e31, e32, l3e]
      refine ⟨_, kX0_tellWord (d := d + 19) (fr := 0) lx_118 (W := W) (by rw [hc 3 (by omega)]; exact hsd.mw) hW (by omega) (by omega) (by omega) (by omega), fun zr M3 q3 => ?_⟩
      rw [q3.1]
      refine gX10_turn_164 ⟨rfl, M2, ⟨fun k hk => hc k (by omega), fun j _ => by rw [hc 81 (by omega)], fun k k1 k2 => hc k (by omega)⟩, hc 3 (by omega), twO_cg (fun i hi => ?_) q3.2⟩
      rw [Nat.zero_add]
      by_cases i0 : i = 0
      · rw [i0, h0.1]; rfl
      · by_cases i1 : i = 1
        · rw [i1, h0.2.1]; rfl
        · by_cases i2 : i = 2
          · rw [i2, h0.2.2]; rfl
          · obtain ⟨j, rfl⟩ : ∃ j, i = 3 + j := ⟨i - 3, by omega⟩
            obtain ⟨-, l, hl, el⟩ := ll j (by omega)
            rw [hr j (by omega), tg3, el, show (97 : Int32) = nI 97 from rfl, nI_add, pk_sub (by omega), show 97 + l - 97 = l by omega]
    · intro M2 hc h0 hr
      refine gX10_turn_97 (d := d + 19) ⟨fun z => absurd z (nI_ge hi (by omega)), fun _ => ⟨vw, vp_in_nI (by omega) (by omega), ?_⟩⟩
      rw [show nI i + 3 = nI (3 + i) by rw [show (3 : Int32) = nI 3 from rfl, nI_add, Nat.add_comm], nI_clamp (by omega), nI_clamp (by omega), nI_clamp (by omega), hc (5 + w) (by omega), (ll i hi).1]
      refine ⟨vp_in_nI (by omega) (by omega), fun M3 e3 => ?_⟩
      rw [nI_1]
      refine ih M3 (fun k hk => by rw [e3, wr_cell hk]; exact hc k hk) (by rw [e3, wr_ne (by omega), wr_ne (by omega), wr_ne (by omega)]; exact h0) (fun j hj => ?_)
      rw [e3]
      by_cases e : j = i
      · rw [e, wr_same]
      · rw [wr_ne (by omega)]; exact hr j (by omega)
  refine lp 0 (by omega) A3 (fun k hk => by rw [f3, wr_cell hk, f2, wr_cell hk, f1, wr_cell hk]) ⟨?_, ?_, ?_⟩ (fun j hj => absurd hj (by omega))
  · rw [f3, wr_ne (by omega), f2, wr_ne (by omega), f1, wr_same]
  · rw [f3, wr_ne (by omega), f2, wr_same]
  · rw [f3, wr_same]
theorem kX11_turn {w : Nat} (hsd : sdR M N W T lo) (hw : w < W) (hW : W < 24) (g1 : aw N w 0 = 0) (g2 : lnW N w ≤ 6) {Na : ev_Mem} (hp : pe N Na) : Cl LM (d + 20) mX11_turn [.ref 0, .int (nI w)] Na (fun r N2 => r = some (.int (nI W)) ∧ pe (rowM N 1 (wdA (N.1 1) W (lnW N w + 3) (tgN N w) 2 (aw N w 1) (aw N w 2))) N2) := by
  have W24 := hsd.w24
  have n1 : Na.1 1 = N.1 1 := hp.r1
  have zn := wd_t W24 hsd.nw ⟨w, hw, rfl⟩
  obtain ⟨l1, l9, l3, l29, ll⟩ := sd_ln hsd hw
  have aN : ∀ c, aw Na w c = aw N w c := fun c => by unfold aw; rw [n1]
  have a0 : Na.1 1 (39 + 13 * nI w + 0).toNatClampNeg = aw N w 0 := by rw [aw0 (by omega), aN]
  have nne : ¬ Na.1 1 0 = 24 := fun z => by rw [n1] at z; have := (nI_eq (b := 24) (by omega) (by omega)).mp (hsd.nw.symm.trans z); omega
  refine Cl_of rfl (Nat.le_of_ble_eq_true rfl) rfl (gX11_turn_0 (d := d + 18) ⟨fun _ => ⟨fun _ => ⟨awi0 (by omega), ?_⟩, fun z => absurd z nne⟩, fun z => ?_⟩)
  · rw [a0]
    refine ⟨fun z => absurd g1 z, fun _ => ⟨awi3 (by omega), ?_⟩⟩
    rw [aw3 (by omega), aN, l3]
    refine ⟨fun _ => ⟨awi3 (by omega), ?_⟩, fun z => absurd (nI_le (b := 6) g2 (by omega)) z⟩
    have ex : ∀ c : Nat, nI (39 + 13 * W) + nI c = nI (39 + 13 * W + c) := fun c => nI_add _ _
    rw [n1, hsd.nw, e39', show nI (39 + 13 * W) + 3 = nI (39 + 13 * W + 3) from ex 3, show nI (39 + 13 * W) + 4 = nI (39 + 13 * W + 4) from ex 4, nI_1, show nI (39 + 13 * W + 4) + 2 = nI (39 + 13 * W + 4 + 2) from nI_add _ 2, show (3 : Int32) + nI (lnW N w) = nI (lnW N w + 3) by rw [show (3 : Int32) = nI 3 from rfl, nI_add, Nat.add_comm], nI_clamp (by omega), nI_clamp (by omega), nI_clamp (by omega), nI_clamp (by omega)]
    refine ⟨vp_in_nI (by omega) (by omega), fun A1 f1 => ⟨vp_in_nI (by omega) (by omega), fun A2 f2 => ⟨vp_in_nI (by omega) (by omega), fun A3 f3 => ⟨vp_in_nI (by omega) (by omega), fun A4 f4 => ?_⟩⟩⟩⟩
    have eA : A4 = rowM Na 1 (wlA (N.1 1) W (lnW N w + 3) (tgN N w) 3) := by
      rw [f4, f3, f2, f1, wr_rM (M := Na), n1, wlA_0 (g := tgN N w), rowM_w, rowM_w, rowM_w]
      congr 1
      rw [← wlA_s (i := 2) (v := 3) rfl, ← wlA_s (i := 1) (v := 8) rfl, ← wlA_s (i := 0) (v := 3) rfl]
    rw [eA]
    have aww : ∀ i c, c < 13 → aw (rowM Na 1 (wlA (N.1 1) W (lnW N w + 3) (tgN N w) i)) w c = aw N w c := fun i c hc => by unfold aw; rw [rowM_s, wlA_n (by omega)]
    have lp : ∀ i, i ≤ lnW N w → Ev LM (d + 20) mX11_turn 120 [some (.ref 0), some (.int (nI w)), some (.int (nI (39 + 13 * W))), some (.int (nI i))] [] (rowM Na 1 (wlA (N.1 1) W (lnW N w + 3) (tgN N w) (3 + i))) (fun r N2 => r = some (.int (nI W)) ∧ pe (rowM N 1 (wdA (N.1 1) W (lnW N w + 3) (tgN N w) 2 (aw N w 1) (aw N w 2))) N2) := by
      refine dn ?_ (fun i hi ih => ?_)
      · refine gX11_turn_120 (d := d + 19) ⟨awi3 (by omega), ?_⟩
        rw [aw3 (by omega), aw1 (by omega), aw2 (by omega), aww _ 3 (by omega), aww _ 1 (by omega), aww _ 2 (by omega), l3]
        refine ⟨fun _ => ⟨awi1 (by omega), awi2 (by omega), _, kX11_lay (d := d + 19) (W := W) (by rw [rowM_s, wlA_n (by omega)]; exact hsd.nw) hW, fun zr N3 q3 => ?_⟩, fun z => absurd (nI_le (Nat.le_refl _) (by omega)) z⟩
        rw [q3.1]
        refine gX11_turn_173 ⟨rfl, pe_row hp ?_ (fun k k1 _ => by rw [q3.2.1 k k1, rowM_n k1])⟩
        rw [q3.2.2, rowM_s, Nat.add_comm 3]; rfl
      · refine gX11_turn_120 (d := d + 19) ⟨awi3 (by omega), ?_⟩
        rw [aw3 (by omega), aw4 (by omega) (by omega), aww _ 3 (by omega), aww _ (4 + i) (by omega), l3]
        refine ⟨fun z => absurd z (nI_ge hi (by omega)), fun _ => ⟨awi4 (by omega) (by omega), ?_⟩⟩
        rw [show nI (39 + 13 * W) + 4 + 3 + nI i = nI (39 + 13 * W + 4 + (3 + i)) by rw [show (4 : Int32) = nI 4 from rfl, show (3 : Int32) = nI 3 from rfl, nI_add, nI_add, nI_add, Nat.add_assoc (39 + 13 * W + 4)], nI_clamp (by omega)]
        refine ⟨vp_in_nI (by omega) (by omega), fun N3 e3 => ?_⟩
        rw [rowM_w, wlA_s tg3.symm, Nat.add_assoc] at e3
        rw [nI_1, e3]; exact ih
    exact lp 0 (by omega)
  · rw [n1] at z; exact bb z zn
theorem v_turn {B0 : Nat} {M0 : ev_Mem} (h0 : RX B0 M0 N) (x : Int32) : ∃ (v : Int32) (N1 : ev_Mem), (v = -1 ∨ ¬ v < 0) ∧ (∃ M1, RX (B0 + 80) M1 N1) ∧ (N1.1 1 2 = N.1 1 2 ∧ N1.1 4 = N.1 4) ∧ (∀ d Na, pe N Na → Cl LM (d + 20) mX11_turn [.ref 0, .int x] Na (fun r N2 => r = some (.int v) ∧ pe N1 N2)) ∧ ∀ d B M, B < 2 ^ 28 → RX B M N → Cl LX (d + 20) mX10_turn [.ref 0, .int x] M (fun r M2 => r = some (.int v) ∧ RX (B + 80) M2 N1) := by
  obtain ⟨W, S, T, hsd0, hS0⟩ := RX_ses h0
  have W24 := hsd0.w24
  have ses : ∀ B M, RX B M N → ∃ T2, sdR M N W T2 (M.1 43 0) := fun B M h => by
    obtain ⟨W2, S2, T2, r1, r2⟩ := RX_ses h
    have : W2 = W := (nI_eq (by have := r1.w24; omega) (by omega)).mp (r1.nw.symm.trans hsd0.nw)
    subst this
    exact ⟨T2, r1⟩
  have rf : ∀ r : Nat, r < 3 → (∀ d Na, pe N Na → Cl LM (d + 20) mX11_turn [.ref 0, .int x] Na (fun z N2 => z = some (.int (-1)) ∧ pe (rfs Na 3 r) N2)) → (∀ d B M, RX B M N → Cl LX (d + 20) mX10_turn [.ref 0, .int x] M (fun z M2 => z = some (.int (-1)) ∧ xq (rfs M 117 r) M2)) → ∃ (v : Int32) (N1 : ev_Mem), (v = -1 ∨ ¬ v < 0) ∧ (∃ M1, RX (B0 + 80) M1 N1) ∧ (N1.1 1 2 = N.1 1 2 ∧ N1.1 4 = N.1 4) ∧ (∀ d Na, pe N Na → Cl LM (d + 20) mX11_turn [.ref 0, .int x] Na (fun r N2 => r = some (.int v) ∧ pe N1 N2)) ∧ ∀ d B M, B < 2 ^ 28 → RX B M N → Cl LX (d + 20) mX10_turn [.ref 0, .int x] M (fun r M2 => r = some (.int v) ∧ RX (B + 80) M2 N1) := fun r hr hm hx =>
    ⟨-1, rfs N 3 r, Or.inl rfl, ⟨_, RX_up (by omega) (RX_rfs hr h0)⟩, ⟨by rw [rfs_cell (by omega)], rfs_cell (by omega)⟩, fun d Na hp => Cl.mono (hm d Na hp) (fun z N2 q => ⟨q.1, (pe_rfs hp).tr q.2⟩), fun d B M _ h => Cl.mono (hx d B M h) (fun z M2 q => ⟨q.1, RX_up (by omega) (RX_xq q.2 (RX_rfs hr h))⟩)⟩
  have finX : ∀ (M : ev_Mem) (r : Nat), ∀ M1, M1 = rfs M 117 r → (some (Value.int (-1)) = some (Value.int (-1)) ∧ xq (rfs M 117 r) M1) := fun M r M1 e1 => ⟨rfl, by rw [e1]; exact xq.rf⟩
  have finM : ∀ (N : ev_Mem) (r : Nat), ∀ M1, M1 = rfs N 3 r → (some (Value.int (-1)) = some (Value.int (-1)) ∧ pe (rfs N 3 r) M1) := fun N r M1 e1 => ⟨rfl, by rw [e1]; exact pe.rf⟩
  by_cases hx : ∃ w, w < W ∧ x = nI w
  · obtain ⟨w, hw, rfl⟩ := hx
    have zn := wd_t W24 hsd0.nw ⟨w, hw, rfl⟩
    have vw : vp_in (nI w) 24 := vp_in_nI (by omega) (by omega)
    by_cases hW : W = 24
    · refine rf 1 (by omega) (fun d Na hp => ?_) (fun d B M h => ?_)
      · exact Cl_of rfl (Nat.le_of_ble_eq_true rfl) rfl (gX11_turn_0 (d := d + 18) ⟨fun _ => ⟨fun z => absurd (by rw [hp.r1, hsd0.nw, hW]; rfl) z, fun _ => ⟨v13, finM Na 1⟩⟩, fun z => by rw [hp.r1] at z; exact bb z zn⟩)
      · obtain ⟨T2, hsd⟩ := ses B M h
        refine Cl_of rfl (Nat.le_of_ble_eq_true rfl) rfl (gX10_turn_0 (d := d + 19) ⟨⟨W, W24, hsd.mw⟩, fun _ => ⟨fun z => ?_, fun _ => ⟨v13, finX M 1⟩⟩, fun z => bb z (wd_t W24 hsd.mw ⟨w, hw, rfl⟩)⟩)
        rw [hsd.mw, hW] at z; exact absurd z (by decide)
    · have hW : W < 24 := by omega
      obtain ⟨l1, l9, l3, -, ll⟩ := sd_ln hsd0 hw
      obtain ⟨-, ⟨-, u11, u9⟩, -⟩ := hsd0.wr w hw
      by_cases good : aw N w 0 = 0 ∧ lnW N w ≤ 6
      · obtain ⟨g1, g2⟩ := good
        have tgu : ∀ i, i < lnW N w + 3 → upto (tgN N w i) 25 := fun i hi => by
          by_cases i3 : i < 3
          · have : i = 0 ∨ i = 1 ∨ i = 2 := by omega
            rcases this with rfl | rfl | rfl
            · exact ⟨3, by omega, rfl⟩
            · exact ⟨8, by omega, rfl⟩
            · exact ⟨3, by omega, rfl⟩
          · obtain ⟨j, rfl⟩ : ∃ j, i = 3 + j := ⟨i - 3, by omega⟩
            rw [tg3]; exact (ll j (by omega)).2
        refine ⟨nI W, rowM N 1 (wdA (N.1 1) W (lnW N w + 3) (tgN N w) 2 (aw N w 1) (aw N w 2)), Or.inr (nI_pos (by omega)), ?_, ⟨by rw [rowM_s]; unfold wdA; rw [upd_ne (by omega), upd_ne (by omega), upd_ne (by omega), upd_ne (by omega), wlA_n (by omega)], rowM_n (by omega)⟩, fun d Na hp => kX11_turn hsd0 hw hW g1 g2 hp, fun d B M hB h => ?_⟩
        · obtain ⟨M2, o, -⟩ := tw_ex M0 (L := lnW N w + 3) (tgN N w) 2 (aw N w 1) (aw N w 2) hW
          exact ⟨M2, RX_up (by omega) (RX_wdA h0 xq.rf rfl hsd0.mw hW (by omega) (by omega) tgu ⟨2, by omega, rfl⟩ u11 u9 o)⟩
        · obtain ⟨T2, hsd⟩ := ses B M h
          refine Cl.mono (kX10_turn (d := d) hsd hw hW g1 g2) (fun r M2 q => ⟨q.1, ?_⟩)
          obtain ⟨M1, q1, q2, q3⟩ := q.2
          exact RX_up (by omega) (RX_wdA h q1 q2 hsd.mw hW (by omega) (by omega) tgu ⟨2, by omega, rfl⟩ u11 u9 q3)
      · refine rf 2 (by omega) (fun d Na hp => ?_) (fun d B M h => ?_)
        · have aN : ∀ c, aw Na w c = aw N w c := fun c => by unfold aw; rw [hp.r1]
          refine Cl_of rfl (Nat.le_of_ble_eq_true rfl) rfl (gX11_turn_0 (d := d + 18) ⟨fun _ => ⟨fun _ => ⟨awi0 (by omega), ?_⟩, fun z => ?_⟩, fun z => by rw [hp.r1] at z; exact bb z zn⟩)
          · rw [aw0 (by omega), aN]
            refine ⟨fun _ => ⟨v23, finM Na 2⟩, fun z => ⟨awi3 (by omega), ?_⟩⟩
            rw [aw3 (by omega), aN, l3]
            refine ⟨fun y => ?_, fun _ => ⟨v23, finM Na 2⟩⟩
            exact absurd ⟨z, (nI_leI (b := 6) (by omega) (by omega)).mp y⟩ good
          · rw [hp.r1] at z; have := (nI_eq (b := 24) (by omega) (by omega)).mp (hsd0.nw.symm.trans z); omega
        · obtain ⟨T2, hsd⟩ := ses B M h
          obtain ⟨⟨-, e30, -, -⟩, -⟩ := hsd.wr w hw
          have e30 : M.1 30 w = aw N w 0 := e30
          obtain ⟨-, -, -, l29, -⟩ := sd_ln hsd hw
          refine Cl_of rfl (Nat.le_of_ble_eq_true rfl) rfl (gX10_turn_0 (d := d + 19) ⟨⟨W, W24, hsd.mw⟩, fun _ => ⟨fun _ => ⟨vw, vw, ?_⟩, fun z => absurd (by rw [hsd.mw]; exact nI_lt (b := 24) hW (by omega)) z⟩, fun z => bb z (wd_t W24 hsd.mw ⟨w, hw, rfl⟩)⟩)
          rw [nI_clamp (by omega), e30, l29]
          refine ⟨fun _ => ⟨v23, finX M 2⟩, fun z => ⟨fun y => ?_, fun _ => ⟨v23, finX M 2⟩⟩⟩
          rw [show (3 : Int32) = nI 3 from rfl, nI_add] at y
          have := (nI_leI (b := 9) (by omega) (by omega)).mp y
          exact absurd ⟨z, by omega⟩ good
  · refine rf 0 (by omega) (fun d Na hp => ?_) (fun d B M h => ?_)
    · exact Cl_of rfl (Nat.le_of_ble_eq_true rfl) rfl (gX11_turn_0 (d := d + 18) ⟨fun z => by rw [hp.r1] at z; exact bb z (wd_f W24 hsd0.nw hx), fun _ => ⟨v03, finM Na 0⟩⟩)
    · obtain ⟨T2, hsd⟩ := ses B M h
      exact Cl_of rfl (Nat.le_of_ble_eq_true rfl) rfl (gX10_turn_0 (d := d + 19) ⟨⟨W, W24, hsd.mw⟩, fun z => bb z (wd_f W24 hsd.mw hx), fun _ => ⟨v03, finX M 0⟩⟩)
end
