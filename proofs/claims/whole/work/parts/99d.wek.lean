/-! CALL: week -/
section
variable {d B : Nat} {M N : ev_Mem} {W T S s f : Nat} {lo : Int32}
def drw (n : Nat) : Nat := (n * 409 + 283) % 30517
theorem drw_lt {n : Nat} : drw n ≤ 30516 := by unfold drw; omega
theorem kX9_draw {n b : Nat} (hn : n ≤ 30516) (h4 : M.1 43 4 = nI n) (hb : 0 < b) (hb2 : b < 2 ^ 31) : Cl LX d mX9_draw [.ref 43, .int (nI b)] M (fun r M2 => r = some (.int (nI (n % b))) ∧ M2 = ev_wr M 43 4 (nI (drw n))) := by
  refine Cl_of rfl (Nat.le_of_ble_eq_true rfl) rfl (gX9_draw_0 ⟨nI_ne0 hb hb2, fun v e M1 e1 => ?_⟩)
  rw [h4, pk_rem (by omega) hb hb2] at e
  rw [h4, show (409 : Int32) = nI 409 from rfl, pk_mul, show (283 : Int32) = nI 283 from rfl, nI_add, show (30517 : Int32) = nI 30517 from rfl, pk_rem (by omega) (by omega) (by omega)] at e1
  rw [e]
  exact ⟨rfl, e1⟩
theorem kX11_anew {n : Nat} (hn : n ≤ 30516) (h4 : N.1 1 11 = nI n) : Cl LM d mX11_anew [.ref 0] N (fun r N2 => r = none ∧ N2 = ev_wr N 1 11 (nI (drw n))) := by
  refine Cl_of rfl (Nat.le_of_ble_eq_true rfl) rfl (gX11_anew_0 ⟨by decide, fun M1 e1 => ⟨rfl, ?_⟩⟩)
  rw [e1, h4, nI_l (by omega), show (409 : Int64) = lN 409 from rfl, lN_mul, show (283 : Int64) = lN 283 from rfl, lN_add, show (30517 : Int64) = lN 30517 from rfl, pk_lRem (by omega) (by omega) (by omega), lN_i]
  rfl
theorem mq_draw {q y : Nat} {m u R P a : Nat → Int32} (h : mRq B q m u R P a) (hy : y ≤ 30516) : mRq B q (upd m 4 (nI y)) u R P (upd a 11 (nI y)) := by
  obtain ⟨k1, k2, k3, k4, k5⟩ := kq_k h
  refine mq_st h ⟨fun l hl => ?_, ?_, ?_, ?_, ?_⟩ ⟨upd_ne (by omega), upd_ne (by omega), upd_ne (by omega)⟩ (upd_ne (by omega)) (upd_ne (by omega)) (fun i hi => upd_ne (by omega))
  · show _ = upd a 11 _ (8 + (5 + l)) ∧ upto (upd a 11 _ (8 + (5 + l))) 9999
    rw [upd_ne (by omega)]; exact k1 l hl
  · show upd m 4 _ 0 = upd a 11 _ 9 ∧ upto (upd a 11 _ 9) _
    rw [upd_ne (by omega), upd_ne (by omega)]; exact k2
  · show upd m 4 _ 2 = upd a 11 _ 10 ∧ upto (upd a 11 _ 10) _
    rw [upd_ne (by omega), upd_ne (by omega)]; exact k3
  · show upd m 4 _ 3 = upd a 11 _ 8 ∧ upto (upd a 11 _ 8) _
    rw [upd_ne (by omega), upd_ne (by omega)]; exact k4
  · show upd m 4 _ 4 = upd a 11 _ 11 ∧ upto (upd a 11 _ 11) _
    rw [upd_eq, upd_eq]; exact ⟨rfl, y, hy, rfl⟩
theorem mq_lose {q l : Nat} {m u R P a : Nat → Int32} (h : mRq B q m u R P a) (hl : l < 26) : mRq B q (upd m 0 (m 0 ||| (1 <<< (nI l &&& 31)))) u R P (upd a 9 (a 9 ||| (1 <<< (nI l &&& 31)))) := by
  obtain ⟨k1, k2, k3, k4, k5⟩ := kq_k h
  refine mq_st h ⟨fun l hl => ?_, ?_, ?_, ?_, ?_⟩ ⟨upd_ne (by omega), upd_ne (by omega), upd_ne (by omega)⟩ (upd_ne (by omega)) (upd_ne (by omega)) (fun i hi => upd_ne (by omega))
  · show _ = upd a 9 _ (8 + (5 + l)) ∧ upto (upd a 9 _ (8 + (5 + l))) 9999
    rw [upd_ne (by omega)]; exact k1 l hl
  · show upd m 0 _ 0 = upd a 9 _ 9 ∧ upto (upd a 9 _ 9) _
    have e : m 0 = a 9 := k2.1
    rw [upd_eq, upd_eq, e]
    exact ⟨rfl, or_up k2.2 hl⟩
  · show upd m 0 _ 2 = upd a 9 _ 10 ∧ upto (upd a 9 _ 10) _
    rw [upd_ne (by omega), upd_ne (by omega)]; exact k3
  · show upd m 0 _ 3 = upd a 9 _ 8 ∧ upto (upd a 9 _ 8) _
    rw [upd_ne (by omega), upd_ne (by omega)]; exact k4
  · show upd m 0 _ 4 = upd a 9 _ 11 ∧ upto (upd a 9 _ 11) _
    rw [upd_ne (by omega), upd_ne (by omega)]; exact k5
theorem mq_dy {q y : Nat} {m u R P a : Nat → Int32} (h : mRq B q m u R P a) (hy : y ≤ 9999) : mRq B q (upd m 3 (nI y)) u R P (upd a 8 (nI y)) := by
  obtain ⟨k1, k2, k3, k4, k5⟩ := kq_k h
  refine mq_st h ⟨fun l hl => ?_, ?_, ?_, ?_, ?_⟩ ⟨upd_ne (by omega), upd_ne (by omega), upd_ne (by omega)⟩ (upd_ne (by omega)) (upd_ne (by omega)) (fun i hi => upd_ne (by omega))
  · show _ = upd a 8 _ (8 + (5 + l)) ∧ upto (upd a 8 _ (8 + (5 + l))) 9999
    rw [upd_ne (by omega)]; exact k1 l hl
  · show upd m 3 _ 0 = upd a 8 _ 9 ∧ upto (upd a 8 _ 9) _
    rw [upd_ne (by omega), upd_ne (by omega)]; exact k2
  · show upd m 3 _ 2 = upd a 8 _ 10 ∧ upto (upd a 8 _ 10) _
    rw [upd_ne (by omega), upd_ne (by omega)]; exact k3
  · show upd m 3 _ 3 = upd a 8 _ 8 ∧ upto (upd a 8 _ 8) _
    rw [upd_eq, upd_eq]; exact ⟨rfl, y, hy, rfl⟩
  · show upd m 3 _ 4 = upd a 8 _ 11 ∧ upto (upd a 8 _ 11) _
    rw [upd_ne (by omega), upd_ne (by omega)]; exact k5
theorem mq_up {q q2 B2 : Nat} {m u R P a : Nat → Int32} (hB : B ≤ B2) (hq : q ≤ q2) (h : mRq B q m u R P a) : mRq B2 q2 m u R P a := by
  obtain ⟨w1, lc2, wn2, k2, e2, w2, w3, w4, w5, w6, w7, lcs, w8, w9, w10⟩ := h
  exact ⟨w1, lc2, wn2, k2, e2, by omega, w3, w4, w5, w6, w7, lcs, w8, fun j hj => ⟨(w9 j hj).1, by have := (w9 j hj).2; split at this <;> split <;> omega⟩, w10⟩
theorem weN_c {N2 : ev_Mem} {l : Nat} (h : ∀ i, i ≠ 4 → i ≠ 10 → i ≠ 11 → i ≠ 12 → N2.1 1 i = N.1 1 i) (h4 : N2.1 4 = N.1 4) : weN N2 l = weN N l := by
  have e : uNs N2 = uNs N := funext fun l => h _ (by omega) (by omega) (by omega) (by omega)
  unfold weN
  rw [e, h4, h 8 (by omega) (by omega) (by omega) (by omega), h 9 (by omega) (by omega) (by omega) (by omega), h 3 (by omega) (by omega) (by omega) (by omega), h (13 + l) (by omega) (by omega) (by omega) (by omega)]
theorem wearV {l : Nat} (h : sdR M N W T (M.1 43 0)) (hl : l < 26) : Cl LX (d + 2) mX1_wearOdds [.ref 83, tv (M.1 47 3), .int (nI l), .int (M.1 43 0)] M (fun r M2 => r = some (.int (weN N l)) ∧ lfr M M2) := by
  have hT := h.t4
  obtain ⟨u1, u2, u3⟩ := sd_okU h
  have hb : upto (M.1 43 3) 1000000 ∧ upto (bc (M.1 43 0)) 1000000 := ⟨by rw [h.da.1]; exact upto_mono h.da.2 (by omega), upto_mono (bc_up h.lu) (by omega)⟩
  rw [h.te]
  rcases h.ti with e | ⟨t, ht, e⟩
  · rw [e]
    refine Cl.mono (kX1_wearOddsN (d := d) (N := N) (x := -1) (g := nW (N.1 1 8) (bc (N.1 1 9)) (nI l) (N.1 1 (13 + l))) (us := usM (uNs N)) (by decide) hl) (fun r M2 q => ⟨?_, q.2⟩)
    rw [q.1, (h.us l hl).1]
    unfold weN
    rw [e]
  · rw [e, tv_t (by omega)]
    refine Cl.mono (kX1_wearOdds (d := d) (by omega) hl (h.la t ht 1 (by omega)) u1 hb) (fun r M2 q => ⟨?_, q.2⟩)
    rw [q.1, (h.us l hl).1, h.da.1, u3, ← h.lo]
    unfold weN
    rw [e]
theorem sdR_n2 {N2 : ev_Mem} (h : sdR M N W T lo) (h1 : ∀ i, i ≠ 4 → i ≠ 10 → i ≠ 11 → i ≠ 12 → i < 525 → N2.1 1 i = N.1 1 i) (h4 : N2.1 4 = N.1 4) : sdR M N2 W T lo := by
  obtain ⟨a1, a2, a3, a4, a5, a6, a7, a8, a9, a10, a11, a12, a13, a14, a15⟩ := h
  have g : ∀ i, i ≠ 4 → i ≠ 10 → i ≠ 11 → i ≠ 12 → i < 525 → N2.1 1 i = N.1 1 i := h1
  refine ⟨a1, a2, by rw [g 0 (by omega) (by omega) (by omega) (by omega) (by omega)]; exact a3, fun w hw => wRel_cg (by omega) (fun _ _ _ => rfl) (fun i _ _ => (g i (by omega) (by omega) (by omega) (by omega) (by omega)).symm) (a4 w hw), fun l hl => by rw [g (399 + 2 * l) (by omega) (by omega) (by omega) (by omega) (by omega), g (399 + 2 * l + 1) (by omega) (by omega) (by omega) (by omega) (by omega)]; exact a5 l hl, by rw [g 9 (by omega) (by omega) (by omega) (by omega) (by omega)]; exact a6, a7, by rw [g 8 (by omega) (by omega) (by omega) (by omega) (by omega)]; exact a8, fun l hl => by rw [g (13 + l) (by omega) (by omega) (by omega) (by omega) (by omega)]; exact a9 l hl, a10, a11, by rw [g 2 (by omega) (by omega) (by omega) (by omega) (by omega)]; exact a12, by rw [g 3 (by omega) (by omega) (by omega) (by omega) (by omega)]; exact a13, by rw [g 3 (by omega) (by omega) (by omega) (by omega) (by omega)]; exact a14, fun t ht k hk => lawR_cg (fun _ _ _ => rfl) h4.symm (a15 t ht k hk)⟩
/-- the model after a draw -/
def drN (N : ev_Mem) (y : Nat) : ev_Mem := rowM N 1 (upd (N.1 1) 11 (nI y))
theorem drN_1 {y i : Nat} (hi : i ≠ 11) : (drN N y).1 1 i = N.1 1 i := by unfold drN; rw [rowM_s, upd_ne hi]
theorem drN_e {y : Nat} : (drN N y).1 1 11 = nI y := by unfold drN; rw [rowM_s, upd_eq]
theorem drN_k {y k : Nat} (hk : k ≠ 1) : (drN N y).1 k = N.1 k := rowM_n hk
theorem RQ_dr {q y : Nat} (h : RQ B q M N) (hq : q ≤ 2) (hy : y ≤ 30516) : RQ B q (ev_wr M 43 4 (nI y)) (drN N y) := by
  refine RQ_of h.1 (Nat.le_refl _) hq ?_ (fun c c1 c2 => wr_cell (by omega)) (fun i i1 i2 => drN_1 (by omega)) (fun c c1 c2 => drN_k c2)
  rw [wr_row, wr_cell (by omega), wr_cell (by omega), wr_cell (by omega)]
  unfold drN
  rw [rowM_s]
  exact mq_draw h.2 hy
theorem me_dr {Na : ev_Mem} {y : Nat} (hm : pe N Na) : pe (drN N y) (ev_wr Na 1 11 (nI y)) := by
  rw [wr_rM]
  exact mn_row hm (by rw [hm.r1])
/-- the model after a key has gone -/
def goN (N : ev_Mem) (l wn : Nat) : ev_Mem := rowM N 1 (noA (upd (N.1 1) 9 (N.1 1 9 ||| (1 <<< (nI l &&& 31)))) wn (((nI l * 4) + 2) * 10000 + N.1 1 (13 + l)))
theorem kX11_goes {l wn : Nat} (hl : l < 26) (hwn : wn ≤ 30) (h12 : N.1 1 12 = nI wn) : Cl LM (d + 1) mX11_goes [.ref 0, .int (nI l)] N (fun r N2 => r = none ∧ N2 = goN N l wn) := by
  refine Cl_of rfl (Nat.le_of_ble_eq_true rfl) rfl (gX11_goes_0 fun M1 e1 => ?_)
  rw [wr_rM] at e1
  rw [show (13 : Int32) + nI l = nI (13 + l) from nI_add 13 l, nI_clamp (by omega)]
  refine ⟨vp_in_nI (by omega) (by omega), _, kX11_note (d := d) (wn := wn) hwn (by rw [e1, rowM_s, upd_ne (by omega)]; exact h12), fun zr N2 q => ?_⟩
  rw [q.1]
  refine gX11_goes_28 ⟨rfl, ?_⟩
  rw [q.2, e1, rowM_s, upd_ne (by omega)]
  unfold goN
  refine Prod.ext (funext fun a => funext fun b => ?_) rfl
  by_cases z : a = 1
  · subst z; rw [rowM_s, rowM_s]
  · rw [rowM_n z, rowM_n z, rowM_n z]
theorem st_wear {B0 : Nat} {M0 : ev_Mem} (hB0 : B0 < 2 ^ 29) (h0 : RQ B0 1 M0 N) : ∃ N5, (∃ M1, RQ (B0 + 1) 2 M1 N5) ∧ (N5.1 1 8 = N.1 1 8 ∧ N5.1 1 2 = N.1 1 2 ∧ N5.1 4 = N.1 4) ∧
    (∀ d Na Q, pe N Na → (∀ Nb, pe N5 Nb → Q none (ev_wr Nb 1 8 (Nb.1 1 8 + 1))) → ∀ v1 : Int32, v1 = (Na.1 1 11) - (Na.1 1 11) / 26 * 26 → (∃ Q2, Cl LM (d + 9) mX11_anew [.ref 0] Na Q2 ∧ ∀ zr zM, Q2 zr zM → Ev LM (d + 10) mX11_pass 66 [some (.ref 0), some (.int v1), none, none] (zr.toList ++ []) zM Q)) ∧
    (∀ d B M, B < 2 ^ 29 → RQ B 1 M N → Cl LX (d + 11) mX10_wearSomeKey [.ref 0] M (fun r M2 => r = none ∧ RQ (B + 1) 2 M2 N5)) := by
  obtain ⟨W, S, T, hsd, hS⟩ := RX_ses h0.1
  obtain ⟨k0, e0, lc0, wn, -, -, -, -, -, lcB0, m60, n12, wnl⟩ := kq_ex h0.2
  obtain ⟨n, hn, en⟩ : upto (N.1 1 11) 30516 := (kq_k h0.2).2.2.2.2.2
  have hl : n % 26 < 26 := Nat.mod_lt _ (by omega)
  have ev : nI n - nI n / 26 * 26 = nI (n % 26) := pk_rem (d := 26) (by omega) (by omega) (by omega)
  have d1 := drw_lt (n := n)
  have d2 := drw_lt (n := drw n)
  have x4 : ∀ {B M}, RQ B 1 M N → M.1 43 4 = nI n := fun h => by
    have : _ = N.1 1 11 := (kq_k h.2).2.2.2.2.1
    rw [this, en]
  obtain ⟨l, hl0⟩ : ∃ l, l = n % 26 := ⟨_, rfl⟩
  rw [← hl0] at hl ev
  by_cases hlo : hs (N.1 1 9) (nI l) = true
  · refine ⟨drN N (drw n), ⟨_, RX_up (by omega) (RQ_dr h0 (by omega) d1).1, mq_up (by omega) (by omega) (RQ_dr h0 (by omega) d1).2⟩, ⟨drN_1 (by omega), drN_1 (by omega), drN_k (by omega)⟩, fun d Na Q hm hk v1 e1 => ?_, fun d B M hB h => ?_⟩
    · rw [hm.r1, en, ev] at e1
      rw [e1]
      refine ⟨_, kX11_anew (d := d + 9) hn (by rw [hm.r1]; exact en), fun zr N2 q => ?_⟩
      rw [q.1]
      have m2 : pe (drN N (drw n)) N2 := by rw [q.2]; exact me_dr hm
      refine gX11_pass_66 (d := d + 8) ⟨fun _ M1 e1 => by rw [e1]; exact hk N2 m2, fun z => ?_⟩
      rw [m2.r1, drN_1 (by omega)] at z
      exact bb z hlo
    · refine Cl_of rfl (Nat.le_of_ble_eq_true rfl) rfl (gX10_wearSomeKey_0 (d := d + 10) ⟨_, kX9_draw (d := d + 10) (n := n) (b := 26) hn (x4 h) (by omega) (by omega), fun zr M2 q => ?_⟩)
      rw [q.1, q.2, ← hl0]
      have r1 := RQ_dr h (by omega) d1
      refine gX10_wearSomeKey_9 (d := d + 10) ⟨fun z => ?_, fun _ => ⟨rfl, RX_up (by omega) r1.1, mq_up (by omega) (by omega) r1.2⟩⟩
      rw [(RX_lo r1.1).1, drN_1 (by omega)] at z
      exact bb z hlo
  · have hlo : hs (N.1 1 9) (nI l) = false := Bool.not_eq_true _ ▸ hlo
    have w4 : weN (drN (drN N (drw n)) (drw (drw n))) l = weN N l := weN_c (fun i _ _ i3 _ => by rw [drN_1 i3, drN_1 i3]) (by rw [drN_k (by omega), drN_k (by omega)])
    have e10 : nI (drw n) - nI (drw n) / 10 * 10 = nI (drw n % 10) := pk_rem (d := 10) (by omega) (by omega) (by omega)
    have sd3 : ∀ Na, pe (drN N (drw n)) Na → sdR M0 Na W T (M0.1 43 0) := fun Na hm => sdR_n2 hsd (fun i _ _ i3 _ _ => by rw [hm.r1, drN_1 i3]) (by rw [hm.r4, drN_k (by omega)])
    have w3 : ∀ Na, pe (drN N (drw n)) Na → weN Na l = weN N l := fun Na hm => weN_c (fun i _ _ i3 _ => by rw [hm.r1, drN_1 i3]) (by rw [hm.r4, drN_k (by omega)])
    have mw : ∀ d Na, pe (drN N (drw n)) Na → Cl LM (d + 4) mX11_wearsOf [.ref 0, .int (nI l)] Na (fun r N2 => r = some (.int (weN N l)) ∧ pe (drN N (drw n)) N2) := fun d Na hm => by
      have s3 := sd3 Na hm
      refine Cl.mono (kX11_wearsOf (d := d) (N := Na) hl (sd_lawI s3 (by omega)) (sd_okU s3).2.1 ⟨upto_mono s3.da.2 (by omega), by rw [s3.lo]; exact upto_mono (bc_up s3.lu) (by omega)⟩) (fun r N2 q => ⟨by rw [q.1, w3 Na hm], hm.tr (me_pe (me_n q.2))⟩)
    have xw : ∀ d B M, RQ B 1 M N → Cl LX (d + 2) mX1_wearOdds [.ref 83, tv ((ev_wr (ev_wr M 43 4 (nI (drw n))) 43 4 (nI (drw (drw n)))).1 47 3), .int (nI l), .int ((ev_wr (ev_wr M 43 4 (nI (drw n))) 43 4 (nI (drw (drw n)))).1 43 0)] (ev_wr (ev_wr M 43 4 (nI (drw n))) 43 4 (nI (drw (drw n)))) (fun r M2 => r = some (.int (weN N l)) ∧ lfr (ev_wr (ev_wr M 43 4 (nI (drw n))) 43 4 (nI (drw (drw n)))) M2) := fun d B M h => by
      have r2 := RQ_dr (RQ_dr h (by omega) d1) (by omega) d2
      obtain ⟨W2, S2, T2, q1, q2⟩ := RX_ses r2.1
      refine Cl.mono (wearV (d := d) q1 hl) (fun r M2 q => ⟨by rw [q.1, w4], q.2⟩)
    have xk : ∀ d B M, RQ B 1 M N → ∀ Q, (∀ M2, lfr (ev_wr (ev_wr M 43 4 (nI (drw n))) 43 4 (nI (drw (drw n)))) M2 → Ev LX (d + 11) mX10_wearSomeKey 53 [some (.ref 0), some (.int (nI l))] [.int (weN N l), .int (nI (drw n % 10))] M2 Q) → Ev LX (d + 11) mX10_wearSomeKey 0 [some (.ref 0), none] [] M Q := fun d B M h Q hk => by
      refine gX10_wearSomeKey_0 (d := d + 10) ⟨_, kX9_draw (d := d + 10) (n := n) (b := 26) hn (x4 h) (by omega) (by omega), fun zr M2 q => ?_⟩
      rw [q.1, q.2, ← hl0]
      have r1 := RQ_dr h (by omega) d1
      refine gX10_wearSomeKey_9 (d := d + 10) ⟨fun _ => ⟨_, kX9_draw (d := d + 10) (n := drw n) (b := 10) d1 wr_same (by omega) (by omega), fun zr M3 q3 => ?_⟩, fun z => ?_⟩
      · rw [q3.1, q3.2]
        have r2 := RQ_dr r1 (by omega) d2
        obtain ⟨W2, S2, T2, q1, q2⟩ := RX_ses r2.1
        refine gX10_wearSomeKey_34 (d := d + 9) ⟨sd_okT q1, _, xw (d + 8) B M h, fun zr M4 q4 => ?_⟩
        rw [q4.1]
        exact hk M4 q4.2
      · rw [(RX_lo r1.1).1, drN_1 (by omega)] at z
        exact bb z hlo
    have mk : ∀ d Na Q, pe N Na → (∀ Nb, pe (drN N (drw n)) Nb → Ev LM (d + 10) mX11_pass 79 [some (.ref 0), some (.int (nI l)), none, none] [.int (weN N l)] Nb Q) → ∀ v1 : Int32, v1 = (Na.1 1 11) - (Na.1 1 11) / 26 * 26 → (∃ Q2, Cl LM (d + 9) mX11_anew [.ref 0] Na Q2 ∧ ∀ zr zM, Q2 zr zM → Ev LM (d + 10) mX11_pass 66 [some (.ref 0), some (.int v1), none, none] (zr.toList ++ []) zM Q) := fun d Na Q hm hk v1 e1 => by
      rw [hm.r1, en, ev] at e1
      rw [e1]
      refine ⟨_, kX11_anew (d := d + 9) hn (by rw [hm.r1]; exact en), fun zr N2 q => ?_⟩
      rw [q.1]
      have m2 : pe (drN N (drw n)) N2 := by rw [q.2]; exact me_dr hm
      refine gX11_pass_66 (d := d + 8) ⟨fun z => ?_, fun _ => ⟨_, mw (d + 5) N2 m2, fun zr N3 q3 => ?_⟩⟩
      · rw [m2.r1, drN_1 (by omega)] at z
        exact bb z hlo
      · rw [q3.1]
        exact hk N3 q3.2
    by_cases go : weN N l ≤ nI (drw n % 10)
    · have r2 := RQ_dr (RQ_dr h0 (by omega) d1) (by omega) d2
      refine ⟨drN (drN N (drw n)) (drw (drw n)), ⟨_, RX_up (by omega) r2.1, mq_up (by omega) (by omega) r2.2⟩, ⟨by rw [drN_1 (by omega), drN_1 (by omega)], by rw [drN_1 (by omega), drN_1 (by omega)], by rw [drN_k (by omega), drN_k (by omega)]⟩, fun d Na Q hm hk => mk d Na Q hm (fun Nb hb => ?_), fun d B M hB h => ?_⟩
      · have e11 : Nb.1 1 11 = nI (drw n) := by rw [hb.r1, drN_e]
        refine gX11_pass_79 (d := d + 9) ?_
        rw [e11, e10]
        refine ⟨fun _ => ⟨_, kX11_anew (d := d + 9) d1 e11, fun zr N2 q => ?_⟩, fun z => absurd go z⟩
        rw [q.1]
        refine gX11_pass_104 (d := d + 9) ⟨fun _ M1 e1 => ?_, fun z => absurd rfl z⟩
        rw [e1]
        refine hk N2 ?_
        rw [q.2]; exact me_dr hb
      · refine Cl_of rfl (Nat.le_of_ble_eq_true rfl) rfl (xk d B M h _ (fun M2 hf => gX10_wearSomeKey_53 (d := d + 10) ⟨fun _ => ⟨rfl, ?_⟩, fun z => absurd go z⟩))
        have r2 := RQ_dr (RQ_dr h (by omega) d1) (by omega) d2
        refine RQ_of r2.1 (by omega) (by omega) ?_ (fun c c1 c2 => hf.1 c (by omega)) (fun i _ _ => rfl) (fun c _ _ => rfl)
        rw [hf.1 43 (by omega), hf.1 44 (by omega), hf.1 45 (by omega), hf.1 46 (by omega)]
        exact mq_up (by omega) (by omega) r2.2
    · have uL : upto (N.1 1 (13 + l)) 9999 := (hsd.us l hl).2
      obtain ⟨ul, hul, eul⟩ := uL
      have eU : (drN (drN N (drw n)) (drw (drw n))).1 1 (13 + l) = nI ul := by rw [drN_1 (by omega), drN_1 (by omega), eul]
      have e12 : (drN (drN N (drw n)) (drw (drw n))).1 1 12 = nI wn := by rw [drN_1 (by omega), drN_1 (by omega), n12]
      have evv : ((nI l * 4) + 2) * 10000 + nI ul = nI ((l * 4 + 2) * 10000 + ul) := by rw [show (4 : Int32) = nI 4 from rfl, pk_mul, show (2 : Int32) = nI 2 from rfl, nI_add, show (10000 : Int32) = nI 10000 from rfl, pk_mul, nI_add]
      refine ⟨goN (drN (drN N (drw n)) (drw (drw n))) l wn, ?_, ?_, fun d Na Q hm hk => mk d Na Q hm (fun Nb hb => ?_), fun d B M hB h => ?_⟩
      · have r2 := RQ_dr (RQ_dr h0 (by omega) d1) (by omega) d2
        have m6 : (ev_wr (ev_wr M0 43 4 (nI (drw n))) 43 4 (nI (drw (drw n)))).1 43 6 = nI lc0 := by rw [wr_ne (by omega), wr_ne (by omega)]; exact m60
        obtain ⟨m2, R2, ho⟩ := nt_ex (upd ((ev_wr (ev_wr M0 43 4 (nI (drw n))) 43 4 (nI (drw (drw n)))).1 43) 0 ((ev_wr (ev_wr M0 43 4 (nI (drw n))) 43 4 (nI (drw (drw n)))).1 43 0 ||| (1 <<< (nI l &&& 31)))) ((ev_wr (ev_wr M0 43 4 (nI (drw n))) 43 4 (nI (drw (drw n)))).1 45) lc0 (nI l) 2 (nI ul)
        unfold goN
        rw [eU]
        exact ⟨_, RQ_ex r2.1 (by omega) (by omega) (mq_note (p := l) (w := 2) (y := ul) (mq_lose r2.2 hl) (by omega) (by omega) (by rw [upd_ne (by omega)]; exact m6) (by omega) (by rw [upd_ne (by omega)]; exact e12) (by omega) (by omega) (by omega) hul rfl rfl rfl evv ho) (fun i i1 i2 => by rw [noA_lo (by omega) (by omega), upd_ne (by omega)])⟩
      · unfold goN
        rw [rowM_s, noA_lo (by omega) (by omega), noA_lo (by omega) (by omega), upd_ne (by omega), upd_ne (by omega), drN_1 (by omega), drN_1 (by omega), drN_1 (by omega), drN_1 (by omega), rowM_n (by omega), drN_k (by omega), drN_k (by omega)]
        exact ⟨rfl, rfl, rfl⟩
      · have e11 : Nb.1 1 11 = nI (drw n) := by rw [hb.r1, drN_e]
        refine gX11_pass_79 (d := d + 9) ?_
        rw [e11, e10]
        refine ⟨fun z => absurd z go, fun _ => ⟨_, kX11_anew (d := d + 9) d1 e11, fun zr N2 q => ?_⟩⟩
        rw [q.1]
        have m4 : pe (drN (drN N (drw n)) (drw (drw n))) N2 := by rw [q.2]; exact me_dr hb
        refine gX11_pass_104 (d := d + 9) ⟨fun z => absurd z (by decide), fun _ => ⟨_, kX11_goes (d := d + 8) (wn := wn) hl (by omega) (by rw [m4.r1]; exact e12), fun zr N3 q3 => ?_⟩⟩
        rw [q3.1]
        refine gX11_pass_113 fun M1 e1 => ?_
        rw [e1]
        refine hk N3 ?_
        rw [q3.2]
        unfold goN
        exact mn_row m4 (by rw [m4.r1])
      · refine Cl_of rfl (Nat.le_of_ble_eq_true rfl) rfl (xk d B M h _ (fun M2 hf => gX10_wearSomeKey_53 (d := d + 10) ⟨fun z => absurd z go, fun _ M3 e3 => ?_⟩))
        have r2 := RQ_dr (RQ_dr h (by omega) d1) (by omega) d2
        obtain ⟨k, e, lc, wn', -, -, -, -, -, hlcB, m6, n12', wnl'⟩ := kq_ex r2.2
        have ew : wn' = wn := (nI_eq (by omega) (by omega)).mp (n12'.symm.trans e12)
        subst ew
        have u44 : M3.1 44 l = nI ul := by
          rw [e3, wr_cell (by omega), hf.1 44 (by omega)]
          have := (kq_k r2.2).1 l hl
          have t : _ = (drN (drN N (drw n)) (drw (drw n))).1 1 (8 + (5 + l)) := this.1
          rw [t, show 8 + (5 + l) = 13 + l by omega, eU]
        rw [nI_clamp (by omega), u44]
        have f43 : M2.1 43 = (ev_wr (ev_wr M 43 4 (nI (drw n))) 43 4 (nI (drw (drw n)))).1 43 := hf.1 43 (by omega)
        refine ⟨vp_in_nI hl (by omega), _, kX9_note (d := d + 10) (M := M3) (lc := lc) (by omega) (by rw [e3, wr_ne (by omega), f43]; exact m6), fun zr M4 q4 => ?_⟩
        rw [q4.1]
        refine gX10_wearSomeKey_89 ⟨rfl, ?_⟩
        have o4 := q4.2.2
        rw [show M3.1 43 = upd ((ev_wr (ev_wr M 43 4 (nI (drw n))) 43 4 (nI (drw (drw n)))).1 43) 0 ((ev_wr (ev_wr M 43 4 (nI (drw n))) 43 4 (nI (drw (drw n)))).1 43 0 ||| (1 <<< (nI l &&& 31))) by rw [e3, wr_row, f43], show M3.1 45 = (ev_wr (ev_wr M 43 4 (nI (drw n))) 43 4 (nI (drw (drw n)))).1 45 by rw [e3, wr_cell (by omega), hf.1 45 (by omega)]] at o4
        have hmq := mq_note (p := l) (w := 2) (y := ul) (mq_lose r2.2 hl) (by omega) (by omega) (by rw [upd_ne (by omega)]; exact m6) (by omega) (by rw [upd_ne (by omega)]; exact e12) (by omega) (by omega) (by omega) hul rfl rfl rfl evv o4
        refine RQ_of r2.1 (by omega) (by omega) ?_ (fun c c1 c2 => by rw [q4.2.1 c (by omega) (by omega), e3, wr_cell (by omega), hf.1 c (by omega)]) (fun i i1 i2 => ?_) (fun c c1 c2 => rowM_n c2)
        · unfold goN
          rw [rowM_s, eU, q4.2.1 44 (by omega) (by omega), q4.2.1 46 (by omega) (by omega), e3, wr_cell (by omega), wr_cell (by omega), hf.1 44 (by omega), hf.1 46 (by omega)]
          exact hmq
        · unfold goN
          rw [rowM_s, noA_lo (by omega) (by omega), upd_ne (by omega)]
end
