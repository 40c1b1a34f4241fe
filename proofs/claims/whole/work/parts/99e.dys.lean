/-! CALL: week: days, one by one -/
section
variable {d B : Nat} {M N : ev_Mem} {W T S s f : Nat} {lo : Int32}
theorem day {B0 dd : Nat} {M0 : ev_Mem} (hB0 : B0 + 2 < 2 ^ 29) (h0 : RX B0 M0 N) (hdd : N.1 1 8 = nI dd) (hd : dd < 9999) : ∃ N6, (∃ M1, RX (B0 + 2) M1 N6) ∧ (N6.1 1 8 = nI (dd + 1) ∧ N6.1 1 2 = N.1 1 2 ∧ N6.1 4 = N.1 4) ∧
    (∀ d Na Q x1 x2, pe N Na → ¬ x1 ≤ x2 → (∀ Nb, pe N6 Nb → Ev LM (d + 11) mX11_arePassed 2 [some (.ref 0), some (.int x1), some (.int (x2 + 1))] [] Nb Q) → Ev LM (d + 11) mX11_arePassed 2 [some (.ref 0), some (.int x1), some (.int x2)] [] Na Q) ∧
    (∀ d B M Q x1 x2, B + 2 < 2 ^ 29 → RX B M N → ¬ x1 ≤ x2 → ¬ 40 ≤ x2 → (∀ Mb, RX (B + 2) Mb N6 → Ev LX (d + 12) mX10_passDays 2 [some (.ref 0), some (.int x1), some (.int (x2 + 1)), none] [] Mb Q) → Ev LX (d + 12) mX10_passDays 2 [some (.ref 0), some (.int x1), some (.int x2), none] [] M Q) := by
  obtain ⟨k, e0, lc0, wn, hk, m90, k4, he0, m80, -, -, -, -⟩ := kq_ex (RX_mr h0)
  obtain ⟨m2, P2, ho⟩ := mk_ex (M0.1 43) (M0.1 44) (M0.1 46) k e0
  have r1 : RQ B0 0 _ (rowM N 1 (keA (N.1 1) k)) := RQ_ex h0 (Nat.le_refl _) (by omega) (mq_keep (RX_mr h0) hk m90 he0 m80 ho) (fun i i1 i2 => keA_lo i1 (by omega))
  obtain ⟨N2, ⟨M2, r2⟩, d2, say1, say2⟩ := st_say (by omega) r1
  obtain ⟨N5, ⟨M5, r5⟩, d5, we1, we2⟩ := st_wear (by omega) r2
  have e8 : N5.1 1 8 = nI dd := by rw [d5.1, d2.1, rowM_s, keA_lo (by omega) (by omega), hdd]
  refine ⟨rowM N5 1 (upd (N5.1 1) 8 (nI (dd + 1))), ⟨_, (RQ_ex r5.1 (by omega) (by omega) (mq_dy (y := dd + 1) r5.2 (by omega)) (fun i i1 i2 => upd_ne (by omega))).1⟩, ⟨by rw [rowM_s, upd_eq], by rw [rowM_s, upd_ne (by omega), d5.2.1, d2.2.1, rowM_s, keA_lo (by omega) (by omega)], by rw [rowM_n (by omega), d5.2.2, d2.2.2, rowM_n (by omega)]⟩, fun d Na Q x1 x2 hm hx hk2 => ?_, fun d B M Q x1 x2 hB h hx h40 hk2 => ?_⟩
  · refine gX11_arePassed_2 (d := d + 10) ⟨fun z => absurd z hx, fun _ => ⟨fun _ => ⟨_, kX11_keep (d := d + 10) hk (by rw [hm.r1]; exact k4), fun zr Nb q => ?_⟩, fun z => ?_⟩⟩
    · rw [q.1]
      have mb : pe (rowM N 1 (keA (N.1 1) k)) Nb := by rw [q.2]; exact mn_row hm (by rw [hm.r1])
      refine gX11_arePassed_26 (d := d + 10) ⟨fun r N2 => r = none ∧ pe (rowM N5 1 (upd (N5.1 1) 8 (nI (dd + 1)))) N2, Cl_of rfl (Nat.le_of_ble_eq_true rfl) rfl (say1 d Nb _ mb (fun Nc hc => we1 d Nc _ hc (fun Ne he => ⟨rfl, ?_⟩))), fun zr Nc q2 => ?_⟩
      · rw [wr_rM, he.r1, e8, nI_1]
        exact mn_row he rfl
      · rw [q2.1]
        exact gX11_arePassed_30 (hk2 Nc q2.2)
    · rw [hm.r1, hdd] at z
      exact absurd ((nI_eq (b := 9999) (by omega) (by omega)).mp z) (by omega)
  · obtain ⟨k', e, lc, wn', hk', m9, k4', he, m8, -, -, -, -⟩ := kq_ex (RX_mr h)
    have ek : k' = k := (nI_eq (by omega) (by omega)).mp (k4'.symm.trans k4)
    subst ek
    have day3 : M.1 43 3 = nI dd := by
      have : _ = N.1 1 8 := (kq_k (RX_mr h)).2.2.2.1.1
      rw [this, hdd]
    refine gX10_passDays_2 (d := d + 11) ⟨fun z => absurd z hx, fun _ => ⟨fun z => absurd z h40, fun _ => ⟨fun _ => ⟨_, kX9_markStep (d := d + 10) hk' m9 he m8, fun zr M2 q => ?_⟩, fun z => absurd ?_ z⟩⟩⟩
    · rw [q.1]
      have rq : RQ B 0 M2 (rowM N 1 (keA (N.1 1) k')) := by
        refine RQ_of h (Nat.le_refl _) (by omega) ?_ (fun c c1 c2 => q.2.1 c (by omega) (by omega)) (fun i i1 i2 => by rw [rowM_s, keA_lo i1 (by omega)]) (fun c c1 c2 => rowM_n c2)
        rw [rowM_s, q.2.1 44 (by omega) (by omega), q.2.1 45 (by omega) (by omega)]
        exact mq_keep (RX_mr h) hk' m9 he m8 q.2.2
      refine say2 d B M2 Q x1 x2 (by omega) rq (fun Mb hb => ⟨_, we2 d (B + 1) Mb (by omega) hb, fun zr Mc qc => ?_⟩)
      rw [qc.1]
      refine gX10_passDays_104 fun Md ed => hk2 Md ?_
      have rc := qc.2
      have day4 : Mc.1 43 3 = nI dd := by
        have : _ = N5.1 1 8 := (kq_k rc.2).2.2.2.1.1
        rw [this, e8]
      rw [day4, nI_1] at ed
      refine RX_mc (q := 2) rc.1 (by omega) (by omega) ?_ (fun c c1 c2 => by rw [ed, wr_cell (by omega)]) (fun i i1 i2 => by rw [rowM_s, upd_ne (by omega)]) (fun c c1 c2 => rowM_n c2)
      rw [rowM_s, ed, wr_row, wr_cell (by omega), wr_cell (by omega), wr_cell (by omega)]
      exact mq_dy rc.2 (by omega)
    · rw [day3]; exact nI_lt (b := 9999) hd (by omega)
theorem days {n : Nat} (hn : n ≤ 40) : ∀ j i, i + j = n → ∀ N B0 M0, B0 + 2 * j < 2 ^ 29 → RX B0 M0 N → ∃ (g : Bool) (N1 : ev_Mem), (∃ M1, RX (B0 + 2 * j) M1 N1) ∧ (N1.1 1 2 = N.1 1 2 ∧ N1.1 4 = N.1 4) ∧ (∀ dd, N.1 1 8 = nI dd → dd ≤ 9999 → dd + j ≤ 9999 → g = true) ∧
    (∀ d Na, pe N Na → Ev LM (d + 11) mX11_arePassed 2 [some (.ref 0), some (.int (nI n)), some (.int (nI i))] [] Na (fun r N2 => r = some (.int (bi g)) ∧ pe N1 N2)) ∧
    (∀ d B M, B + 2 * j < 2 ^ 29 → RX B M N → Ev LX (d + 12) mX10_passDays 2 [some (.ref 0), some (.int (nI n)), some (.int (nI i)), none] [] M (fun r M2 => r = some (.int (bi g)) ∧ RX (B + 2 * j) M2 (if g = true then N1 else rfs N1 3 2)))
  | 0, i, e, N, B0, M0, hB, h0 => by
    refine ⟨true, N, ⟨M0, h0⟩, ⟨rfl, rfl⟩, fun _ _ _ _ => rfl, fun d Na hm => ?_, fun d B M hB h => ?_⟩
    · exact gX11_arePassed_2 (d := d + 10) ⟨fun _ => ⟨rfl, hm⟩, fun z => absurd (nI_le (by omega) (by omega)) z⟩
    · exact gX10_passDays_2 (d := d + 11) ⟨fun _ => ⟨rfl, h⟩, fun z => absurd (nI_le (by omega) (by omega)) z⟩
  | j + 1, i, e, N, B0, M0, hB, h0 => by
    obtain ⟨dd, hdd, edd⟩ : upto (N.1 1 8) 9999 := (kq_k (RX_mr h0)).2.2.2.1.2
    have hni : ¬ nI n ≤ nI i := nI_ge (by omega) (by omega)
    have h40 : ¬ (40 : Int32) ≤ nI i := nI_ge (b := 40) (by omega) (by omega)
    by_cases z9 : dd = 9999
    · subst z9
      refine ⟨false, N, ⟨M0, RX_up (by omega) h0⟩, ⟨rfl, rfl⟩, fun dd2 e2 h2 h3 => ?_, fun d Na hm => ?_, fun d B M hB h => ?_⟩
      · have := (nI_eq (by omega) (by omega)).mp (e2.symm.trans edd)
        omega
      · exact gX11_arePassed_2 (d := d + 10) ⟨fun z => absurd z hni, fun _ => ⟨fun z => absurd (by rw [hm.r1]; exact edd) z, fun _ => ⟨rfl, hm⟩⟩⟩
      · have day3 : M.1 43 3 = nI 9999 := by
          have : _ = N.1 1 8 := (kq_k (RX_mr h)).2.2.2.1.1
          rw [this, edd]
        refine gX10_passDays_2 (d := d + 11) ⟨fun z => absurd z hni, fun _ => ⟨fun z => absurd z h40, fun _ => ⟨fun z => ?_, fun _ => ⟨v23, fun M1 e1 => ⟨rfl, ?_⟩⟩⟩⟩⟩
        · rw [day3] at z; exact absurd z (by decide)
        · rw [e1, c2]
          exact RX_up (by omega) (RX_rfs (by omega) h)
    · obtain ⟨N6, ⟨M1, r6⟩, e6, p1, p2⟩ := day (by omega) h0 edd (by omega)
      obtain ⟨g, N1, ⟨M2, rr⟩, qq, q1, q2, q3⟩ := days hn j (i + 1) (by omega) N6 (B0 + 2) M1 (by omega) r6
      refine ⟨g, N1, ⟨M2, by rw [show B0 + 2 * (j + 1) = B0 + 2 + 2 * j by omega]; exact rr⟩, ⟨by rw [qq.1, e6.2.1], by rw [qq.2, e6.2.2]⟩, fun dd2 e2 h2 h3 => ?_, fun d Na hm => ?_, fun d B M hB h => ?_⟩
      · have := (nI_eq (by omega) (by omega)).mp (e2.symm.trans edd)
        exact q1 (dd + 1) e6.1 (by omega) (by omega)
      · refine p1 d Na _ _ _ hm hni (fun Nb hb => ?_)
        rw [nI_1]; exact q2 d Nb hb
      · refine p2 d B M _ _ _ (by omega) h hni h40 (fun Mb hb => ?_)
        rw [nI_1, show B + 2 * (j + 1) = B + 2 + 2 * j by omega]
        exact q3 d (B + 2) Mb (by omega) hb
theorem u_week {B0 : Nat} {M0 : ev_Mem} (hB0 : B0 + 80 < 2 ^ 29) (h0 : RX B0 M0 N) (x : Int32) : OU (d + 20) mX10_week mX11_week [.int x] [.int x] N := by
  obtain ⟨dd, hdd, edd⟩ : upto (N.1 1 8) 9999 := (kq_k (RX_mr h0)).2.2.2.1.2
  have day3 : ∀ {B M}, RX B M N → M.1 43 3 = nI dd := fun h => by
    have : _ = N.1 1 8 := (kq_k (RX_mr h)).2.2.2.1.1
    rw [this, edd]
  by_cases hx : iin x 1 40 = true
  · obtain ⟨n, hn0, hn, rfl⟩ : ∃ n, 1 ≤ n ∧ n ≤ 40 ∧ x = nI n := by
      obtain ⟨h1, h2⟩ := iin_t.mp hx
      obtain ⟨j, hj, e⟩ := nI_of (x := x) (fun z => by rw [I_le] at h1; rw [I_lt] at z; exact absurd z (by rw [I_0]; rw [show (1 : Int32).toInt = 1 from rfl] at h1; omega))
      subst e
      exact ⟨j, (nI_leI (a := 1) (by omega) hj).mp h1, (nI_leI (b := 40) hj (by omega)).mp h2, rfl⟩
    have n1 : ¬ nI n < 1 := nI_nlt (b := 1) hn0 (by omega)
    have n2 : nI n ≤ 40 := nI_le (b := 40) hn (by omega)
    by_cases hs : dd + n ≤ 9999
    · have hle : nI dd + nI n ≤ 9999 := by rw [nI_add]; exact nI_le (b := 9999) hs (by omega)
      obtain ⟨g, N1, ⟨M1, r1⟩, qq, q1, q2, q3⟩ := days hn n 0 (by omega) N B0 M0 (by omega) h0
      have gt := q1 dd edd hdd hs
      subst gt
      refine ⟨some (.int (bc (N1.1 1 9))), vok _, N1, ?_, fun B M hB h => ?_⟩
      · refine Cl_of rfl (Nat.le_of_ble_eq_true rfl) rfl (gX11_week_0 (d := d + 19) ⟨fun _ => ?_, fun z => bb z hx⟩)
        rw [edd]
        refine ⟨fun _ => ⟨_, Cl_of rfl (Nat.le_of_ble_eq_true rfl) rfl (gX11_arePassed_0 (q2 (d + 8) N pe.rf)), fun zr N2 q => ?_⟩, fun z => absurd hle z⟩
        rw [q.1]
        exact gX11_week_42 (d := d + 19) ⟨by rw [q.2.r1], q.2⟩
      · refine Cl_of rfl (Nat.le_of_ble_eq_true rfl) rfl (gX10_week_0 (d := d + 19) ⟨fun z => absurd z n1, fun _ => ⟨fun _ => ?_, fun z => absurd n2 z⟩⟩)
        rw [day3 h]
        refine ⟨fun _ => ⟨_, Cl_of rfl (Nat.le_of_ble_eq_true rfl) rfl (gX10_passDays_0 (q3 (d + 7) B M (by omega) h)), fun zr M2 q => ?_⟩, fun z => absurd hle z⟩
        rw [q.1]
        have r2 : RX (B + 2 * n) M2 N1 := q.2
        exact gX10_week_43 (d := d + 19) ⟨by rw [(RX_lo r2).1], RX_up (by omega) r2⟩
    · have hle : ¬ nI dd + nI n ≤ 9999 := by rw [nI_add]; exact nI_ge (a := 9999) (by omega) (by omega)
      refine ou_rf (r := 2) (v := some (.int (-1))) (by omega) ?_ (fun B M h => ?_)
      · refine Cl_of rfl (Nat.le_of_ble_eq_true rfl) rfl (gX11_week_0 (d := d + 19) ⟨fun _ => ?_, fun z => bb z hx⟩)
        rw [edd]
        exact ⟨fun z => absurd z hle, fun _ => ⟨v23, fun M4 e4 => ⟨rfl, by rw [e4, c2]; exact pe.rf⟩⟩⟩
      · refine Cl_of rfl (Nat.le_of_ble_eq_true rfl) rfl (gX10_week_0 (d := d + 19) ⟨fun z => absurd z n1, fun _ => ⟨fun _ => ?_, fun z => absurd n2 z⟩⟩)
        rw [day3 h]
        exact ⟨fun z => absurd z hle, fun _ => ⟨v23, fun M4 e4 => ⟨rfl, by rw [e4, c2]; exact xq.rf⟩⟩⟩
  · have hx : iin x 1 40 = false := Bool.not_eq_true _ ▸ hx
    refine ou_rf (r := 0) (v := some (.int (-1))) (by omega) ?_ (fun B M h => ?_)
    · exact Cl_of rfl (Nat.le_of_ble_eq_true rfl) rfl (gX11_week_0 (d := d + 19) ⟨fun z => bb z hx, fun _ => ⟨v03, fun M4 e4 => ⟨rfl, by rw [e4, c0]; exact pe.rf⟩⟩⟩)
    · have fin : ∀ M1, M1 = rfs M 117 (0 : Int32).toNatClampNeg → (some (Value.int (-1)) = some (Value.int (-1)) ∧ xq (rfs M 117 0) M1) := fun M1 e1 => ⟨rfl, by rw [e1, c0]; exact xq.rf⟩
      refine Cl_of rfl (Nat.le_of_ble_eq_true rfl) rfl (gX10_week_0 (d := d + 19) ⟨fun _ => ⟨v03, fin⟩, fun z1 => ⟨fun z2 => ?_, fun _ => ⟨v03, fin⟩⟩⟩)
      exact absurd (iin_t.mpr ⟨I_nlt.mp z1, z2⟩) (by rw [hx]; decide)
theorem op_week (hB : B < 2 ^ 28) (h : RX B M N) (x : Int32) : OP 200 mX10_week mX11_week [.int x] B M N := OU.op hB h (u_week (d := 180) (by omega) h x)
end
