/-! what a script's clauses do: writing, days; a clause played -/
section
variable {d B : Nat} {M N : ev_Mem} {W T S s f : Nat} {lo : Int32}
theorem v_write {B0 : Nat} {M0 : ev_Mem} (hB0 : B0 < 2 ^ 28) (h0 : RX B0 M0 N) (x : Int32) : ∃ (v : Int32) (N1 : ev_Mem), (v = -1 ∨ ¬ v < 0) ∧ (∃ M1, RX (B0 + 80) M1 N1) ∧ (N1.1 1 2 = N.1 1 2 ∧ N1.1 4 = N.1 4) ∧ (∀ d Na, pe N Na → Cl LM (d + 20) mX11_write [.ref 0, .int x] Na (fun r N2 => r = some (.int v) ∧ pe N1 N2)) ∧ ∀ d B M, B < 2 ^ 28 → RX B M N → Cl LX (d + 20) mX10_write [.ref 0, .int x] M (fun r M2 => r = some (.int v) ∧ RX (B + 80) M2 N1) := by
  obtain ⟨k, e0, lc0, wn, hk, m90, k4, he0, m80, lcB0, m60, n12, wnl⟩ := kq_ex (RX_mr h0)
  obtain ⟨W, S, T, hsd, hS⟩ := RX_ses h0
  have S8 := hS.1
  have ses : ∀ B M, RX B M N → ∃ W2 T2, sdR M N W2 T2 (M.1 43 0) ∧ senR M N S := fun B M h => by
    obtain ⟨W2, S2, T2, r1, r2⟩ := RX_ses h
    have := sen_S hS r2
    subst this
    exact ⟨W2, T2, r1, r2⟩
  have rf : ∀ r : Nat, r < 3 → (∀ d Na, pe N Na → Cl LM (d + 20) mX11_write [.ref 0, .int x] Na (fun z N2 => z = some (.int (-1)) ∧ pe (rfs Na 3 r) N2)) → (∀ d B M, RX B M N → Cl LX (d + 20) mX10_write [.ref 0, .int x] M (fun z M2 => z = some (.int (-1)) ∧ xq (rfs M 117 r) M2)) → ∃ (v : Int32) (N1 : ev_Mem), (v = -1 ∨ ¬ v < 0) ∧ (∃ M1, RX (B0 + 80) M1 N1) ∧ (N1.1 1 2 = N.1 1 2 ∧ N1.1 4 = N.1 4) ∧ (∀ d Na, pe N Na → Cl LM (d + 20) mX11_write [.ref 0, .int x] Na (fun r N2 => r = some (.int v) ∧ pe N1 N2)) ∧ ∀ d B M, B < 2 ^ 28 → RX B M N → Cl LX (d + 20) mX10_write [.ref 0, .int x] M (fun r M2 => r = some (.int v) ∧ RX (B + 80) M2 N1) := fun r hr hm hx =>
    ⟨-1, rfs N 3 r, Or.inl rfl, ⟨_, RX_up (by omega) (RX_rfs hr h0)⟩, ⟨by rw [rfs_cell (by omega)], rfs_cell (by omega)⟩, fun d Na hp => Cl.mono (hm d Na hp) (fun z N2 q => ⟨q.1, (pe_rfs hp).tr q.2⟩), fun d B M _ h => Cl.mono (hx d B M h) (fun z M2 q => ⟨q.1, RX_up (by omega) (RX_xq q.2 (RX_rfs hr h))⟩)⟩
  by_cases hx : ∃ s, s < S ∧ x = nI s
  · obtain ⟨s, hs, rfl⟩ := hx
    obtain ⟨n1, n5, nn, -⟩ := sen_n hS hs
    have it : iin (nI s) 0 (N.1 1 1 - 1) = true := sen_t hS ⟨s, hs, rfl⟩
    cases hb : bN N s with
    | none =>
      refine rf 2 (by omega) (fun d Na hp => ?_) (fun d B M h => ?_)
      · refine Cl_of rfl (Nat.le_of_ble_eq_true rfl) rfl (gX11_write_0 (d := d + 18) ⟨fun _ => ⟨_, saidA (d := d + 13) hsd hS hs hp, fun zr N2 q => ?_⟩, fun z => by rw [hp.r1] at z; exact bb z it⟩)
        rcases q.2 with ⟨-, e⟩ | ⟨f, hf, -⟩
        · rw [e]
          refine gX11_write_19 (d := d + 19) ⟨fun z => absurd rfl z, fun _ => ⟨v23, fun N3 e3 => ⟨rfl, ?_⟩⟩⟩
          rw [e3, c2]
          exact pe_rfs (hp.sy.tr q.1)
        · rw [hb] at hf; cases hf
      · obtain ⟨W2, T2, r1, r2⟩ := ses B M h
        refine Cl_of rfl (Nat.le_of_ble_eq_true rfl) rfl (gX10_write_0 (d := d + 19) ⟨okS_of r2, fun _ => ⟨_, hearN (d := d + 14) r1, fun zr M1 q => ?_⟩, fun z => ?_⟩)
        · rw [q.1]
          refine gX10_write_21 (d := d + 19) ⟨_, speakH (d := d + 15) r1 r2 hs (fun k hk => q.2.1.1 k (by omega)) q.2.2, fun zr M2 q2 => ?_⟩
          rcases q2.2.2 with ⟨-, e⟩ | ⟨f, hf, -⟩
          · rw [e]
            refine gX10_write_29 (d := d + 19) ⟨fun z => absurd rfl z, fun _ => ⟨v23, fun M3 e3 => ⟨rfl, ?_⟩⟩⟩
            rw [e3, c2]
            have x1 := xq_q ((qfr_u q.2.1).tr (qfr_o q2.1))
            refine ⟨fun k hk => ?_, fun j hj => ?_, fun k k1 k2 => ?_⟩
            · rw [rfs_cell (by omega), rfs_cell (by omega), x1.1 k hk]
            · rw [rfs_cell (by omega), rfs_cell (by omega), x1.2.1 j hj]
            · by_cases z : k = 117
              · subst z
                unfold rfs
                rw [x1.2.2 117 (by omega) (by omega)]
                split
                · rw [x1.2.2 117 (by omega) (by omega)]
                · rw [wr_row, wr_row, x1.2.2 117 (by omega) (by omega)]
              · rw [rfs_cell z, rfs_cell z, x1.2.2 k k1 k2]
          · rw [hb] at hf; cases hf
        · rw [r2.2.1, ← hS.2.2.1] at z; exact bb z it
    | some f =>
      refine ⟨nI (cN N s (lnN N s - 1) f), rowM N 1 (wrA N s f wn (nI (cN N s (lnN N s - 1) f)) (keA (N.1 1) k)), Or.inr (nI_pos (by have := cN_le hb n5; omega)), ?_, ⟨by rw [rowM_s, wrA_n (by omega) (by omega), keA_lo (by omega) (by omega)], rowM_n (by omega)⟩, fun d Na hp => ?_, fun d B M hB h => ?_⟩
      · obtain ⟨m2, P2, ho⟩ := mk_ex (M0.1 43) (M0.1 44) (M0.1 46) k e0
        have hm := mq_keep (RX_mr h0) hk m90 he0 m80 ho
        have m6' : m2 6 = nI lc0 := by rw [ho.1 6 (by omega) (by omega)]; exact m60
        obtain ⟨m3, R3, ho2⟩ := nt_ex (upd m2 2 (imin 9999 (m2 2 + scl N s f))) (M0.1 45) lc0 (nI s) 0 (nI (cN N s (lnN N s - 1) f))
        exact ⟨_, (RQ_ex h0 (by omega) (by omega) (mq_up (B2 := B0 + 80) (q2 := 1) (by omega) (by omega) (mq_write hm (by omega) (by omega) m6' (by omega) (by rw [keA_lo (by omega) (by omega)]; exact n12) (by omega) (by omega) (scl_up hsd hS hs hb) n5 (sd_kp hsd hb) hb rfl rfl ho2)) (fun i i1 i2 => by rw [wrA_n (by omega) (by omega), keA_lo i1 (by omega)])).1⟩
      · refine Cl_of rfl (Nat.le_of_ble_eq_true rfl) rfl (gX11_write_0 (d := d + 18) ⟨fun _ => ⟨_, saidA (d := d + 13) hsd hS hs hp, fun zr N2 q => ?_⟩, fun z => by rw [hp.r1] at z; exact bb z it⟩)
        rcases q.2 with ⟨hf, -⟩ | ⟨f2, hf, e, hc⟩
        · rw [hb] at hf; cases hf
        · rw [hb] at hf
          cases hf
          rw [e]
          have q1 := q.1.r1
          refine gX11_write_19 (d := d + 19) ⟨fun _ => ⟨_, kX11_keep (d := d + 19) hk (by rw [q1]; exact k4), fun zr N3 q3 => ?_⟩, fun z => absurd z (cN_nm (k := 0) hb)⟩
          rw [q3.1, q3.2, q1]
          have ro : (rowM N2 1 (keA (N.1 1) k)).1 1 = keA (N.1 1) k := rowM_s
          refine gX11_write_35 (d := d + 19) ⟨_, kX11_writeNow (d := d + 13) (wn := wn) hsd hS hs hb (fun i hi => by rw [ro, keA_lo (by omega) (by omega)]) (fun p hp => by rw [rowM_n (by omega)]; exact hc p hp) (fun l hl => ?_) (by omega) (by rw [ro, keA_lo (by omega) (by omega)]; exact n12), fun zr N4 q4 => ?_⟩
          · show upto ((rowM N2 1 (keA (N.1 1) k)).1 1 (13 + l)) 9999
            rw [ro, keA_lo (by omega) (by omega)]
            exact (hsd.us l hl).2
          · rw [q4.1, q4.2, ro]
            exact gX11_write_41 ⟨rfl, pe_row q.1 rowM_s (fun c c1 _ => by rw [rowM_n c1, rowM_n c1])⟩
      · obtain ⟨W2, T2, r1, r2⟩ := ses B M h
        obtain ⟨k', e, lc, wn', hk', m9, k4', he, m8, hlcB, m6, n12', wnl'⟩ := kq_ex (RX_mr h)
        have ek : k' = k := (nI_eq (by omega) (by omega)).mp (k4'.symm.trans k4)
        subst ek
        refine Cl_of rfl (Nat.le_of_ble_eq_true rfl) rfl (gX10_write_0 (d := d + 19) ⟨okS_of r2, fun _ => ⟨_, hearN (d := d + 14) r1, fun zr M1 q => ?_⟩, fun z => ?_⟩)
        · rw [q.1]
          refine gX10_write_21 (d := d + 19) ⟨_, speakH (d := d + 15) r1 r2 hs (fun k hk => q.2.1.1 k (by omega)) q.2.2, fun zr M2 q2 => ?_⟩
          have fq := (qfr_u q.2.1).tr (qfr_o q2.1)
          rcases q2.2.2 with ⟨hf, -⟩ | ⟨f2, hf, e2, hsp⟩
          · rw [hb] at hf; cases hf
          · rw [hb] at hf
            cases hf
            rw [e2]
            have f43 : M2.1 43 = M.1 43 := fq.1 43 (by omega)
            refine gX10_write_29 (d := d + 19) ⟨fun _ => ⟨_, kX9_markStep (d := d + 18) (M := M2) (k := k') (e := e) hk' (by rw [f43]; exact m9) he (by rw [f43]; exact m8), fun zr M3 q3 => ?_⟩, fun z => absurd z (by decide)⟩
            rw [q3.1]
            have o3 := q3.2.2
            have hm := mq_keep (RX_mr h) hk' m9 he m8 (m2 := M3.1 43) (P2 := M3.1 46) (by rw [← f43, ← fq.1 44 (by omega), ← fq.1 46 (by omega)]; exact o3)
            have c3 : ∀ c, c < 82 → c ≠ 43 → c ≠ 46 → M3.1 c = M.1 c := fun c h1 h2 h3 => by rw [q3.2.1 c h2 h3, fq.1 c (by omega)]
            have s3 : sdR M3 N W2 T2 (M.1 43 0) := sdR_m r1 (fun k h1 h2 _ h4 => c3 k h1 h2 h4) (by rw [o3.1 3 (by omega) (by omega), f43])
            have n3 : senR M3 N S := senR_cg (fun k hk => c3 k (by omega) (by omega) (by omega)) r2
            have c86 : M3.1 86 = M2.1 86 := q3.2.1 86 (by omega) (by omega)
            have sp3 : spN N M3 s f := by
              unfold spN at hsp ⊢
              rw [c86, q3.2.1 99 (by omega) (by omega)]; exact hsp
            have m63 : M3.1 43 6 = nI lc := by rw [o3.1 6 (by omega) (by omega), f43]; exact m6
            refine gX10_write_45 (d := d + 19) ⟨_, kX10_typeSpoken (d := d + 15) (M := M3) (lc := lc) s3 n3 hs hb (fun _ _ => rfl) (by rw [c86]; exact q2.2.1.1) sp3 (by omega) m63, fun zr M4 q4 => ?_⟩
            rw [q4.1]
            refine gX10_write_50 ⟨by rw [q4.2.1 86 (by omega) (by omega) (by omega), sp3.1], ?_⟩
            have ew : wn' = wn := (nI_eq (by omega) (by omega)).mp (n12'.symm.trans n12)
            subst ew
            have hm2 := mq_write (N := N) (s := s) (f := f) (x := nI (cN N s (lnN N s - 1) f)) (wn := wn') (lc := lc) (m2 := M4.1 43) (u2 := M4.1 44) (R2 := M4.1 45) hm (by omega) (by omega) m63 (by omega) (by rw [keA_lo (by omega) (by omega)]; exact n12) (by omega) (by omega) (scl_up hsd hS hs hb) n5 (sd_kp hsd hb) hb rfl (by rw [q4.2.2.1, c3 44 (by omega) (by omega) (by omega)]) (by rw [← c3 45 (by omega) (by omega) (by omega)]; exact q4.2.2.2)
            refine RX_mc (q := 1) h (by omega) (by omega) ?_ (fun c c1 c2 => ?_) (fun i i1 i2 => ?_) (fun c c1 c2 => rowM_n c2)
            · rw [rowM_s, q4.2.1 46 (by omega) (by omega) (by omega)]
              exact mRq_up (by omega) hm2
            · rw [q4.2.1 c (by omega) (by omega) (by omega), q3.2.1 c (by omega) (by omega), fq.1 c (by omega)]
            · rw [rowM_s, wrA_n (by omega) (by omega), keA_lo i1 (by omega)]
        · rw [r2.2.1, ← hS.2.2.1] at z; exact bb z it
  · have it : iin x 0 (N.1 1 1 - 1) = false := sen_f hS hx
    refine rf 0 (by omega) (fun d Na hp => ?_) (fun d B M h => ?_)
    · exact Cl_of rfl (Nat.le_of_ble_eq_true rfl) rfl (gX11_write_0 (d := d + 18) ⟨fun z => by rw [hp.r1] at z; exact bb z it, fun _ => ⟨v03, fun M4 e4 => ⟨rfl, by rw [e4, c0]; exact pe.rf⟩⟩⟩)
    · obtain ⟨W2, T2, r1, r2⟩ := ses B M h
      refine Cl_of rfl (Nat.le_of_ble_eq_true rfl) rfl (gX10_write_0 (d := d + 19) ⟨okS_of r2, fun z => ?_, fun _ => ⟨v03, fun M4 e4 => ⟨rfl, by rw [e4, c0]; exact xq.rf⟩⟩⟩)
      rw [r2.2.1, ← hS.2.2.1] at z; exact bb z it
/-- days of a script -/
theorem v_days {B0 n : Nat} {M0 : ev_Mem} (hB0 : B0 < 2 ^ 28) (h0 : RX B0 M0 N) (hn : n ≤ 40) : ∃ (g : Bool) (N1 : ev_Mem), (∃ M1, RX (B0 + 80) M1 N1) ∧ (N1.1 1 2 = N.1 1 2 ∧ N1.1 4 = N.1 4) ∧ (∀ d Na, pe N Na → Cl LM (d + 20) mX11_weekOf [.ref 0, .int (nI n)] Na (fun r N2 => r = some (.int (if g = true then 0 else -1)) ∧ pe N1 N2)) ∧ ∀ d B M, B < 2 ^ 28 → RX B M N → Cl LX (d + 20) mX10_passDays [.ref 0, .int (nI n)] M (fun r M2 => r = some (.int (bi g)) ∧ RX (B + 80) M2 N1) := by
  obtain ⟨g, N1, ⟨M1, r1⟩, qq, q1, q2, q3⟩ := days hn n 0 (by omega) N B0 M0 (by omega) h0
  refine ⟨g, if g = true then N1 else rfs N1 3 2, ?_, ?_, fun d Na hp => ?_, fun d B M hB h => ?_⟩
  · cases g with
    | true => exact ⟨M1, RX_up (by omega) r1⟩
    | false => exact ⟨_, RX_up (by omega) (RX_rfs (r := 2) (by omega) r1)⟩
  · cases g with
    | true => exact qq
    | false => exact ⟨by rw [if_neg (by decide), rfs_cell (by omega)]; exact qq.1, by rw [if_neg (by decide), rfs_cell (by omega)]; exact qq.2⟩
  · refine Cl_of rfl (Nat.le_of_ble_eq_true rfl) rfl (gX11_weekOf_0 (d := d + 19) ⟨_, Cl_of rfl (Nat.le_of_ble_eq_true rfl) rfl (gX11_arePassed_0 (q2 (d + 8) Na hp)), fun zr N2 q => ?_⟩)
    rw [q.1]
    cases g with
    | true => exact gX11_weekOf_5 (d := d + 19) ⟨fun z => absurd z (by decide), fun _ => ⟨rfl, q.2⟩⟩
    | false =>
      refine gX11_weekOf_5 (d := d + 19) ⟨fun _ => ⟨v23, fun N3 e3 => ⟨rfl, ?_⟩⟩, fun z => absurd rfl z⟩
      rw [e3, c2]; exact pe_rfs q.2
  · refine Cl.mono (Cl_of rfl (Nat.le_of_ble_eq_true rfl) rfl (gX10_passDays_0 (q3 (d + 8) B M (by omega) h))) (fun r M2 q => ⟨q.1, RX_up (by omega) q.2⟩)
/-- a part of a clause -/
theorem kX8_part {k n st i u : Nat} (hk : ev_isT k) (hn : n < 24) (hst : M.1 (k + 3) n = nI st) (hu : u ≤ 300) (hu2 : M.1 k 1 = nI u) (hi : st + i < u) : Cl LX d mX8_part [.ref k, .int (nI n), .int (nI i)] M (ev_R (some (.int (M.1 (k + 1) (st + i)))) M) := by
  refine Cl_of rfl (Nat.le_of_ble_eq_true rfl) rfl (gX8_part_0 hk ⟨vp_in_nI hn (by omega), fun v e => ?_⟩)
  rw [nI_clamp (by omega), hst, nI_add] at e
  rw [e, hu2]
  refine ⟨fun z => absurd z (nI_pos (by omega)), fun _ => ⟨fun z => absurd z (nI_ge hi (by omega)), fun _ => ⟨vp_in_nI (by omega) (by omega), by rw [nI_clamp (by omega)], rfl⟩⟩⟩
theorem kX8_part0 {k n st u : Nat} (hk : ev_isT k) (hn : n < 24) (hst : M.1 (k + 3) n = nI st) (hs3 : st ≤ 300) (hu : u ≤ 300) (hu2 : M.1 k 1 = nI u) : Cl LX d mX8_part [.ref k, .int (nI n), .int 0] M (fun r M2 => (∃ v : Int32, r = some (.int v) ∧ (st < u → v = M.1 (k + 1) st)) ∧ M2 = M) := by
  refine Cl_of rfl (Nat.le_of_ble_eq_true rfl) rfl (gX8_part_0 hk ⟨vp_in_nI hn (by omega), fun v e => ?_⟩)
  rw [nI_clamp (by omega), hst, show (0 : Int32) = nI 0 from rfl, nI_add, Nat.add_zero] at e
  rw [e, hu2]
  refine ⟨fun z => absurd z (nI_pos (by omega)), fun _ => ⟨fun z => ⟨⟨_, rfl, fun q => absurd z (nI_ge q (by omega))⟩, rfl⟩, fun z => ?_⟩⟩
  have : st < u := by
    rcases Nat.lt_or_ge st u with q | q
    · exact q
    · exact absurd (nI_le q (by omega)) z
  exact ⟨vp_in_nI (by omega) (by omega), ⟨_, rfl, fun _ => by rw [nI_clamp (by omega)]⟩, rfl⟩
end
