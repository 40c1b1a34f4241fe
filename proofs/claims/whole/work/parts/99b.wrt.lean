/-! CALL: write -/
section
variable {d B : Nat} {M N : ev_Mem} {W T S s f : Nat} {lo : Int32}
/-- how things sound stays where steps alone have changed -/
theorem sdR_n {N2 : ev_Mem} (h : sdR M N W T lo) (h1 : ∀ i, i ≠ 4 → i < 525 → N2.1 1 i = N.1 1 i) (h4 : N2.1 4 = N.1 4) : sdR M N2 W T lo := by
  obtain ⟨a1, a2, a3, a4, a5, a6, a7, a8, a9, a10, a11, a12, a13, a14, a15⟩ := h
  refine ⟨a1, a2, by rw [h1 0 (by omega) (by omega)]; exact a3, fun w hw => wRel_cg (by omega) (fun _ _ _ => rfl) (fun i _ _ => (h1 i (by omega) (by omega)).symm) (a4 w hw), fun l hl => by rw [h1 (399 + 2 * l) (by omega) (by omega), h1 (399 + 2 * l + 1) (by omega) (by omega)]; exact a5 l hl, by rw [h1 9 (by omega) (by omega)]; exact a6, a7, by rw [h1 8 (by omega) (by omega)]; exact a8, fun l hl => by rw [h1 (13 + l) (by omega) (by omega)]; exact a9 l hl, a10, a11, by rw [h1 2 (by omega) (by omega)]; exact a12, by rw [h1 3 (by omega) (by omega)]; exact a13, by rw [h1 3 (by omega) (by omega)]; exact a14, fun t ht k hk => lawR_cg (fun _ _ _ => rfl) h4.symm (a15 t ht k hk)⟩
theorem senR_n {N2 : ev_Mem} (h : senR M N S) (h1 : ∀ i, i ≠ 4 → i < 525 → N2.1 1 i = N.1 1 i) : senR M N2 S := by
  obtain ⟨a1, a2, a3, a4⟩ := h
  exact ⟨a1, a2, by rw [h1 1 (by omega) (by omega)]; exact a3, fun s hs => sRel_cg (by omega) (fun _ _ _ => rfl) (fun i _ _ => (h1 i (by omega) (by omega)).symm) (a4 s hs)⟩
/-- and on the class's side -/
theorem sdR_m {M2 : ev_Mem} (h : sdR M N W T lo) (hM : ∀ k, k < 82 → k ≠ 43 → k ≠ 45 → k ≠ 46 → M2.1 k = M.1 k) (h3 : M2.1 43 3 = M.1 43 3) : sdR M2 N W T lo := by
  obtain ⟨a1, a2, a3, a4, a5, a6, a7, a8, a9, a10, a11, a12, a13, a14, a15⟩ := h
  refine ⟨a1, by rw [hM 3 (by omega) (by omega) (by omega) (by omega)]; exact a2, a3, fun w hw => wRel_cg (by omega) (fun k _ _ => (hM k (by omega) (by omega) (by omega) (by omega)).symm) (fun _ _ _ => rfl) (a4 w hw), by rw [hM 48 (by omega) (by omega) (by omega) (by omega), hM 49 (by omega) (by omega) (by omega) (by omega)]; exact a5, a6, a7, by rw [h3]; exact a8, by rw [hM 44 (by omega) (by omega) (by omega) (by omega)]; exact a9, a10, by rw [hM 47 (by omega) (by omega) (by omega) (by omega)]; exact a11, a12, by rw [hM 47 (by omega) (by omega) (by omega) (by omega)]; exact a13, a14, fun t ht k hk => lawR_cg (fun i _ _ => (hM i (by omega) (by omega) (by omega) (by omega)).symm) rfl (a15 t ht k hk)⟩
/-- the least of a sentence is small -/
theorem cN_le (hb : bN N s = some f) (hn : lnN N s ≤ 5) : cN N s (lnN N s - 1) f ≤ 510 := by
  obtain ⟨h1, h2⟩ := bst_lt hb
  have := cpk_b (kd := fun w => aw N w 0) (se := fun w => aw N w 1) (sn := snN N) (W := wN N) (row := fun q => N.1 1 (351 + 6 * s + 1 + q)) (n := lnN N s) (fun w _ hl => ?_) (lnN N s - 1) (by omega) f h1
  · have e : cpk (fun w => aw N w 0) (fun w => aw N w 1) (snN N) (wN N) (fun q => N.1 1 (351 + 6 * s + 1 + q)) (lnN N s) (lnN N s - 1) f = cN N s (lnN N s - 1) f := rfl
    rw [e] at this
    omega
  · rcases (sfw_sn (N := N) (w := w)).2 with z | z <;> omega
/-- the class types what was spoken -/
theorem kX10_typeSpoken {Mi : ev_Mem} {lc : Nat} (h : sdR M N W T lo) (hS : senR M N S) (hs : s < S) (hb : bN N s = some f) (hM : ∀ k, k < 82 → Mi.1 k = M.1 k) (h3 : Mi.1 86 3 = lo) (hsp : spN N Mi s f) (hl : lc < 2 ^ 30) (hl2 : M.1 43 6 = nI lc) :
    Cl LX (d + 4) mX10_typeSpoken [.ref 0, .int (nI s)] Mi (fun r M2 => r = none ∧ (∀ c, c ≠ 43 → c ≠ 44 → c ≠ 45 → M2.1 c = Mi.1 c) ∧ M2.1 44 = prN N s f (M.1 44) ∧ ntO (upd (M.1 43) 2 (imin 9999 (M.1 43 2 + scl N s f))) (M.1 45) (M2.1 43) (M2.1 45) lc (nI s) 0 (nI (cN N s (lnN N s - 1) f))) := by
  obtain ⟨n1, n5, nn, -⟩ := sen_n hS hs
  refine Cl_of rfl (Nat.le_of_ble_eq_true rfl) rfl (gX10_typeSpoken_0 (d := d + 3) ⟨_, press44 (d := d) h hb (fun k hk _ => hM k hk) h3 hsp n5, fun zr M1 q => ?_⟩)
  rw [q.1, q.2]
  refine gX10_typeSpoken_14 (d := d + 3) fun M2 e2 => ?_
  rw [rowM_n (c := 44) (k := 43) (by omega), rowM_n (c := 44) (k := 86) (by omega), hM 43 (by omega)] at e2
  have e15 : Mi.1 86 15 = scl N s f := hsp.2.2.2.1
  rw [e15] at e2
  have c2 : ∀ c, c ≠ 43 → c ≠ 44 → M2.1 c = Mi.1 c := fun c h1 h2 => by rw [e2, wr_cell h1, rowM_n h2]
  have r43 : M2.1 43 = upd (M.1 43) 2 (imin 9999 (M.1 43 2 + scl N s f)) := by rw [e2, wr_row, rowM_n (by omega), hM 43 (by omega)]
  rw [c2 86 (by omega) (by omega), hsp.1]
  refine ⟨_, kX9_note (d := d + 3) (M := M2) (lc := lc) hl (by rw [r43, upd_ne (by omega)]; exact hl2), fun zr M3 q3 => ?_⟩
  rw [q3.1]
  refine gX10_typeSpoken_58 ⟨rfl, fun c h1 h2 h3 => by rw [q3.2.1 c h1 h3, c2 c h1 h2], ?_, ?_⟩
  · rw [q3.2.1 44 (by omega) (by omega), e2, wr_cell (by omega), rowM_s, hM 44 (by omega)]
  · have := q3.2.2
    rw [r43, c2 45 (by omega) (by omega), hM 45 (by omega)] at this
    exact this
/-- both have written: the machines stay related -/
theorem mq_write {q lc wn : Nat} {x : Int32} {m u R P a m2 u2 R2 : Nat → Int32} (h : mRq B q m u R P a) (hq : q ≤ 1) (hB : B < 2 ^ 30) (hl : m 6 = nI lc) (hl2 : lc < 2 ^ 31) (hw : a 12 = nI wn) (hw2 : wn ≤ 30) (hs : s < 8) (hsc : upto (scl N s f) 405) (hn : lnN N s ≤ 5) (kp : ∀ p, p < lnN N s → lnW N (hN N s f p) ≤ 9 ∧ ∀ i, i < lnW N (hN N s f p) → isK (kyN N (hN N s f p) i)) (hb : bN N s = some f) (hx : x = nI (cN N s (lnN N s - 1) f)) (hu2 : u2 = prN N s f u) (ho : ntO (upd m 2 (imin 9999 (m 2 + scl N s f))) R m2 R2 lc (nI s) 0 x) : mRq (B + 1) (q + 1) m2 u2 R2 P (wrA N s f wn x a) := by
  obtain ⟨k1, k2, k3, k4, k5⟩ := kq_k h
  have eu : eqR u (fun l => a (13 + l)) := fun l hl => by
    have : u l = a (8 + (5 + l)) := (k1 l hl).1
    rw [show 8 + (5 + l) = 13 + l by omega] at this
    exact this
  have uu : upR (fun l => a (13 + l)) 9999 := fun l hl => by
    have : upto (a (8 + (5 + l))) 9999 := (k1 l hl).2
    rw [show 8 + (5 + l) = 13 + l by omega] at this
    exact this
  have cap := sst9_cap uu _ kp
  have equ : eqR (prN N s f u) (prN N s f (fun l => a (13 + l))) := sst9_eq eu _ kp
  have h1 : mRq B q (upd m 2 (imin 9999 (m 2 + scl N s f))) u2 R P (wsA N s f a) := by
    refine mq_st h ⟨fun l hl => ?_, ?_, ?_, ?_, ?_⟩ ⟨upd_ne (by omega), upd_ne (by omega), upd_ne (by omega)⟩ ?_ ?_ (fun i hi => ?_)
    · show u2 l = wsA N s f a (8 + (5 + l)) ∧ upto (wsA N s f a (8 + (5 + l))) 9999
      unfold wsA
      rw [upd_ne (by omega), show 8 + (5 + l) = 13 + l by omega, usA_u hl, hu2]
      exact ⟨equ l hl, cap l hl⟩
    · show upd m 2 _ 0 = wsA N s f a 9 ∧ upto (wsA N s f a 9) _
      unfold wsA
      rw [upd_ne (by omega), upd_ne (by omega), usA_n (by omega)]; exact k2
    · show upd m 2 _ 2 = wsA N s f a 10 ∧ upto (wsA N s f a 10) _
      unfold wsA
      rw [upd_eq, upd_eq]
      obtain ⟨e1, n1, b1, c1⟩ := k3
      obtain ⟨n2, b2, c2⟩ := hsc
      have e1 : m 2 = a 10 := e1
      have c1 : a 10 = nI n1 := c1
      rw [e1, c1, c2, nI_add, bnd_nI (by omega), show (9999 : Int32) = nI 9999 from rfl, imin_nI (by omega) (by omega), Nat.min_comm]
      exact ⟨rfl, _, by omega, rfl⟩
    · show upd m 2 _ 3 = wsA N s f a 8 ∧ upto (wsA N s f a 8) _
      unfold wsA
      rw [upd_ne (by omega), upd_ne (by omega), usA_n (by omega)]; exact k4
    · show upd m 2 _ 4 = wsA N s f a 11 ∧ upto (wsA N s f a 11) _
      unfold wsA
      rw [upd_ne (by omega), upd_ne (by omega), usA_n (by omega)]; exact k5
    · unfold wsA; rw [upd_ne (by omega), usA_n (by omega)]
    · unfold wsA; rw [upd_ne (by omega), usA_n (by omega)]
    · unfold wsA; rw [upd_ne (by omega), usA_n (by omega)]
  have hc := cN_le hb hn
  refine mq_note (p := s) (w := 0) (y := cN N s (lnN N s - 1) f) h1 hq hB (by rw [upd_ne (by omega)]; exact hl) hl2 (by unfold wsA; rw [upd_ne (by omega), usA_n (by omega)]; exact hw) hw2 (by omega) (by omega) (by omega) rfl rfl hx ?_ ho
  rw [hx, show (4 : Int32) = nI 4 from rfl, pk_mul, show (0 : Int32) = nI 0 from rfl, nI_add, show (10000 : Int32) = nI 10000 from rfl, pk_mul, nI_add]
theorem wrA_n {wn i : Nat} {x : Int32} {a : Nat → Int32} (h : i ≠ 10 ∧ i ≠ 12) (h2 : i < 13 ∨ (39 ≤ i ∧ i < 3255)) : wrA N s f wn x a i = a i := by
  unfold wrA
  rw [noA_lo h.2 (by omega)]
  unfold wsA
  rw [upd_ne h.1, usA_n (by omega)]
theorem mRq_up {B2 q : Nat} {m u R P a : Nat → Int32} (hB : B ≤ B2) (h : mRq B q m u R P a) : mRq B2 q m u R P a := by
  obtain ⟨w1, lc2, wn2, k2, e2, w2, w3⟩ := h
  exact ⟨w1, lc2, wn2, k2, e2, by omega, w3⟩
theorem u_write {B0 : Nat} {M0 : ev_Mem} (h0 : RX B0 M0 N) (x : Int32) : OU (d + 20) mX10_write mX11_write [.int x] [.int x] N := by
  obtain ⟨k, e0, lc0, wn, hk, -, k4, -, -, -, -, n12, wnl⟩ := kq_ex (RX_mr h0)
  have hk0 := kq_k (RX_mr h0)
  obtain ⟨W, S, T, Wk, Sk, Tk, h1, h2, h3, h4, -⟩ := id h0
  obtain ⟨hsd, hS⟩ := RX_sd h1 h4
  have S8 := hS.1
  have ses : ∀ B M, RX B M N → ∃ W2 T2, sdR M N W2 T2 (M.1 43 0) ∧ senR M N S := fun B M h => by
    obtain ⟨W2, S2, T2, Wk2, Sk2, Tk2, q1, q2, q3, q4, -⟩ := h
    obtain ⟨r1, r2⟩ := RX_sd q1 q4
    have : S2 = S := (nI_eq (by have := r2.1; omega) (by omega)).mp (r2.2.2.1.symm.trans hS.2.2.1)
    subst this
    exact ⟨W2, T2, r1, r2⟩
  by_cases hx : ∃ s, s < S ∧ x = nI s
  · obtain ⟨s, hs, rfl⟩ := hx
    obtain ⟨n1, n5, nn, -⟩ := sen_n hS hs
    have it : iin (nI s) 0 (N.1 1 1 - 1) = true := sen_t hS ⟨s, hs, rfl⟩
    cases hb : bN N s with
    | none =>
      refine ou_rf (r := 2) (v := some (.int (-1))) (by omega) ?_ (fun B M h => ?_)
      · refine Cl_of rfl (Nat.le_of_ble_eq_true rfl) rfl (gX11_write_0 (d := d + 18) ⟨fun _ => ⟨_, saidN (d := d + 13) hsd hS hs, fun zr N2 q => ?_⟩, fun z => bb z it⟩)
        rcases q.2 with ⟨-, e⟩ | ⟨f, hf, -⟩
        · rw [e]
          refine gX11_write_19 (d := d + 19) ⟨fun z => absurd rfl z, fun _ => ⟨v23, fun N3 e3 => ⟨rfl, ?_⟩⟩⟩
          rw [e3, c2]
          have hme := q.1
          refine ⟨⟨?_, ?_, ?_, ?_, ?_⟩, ?_, ?_, ?_⟩
          · rw [rfs_cell (by omega), rfs_cell (by omega), hme 1 (by omega)]
          · rw [rfs_cell (by omega), rfs_cell (by omega), hme 2 (by omega)]
          · unfold rfs
            rw [hme 3 (by omega)]
            split
            · rw [hme 3 (by omega)]
            · rw [wr_row, wr_row, hme 3 (by omega)]
          · rw [rfs_cell (by omega), rfs_cell (by omega), hme 4 (by omega)]
          · rw [rfs_cell (by omega), rfs_cell (by omega), hme 5 (by omega)]
          · rw [rfs_cell (by omega), rfs_cell (by omega), hme 0 (by omega)]
          · rw [rfs_cell (by omega), rfs_cell (by omega), hme 0 (by omega)]
          · rw [rfs_cell (by omega), rfs_cell (by omega), hme 0 (by omega)]
        · rw [hb] at hf; cases hf
      · obtain ⟨W2, T2, r1, r2⟩ := ses B M h
        refine Cl_of rfl (Nat.le_of_ble_eq_true rfl) rfl (gX10_write_0 (d := d + 19) ⟨okS_of r2, fun _ => ⟨_, hearN (d := d + 14) r1, fun zr M1 q => ?_⟩, fun z => ?_⟩)
        · rw [q.1]
          refine gX10_write_21 (d := d + 19) ⟨_, speakH (d := d + 15) r1 r2 hs (fun k hk => q.2.1.1 k (by omega)) q.2.2, fun zr M2 q2 => ?_⟩
          rcases q2.2.2 with ⟨-, e⟩ | ⟨f, hf, -⟩
          · rw [e]
            refine gX10_write_29 (d := d + 19) ⟨fun z => absurd rfl z, fun _ => ⟨v23, fun M3 e3 => ⟨rfl, ?_⟩⟩⟩
            rw [e3, c2]
            have fq := (qfr_u q.2.1).tr (qfr_o q2.1)
            have x1 := xq_q fq
            refine ⟨fun k hk => ?_, fun j hj => ?_, fun k k1 k2 => ?_⟩
            · rw [rfs_cell (by omega), rfs_cell (by omega), x1.1 k hk]
            · rw [rfs_cell (by omega), rfs_cell (by omega), x1.2.1 j hj]
            · by_cases z : k = 117
              · subst z
                unfold rfs
                rw [x1.2.2 117 (by omega) (by omega)]
                split
                · rw [x1.2.2 117 (by omega) (by omega)]
                · rw [wr_row, wr_row, x1.2.2 117 (by omega) (by omega)]
              · rw [rfs_cell z, rfs_cell z, x1.2.2 k k1 k2]
          · rw [hb] at hf; cases hf
        · rw [r2.2.1, ← hS.2.2.1] at z; exact bb z it
    | some f =>
      refine ⟨some (.int (nI (cN N s (lnN N s - 1) f))), vok _, rowM N 1 (wrA N s f wn (nI (cN N s (lnN N s - 1) f)) (keA (N.1 1) k)), ?_, fun B M hB h => ?_⟩
      · refine Cl_of rfl (Nat.le_of_ble_eq_true rfl) rfl (gX11_write_0 (d := d + 18) ⟨fun _ => ⟨_, saidN (d := d + 13) hsd hS hs, fun zr N2 q => ?_⟩, fun z => bb z it⟩)
        rcases q.2 with ⟨hf, -⟩ | ⟨f2, hf, e, hc⟩
        · rw [hb] at hf; cases hf
        · rw [hb] at hf
          cases hf
          rw [e]
          have q1 := q.1 1 (by omega)
          refine gX11_write_19 (d := d + 19) ⟨fun _ => ⟨_, kX11_keep (d := d + 19) hk (by rw [q1]; exact k4), fun zr N3 q3 => ?_⟩, fun z => absurd z (cN_nm (k := 0) hb)⟩
          rw [q3.1, q3.2, q1]
          have ro : (rowM N2 1 (keA (N.1 1) k)).1 1 = keA (N.1 1) k := rowM_s
          refine gX11_write_35 (d := d + 19) ⟨_, kX11_writeNow (d := d + 13) (wn := wn) hsd hS hs hb (fun i hi => by rw [ro, keA_lo (by omega) (by omega)]) (fun p hp => by rw [rowM_n (by omega)]; exact hc p hp) (fun l hl => ?_) (by omega) (by rw [ro, keA_lo (by omega) (by omega)]; exact n12), fun zr N4 q4 => ?_⟩
          · show upto ((rowM N2 1 (keA (N.1 1) k)).1 1 (13 + l)) 9999
            rw [ro, keA_lo (by omega) (by omega)]
            exact (hsd.us l hl).2
          · rw [q4.1, q4.2, ro]
            refine gX11_write_41 ⟨rfl, ?_⟩
            refine me_pe fun c hc5 => ?_
            by_cases z : c = 1
            · subst z; rw [rowM_s, rowM_s]
            · rw [rowM_n z, rowM_n z, rowM_n z, q.1 c hc5]
      · obtain ⟨W2, T2, r1, r2⟩ := ses B M h
        obtain ⟨k', e, lc, wn', hk', m9, k4', he, m8, hlcB, m6, n12', wnl'⟩ := kq_ex (RX_mr h)
        have ek : k' = k := (nI_eq (by omega) (by omega)).mp (k4'.symm.trans k4)
        subst ek
        have hlo := RX_lo h
        refine Cl_of rfl (Nat.le_of_ble_eq_true rfl) rfl (gX10_write_0 (d := d + 19) ⟨okS_of r2, fun _ => ⟨_, hearN (d := d + 14) r1, fun zr M1 q => ?_⟩, fun z => ?_⟩)
        · rw [q.1]
          refine gX10_write_21 (d := d + 19) ⟨_, speakH (d := d + 15) r1 r2 hs (fun k hk => q.2.1.1 k (by omega)) q.2.2, fun zr M2 q2 => ?_⟩
          have fq := (qfr_u q.2.1).tr (qfr_o q2.1)
          rcases q2.2.2 with ⟨hf, -⟩ | ⟨f2, hf, e2, hsp⟩
          · rw [hb] at hf; cases hf
          · rw [hb] at hf
            cases hf
            rw [e2]
            have f43 : M2.1 43 = M.1 43 := fq.1 43 (by omega)
            refine gX10_write_29 (d := d + 19) ⟨fun _ => ⟨_, kX9_markStep (d := d + 18) (M := M2) (k := k') (e := e) hk' (by rw [f43]; exact m9) he (by rw [f43]; exact m8), fun zr M3 q3 => ?_⟩, fun z => absurd z (by decide)⟩
            rw [q3.1]
            have o3 := q3.2.2
            have hm := mq_keep (RX_mr h) hk' m9 he m8 (m2 := M3.1 43) (P2 := M3.1 46) (by rw [← f43, ← fq.1 44 (by omega), ← fq.1 46 (by omega)]; exact o3)
            have c3 : ∀ c, c < 82 → c ≠ 43 → c ≠ 46 → M3.1 c = M.1 c := fun c h1 h2 h3 => by rw [q3.2.1 c h2 h3, fq.1 c (by omega)]
            have s3 : sdR M3 N W2 T2 (M.1 43 0) := sdR_m r1 (fun k h1 h2 _ h4 => c3 k h1 h2 h4) (by rw [o3.1 3 (by omega) (by omega), f43])
            have n3 : senR M3 N S := senR_cg (fun k hk => c3 k (by omega) (by omega) (by omega)) r2
            have c86 : M3.1 86 = M2.1 86 := q3.2.1 86 (by omega) (by omega)
            have sp3 : spN N M3 s f := by
              unfold spN at hsp ⊢
              rw [c86, q3.2.1 99 (by omega) (by omega)]; exact hsp
            have m63 : M3.1 43 6 = nI lc := by rw [o3.1 6 (by omega) (by omega), f43]; exact m6
            refine gX10_write_45 (d := d + 19) ⟨_, kX10_typeSpoken (d := d + 15) (M := M3) (lc := lc) s3 n3 hs hb (fun _ _ => rfl) (by rw [c86]; exact q2.2.1.1) sp3 (by omega) m63, fun zr M4 q4 => ?_⟩
            rw [q4.1]
            refine gX10_write_50 ⟨by rw [q4.2.1 86 (by omega) (by omega) (by omega), sp3.1], ?_⟩
            have ew : wn' = wn := (nI_eq (by omega) (by omega)).mp (n12'.symm.trans n12)
            subst ew
            have hm2 := mq_write (N := N) (s := s) (f := f) (x := nI (cN N s (lnN N s - 1) f)) (wn := wn') (lc := lc) (m2 := M4.1 43) (u2 := M4.1 44) (R2 := M4.1 45) hm (by omega) (by omega) m63 (by omega) (by rw [keA_lo (by omega) (by omega)]; exact n12) (by omega) (by omega) (scl_up hsd hS hs hb) n5 (sd_kp hsd hb) hb rfl (by rw [q4.2.2.1, c3 44 (by omega) (by omega) (by omega)]) (by rw [← c3 45 (by omega) (by omega) (by omega)]; exact q4.2.2.2)
            refine RX_mc (q := 1) h (by omega) (by omega) ?_ (fun c c1 c2 => ?_) (fun i i1 i2 => ?_) (fun c c1 c2 => rowM_n c2)
            · rw [rowM_s, q4.2.1 46 (by omega) (by omega) (by omega)]
              exact mRq_up (by omega) hm2
            · rw [q4.2.1 c (by omega) (by omega) (by omega), q3.2.1 c (by omega) (by omega), fq.1 c (by omega)]
            · rw [rowM_s, wrA_n (by omega) (by omega), keA_lo i1 (by omega)]
        · rw [r2.2.1, ← hS.2.2.1] at z; exact bb z it
  · have it : iin x 0 (N.1 1 1 - 1) = false := sen_f hS hx
    refine ou_rf (r := 0) (v := some (.int (-1))) (by omega) ?_ (fun B M h => ?_)
    · exact Cl_of rfl (Nat.le_of_ble_eq_true rfl) rfl (gX11_write_0 (d := d + 18) ⟨fun z => bb z it, fun _ => ⟨v03, fun M4 e4 => ⟨rfl, by rw [e4, c0]; exact pe.rf⟩⟩⟩)
    · obtain ⟨W2, T2, r1, r2⟩ := ses B M h
      refine Cl_of rfl (Nat.le_of_ble_eq_true rfl) rfl (gX10_write_0 (d := d + 19) ⟨okS_of r2, fun z => ?_, fun _ => ⟨v03, fun M4 e4 => ⟨rfl, by rw [e4, c0]; exact xq.rf⟩⟩⟩)
      rw [r2.2.1, ← hS.2.2.1] at z; exact bb z it
theorem op_write (hB : B < 2 ^ 28) (h : RX B M N) (x : Int32) : OP 200 mX10_write mX11_write [.int x] B M N := OU.op hB h (u_write (d := 180) h x)
end
