/-! a day passes: what is said, which key wears -/
section
variable {d B : Nat} {M N : ev_Mem} {W T S s f : Nat} {lo : Int32}
def RQ (B q : Nat) (M N : ev_Mem) : Prop := RX B M N ∧ mRq B q (M.1 43) (M.1 44) (M.1 45) (M.1 46) (N.1 1)
theorem RQ_of {B2 q : Nat} {M2 N2 : ev_Mem} (h : RX B M N) (hB : B ≤ B2) (hq : q ≤ 2) (hm : mRq B2 q (M2.1 43) (M2.1 44) (M2.1 45) (M2.1 46) (N2.1 1)) (c : ∀ k, k < 118 → (k < 43 ∨ (47 ≤ k ∧ k < 82) ∨ 100 ≤ k) → M2.1 k = M.1 k) (n1 : ∀ i, i ≠ 4 → (i < 8 ∨ (39 ≤ i ∧ i < 525)) → N2.1 1 i = N.1 1 i) (n : ∀ k, k ≤ 5 → k ≠ 1 → N2.1 k = N.1 k) : RQ B2 q M2 N2 := ⟨RX_mc h hB hq hm c n1 n, hm⟩
def mcM (M : ev_Mem) (m u R P : Nat → Int32) : ev_Mem := rowM (rowM (rowM (rowM M 43 m) 44 u) 45 R) 46 P
theorem RQ_ex {B2 q : Nat} {m u R P a : Nat → Int32} (h : RX B M N) (hB : B ≤ B2) (hq : q ≤ 2) (hm : mRq B2 q m u R P a) (n1 : ∀ i, i ≠ 4 → (i < 8 ∨ (39 ≤ i ∧ i < 525)) → a i = N.1 1 i) : RQ B2 q (mcM M m u R P) (rowM N 1 a) := by
  have e43 : (mcM M m u R P).1 43 = m := by unfold mcM; rw [rowM_n (by omega), rowM_n (by omega), rowM_n (by omega), rowM_s]
  have e44 : (mcM M m u R P).1 44 = u := by unfold mcM; rw [rowM_n (by omega), rowM_n (by omega), rowM_s]
  have e45 : (mcM M m u R P).1 45 = R := by unfold mcM; rw [rowM_n (by omega), rowM_s]
  have e46 : (mcM M m u R P).1 46 = P := by unfold mcM; rw [rowM_s]
  refine RQ_of h hB hq (by rw [e43, e44, e45, e46, rowM_s]; exact hm) (fun k k1 k2 => ?_) (fun i i1 i2 => by rw [rowM_s]; exact n1 i i1 i2) (fun k k1 k2 => rowM_n k2)
  unfold mcM
  rw [rowM_n (by omega), rowM_n (by omega), rowM_n (by omega), rowM_n (by omega)]
theorem mk_ex (m u P : Nat → Int32) (k e : Nat) : ∃ m2 P2, mkO m u P m2 P2 k e := by
  refine ⟨fun j => if j = 9 then nI (min (k + 1) 30) else if j = 8 then nI (if k = 30 then (e + 1) % 30 else e) else m j, fun i => if i < 31 * ((e + k) % 30) ∨ 31 * ((e + k) % 30) + 31 ≤ i then P i else if i < 31 * ((e + k) % 30) + 26 then u (i - 31 * ((e + k) % 30)) else if i = 31 * ((e + k) % 30) + 26 then m 0 else if i = 31 * ((e + k) % 30) + 27 then m 2 else if i = 31 * ((e + k) % 30) + 28 then m 3 else if i = 31 * ((e + k) % 30) + 29 then m 4 else m 6, fun j h8 h9 => ?_, if_pos rfl, ?_, fun i hi => if_pos hi, fun l hl => ?_, ?_, ?_, ?_, ?_, ?_⟩
  · show (if j = 9 then _ else if j = 8 then _ else m j) = m j
    rw [if_neg h9, if_neg h8]
  · show (if 8 = 9 then _ else if 8 = 8 then nI (if k = 30 then (e + 1) % 30 else e) else m 8) = _
    rw [if_neg (by omega), if_pos rfl]
  · dsimp only
    rw [if_neg (by omega), if_pos (by omega), Nat.add_sub_cancel_left]
  · dsimp only
    rw [if_neg (by omega), if_neg (by omega), if_pos rfl]
  · dsimp only
    rw [if_neg (by omega), if_neg (by omega), if_neg (by omega), if_pos rfl]
  · dsimp only
    rw [if_neg (by omega), if_neg (by omega), if_neg (by omega), if_neg (by omega), if_pos rfl]
  · dsimp only
    rw [if_neg (by omega), if_neg (by omega), if_neg (by omega), if_neg (by omega), if_neg (by omega), if_pos rfl]
  · dsimp only
    rw [if_neg (by omega), if_neg (by omega), if_neg (by omega), if_neg (by omega), if_neg (by omega), if_neg (by omega)]
theorem nt_ex (m R : Nat → Int32) (lc : Nat) (x1 x2 x3 : Int32) : ∃ m2 R2, ntO m R m2 R2 lc x1 x2 x3 := by
  refine ⟨upd m 6 (nI (lc + 1)), fun i => if i / 4 ≠ lc % 90 then R i else if i % 4 = 0 then m 3 else if i % 4 = 1 then x1 else if i % 4 = 2 then x2 else x3, fun j hj => upd_ne hj, upd_eq, fun i hi => if_pos hi, ?_, ?_, ?_, ?_⟩
  · dsimp only
    rw [if_neg (by omega), if_pos (by omega)]
  · dsimp only
    rw [if_neg (by omega), if_neg (by omega), if_pos (by omega)]
  · dsimp only
    rw [if_neg (by omega), if_neg (by omega), if_neg (by omega), if_pos (by omega)]
  · dsimp only
    rw [if_neg (by omega), if_neg (by omega), if_neg (by omega), if_neg (by omega)]
theorem RX_ses (h : RX B M N) : ∃ W S T, sdR M N W T (M.1 43 0) ∧ senR M N S := by
  obtain ⟨W, S, T, Wk, Sk, Tk, q1, q2, q3, q4, -⟩ := h
  obtain ⟨r1, r2⟩ := RX_sd q1 q4
  exact ⟨W, S, T, r1, r2⟩
theorem sen_S {M2 : ev_Mem} {S2 : Nat} (h : senR M N S) (k : senR M2 N S2) : S2 = S := (nI_eq (by have := k.1; omega) (by have := h.1; omega)).mp (k.2.2.1.symm.trans h.2.2.1)
theorem pe.r1 {Na : ev_Mem} (h : pe N Na) : Na.1 1 = N.1 1 := h.1.1.symm
theorem pe.r4 {Na : ev_Mem} (h : pe N Na) : Na.1 4 = N.1 4 := h.1.2.2.2.1.symm
theorem saidA {Na : ev_Mem} (h : sdR M N W T lo) (hS : senR M N S) (hs : s < S) (hm : pe N Na) : Cl LM (d + 6) mX11_saidOf [.ref 0, .int (nI s)] Na (fun r N2 => pe N N2 ∧ sayd N N2 s r) := by
  have h1 := hm.r1
  have h4 := hm.r4
  have e := saidN (d := d) (sdR_n h (fun i _ _ => by rw [h1]) h4) (senR_n hS (fun i _ _ => by rw [h1])) hs
  refine Cl.mono e (fun r N2 q => ⟨hm.tr (me_pe q.1), ?_⟩)
  have := q.2
  unfold sayd at this ⊢
  rw [bN_1 h1 h4, cN_1 h1 h4, show lnN Na s = lnN N s by unfold lnN; rw [h1]] at this
  rcases this with z | ⟨f, z1, z2, z3⟩
  · exact Or.inl z
  · exact Or.inr ⟨f, z1, z2, fun p hp => by rw [z3 p hp, hN_1 h1 h4]⟩
theorem mn_row {Na : ev_Mem} {a b : Nat → Int32} (h : pe N Na) (hab : a = b) : pe (rowM N 1 a) (rowM Na 1 b) := by
  obtain ⟨⟨-, h2, h3, h4, h5⟩, h6, h7, h8⟩ := h
  refine ⟨⟨?_, ?_, ?_, ?_, ?_⟩, ?_, ?_, ?_⟩
  · rw [rowM_s, rowM_s, hab]
  · rw [rowM_n (by omega), rowM_n (by omega), h2]
  · rw [rowM_n (by omega), rowM_n (by omega), h3]
  · rw [rowM_n (by omega), rowM_n (by omega), h4]
  · rw [rowM_n (by omega), rowM_n (by omega), h5]
  · rw [rowM_n (by omega), rowM_n (by omega), h6]
  · rw [rowM_n (by omega), rowM_n (by omega), h7]
  · rw [rowM_n (by omega), rowM_n (by omega), h8]
theorem st_say {B0 : Nat} {M0 : ev_Mem} (hB0 : B0 < 2 ^ 29) (h0 : RQ B0 0 M0 N) : ∃ N2, (∃ M1, RQ (B0 + 1) 1 M1 N2) ∧ (N2.1 1 8 = N.1 1 8 ∧ N2.1 1 2 = N.1 1 2 ∧ N2.1 4 = N.1 4) ∧
    (∀ d Na Q, pe N Na → (∀ Nb, pe N2 Nb → ∀ v1 : Int32, v1 = (Nb.1 1 11) - (Nb.1 1 11) / 26 * 26 → (∃ Q2, Cl LM (d + 9) mX11_anew [.ref 0] Nb Q2 ∧ ∀ zr zM, Q2 zr zM → Ev LM (d + 10) mX11_pass 66 [some (.ref 0), some (.int v1), none, none] (zr.toList ++ []) zM Q)) → Ev LM (d + 10) mX11_pass 0 [some (.ref 0), none, none, none] [] Na Q) ∧
    (∀ d B M Q x1 x2, B < 2 ^ 29 → RQ B 0 M N → (∀ Mb, RQ (B + 1) 1 Mb N2 → ∃ Q2, Cl LX (d + 11) mX10_wearSomeKey [.ref 0] Mb Q2 ∧ ∀ zr zM, Q2 zr zM → Ev LX (d + 12) mX10_passDays 104 [some (.ref 0), some (.int x1), some (.int x2), none] (zr.toList ++ []) zM Q) → Ev LX (d + 12) mX10_passDays 41 [some (.ref 0), some (.int x1), some (.int x2), none] [] M Q) := by
  obtain ⟨W, S, T, hsd, hS⟩ := RX_ses h0.1
  have S8 := hS.1
  obtain ⟨k0, e0, lc0, wn, -, -, -, -, -, lcB0, m60, n12, wnl⟩ := kq_ex h0.2
  obtain ⟨dd, hdd, edd⟩ := hsd.da.2
  by_cases S0 : S = 0
  · subst S0
    refine ⟨N, ⟨M0, RX_up (by omega) h0.1, ?_⟩, ⟨rfl, rfl, rfl⟩, fun d Na Q hm hk => ?_, fun d B M Q x1 x2 hB h hk => ?_⟩
    · obtain ⟨w1, lc2, wn2, k2, e2, w2, w3, w4, w5, w6, w7, lcs, w8, w9, w10⟩ := h0.2
      exact ⟨w1, lc2, wn2, k2, e2, by omega, w3, w4, w5, w6, w7, lcs, w8, fun j hj => ⟨(w9 j hj).1, by have := (w9 j hj).2; split at this <;> split <;> omega⟩, w10⟩
    · exact gX11_pass_0 (d := d + 9) ⟨fun _ => hk Na hm, fun z => absurd (by rw [hm.r1, hS.2.2.1]; decide) z⟩
    · obtain ⟨W2, S2, T2, r1, r2⟩ := RX_ses h.1
      have := sen_S hS r2
      subst this
      refine gX10_passDays_41 (d := d + 11) ⟨fun _ => hk M ⟨RX_up (by omega) h.1, ?_⟩, fun z => absurd (by rw [r2.2.1]; decide) z⟩
      obtain ⟨w1, lc2, wn2, k2, e2, w2, w3, w4, w5, w6, w7, lcs, w8, w9, w10⟩ := h.2
      exact ⟨w1, lc2, wn2, k2, e2, by omega, w3, w4, w5, w6, w7, lcs, w8, fun j hj => ⟨(w9 j hj).1, by have := (w9 j hj).2; split at this <;> split <;> omega⟩, w10⟩
  · have hs : dd % S < S := Nat.mod_lt _ (by omega)
    obtain ⟨n1, n5, nn, -⟩ := sen_n hS hs
    have nS : N.1 1 1 = nI S := hS.2.2.1
    have ev : nI dd - nI dd / nI S * nI S = nI (dd % S) := pk_rem (by omega) (by omega) (by omega)
    generalize dd % S = s at hs n1 n5 nn ev
    cases hb : bN N s with
    | none =>
      refine ⟨rowM N 1 (noA (N.1 1) wn (((nI s * 4) + 1) * 10000 + 0)), ?_, ⟨by rw [rowM_s, noA_lo (by omega) (by omega)], by rw [rowM_s, noA_lo (by omega) (by omega)], rowM_n (by omega)⟩, fun d Na Q hm hk => ?_, fun d B M Q x1 x2 hB h hk => ?_⟩
      · obtain ⟨m2, R2, ho⟩ := nt_ex (M0.1 43) (M0.1 45) lc0 (nI s) 1 0
        refine ⟨_, RQ_ex h0.1 (by omega) (by omega) (mq_note (p := s) (w := 1) (y := 0) h0.2 (by omega) (by omega) m60 (by omega) n12 (by omega) (by omega) (by omega) (by omega) rfl rfl rfl ?_ ho) (fun i i1 i2 => noA_lo (by omega) (by omega))⟩
        rw [show (4 : Int32) = nI 4 from rfl, pk_mul, show (1 : Int32) = nI 1 from rfl, nI_add, show (10000 : Int32) = nI 10000 from rfl, pk_mul, show (0 : Int32) = nI 0 from rfl, nI_add]
      · refine gX11_pass_0 (d := d + 9) ⟨fun z => ?_, fun _ => ⟨?_, fun v2 e2 => ?_⟩⟩
        · rw [hm.r1, nS] at z; exact absurd z (nI_nle (by omega) (by omega))
        · rw [hm.r1, nS]; exact nI_ne0 (by omega) (by omega)
        · rw [hm.r1, edd, nS, ev] at e2
          rw [e2]
          refine ⟨_, saidA (d := d + 3) hsd hS hs hm, fun zr N2 q => ?_⟩
          rcases q.2 with ⟨-, e⟩ | ⟨f, hf, -⟩
          · rw [e]
            refine gX11_pass_29 (d := d + 9) ⟨fun z => absurd rfl z, fun _ => ⟨_, kX11_note (d := d + 9) (N := N2) (wn := wn) (by omega) (by rw [q.1.r1]; exact n12), fun zr N3 q3 => ?_⟩⟩
            rw [q3.1]
            refine gX11_pass_42 (gX11_pass_51 (d := d + 9) (hk N3 ?_))
            rw [q3.2]
            exact mn_row q.1 (by rw [q.1.r1])
          · rw [hb] at hf; cases hf
      · obtain ⟨W2, S2, T2, r1, r2⟩ := RX_ses h.1
        have := sen_S hS r2
        subst this
        obtain ⟨k, e, lc, wn', hk', m9, k4', he, m8, hlcB, m6, n12', wnl'⟩ := kq_ex h.2
        have ew : wn' = wn := (nI_eq (by omega) (by omega)).mp (n12'.symm.trans n12)
        subst ew
        refine gX10_passDays_41 (d := d + 11) ⟨fun z => ?_, fun _ => ⟨?_, fun v1 e1 => ?_⟩⟩
        · rw [r2.2.1] at z; exact absurd z (nI_nle (by omega) (by omega))
        · rw [r2.2.1]; exact nI_ne0 (by omega) (by omega)
        · rw [r1.da.1, edd, r2.2.1, ev] at e1
          rw [e1]
          refine ⟨_, hearN (d := d + 6) r1, fun zr M1 q => ?_⟩
          rw [q.1]
          refine gX10_passDays_71 (d := d + 11) ⟨_, speakH (d := d + 7) r1 r2 hs (fun k hk => q.2.1.1 k (by omega)) q.2.2, fun zr M2 q2 => ?_⟩
          have fq := (qfr_u q.2.1).tr (qfr_o q2.1)
          rcases q2.2.2 with ⟨-, e⟩ | ⟨f, hf, -⟩
          · rw [e]
            refine gX10_passDays_79 (d := d + 11) ⟨fun _ => ⟨_, kX9_note (d := d + 11) (M := M2) (lc := lc) (by omega) (by rw [fq.1 43 (by omega)]; exact m6), fun zr M3 q3 => ?_⟩, fun z => absurd rfl z⟩
            rw [q3.1]
            refine gX10_passDays_100 (d := d + 11) (hk M3 ?_)
            have o3 := q3.2.2
            rw [fq.1 43 (by omega), fq.1 45 (by omega)] at o3
            have hmq := mq_note (p := s) (w := 1) (y := 0) h.2 (by omega) (by omega) m6 (by omega) n12 (by omega) (by omega) (by omega) (by omega) rfl rfl rfl (v := ((nI s * 4) + 1) * 10000 + 0) (by rw [show (4 : Int32) = nI 4 from rfl, pk_mul, show (1 : Int32) = nI 1 from rfl, nI_add, show (10000 : Int32) = nI 10000 from rfl, pk_mul, show (0 : Int32) = nI 0 from rfl, nI_add]) o3
            refine RQ_of h.1 (by omega) (by omega) ?_ (fun c c1 c2 => by rw [q3.2.1 c (by omega) (by omega), fq.1 c (by omega)]) (fun i i1 i2 => by rw [rowM_s, noA_lo (by omega) (by omega)]) (fun c c1 c2 => rowM_n c2)
            rw [rowM_s, q3.2.1 44 (by omega) (by omega), q3.2.1 46 (by omega) (by omega), fq.1 44 (by omega), fq.1 46 (by omega)]
            exact hmq
          · rw [hb] at hf; cases hf
    | some f =>
      refine ⟨rowM N 1 (wrA N s f wn (nI (cN N s (lnN N s - 1) f)) (N.1 1)), ?_, ⟨by rw [rowM_s, wrA_n (by omega) (by omega)], by rw [rowM_s, wrA_n (by omega) (by omega)], rowM_n (by omega)⟩, fun d Na Q hm hk => ?_, fun d B M Q x1 x2 hB h hk => ?_⟩
      · obtain ⟨m2, R2, ho⟩ := nt_ex (upd (M0.1 43) 2 (imin 9999 (M0.1 43 2 + scl N s f))) (M0.1 45) lc0 (nI s) 0 (nI (cN N s (lnN N s - 1) f))
        exact ⟨_, RQ_ex h0.1 (by omega) (by omega) (mq_write h0.2 (by omega) (by omega) m60 (by omega) n12 (by omega) (by omega) (scl_up hsd hS hs hb) n5 (sd_kp hsd hb) hb rfl rfl ho) (fun i i1 i2 => wrA_n (by omega) (by omega))⟩
      · refine gX11_pass_0 (d := d + 9) ⟨fun z => ?_, fun _ => ⟨?_, fun v2 e2 => ?_⟩⟩
        · rw [hm.r1, nS] at z; exact absurd z (nI_nle (by omega) (by omega))
        · rw [hm.r1, nS]; exact nI_ne0 (by omega) (by omega)
        · rw [hm.r1, edd, nS, ev] at e2
          rw [e2]
          refine ⟨_, saidA (d := d + 3) hsd hS hs hm, fun zr N2 q => ?_⟩
          rcases q.2 with ⟨hf, -⟩ | ⟨f2, hf, e, hc⟩
          · rw [hb] at hf; cases hf
          · rw [hb] at hf
            cases hf
            rw [e]
            have q1 := q.1.r1
            refine gX11_pass_29 (d := d + 9) ⟨fun _ => ⟨_, kX11_writeNow (d := d + 3) (Ni := N2) (wn := wn) hsd hS hs hb (fun i hi => by rw [q1]) hc (fun l hl => ?_) (by omega) (by rw [q1]; exact n12), fun zr N3 q3 => ?_⟩, fun z => absurd z (cN_nm (k := 0) hb)⟩
            · show upto (N2.1 1 (13 + l)) 9999
              rw [q1]; exact (hsd.us l hl).2
            · rw [q3.1]
              refine gX11_pass_51 (d := d + 9) (hk N3 ?_)
              rw [q3.2]
              exact mn_row q.1 (by rw [q1])
      · obtain ⟨W2, S2, T2, r1, r2⟩ := RX_ses h.1
        have := sen_S hS r2
        subst this
        obtain ⟨k, e, lc, wn', hk', m9, k4', he, m8, hlcB, m6, n12', wnl'⟩ := kq_ex h.2
        have ew : wn' = wn := (nI_eq (by omega) (by omega)).mp (n12'.symm.trans n12)
        subst ew
        refine gX10_passDays_41 (d := d + 11) ⟨fun z => ?_, fun _ => ⟨?_, fun v1 e1 => ?_⟩⟩
        · rw [r2.2.1] at z; exact absurd z (nI_nle (by omega) (by omega))
        · rw [r2.2.1]; exact nI_ne0 (by omega) (by omega)
        · rw [r1.da.1, edd, r2.2.1, ev] at e1
          rw [e1]
          refine ⟨_, hearN (d := d + 6) r1, fun zr M1 q => ?_⟩
          rw [q.1]
          refine gX10_passDays_71 (d := d + 11) ⟨_, speakH (d := d + 7) r1 r2 hs (fun k hk => q.2.1.1 k (by omega)) q.2.2, fun zr M2 q2 => ?_⟩
          have fq := (qfr_u q.2.1).tr (qfr_o q2.1)
          rcases q2.2.2 with ⟨hf, -⟩ | ⟨f2, hf, e2, hsp⟩
          · rw [hb] at hf; cases hf
          · rw [hb] at hf
            cases hf
            rw [e2]
            refine gX10_passDays_79 (d := d + 11) ⟨fun z => absurd z (by decide), fun _ => ⟨_, kX10_typeSpoken (d := d + 7) (M := M) (Mi := M2) (lc := lc) r1 r2 hs hb (fun c hc => fq.1 c (by omega)) q2.2.1.1 hsp (by omega) m6, fun zr M4 q4 => ?_⟩⟩
            rw [q4.1]
            refine gX10_passDays_87 (gX10_passDays_100 (d := d + 11) (hk M4 ?_))
            have hm2 := mq_write (N := N) (s := s) (f := f) (x := nI (cN N s (lnN N s - 1) f)) (wn := wn') (lc := lc) (m2 := M4.1 43) (u2 := M4.1 44) (R2 := M4.1 45) h.2 (by omega) (by omega) m6 (by omega) n12 (by omega) (by omega) (scl_up hsd hS hs hb) n5 (sd_kp hsd hb) hb rfl q4.2.2.1 q4.2.2.2
            refine RQ_of h.1 (by omega) (by omega) ?_ (fun c c1 c2 => by rw [q4.2.1 c (by omega) (by omega) (by omega), fq.1 c (by omega)]) (fun i i1 i2 => by rw [rowM_s, wrA_n (by omega) (by omega)]) (fun c c1 c2 => rowM_n c2)
            rw [rowM_s, q4.2.1 46 (by omega) (by omega) (by omega), fq.1 46 (by omega)]
            exact hm2
end
