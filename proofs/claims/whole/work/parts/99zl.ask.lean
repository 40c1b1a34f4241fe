/-! THE CLASS'S READER: questions -/
section
def cAsk (o : Nat) : Prop := ∀ d, 13 + 8 * (8 - o) ≤ d → ∀ (M : ev_Mem) (n kt k s u : Nat), rdS M n kt k s u → u ≤ s → k < 3 → Cl LX d mX4_readAsk [.ref 81, .int (nI o)] M (rRs SQ M n kt k s u (5 * (8 - o) + 4) (fun s2 mc => noS (byM M) n s2 ∧ ∀ P, cnP P = o → iaP P = true → fA (byM M) n k s P s2 mc) (fun f s2 => ∀ P, cnP P = o → iaP P = true → fF (byM M) n k s P f s2))
theorem cm_rel : ∀ t, t < 256 → (cmC (nI t) = -1 ↔ cmN t = 0) ∧ (cmN t ≠ 0 → cmC (nI t) = nI (opC (cmN t)) ∧ 10 ≤ cmN t ∧ cmN t ≤ 15) := by decide +kernel
theorem ask_st {o : Nat} (ho : o ≤ 8) (HS : cSum o) (HA : o < 8 → cAsk (o + 1)) : cAsk o := by
  intro d hd M n kt k s u h hus hk
  obtain ⟨d, rfl⟩ : ∃ e, d = e + 10 := ⟨d - 10, by omega⟩
  have t := rd_tk h
  have ik := h.2.2.2.2.1
  refine Cl_of rfl (Nat.le_of_ble_eq_true rfl) rfl (gX4_readAsk_0 ⟨_, kX4_isToken (i := 3) (by omega) h.1 h.2.2.1 h.2.1, fun zr zM hz => ?_⟩)
  obtain ⟨rfl, rfl⟩ := hz
  refine gX4_readAsk_6 ⟨fun z => ?_, fun z => ?_⟩
  · have w3 : tkW (byM zM) n s (wdI 3) = false := (bi_0 _).mp z
    have hnc : ∀ P, nc (byM zM) n s P := fun P q => by rw [w3] at q; cases q
    refine ⟨_, HS (d + 9) (by omega) zM n kt k s u h hus hk, fun zr M1 hz => ?_⟩
    rcases hz with ⟨rfl, s1, u1, mc, hh, r1, p1, g1, g2, g3, g4, hns, F⟩ | ⟨rfl, hz⟩
    · have b1 := pfz_by ik p1
      have t1 := rd_tk r1
      have e5 := r1.2.1.1
      rw [b1] at t1 e5
      obtain ⟨c1, c2⟩ := cm_rel _ t1.2.2.2
      refine gX4_readAsk_46 ⟨fun _ => ?_, fun z => absurd z (by decide)⟩
      rw [e5]
      refine ⟨fun z1 => ?_, fun z1 M2 e2 => ?_⟩
      · have c0 : cmN (srt (byM zM) n s1) ≠ 0 := fun q => z1 (c1.mpr q)
        obtain ⟨c3, c4⟩ := c2 c0
        have hsn := srt_end (b := byM zM) (n := n) (s := s1) (fun q => by rw [q] at c0; exact c0 rfl)
        refine ⟨_, adv_c r1 hsn, fun zr M2 hz => ?_⟩
        obtain ⟨rfl, r2, p2, lt⟩ := hz
        rw [b1] at r2 lt
        have p12 := p1.tr p2 g1
        have b2 := pfz_by ik p12
        refine gX4_readAsk_71 ⟨_, HS (d + 9) (by omega) M2 n kt k _ u1 r2 (by omega) hk, fun zr M3 hz => ?_⟩
        rw [b2] at hz
        have ch : ∀ P, cnP P = o → cnP (cmN (srt (byM zM) n s1) :: P) = o := fun P hP => by
          have : ctd (cmN (srt (byM zM) n s1)) = false := by
            have q : ∀ c, c < 16 → 10 ≤ c → ctd c = false := by decide
            exact q _ (by omega) c4.1
          rw [cnP, this, if_neg (by decide), Nat.zero_add, hP]
        have r4 := cm_rk (t := srt (byM zM) n s1) rfl c0
        rcases hz with ⟨rfl, s2, u2, m2, h2, r3, p3, k1, k2, k3, k4, hns2, F2⟩ | ⟨rfl, hz⟩
        · have t3 := rd_tk r3
          have hu : u2 < 300 := by omega
          obtain ⟨q1, q2, q3, q4⟩ := put_c (x := cmC (nI (srt (byM zM) n s1))) r3 hu
          refine gX4_readAsk_76 ⟨fun z => absurd z (by decide), fun _ => ⟨_, kX4_putOp r3 hu, fun zr M4 hz => ?_⟩⟩
          obtain ⟨rfl, rfl⟩ := hz
          refine gX4_readAsk_84 ⟨fun z => absurd z (by decide), fun _ => Or.inl ⟨rfl, s2, u2 + 1, mc ++ m2 ++ [(cmN (srt (byM zM) n s1), 0)], max hh (h2 + 1), q2, (p12.tr p3 g1).tr q3 (by omega), by omega, by omega, by omega, sq_cmp (g4.cg (fun i _ hi => ?_)) (k4.cg (fun i _ hi => q3.2.2.2 i hi)) c4 (q4.trans c3), hns2, fun P hP hi => ask_cm hi (F P hP (ia_lt hi (by omega)) (hnc P)) hns rfl c0 (F2 _ (ch P hP) (Or.inr (show rkN (cmN (srt (byM zM) n s1)) < 5 by omega)) (fun _ => ia_f r4.2 (by omega)))⟩⟩
          rw [q3.2.2.2 i (by omega), p3.2.2.2 i (by omega), p2.2.2.2 i hi]
        · refine gX4_readAsk_76 ⟨fun _ => Or.inr ⟨rfl, hz.up p12 g1 (fun f s2 g P hP hi => ?_)⟩, fun z => absurd rfl z⟩
          exact ask_f hi (F P hP (ia_lt hi (by omega)) (hnc P)) hns rfl c0 (g _ (ch P hP) (Or.inr (show rkN (cmN (srt (byM zM) n s1)) < 5 by omega)) (fun _ => ia_f r4.2 (by omega)))
      · rw [e2]
        exact Or.inr ⟨rfl, (fl_c (f := 1) (G := fun f s2 => ∀ P, cnP P = o → iaP P = true → fF (byM zM) n k s P f s2) r1 (by omega) (fun P hP hi => ask_bad hi (F P hP (ia_lt hi (by omega)) (hnc P)) hns (c1.mp z1))).up p1 g1 (fun _ _ g => g)⟩
    · exact gX4_readAsk_46 ⟨fun z => absurd rfl z, fun _ => Or.inr ⟨rfl, hz.up pfz.rf (Nat.le_refl _) (fun f s2 g P hP hi => g P hP (ia_lt hi (by omega)) (hnc P))⟩⟩
  · have w3 : tkW (byM zM) n s (wdI 3) = true := (bi_n0 _).mp z
    have hsn := srt_end (b := byM zM) (n := n) (s := s) (by rw [tkW_s w3]; decide)
    have hw : ∀ P, iaP P = true → opW (byM zM) n s P 20 := fun P hi => Or.inr (Or.inr (Or.inr (Or.inr ⟨w3, hi, rfl⟩)))
    refine ⟨_, kX4_goDeeper h hsn ho, fun zr M1 hz => ?_⟩
    rcases hz with ⟨o8, rfl, r1, p1, lt⟩ | ⟨o8, rfl, rfl⟩
    · have b1 := pfz_by ik p1
      refine gX4_readAsk_14 ⟨fun c => absurd c (by decide), fun _ => ?_⟩
      rw [nI_1]
      refine ⟨_, HA (by omega) (d + 9) (by omega) M1 n kt k _ u r1 (by omega) hk, fun zr M2 hz => ?_⟩
      rw [b1] at hz
      rcases hz with ⟨rfl, s2, u2, mc, hh, r2, p2, g1, g2, g3, g4, hns, F⟩ | ⟨rfl, hz⟩
      · have t2 := rd_tk r2
        have hu : u2 < 300 := by omega
        obtain ⟨q1, q2, q3, q4⟩ := put_c (x := nI 5) r2 hu
        refine gX4_readAsk_24 ⟨fun z => absurd z (by decide), fun _ => ⟨_, kX4_putOp r2 hu, fun zr M4 hz => ?_⟩⟩
        obtain ⟨rfl, rfl⟩ := hz
        exact gX4_readAsk_32 ⟨fun z => absurd z (by decide), fun _ => Or.inl ⟨rfl, s2, u2 + 1, mc ++ [(20, 0)], hh, q2, (p1.tr p2 (Nat.le_refl _)).tr q3 g1, by omega, by omega, by omega, sq_not (g4.cg (fun i _ hi => q3.2.2.2 i hi)) q4, hns, fun P hP hi => ask_not hi w3 (by omega) (F (20 :: P) (cn_c rfl hP) (ia_not hi))⟩⟩
      · exact gX4_readAsk_24 ⟨fun _ => Or.inr ⟨rfl, hz.up p1 (Nat.le_refl _) (fun f s2 g P hP hi => op_f (hw P hi) (by omega) (g (20 :: P) (cn_c rfl hP) (ia_not hi)))⟩, fun z => absurd rfl z⟩
    · exact gX4_readAsk_14 ⟨fun _ => Or.inr ⟨rfl, fl_c (f := 3) h (by omega) (fun P hP hi => op_dp (hw P hi) (by omega))⟩, fun c => absurd rfl c⟩
def cBoth (o : Nat) : Prop := ∀ d, 14 + 8 * (8 - o) ≤ d → ∀ (M : ev_Mem) (n kt k s u : Nat), rdS M n kt k s u → u ≤ s → k < 3 → Cl LX d mX4_readBoth [.ref 81, .int (nI o)] M (rRs SQ M n kt k s u (5 * (8 - o) + 5) (fun s2 mc => (noS (byM M) n s2 ∧ tkW (byM M) n s2 (wdI 4) = false) ∧ ∀ P, cnP P = o → iaP P = true → ltP P 2 → fQ 2 (byM M) n k s P s2 mc) (fun f s2 => ∀ P, cnP P = o → iaP P = true → ltP P 2 → fF (byM M) n k s P f s2))
theorem both_lp {d n kt k s u o : Nat} {M : ev_Mem} (h : rdS M n kt k s u) (hus : u ≤ s) (hk : k < 3) (ho : o ≤ 8) (H : cAsk o) (hd : 13 + 8 * (8 - o) ≤ d) : ∀ (m j s1 u1 : Nat) (mc : List (Nat × Nat)) (hh : Nat) (M1 : ev_Mem), n - s1 ≤ m → rdS M1 n kt k s1 u1 → pfz kt u M M1 → u ≤ u1 → u1 + s ≤ u + s1 → j + s ≤ s1 → hh ≤ 5 * (8 - o) + 5 → SQ (M1.1 (kt + 1)) u u1 mc k hh → noS (byM M) n s1 → (∀ P, cnP P = o → iaP P = true → ltP P 2 → fQ 2 (byM M) n k s P s1 mc) →
    Ev LX (d + 1) mX4_readBoth 12 [some (.ref 81), some (.int (nI o)), some (.int (nI j))] [] M1 (rRs SQ M n kt k s u (5 * (8 - o) + 5) (fun s2 mc => (noS (byM M) n s2 ∧ tkW (byM M) n s2 (wdI 4) = false) ∧ ∀ P, cnP P = o → iaP P = true → ltP P 2 → fQ 2 (byM M) n k s P s2 mc) (fun f s2 => ∀ P, cnP P = o → iaP P = true → ltP P 2 → fF (byM M) n k s P f s2)) := by
  have ik := h.2.2.2.2.1
  have t := rd_tk h
  intro m
  induction m with
  | zero =>
    intro j s1 u1 mc hh M1 hm r1 p1 g1 g2 g3 g4 g5 hx F
    have b1 := pfz_by ik p1
    obtain ⟨d, rfl⟩ : ∃ e, d = e + 8 := ⟨d - 8, by omega⟩
    have e0 : srt (byM M) n s1 = 0 := by unfold srt; rw [if_pos (by omega)]
    have w := @tkW_no (byM M) n s1 (wdI 4) (by omega)
    have ex : (rRs SQ M n kt k s u (5 * (8 - o) + 5) (fun s2 mc => (noS (byM M) n s2 ∧ tkW (byM M) n s2 (wdI 4) = false) ∧ ∀ P, cnP P = o → iaP P = true → ltP P 2 → fQ 2 (byM M) n k s P s2 mc) (fun f s2 => ∀ P, cnP P = o → iaP P = true → ltP P 2 → fF (byM M) n k s P f s2)) (some (.int 1)) M1 := Or.inl ⟨rfl, s1, u1, mc, hh, r1, p1, g1, g2, g4, g5, ⟨hx, w⟩, F⟩
    refine gX4_readBoth_12 ⟨fun _ => ex, fun _ => ⟨_, kX4_isToken (i := 4) (by omega) r1.1 r1.2.2.1 r1.2.1, fun zr zM hz => ?_⟩⟩
    obtain ⟨rfl, rfl⟩ := hz
    rw [b1]
    refine gX4_readBoth_25 ⟨fun _ => ex, fun z => ?_⟩
    have z2 : tkW (byM M) n s1 (wdI 4) = true := (bi_n0 _).mp z
    rw [w] at z2
    cases z2
  | succ m ih =>
    intro j s1 u1 mc hh M1 hm r1 p1 g1 g2 g3 g4 g5 hx F
    have b1 := pfz_by ik p1
    have t1 := rd_tk r1
    rw [b1] at t1
    obtain ⟨d, rfl⟩ : ∃ e, d = e + 8 := ⟨d - 8, by omega⟩
    have ex : tkW (byM M) n s1 (wdI 4) = false → (rRs SQ M n kt k s u (5 * (8 - o) + 5) (fun s2 mc => (noS (byM M) n s2 ∧ tkW (byM M) n s2 (wdI 4) = false) ∧ ∀ P, cnP P = o → iaP P = true → ltP P 2 → fQ 2 (byM M) n k s P s2 mc) (fun f s2 => ∀ P, cnP P = o → iaP P = true → ltP P 2 → fF (byM M) n k s P f s2)) (some (.int 1)) M1 := fun w => Or.inl ⟨rfl, s1, u1, mc, hh, r1, p1, g1, g2, g4, g5, ⟨hx, w⟩, F⟩
    refine gX4_readBoth_12 ⟨fun z => ex (tkW_no (fun q => ?_)), fun _ => ⟨_, kX4_isToken (i := 4) (by omega) r1.1 r1.2.2.1 r1.2.1, fun zr zM hz => ?_⟩⟩
    · have hsn := srt_end (b := byM M) (n := n) (s := s1) (by omega)
      exact absurd z (nI_ge (a := j) (b := 300) (by omega) (by omega))
    obtain ⟨rfl, rfl⟩ := hz
    rw [b1]
    refine gX4_readBoth_25 ⟨fun z => ex ((bi_0 _).mp z), fun z => ?_⟩
    have w : tkW (byM M) n s1 (wdI 4) = true := (bi_n0 _).mp z
    have hsn := srt_end (b := byM M) (n := n) (s := s1) (by rw [tkW_s w]; decide)
    refine ⟨_, adv_c r1 hsn, fun zr M2 hz => ?_⟩
    obtain ⟨rfl, r2, p2, lt⟩ := hz
    rw [b1] at r2 lt
    have p12 := p1.tr p2 g1
    have b2 := pfz_by ik p12
    have cn : ∀ P, cnP P = o → cnP (21 :: P) = o := fun P hP => (Nat.zero_add _).trans hP
    refine gX4_readBoth_32 ⟨_, H (d + 8) (by omega) M2 n kt k _ u1 r2 (by omega) hk, fun zr M3 hz => ?_⟩
    rw [b2] at hz
    rcases hz with ⟨rfl, s2, u2, m2, h2, r3, p3, k1, k2, k3, k4, hx2, F2⟩ | ⟨rfl, hz⟩
    · have t3 := rd_tk r3
      have hu : u2 < 300 := by omega
      have kt' := rd_kt r3
      obtain ⟨q1, q2, q3, q4⟩ := put_c (x := nI (opC 21)) r3 hu
      refine gX4_readBoth_37 ⟨fun _ => ⟨kt'.2, by rw [kt'.1]; exact q1, fun M4 e4 => ?_⟩, fun z => absurd z (by decide)⟩
      rw [kt'.1] at e4
      have e4' : M4 = putM M3 kt (nI (opC 21)) := e4
      subst e4'
      rw [nI_1]
      refine ih (j + 1) s2 (u2 + 1) (mc ++ m2 ++ [(21, 0)]) (max hh (h2 + 1)) _ (by omega) q2 ((p12.tr p3 g1).tr q3 (by omega)) (by omega) (by omega) (by omega) (by omega) (sq_con (g5.cg (fun i _ hi => ?_)) (k4.cg (fun i _ hi => q3.2.2.2 i hi)) (by omega) q4) hx2 (fun P hP hi hl => both_s (F P hP hi hl) hx w (F2 (21 :: P) (cn P hP) (ia_and (ia_on hi)).1) hl)
      rw [q3.2.2.2 i (by omega), p3.2.2.2 i (by omega), p2.2.2.2 i hi]
    · refine gX4_readBoth_37 ⟨fun z => absurd rfl z, fun _ => Or.inr ⟨rfl, hz.up p12 g1 (fun f s2 g P hP hi hl => ?_)⟩⟩
      exact both_f (F P hP hi hl) hx w (g (21 :: P) (cn P hP) (ia_and (ia_on hi)).1)
theorem both_st {o : Nat} (ho : o ≤ 8) (H : cAsk o) : cBoth o := by
  intro d hd M n kt k s u h hus hk
  obtain ⟨d, rfl⟩ : ∃ e, d = e + 1 := ⟨d - 1, by omega⟩
  refine Cl_of rfl (Nat.le_of_ble_eq_true rfl) rfl (gX4_readBoth_0 ⟨_, H d (by omega) M n kt k s u h hus hk, fun zr M1 hz => ?_⟩)
  rcases hz with ⟨rfl, s1, u1, mc, hh, r1, p1, g1, g2, g3, g4, hx, F⟩ | ⟨rfl, hz⟩
  · refine gX4_readBoth_5 ⟨fun _ => ?_, fun z => absurd z (by decide)⟩
    exact both_lp h hus hk ho H (by omega) (n - s1) 0 s1 u1 mc hh M1 (Nat.le_refl _) r1 p1 g1 g2 (by omega) (by omega) g4 hx (fun P hP hi hl => both_0 (F P hP hi) hl)
  · exact gX4_readBoth_5 ⟨fun z => absurd rfl z, fun _ => Or.inr ⟨rfl, hz.up pfz.rf (Nat.le_refl _) (fun f s2 g P hP hi hl => g P hP hi)⟩⟩
def cEith (o : Nat) : Prop := ∀ d, 15 + 8 * (8 - o) ≤ d → ∀ (M : ev_Mem) (n kt k s u : Nat), rdS M n kt k s u → u ≤ s → k < 3 → Cl LX d mX4_readEither [.ref 81, .int (nI o)] M (rRs SQ M n kt k s u (5 * (8 - o) + 6) (fun s2 mc => ((noS (byM M) n s2 ∧ tkW (byM M) n s2 (wdI 4) = false) ∧ tkW (byM M) n s2 (wdI 5) = false) ∧ ∀ P, cnP P = o → iaP P = true → ltP P 1 → fQ 1 (byM M) n k s P s2 mc) (fun f s2 => ∀ P, cnP P = o → iaP P = true → ltP P 1 → fF (byM M) n k s P f s2))
theorem eith_lp {d n kt k s u o : Nat} {M : ev_Mem} (h : rdS M n kt k s u) (hus : u ≤ s) (hk : k < 3) (ho : o ≤ 8) (H : cBoth o) (hd : 14 + 8 * (8 - o) ≤ d) : ∀ (m j s1 u1 : Nat) (mc : List (Nat × Nat)) (hh : Nat) (M1 : ev_Mem), n - s1 ≤ m → rdS M1 n kt k s1 u1 → pfz kt u M M1 → u ≤ u1 → u1 + s ≤ u + s1 → j + s ≤ s1 → hh ≤ 5 * (8 - o) + 6 → SQ (M1.1 (kt + 1)) u u1 mc k hh → (noS (byM M) n s1 ∧ tkW (byM M) n s1 (wdI 4) = false) → (∀ P, cnP P = o → iaP P = true → ltP P 1 → fQ 1 (byM M) n k s P s1 mc) →
    Ev LX (d + 1) mX4_readEither 12 [some (.ref 81), some (.int (nI o)), some (.int (nI j))] [] M1 (rRs SQ M n kt k s u (5 * (8 - o) + 6) (fun s2 mc => ((noS (byM M) n s2 ∧ tkW (byM M) n s2 (wdI 4) = false) ∧ tkW (byM M) n s2 (wdI 5) = false) ∧ ∀ P, cnP P = o → iaP P = true → ltP P 1 → fQ 1 (byM M) n k s P s2 mc) (fun f s2 => ∀ P, cnP P = o → iaP P = true → ltP P 1 → fF (byM M) n k s P f s2)) := by
  have ik := h.2.2.2.2.1
  have t := rd_tk h
  intro m
  induction m with
  | zero =>
    intro j s1 u1 mc hh M1 hm r1 p1 g1 g2 g3 g4 g5 hx F
    have b1 := pfz_by ik p1
    obtain ⟨d, rfl⟩ : ∃ e, d = e + 8 := ⟨d - 8, by omega⟩
    have e0 : srt (byM M) n s1 = 0 := by unfold srt; rw [if_pos (by omega)]
    have w := @tkW_no (byM M) n s1 (wdI 5) (by omega)
    have ex : (rRs SQ M n kt k s u (5 * (8 - o) + 6) (fun s2 mc => ((noS (byM M) n s2 ∧ tkW (byM M) n s2 (wdI 4) = false) ∧ tkW (byM M) n s2 (wdI 5) = false) ∧ ∀ P, cnP P = o → iaP P = true → ltP P 1 → fQ 1 (byM M) n k s P s2 mc) (fun f s2 => ∀ P, cnP P = o → iaP P = true → ltP P 1 → fF (byM M) n k s P f s2)) (some (.int 1)) M1 := Or.inl ⟨rfl, s1, u1, mc, hh, r1, p1, g1, g2, g4, g5, ⟨hx, w⟩, F⟩
    refine gX4_readEither_12 ⟨fun _ => ex, fun _ => ⟨_, kX4_isToken (i := 5) (by omega) r1.1 r1.2.2.1 r1.2.1, fun zr zM hz => ?_⟩⟩
    obtain ⟨rfl, rfl⟩ := hz
    rw [b1]
    refine gX4_readEither_25 ⟨fun _ => ex, fun z => ?_⟩
    have z2 : tkW (byM M) n s1 (wdI 5) = true := (bi_n0 _).mp z
    rw [w] at z2
    cases z2
  | succ m ih =>
    intro j s1 u1 mc hh M1 hm r1 p1 g1 g2 g3 g4 g5 hx F
    have b1 := pfz_by ik p1
    have t1 := rd_tk r1
    rw [b1] at t1
    obtain ⟨d, rfl⟩ : ∃ e, d = e + 8 := ⟨d - 8, by omega⟩
    have ex : tkW (byM M) n s1 (wdI 5) = false → (rRs SQ M n kt k s u (5 * (8 - o) + 6) (fun s2 mc => ((noS (byM M) n s2 ∧ tkW (byM M) n s2 (wdI 4) = false) ∧ tkW (byM M) n s2 (wdI 5) = false) ∧ ∀ P, cnP P = o → iaP P = true → ltP P 1 → fQ 1 (byM M) n k s P s2 mc) (fun f s2 => ∀ P, cnP P = o → iaP P = true → ltP P 1 → fF (byM M) n k s P f s2)) (some (.int 1)) M1 := fun w => Or.inl ⟨rfl, s1, u1, mc, hh, r1, p1, g1, g2, g4, g5, ⟨hx, w⟩, F⟩
    refine gX4_readEither_12 ⟨fun z => ex (tkW_no (fun q => ?_)), fun _ => ⟨_, kX4_isToken (i := 5) (by omega) r1.1 r1.2.2.1 r1.2.1, fun zr zM hz => ?_⟩⟩
    · have hsn := srt_end (b := byM M) (n := n) (s := s1) (by omega)
      exact absurd z (nI_ge (a := j) (b := 300) (by omega) (by omega))
    obtain ⟨rfl, rfl⟩ := hz
    rw [b1]
    refine gX4_readEither_25 ⟨fun z => ex ((bi_0 _).mp z), fun z => ?_⟩
    have w : tkW (byM M) n s1 (wdI 5) = true := (bi_n0 _).mp z
    have hsn := srt_end (b := byM M) (n := n) (s := s1) (by rw [tkW_s w]; decide)
    refine ⟨_, adv_c r1 hsn, fun zr M2 hz => ?_⟩
    obtain ⟨rfl, r2, p2, lt⟩ := hz
    rw [b1] at r2 lt
    have p12 := p1.tr p2 g1
    have b2 := pfz_by ik p12
    have cn : ∀ P, cnP P = o → cnP (22 :: P) = o := fun P hP => (Nat.zero_add _).trans hP
    refine gX4_readEither_32 ⟨_, H (d + 8) (by omega) M2 n kt k _ u1 r2 (by omega) hk, fun zr M3 hz => ?_⟩
    rw [b2] at hz
    rcases hz with ⟨rfl, s2, u2, m2, h2, r3, p3, k1, k2, k3, k4, hx2, F2⟩ | ⟨rfl, hz⟩
    · have t3 := rd_tk r3
      have hu : u2 < 300 := by omega
      have kt' := rd_kt r3
      obtain ⟨q1, q2, q3, q4⟩ := put_c (x := nI (opC 22)) r3 hu
      refine gX4_readEither_37 ⟨fun _ => ⟨kt'.2, by rw [kt'.1]; exact q1, fun M4 e4 => ?_⟩, fun z => absurd z (by decide)⟩
      rw [kt'.1] at e4
      have e4' : M4 = putM M3 kt (nI (opC 22)) := e4
      subst e4'
      rw [nI_1]
      refine ih (j + 1) s2 (u2 + 1) (mc ++ m2 ++ [(22, 0)]) (max hh (h2 + 1)) _ (by omega) q2 ((p12.tr p3 g1).tr q3 (by omega)) (by omega) (by omega) (by omega) (by omega) (sq_con (g5.cg (fun i _ hi => ?_)) (k4.cg (fun i _ hi => q3.2.2.2 i hi)) (by omega) q4) hx2 (fun P hP hi hl => eith_s (F P hP hi hl) hx.1 w (F2 (22 :: P) (cn P hP) (ia_and (ia_on hi)).2 (Or.inr (show rkN 22 < 2 by decide))) hl)
      rw [q3.2.2.2 i (by omega), p3.2.2.2 i (by omega), p2.2.2.2 i hi]
    · refine gX4_readEither_37 ⟨fun z => absurd rfl z, fun _ => Or.inr ⟨rfl, hz.up p12 g1 (fun f s2 g P hP hi hl => ?_)⟩⟩
      exact eith_f (F P hP hi hl) hx.1 w (g (22 :: P) (cn P hP) (ia_and (ia_on hi)).2 (Or.inr (show rkN 22 < 2 by decide)))
theorem eith_st {o : Nat} (ho : o ≤ 8) (H : cBoth o) : cEith o := by
  intro d hd M n kt k s u h hus hk
  obtain ⟨d, rfl⟩ : ∃ e, d = e + 1 := ⟨d - 1, by omega⟩
  refine Cl_of rfl (Nat.le_of_ble_eq_true rfl) rfl (gX4_readEither_0 ⟨_, H d (by omega) M n kt k s u h hus hk, fun zr M1 hz => ?_⟩)
  rcases hz with ⟨rfl, s1, u1, mc, hh, r1, p1, g1, g2, g3, g4, hx, F⟩ | ⟨rfl, hz⟩
  · refine gX4_readEither_5 ⟨fun _ => ?_, fun z => absurd z (by decide)⟩
    exact eith_lp h hus hk ho H (by omega) (n - s1) 0 s1 u1 mc hh M1 (Nat.le_refl _) r1 p1 g1 g2 (by omega) (by omega) g4 hx (fun P hP hi hl => eith_0 (F P hP hi (hl.elim Or.inl (fun z => Or.inr (by omega)))) hl)
  · exact gX4_readEither_5 ⟨fun z => absurd rfl z, fun _ => Or.inr ⟨rfl, hz.up pfz.rf (Nat.le_refl _) (fun f s2 g P hP hi hl => g P hP hi (hl.elim Or.inl (fun z => Or.inr (by omega))))⟩⟩
end
