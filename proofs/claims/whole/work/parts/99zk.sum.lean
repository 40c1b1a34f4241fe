/-! THE CLASS'S READER: products and sums -/
section
def cProd (o : Nat) : Prop := ∀ d, 11 + 8 * (8 - o) ≤ d → ∀ (M : ev_Mem) (n kt k s u : Nat), rdS M n kt k s u → u ≤ s → k < 3 → Cl LX d mX4_readProduct [.ref 81, .int (nI o)] M (rRs SV M n kt k s u (5 * (8 - o) + 2) (fun s2 mc => (srt (byM M) n s2 ≠ 42 ∧ srt (byM M) n s2 ≠ 47) ∧ ∀ P, cnP P = o → ltP P 6 → nc (byM M) n s P → fR 6 (byM M) n k s P s2 mc) (fun f s2 => ∀ P, cnP P = o → ltP P 6 → nc (byM M) n s P → fF (byM M) n k s P f s2))
theorem prod_lp {d n kt k s u o : Nat} {M : ev_Mem} (h : rdS M n kt k s u) (hus : u ≤ s) (hk : k < 3) (ho : o ≤ 8) (H : cOne o) (hd : 10 + 8 * (8 - o) ≤ d) : ∀ (m j s1 u1 : Nat) (mc : List (Nat × Nat)) (hh : Nat) (M1 : ev_Mem), n - s1 ≤ m → rdS M1 n kt k s1 u1 → pfz kt u M M1 → u ≤ u1 → u1 + s ≤ u + s1 → j + s ≤ s1 → hh ≤ 5 * (8 - o) + 2 → SV (M1.1 (kt + 1)) u u1 mc k hh → (∀ P, cnP P = o → ltP P 6 → nc (byM M) n s P → fR 6 (byM M) n k s P s1 mc) →
    Ev LX (d + 1) mX4_readProduct 12 [some (.ref 81), some (.int (nI o)), some (.int (nI j)), none] [] M1 (rRs SV M n kt k s u (5 * (8 - o) + 2) (fun s2 mc => (srt (byM M) n s2 ≠ 42 ∧ srt (byM M) n s2 ≠ 47) ∧ ∀ P, cnP P = o → ltP P 6 → nc (byM M) n s P → fR 6 (byM M) n k s P s2 mc) (fun f s2 => ∀ P, cnP P = o → ltP P 6 → nc (byM M) n s P → fF (byM M) n k s P f s2)) := by
  have ik := h.2.2.2.2.1
  have t := rd_tk h
  intro m
  induction m with
  | zero =>
    intro j s1 u1 mc hh M1 hm r1 p1 g1 g2 g3 g4 g5  F
    have b1 := pfz_by ik p1
    have t1 := rd_tk r1
    have e5 := r1.2.1.1
    rw [b1] at e5
    have e0 : srt (byM M) n s1 = 0 := by unfold srt; rw [if_pos (by omega)]
    rw [e0] at e5
    have ex : rRs SV M n kt k s u (5 * (8 - o) + 2) (fun s2 mc => (srt (byM M) n s2 ≠ 42 ∧ srt (byM M) n s2 ≠ 47) ∧ ∀ P, cnP P = o → ltP P 6 → nc (byM M) n s P → fR 6 (byM M) n k s P s2 mc) (fun f s2 => ∀ P, cnP P = o → ltP P 6 → nc (byM M) n s P → fF (byM M) n k s P f s2) (some (.int 1)) M1 := Or.inl ⟨rfl, s1, u1, mc, hh, r1, p1, g1, g2, g4, g5, ⟨by omega, by omega⟩, F⟩
    refine gX4_readProduct_12 ⟨fun _ => ex, fun _ => ⟨fun z => ?_, fun _ => ⟨fun _ => ex, fun z => ?_⟩⟩⟩
    · rw [e5] at z; exact absurd z (by decide)
    · rw [e5] at z; exact absurd z (by decide)
  | succ m ih =>
    intro j s1 u1 mc hh M1 hm r1 p1 g1 g2 g3 g4 g5  F
    have b1 := pfz_by ik p1
    have t1 := rd_tk r1
    rw [b1] at t1
    have e5 := r1.2.1.1
    rw [b1] at e5
    have tb : ∀ c, c < 256 → (M1.1 81 5 = nI c ↔ srt (byM M) n s1 = c) := fun c hc => by rw [e5]; exact nI_eq (by omega) (by omega)
    have ex : srt (byM M) n s1 ≠ 42 → srt (byM M) n s1 ≠ 47 → rRs SV M n kt k s u (5 * (8 - o) + 2) (fun s2 mc => (srt (byM M) n s2 ≠ 42 ∧ srt (byM M) n s2 ≠ 47) ∧ ∀ P, cnP P = o → ltP P 6 → nc (byM M) n s P → fR 6 (byM M) n k s P s2 mc) (fun f s2 => ∀ P, cnP P = o → ltP P 6 → nc (byM M) n s P → fF (byM M) n k s P f s2) (some (.int 1)) M1 := fun z1 z2 => Or.inl ⟨rfl, s1, u1, mc, hh, r1, p1, g1, g2, g4, g5, ⟨z1, z2⟩, F⟩
    have st : ∀ c, (srt (byM M) n s1 = 42 ∧ c = 7) ∨ (srt (byM M) n s1 = 47 ∧ c = 8) → ∃ Q2 : Option Value → ev_Mem → Prop, Cl LX d mX4_advance [.ref 81] M1 Q2 ∧ ∀ (zr : Option Value) (zM : ev_Mem), Q2 zr zM → Ev LX (d + 1) mX4_readProduct 58 [some (.ref 81), some (.int (nI o)), some (.int (nI j)), some (.int (nI (opC c)))] (zr.toList ++ []) zM (rRs SV M n kt k s u (5 * (8 - o) + 2) (fun s2 mc => (srt (byM M) n s2 ≠ 42 ∧ srt (byM M) n s2 ≠ 47) ∧ ∀ P, cnP P = o → ltP P 6 → nc (byM M) n s P → fR 6 (byM M) n k s P s2 mc) (fun f s2 => ∀ P, cnP P = o → ltP P 6 → nc (byM M) n s P → fF (byM M) n k s P f s2)) := by
      intro c hc
      obtain ⟨d, rfl⟩ : ∃ e, d = e + 1 := ⟨d - 1, by omega⟩
      have hsn := srt_end (b := byM M) (n := n) (s := s1) (by omega)
      refine ⟨_, adv_c r1 hsn, fun zr M2 hz => ?_⟩
      obtain ⟨rfl, r2, p2, lt⟩ := hz
      rw [b1] at r2 lt
      have p12 := p1.tr p2 g1
      have b2 := pfz_by ik p12
      have rc : rkN c = 6 := by rcases hc with ⟨-, rfl⟩ | ⟨-, rfl⟩ <;> rfl
      have cc : c < 40 := by omega
      have cn : ∀ P, cnP P = o → cnP (c :: P) = o := fun P hP => by rcases hc with ⟨-, rfl⟩ | ⟨-, rfl⟩ <;> exact (Nat.zero_add _).trans hP
      refine gX4_readProduct_58 ⟨_, H (d + 1) hd M2 n kt k _ u1 r2 (by omega) hk, fun zr M3 hz => ?_⟩
      rw [b2] at hz
      rcases hz with ⟨rfl, s2, u2, m2, h2, r3, p3, k1, k2, k3, k4, F2⟩ | ⟨rfl, hz⟩
      · have t3 := rd_tk r3
        have hu : u2 < 300 := by omega
        have kt' := rd_kt r3
        obtain ⟨q1, q2, q3, q4⟩ := put_c (x := nI (opC c)) r3 hu
        refine gX4_readProduct_63 ⟨fun _ => ⟨kt'.2, by rw [kt'.1]; exact q1, fun M4 e4 => ?_⟩, fun z => absurd z (by decide)⟩
        rw [kt'.1] at e4
        subst e4
        rw [nI_1]
        refine ih (j + 1) s2 (u2 + 1) (mc ++ m2 ++ [(c, 0)]) (max hh (h2 + 1)) _ (by omega) q2 ((p12.tr p3 g1).tr q3 (by omega)) (by omega) (by omega) (by omega) (by omega) (sv_bin (g5.cg (fun i _ hi => ?_)) (k4.cg (fun i _ hi => q3.2.2.2 i hi)) (by omega) q4) (fun P hP hl hn => prod_s (F P hP hl hn) hc (F2 (c :: P) (cn P hP) (fun _ => ia_f cc (by omega))) hl)
        rw [q3.2.2.2 i (by omega), p3.2.2.2 i (by omega), p2.2.2.2 i hi]
      · refine gX4_readProduct_63 ⟨fun z => absurd rfl z, fun _ => Or.inr ⟨rfl, hz.up p12 g1 (fun f s2 g P hP hl hn => ?_)⟩⟩
        exact prod_f (F P hP hl hn) hc (g (c :: P) (cn P hP) (fun _ => ia_f cc (by omega)))
    refine gX4_readProduct_12 ⟨fun z => ?_, fun _ => ⟨fun eA => ⟨fun z => absurd eA z, fun _ => st 7 (Or.inl ⟨(tb 42 (by omega)).mp eA, rfl⟩)⟩, fun nA => ⟨fun nB => ex (fun q => nA ((tb 42 (by omega)).mpr q)) (fun q => nB ((tb 47 (by omega)).mpr q)), fun eB => ⟨fun _ => st 8 (Or.inr ⟨(tb 47 (by omega)).mp eB, rfl⟩), fun z => absurd z nA⟩⟩⟩⟩
    have e0 : srt (byM M) n s1 = 0 := by
      unfold srt
      rw [if_pos ?_]
      rcases Nat.lt_or_ge j 300 with q | q
      · exact absurd z (nI_ge (a := j) (b := 300) q (by omega))
      · omega
    exact ex (by omega) (by omega)
theorem prod_st {o : Nat} (ho : o ≤ 8) (H : cOne o) : cProd o := by
  intro d hd M n kt k s u h hus hk
  obtain ⟨d, rfl⟩ : ∃ e, d = e + 1 := ⟨d - 1, by omega⟩
  refine Cl_of rfl (Nat.le_of_ble_eq_true rfl) rfl (gX4_readProduct_0 ⟨_, H d (by omega) M n kt k s u h hus hk, fun zr M1 hz => ?_⟩)
  rcases hz with ⟨rfl, s1, u1, mc, hh, r1, p1, g1, g2, g3, g4, F⟩ | ⟨rfl, hz⟩
  · refine gX4_readProduct_5 ⟨fun _ => ?_, fun z => absurd z (by decide)⟩
    exact prod_lp h hus hk ho H (by omega) (n - s1) 0 s1 u1 mc hh M1 (Nat.le_refl _) r1 p1 g1 g2 (by omega) (by omega) g4 (fun P hP hl hn => prod_0 (F P hP  hn) hl)
  · exact gX4_readProduct_5 ⟨fun z => absurd rfl z, fun _ => Or.inr ⟨rfl, hz.up pfz.rf (Nat.le_refl _) (fun f s2 g P hP hl hn => g P hP  hn)⟩⟩
theorem sumr_lp {d n kt k s u o : Nat} {M : ev_Mem} (h : rdS M n kt k s u) (hus : u ≤ s) (hk : k < 3) (ho : o ≤ 8) (H : cProd o) (hd : 11 + 8 * (8 - o) ≤ d) : ∀ (m j s1 u1 : Nat) (mc : List (Nat × Nat)) (hh : Nat) (M1 : ev_Mem), n - s1 ≤ m → rdS M1 n kt k s1 u1 → pfz kt u M M1 → u ≤ u1 → u1 + s ≤ u + s1 → j + s ≤ s1 → hh ≤ 5 * (8 - o) + 3 → SV (M1.1 (kt + 1)) u u1 mc k hh → (srt (byM M) n s1 ≠ 42 ∧ srt (byM M) n s1 ≠ 47) → (∀ P, cnP P = o → ltP P 5 → nc (byM M) n s P → fR 5 (byM M) n k s P s1 mc) →
    Ev LX (d + 1) mX4_readSum 12 [some (.ref 81), some (.int (nI o)), some (.int (nI j)), none] [] M1 (rRs SV M n kt k s u (5 * (8 - o) + 3) (fun s2 mc => noS (byM M) n s2 ∧ ∀ P, cnP P = o → ltP P 5 → nc (byM M) n s P → fR 5 (byM M) n k s P s2 mc) (fun f s2 => ∀ P, cnP P = o → ltP P 5 → nc (byM M) n s P → fF (byM M) n k s P f s2)) := by
  have ik := h.2.2.2.2.1
  have t := rd_tk h
  intro m
  induction m with
  | zero =>
    intro j s1 u1 mc hh M1 hm r1 p1 g1 g2 g3 g4 g5 hx F
    have b1 := pfz_by ik p1
    have t1 := rd_tk r1
    have e5 := r1.2.1.1
    rw [b1] at e5
    have e0 : srt (byM M) n s1 = 0 := by unfold srt; rw [if_pos (by omega)]
    rw [e0] at e5
    have ex : rRs SV M n kt k s u (5 * (8 - o) + 3) (fun s2 mc => noS (byM M) n s2 ∧ ∀ P, cnP P = o → ltP P 5 → nc (byM M) n s P → fR 5 (byM M) n k s P s2 mc) (fun f s2 => ∀ P, cnP P = o → ltP P 5 → nc (byM M) n s P → fF (byM M) n k s P f s2) (some (.int 1)) M1 := Or.inl ⟨rfl, s1, u1, mc, hh, r1, p1, g1, g2, g4, g5, ⟨by omega, by omega, by omega, by omega⟩, F⟩
    refine gX4_readSum_12 ⟨fun _ => ex, fun _ => ⟨fun z => ?_, fun _ => ⟨fun _ => ex, fun z => ?_⟩⟩⟩
    · rw [e5] at z; exact absurd z (by decide)
    · rw [e5] at z; exact absurd z (by decide)
  | succ m ih =>
    intro j s1 u1 mc hh M1 hm r1 p1 g1 g2 g3 g4 g5 hx F
    have b1 := pfz_by ik p1
    have t1 := rd_tk r1
    rw [b1] at t1
    have e5 := r1.2.1.1
    rw [b1] at e5
    have tb : ∀ c, c < 256 → (M1.1 81 5 = nI c ↔ srt (byM M) n s1 = c) := fun c hc => by rw [e5]; exact nI_eq (by omega) (by omega)
    have ex : srt (byM M) n s1 ≠ 43 → srt (byM M) n s1 ≠ 45 → rRs SV M n kt k s u (5 * (8 - o) + 3) (fun s2 mc => noS (byM M) n s2 ∧ ∀ P, cnP P = o → ltP P 5 → nc (byM M) n s P → fR 5 (byM M) n k s P s2 mc) (fun f s2 => ∀ P, cnP P = o → ltP P 5 → nc (byM M) n s P → fF (byM M) n k s P f s2) (some (.int 1)) M1 := fun z1 z2 => Or.inl ⟨rfl, s1, u1, mc, hh, r1, p1, g1, g2, g4, g5, ⟨z1, z2, hx.1, hx.2⟩, F⟩
    have st : ∀ c, (srt (byM M) n s1 = 43 ∧ c = 5) ∨ (srt (byM M) n s1 = 45 ∧ c = 6) → ∃ Q2 : Option Value → ev_Mem → Prop, Cl LX d mX4_advance [.ref 81] M1 Q2 ∧ ∀ (zr : Option Value) (zM : ev_Mem), Q2 zr zM → Ev LX (d + 1) mX4_readSum 58 [some (.ref 81), some (.int (nI o)), some (.int (nI j)), some (.int (nI (opC c)))] (zr.toList ++ []) zM (rRs SV M n kt k s u (5 * (8 - o) + 3) (fun s2 mc => noS (byM M) n s2 ∧ ∀ P, cnP P = o → ltP P 5 → nc (byM M) n s P → fR 5 (byM M) n k s P s2 mc) (fun f s2 => ∀ P, cnP P = o → ltP P 5 → nc (byM M) n s P → fF (byM M) n k s P f s2)) := by
      intro c hc
      obtain ⟨d, rfl⟩ : ∃ e, d = e + 1 := ⟨d - 1, by omega⟩
      have hsn := srt_end (b := byM M) (n := n) (s := s1) (by omega)
      refine ⟨_, adv_c r1 hsn, fun zr M2 hz => ?_⟩
      obtain ⟨rfl, r2, p2, lt⟩ := hz
      rw [b1] at r2 lt
      have p12 := p1.tr p2 g1
      have b2 := pfz_by ik p12
      have rc : rkN c = 5 := by rcases hc with ⟨-, rfl⟩ | ⟨-, rfl⟩ <;> rfl
      have cc : c < 40 := by omega
      have cn : ∀ P, cnP P = o → cnP (c :: P) = o := fun P hP => by rcases hc with ⟨-, rfl⟩ | ⟨-, rfl⟩ <;> exact (Nat.zero_add _).trans hP
      refine gX4_readSum_58 ⟨_, H (d + 1) hd M2 n kt k _ u1 r2 (by omega) hk, fun zr M3 hz => ?_⟩
      rw [b2] at hz
      rcases hz with ⟨rfl, s2, u2, m2, h2, r3, p3, k1, k2, k3, k4, hx2, F2⟩ | ⟨rfl, hz⟩
      · have t3 := rd_tk r3
        have hu : u2 < 300 := by omega
        have kt' := rd_kt r3
        obtain ⟨q1, q2, q3, q4⟩ := put_c (x := nI (opC c)) r3 hu
        refine gX4_readSum_63 ⟨fun _ => ⟨kt'.2, by rw [kt'.1]; exact q1, fun M4 e4 => ?_⟩, fun z => absurd z (by decide)⟩
        rw [kt'.1] at e4
        subst e4
        rw [nI_1]
        refine ih (j + 1) s2 (u2 + 1) (mc ++ m2 ++ [(c, 0)]) (max hh (h2 + 1)) _ (by omega) q2 ((p12.tr p3 g1).tr q3 (by omega)) (by omega) (by omega) (by omega) (by omega) (sv_bin (g5.cg (fun i _ hi => ?_)) (k4.cg (fun i _ hi => q3.2.2.2 i hi)) (by omega) q4) hx2 (fun P hP hl hn => sum_s (F P hP hl hn) hc (F2 (c :: P) (cn P hP) (Or.inr (show rkN c < 6 by omega)) (fun _ => ia_f cc (by omega))) hl)
        rw [q3.2.2.2 i (by omega), p3.2.2.2 i (by omega), p2.2.2.2 i hi]
      · refine gX4_readSum_63 ⟨fun z => absurd rfl z, fun _ => Or.inr ⟨rfl, hz.up p12 g1 (fun f s2 g P hP hl hn => ?_)⟩⟩
        exact sum_f (F P hP hl hn) hc (g (c :: P) (cn P hP) (Or.inr (show rkN c < 6 by omega)) (fun _ => ia_f cc (by omega)))
    refine gX4_readSum_12 ⟨fun z => ?_, fun _ => ⟨fun eA => ⟨fun z => absurd eA z, fun _ => st 5 (Or.inl ⟨(tb 43 (by omega)).mp eA, rfl⟩)⟩, fun nA => ⟨fun nB => ex (fun q => nA ((tb 43 (by omega)).mpr q)) (fun q => nB ((tb 45 (by omega)).mpr q)), fun eB => ⟨fun _ => st 6 (Or.inr ⟨(tb 45 (by omega)).mp eB, rfl⟩), fun z => absurd z nA⟩⟩⟩⟩
    have e0 : srt (byM M) n s1 = 0 := by
      unfold srt
      rw [if_pos ?_]
      rcases Nat.lt_or_ge j 300 with q | q
      · exact absurd z (nI_ge (a := j) (b := 300) q (by omega))
      · omega
    exact ex (by omega) (by omega)
theorem sumr_st {o : Nat} (ho : o ≤ 8) (H : cProd o) : cSum o := by
  intro d hd M n kt k s u h hus hk
  obtain ⟨d, rfl⟩ : ∃ e, d = e + 1 := ⟨d - 1, by omega⟩
  refine Cl_of rfl (Nat.le_of_ble_eq_true rfl) rfl (gX4_readSum_0 ⟨_, H d (by omega) M n kt k s u h hus hk, fun zr M1 hz => ?_⟩)
  rcases hz with ⟨rfl, s1, u1, mc, hh, r1, p1, g1, g2, g3, g4, hx, F⟩ | ⟨rfl, hz⟩
  · refine gX4_readSum_5 ⟨fun _ => ?_, fun z => absurd z (by decide)⟩
    exact sumr_lp h hus hk ho H (by omega) (n - s1) 0 s1 u1 mc hh M1 (Nat.le_refl _) r1 p1 g1 g2 (by omega) (by omega) g4 hx (fun P hP hl hn => sum_0 (F P hP (hl.elim Or.inl (fun z => Or.inr (by omega))) hn) hl)
  · exact gX4_readSum_5 ⟨fun z => absurd rfl z, fun _ => Or.inr ⟨rfl, hz.up pfz.rf (Nat.le_refl _) (fun f s2 g P hP hl hn => g P hP (hl.elim Or.inl (fun z => Or.inr (by omega))) hn)⟩⟩
end
