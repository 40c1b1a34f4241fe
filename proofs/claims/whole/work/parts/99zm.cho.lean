/-! THE CLASS'S READER: what is chosen; all of it -/
section
variable {d : Nat} {M : ev_Mem}
theorem kX8_set {k at' u : Nat} {x : Int32} (hk : ev_isT k) (hu : M.1 k 1 = nI u) (ha : at' < u) (h3 : u ≤ 300) : Cl LX d mX8_set [.ref k, .int (nI at'), .int x] M (ev_R none (ev_wr M (k + 1) at' x)) := by
  refine Cl_of rfl (Nat.le_of_ble_eq_true rfl) rfl (gX8_set_0 hk ⟨fun z => absurd z (nI_pos (by omega)), fun _ => ⟨fun z => ?_, fun _ => ⟨vp_in_nI (by omega) (by omega), fun M1 e => ⟨rfl, ?_⟩⟩⟩⟩)
  · rw [hu] at z
    exact absurd z (nI_ge ha (by omega))
  · rw [e, nI_clamp (by omega)]
theorem set_c {n kt k s u u0 at' : Nat} {x : Int32} (h : rdS M n kt k s u) (ha : at' < u) (h0 : u0 ≤ at') : rdS (ev_wr M (kt + 1) at' x) n kt k s u ∧ pfz kt u0 M (ev_wr M (kt + 1) at' x) ∧ (ev_wr M (kt + 1) at' x).1 (kt + 1) at' = x ∧ ∀ j, j ≠ at' → (ev_wr M (kt + 1) at' x).1 (kt + 1) j = M.1 (kt + 1) j := by
  obtain ⟨h1, h2, h3, h4, h5, h6, h7⟩ := h
  have kb := isT_b h5
  have hp : pfz kt u0 M (ev_wr M (kt + 1) at' x) := ⟨fun i _ _ c => wr_cell c, fun j _ => by rw [wr_cell (by omega)], fun j _ => by rw [wr_cell (by omega)], fun j a => wr_ne (by omega)⟩
  have q : ∀ j, (ev_wr M (kt + 1) at' x).1 81 j = M.1 81 j := fun j => by rw [wr_cell (by omega)]
  refine ⟨⟨⟨h1.1, ?_, ?_⟩, ?_, h3, (q 1).trans h4, h5, ?_, (q 8).trans h7⟩, hp, wr_same, fun j hj => wr_ne (by omega)⟩
  · rw [hp.1 1 (by omega) (by omega) (by omega)]; exact h1.2.1
  · rw [hp.1 2 (by omega) (by omega) (by omega)]; exact h1.2.2
  · rw [pfz_by h5 hp]
    exact ⟨(q 5).trans h2.1, (q 6).trans h2.2.1, (q 7).trans h2.2.2⟩
  · rw [wr_cell (by omega)]; exact h6
theorem choi_st {o : Nat} (ho : o ≤ 8) (HE : cEith o) (HS : cSum o) : cChoi o := by
  intro d hd M n kt k s u h hus hk
  obtain ⟨d, rfl⟩ : ∃ e, d = e + 10 := ⟨d - 10, by omega⟩
  have t := rd_tk h
  have ik := h.2.2.2.2.1
  refine Cl_of rfl (Nat.le_of_ble_eq_true rfl) rfl (gX4_readChoice_0 ⟨_, HE (d + 9) (by omega) M n kt k s u h hus hk, fun zr M1 hz => ?_⟩)
  rcases hz with ⟨rfl, s1, u1, mq, hq, r1, p1, g1, g2, g3, g4, ⟨⟨hns, w4⟩, w5⟩, F⟩ | ⟨rfl, hz⟩
  · have b1 := pfz_by ik p1
    have F1 : ∀ P, cnP (41 :: P) = o → fQ 1 (byM M) n k s (41 :: P) s1 mq := fun P hP => F _ hP ia_41 (lt_op (by decide) (by decide))
    refine gX4_readChoice_5 ⟨fun z => absurd z (by decide), fun _ => ⟨_, kX4_expectToken (i := 6) r1 (by omega), fun zr M2 hz => ?_⟩⟩
    rw [b1] at hz
    rcases hz with ⟨w6, rfl, r2, p2, lt2⟩ | ⟨w6, rfl, rfl⟩
    · have p12 := p1.tr p2 g1
      have b2 := pfz_by ik p12
      have t2 := rd_tk r2
      have k2 := rd_kt r2
      obtain ⟨a1, a2, a3, a4⟩ := put_c (x := 6) r2 (by omega)
      refine gX4_readChoice_14 ⟨fun _ => ⟨k2.2, fun v1 ev1 => ⟨k2.2, by rw [k2.1]; exact a1, fun M3 e3 => ?_⟩⟩, fun z => absurd z (by decide)⟩
      rw [k2.1] at e3 ev1
      rw [r2.2.2.2.2.2.1] at ev1
      subst e3 ev1
      have p3 := p12.tr a3 g1
      have b3 := pfz_by ik p3
      refine ⟨_, HS (d + 9) (by omega) _ n kt k _ (u1 + 1) a2 (by omega) hk, fun zr M4 hz => ?_⟩
      rw [b3] at hz
      have cn42 : ∀ P, cnP (41 :: P) = o → cnP (42 :: P) = o := fun P hP => hP
      have cn43 : ∀ P, cnP (41 :: P) = o → cnP (43 :: P) = o := fun P hP => hP
      have T1 : ∀ P, cnP (41 :: P) = o → ∀ K R, MR (byM M) n k (nxs (byM M) n s1) (42 :: P) false (K ++ mq) R → MR (byM M) n k s (41 :: P) false K R := fun P hP K R Z => ask_th (F1 P hP) hns w6 Z
      rcases hz with ⟨rfl, s2, u2, ma, ha, r4, p4, h1, h2, h3, h4, hns2, G2⟩ | ⟨rfl, hz⟩
      · have F2 : ∀ P, cnP (41 :: P) = o → fR 5 (byM M) n k (nxs (byM M) n s1) (42 :: P) s2 ma := fun P hP => G2 _ (cn42 P hP) (lt_op (by decide) (by decide)) (fun _ => ia_g (by decide) (by decide))
        have p34 := p3.tr p4 (by omega)
        have b4 := pfz_by ik p34
        refine gX4_readChoice_41 ⟨fun z => absurd z (by decide), fun _ => ⟨_, kX4_expectToken (i := 7) r4 (by omega), fun zr M5 hz => ?_⟩⟩
        rw [b4] at hz
        rcases hz with ⟨w7, rfl, r5, p5, lt5⟩ | ⟨w7, rfl, rfl⟩
        · have p45 := p34.tr p5 (by omega)
          have t5 := rd_tk r5
          have k5 := rd_kt r5
          obtain ⟨c1, c2, c3, c4⟩ := put_c (x := 7) r5 (by omega)
          have k6 := rd_kt c2
          have t6 := rd_tk c2
          refine gX4_readChoice_50 ⟨fun _ => ⟨k5.2, fun v2 ev2 => ⟨k5.2, by rw [k5.1]; exact c1, fun M6 e6 => ?_⟩⟩, fun z => absurd z (by decide)⟩
          rw [k5.1] at e6 ev2
          rw [r5.2.2.2.2.2.1] at ev2
          subst e6 ev2
          refine ⟨k6.2, k6.2, ?_⟩
          rw [k6.1, c2.2.2.2.2.2.1, show ((6 : Int32) ||| (nI (u2 + 1) <<< (5 &&& 31))) = enc 6 (u2 + 1) from rfl]
          refine ⟨_, kX8_set ik c2.2.2.2.2.2.1 (by omega) (by omega), fun zr M7 hz => ?_⟩
          obtain ⟨rfl, rfl⟩ := hz
          obtain ⟨e1, e2, e3, e4⟩ := set_c (u0 := u1) (at' := u1) (x := enc 6 (u2 + 1)) c2 (by omega) (Nat.le_refl _)
          have p7 := (p45.tr c3 (by omega)).tr e2 g1
          have b7 := pfz_by ik p7
          refine gX4_readChoice_92 ⟨_, HS (d + 9) (by omega) _ n kt k _ (u2 + 1) e1 (by omega) hk, fun zr M8 hz => ?_⟩
          rw [b7] at hz
          rcases hz with ⟨rfl, s3, u3, mb, hb, r8, p8, j1, j2, j3, j4, hns3, G3⟩ | ⟨rfl, hz⟩
          · have F3 : ∀ P, cnP (41 :: P) = o → fR 5 (byM M) n k (nxs (byM M) n s2) (43 :: P) s3 mb := fun P hP => G3 _ (cn43 P hP) (lt_op (by decide) (by decide)) (fun _ => ia_g (by decide) (by decide))
            have p78 := p7.tr p8 (by omega)
            have b8 := pfz_by ik p78
            refine gX4_readChoice_97 ⟨fun z => absurd z (by decide), fun _ => ⟨_, kX4_expectToken (i := 8) r8 (by omega), fun zr M9 hz => ?_⟩⟩
            rw [b8] at hz
            rcases hz with ⟨w8, rfl, r9, p9, lt9⟩ | ⟨w8, rfl, rfl⟩
            · have k9 := rd_kt r9
              have t9 := rd_tk r9
              refine gX4_readChoice_106 ⟨fun _ => ⟨k9.2, k9.2, ?_⟩, fun z => absurd z (by decide)⟩
              rw [k9.1, r9.2.2.2.2.2.1, show ((7 : Int32) ||| (nI u3 <<< (5 &&& 31))) = enc 7 u3 from rfl]
              refine ⟨_, kX8_set ik r9.2.2.2.2.2.1 (by omega) (by omega), fun zr MA hz => ?_⟩
              obtain ⟨rfl, rfl⟩ := hz
              obtain ⟨f1, f2, f3, f4⟩ := set_c (u0 := u2) (at' := u2) (x := enc 7 u3) r9 (by omega) (Nat.le_refl _)
              refine gX4_readChoice_131 (Or.inl ⟨rfl, _, u3, mq ++ ma ++ mb ++ [(3, 0)], max hq (max ha hb), f1, (p78.tr p9 (by omega)).tr f2 (by omega), by omega, by omega, by omega, sv_ch (g4.cg ?_) ?_ (h4.cg ?_) f3 (j4.cg ?_) (by omega), ?_⟩)
              · intro i hi1 hi2
                rw [f4 i (by omega), p9.2.2.2 i (by omega), p8.2.2.2 i (by omega), e4 i (by omega), c3.2.2.2 i (by omega), p5.2.2.2 i (by omega), p4.2.2.2 i (by omega), a3.2.2.2 i (by omega), p2.2.2.2 i (by omega)]
              · rw [f4 u1 (by omega), p9.2.2.2 u1 (by omega), p8.2.2.2 u1 (by omega)]
                exact e3
              · intro i hi1 hi2
                rw [f4 i (by omega), p9.2.2.2 i (by omega), p8.2.2.2 i (by omega), e4 i (by omega), c3.2.2.2 i (by omega), p5.2.2.2 i (by omega)]
              · intro i hi1 hi2
                rw [f4 i (by omega), p9.2.2.2 i (by omega)]
              · intro P hP K R Z
                refine T1 P hP K R (sum_el (F2 P hP) hns2 w7 (sum_en (F3 P hP) hns3 w8 ?_))
                rw [show K ++ mq ++ ma ++ mb ++ [(3, 0)] = K ++ (mq ++ ma ++ mb ++ [(3, 0)]) by simp only [List.append_assoc]]
                exact Z
            · exact gX4_readChoice_106 ⟨fun z => absurd rfl z, fun _ => Or.inr ⟨rfl, (fl_c (f := 1) (G := fun f s2 => ∀ P, cnP (41 :: P) = o → fF (byM M) n k s (41 :: P) f s2) r8 (by omega) (fun P hP K => T1 P hP K _ (sum_el (F2 P hP) hns2 w7 (sum_bad (F3 P hP) hns3 (Or.inr (Or.inr ⟨rfl, w8⟩)) _)))).up p78 (by omega) (fun _ _ g => g)⟩⟩
          · exact gX4_readChoice_97 ⟨fun _ => Or.inr ⟨rfl, hz.up p7 (by omega) (fun f s2 g P hP K => T1 P hP K _ (sum_el (F2 P hP) hns2 w7 (g (43 :: P) (cn43 P hP) (lt_op (by decide) (by decide)) (fun _ => ia_g (by decide) (by decide)) _)))⟩, fun z => absurd rfl z⟩
        · exact gX4_readChoice_50 ⟨fun z => absurd rfl z, fun _ => Or.inr ⟨rfl, (fl_c (f := 1) (G := fun f s2 => ∀ P, cnP (41 :: P) = o → fF (byM M) n k s (41 :: P) f s2) r4 (by omega) (fun P hP K => T1 P hP K _ (sum_bad (F2 P hP) hns2 (Or.inr (Or.inl ⟨rfl, w7⟩)) _))).up p34 (by omega) (fun _ _ g => g)⟩⟩
      · exact gX4_readChoice_41 ⟨fun _ => Or.inr ⟨rfl, hz.up p3 (by omega) (fun f s2 g P hP K => T1 P hP K _ (g (42 :: P) (cn42 P hP) (lt_op (by decide) (by decide)) (fun _ => ia_g (by decide) (by decide)) _))⟩, fun z => absurd rfl z⟩
    · exact gX4_readChoice_14 ⟨fun z => absurd rfl z, fun _ => Or.inr ⟨rfl, (fl_c (f := 1) (G := fun f s2 => ∀ P, cnP (41 :: P) = o → fF (byM M) n k s (41 :: P) f s2) r1 (by omega) (fun P hP => th_bad (F1 P hP) hns w4 w5 w6)).up p1 g1 (fun _ _ g => g)⟩⟩
  · exact gX4_readChoice_5 ⟨fun _ => Or.inr ⟨rfl, hz.up pfz.rf (Nat.le_refl _) (fun f s2 g P hP => g (41 :: P) hP ia_41 (lt_op (by decide) (by decide)))⟩, fun z => absurd rfl z⟩
/-- all of it, from the deepest on -/
theorem all_rd : ∀ j, j ≤ 8 → (cOne (8 - j) ∧ cSum (8 - j) ∧ cChoi (8 - j)) ∧ cAsk (8 - j)
  | 0, _ => by
    have h1 : cOne 8 := one_st (by omega) (fun z => by omega)
    have h2 : cSum 8 := sumr_st (by omega) (prod_st (by omega) h1)
    have h3 : cAsk 8 := ask_st (by omega) h2 (fun z => by omega)
    exact ⟨⟨h1, h2, choi_st (by omega) (eith_st (by omega) (both_st (by omega) h3)) h2⟩, h3⟩
  | j + 1, hj => by
    have ih := all_rd j (by omega)
    rw [show 8 - j = 8 - (j + 1) + 1 by omega] at ih
    have h1 : cOne (8 - (j + 1)) := one_st (by omega) (fun _ => ih.1)
    have h2 : cSum (8 - (j + 1)) := sumr_st (by omega) (prod_st (by omega) h1)
    have h3 : cAsk (8 - (j + 1)) := ask_st (by omega) h2 (fun _ => ih.2)
    exact ⟨⟨h1, h2, choi_st (by omega) (eith_st (by omega) (both_st (by omega) h3)) h2⟩, h3⟩
theorem sum_rd : cSum 0 := (all_rd 8 (by omega)).1.2.1
end
