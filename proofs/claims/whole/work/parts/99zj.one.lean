/-! THE CLASS'S READER: one -/
section
variable {d : Nat} {M : ev_Mem}
def cOne (o : Nat) : Prop := ∀ d, 10 + 8 * (8 - o) ≤ d → ∀ (M : ev_Mem) (n kt k s u : Nat), rdS M n kt k s u → u ≤ s → k < 3 → Cl LX d mX4_readOne [.ref 81, .int (nI o)] M (rRs SV M n kt k s u (5 * (8 - o) + 1) (fun s2 mc => ∀ P, cnP P = o → nc (byM M) n s P → fOne (byM M) n k s P s2 mc) (fun f s2 => ∀ P, cnP P = o → nc (byM M) n s P → fF (byM M) n k s P f s2))
def cSum (o : Nat) : Prop := ∀ d, 12 + 8 * (8 - o) ≤ d → ∀ (M : ev_Mem) (n kt k s u : Nat), rdS M n kt k s u → u ≤ s → k < 3 → Cl LX d mX4_readSum [.ref 81, .int (nI o)] M (rRs SV M n kt k s u (5 * (8 - o) + 3) (fun s2 mc => noS (byM M) n s2 ∧ ∀ P, cnP P = o → ltP P 5 → nc (byM M) n s P → fR 5 (byM M) n k s P s2 mc) (fun f s2 => ∀ P, cnP P = o → ltP P 5 → nc (byM M) n s P → fF (byM M) n k s P f s2))
def cChoi (o : Nat) : Prop := ∀ d, 16 + 8 * (8 - o) ≤ d → ∀ (M : ev_Mem) (n kt k s u : Nat), rdS M n kt k s u → u ≤ s → k < 3 → Cl LX d mX4_readChoice [.ref 81, .int (nI o)] M (rRs SV M n kt k s u (5 * (8 - o) + 6) (fun s2 mc => ∀ P, cnP (41 :: P) = o → ∀ K R, MR (byM M) n k s2 (stl 7 P (K ++ mc)).1 true (stl 7 P (K ++ mc)).2 R → MR (byM M) n k s (41 :: P) false K R) (fun f s2 => ∀ P, cnP (41 :: P) = o → fF (byM M) n k s (41 :: P) f s2))
theorem cn_c {c o : Nat} {P : List Nat} (h : ctd c = true) (hp : cnP P = o) : cnP (c :: P) = o + 1 := by rw [cnP, if_pos h, hp]; omega
theorem ia_f {c : Nat} {P : List Nat} (h : c < 40) (h2 : 3 < rkN c) : iaP (c :: P) = false := by
  unfold iaP
  show ((onP (c :: P) == 41) && (decide (40 ≤ c) || (decide (1 ≤ rkN c) && decide (rkN c ≤ 3)))) = false
  rw [decide_eq_false (show ¬ 40 ≤ c by omega), decide_eq_false (show ¬ rkN c ≤ 3 by omega), Bool.and_false, Bool.or_false, Bool.and_false]
theorem ia_g {c : Nat} {P : List Nat} (h : 40 ≤ c) (h2 : c ≠ 41) : iaP (c :: P) = false := by
  unfold iaP
  rw [on_op h, show (c == 41) = false from beq_eq_false_iff_ne.mpr h2, Bool.false_and]
/-- one behind a sign or word: minus and uses -/
theorem un_ok {n kt k s u o s2 u2 c x hm hh : Nat} {mc : List (Nat × Nat)} {M1 M2 : ev_Mem} (h : rdS M n kt k s u) (hus : u ≤ s) (ho : o < 8) (hw : ∀ P, opW (byM M) n s P c) (hc : (c = 4 ∧ x = 3) ∨ (c = 2 ∧ x = 4)) (p1 : pfz kt u M M1) (hs : s < nxs (byM M) n s) (r2 : rdS M2 n kt k s2 u2) (p2 : pfz kt u M1 M2) (hu2 : u ≤ u2) (hsl : u2 + nxs (byM M) n s ≤ u + s2) (hhm : hh ≤ hm) (sv : SV (M2.1 (kt + 1)) u u2 mc k hh) (F : ∀ P, cnP P = o + 1 → nc (byM M) n (nxs (byM M) n s) P → fOne (byM M) n k (nxs (byM M) n s) P s2 mc) : u2 < 300 ∧ rOK SV M n kt k s u hm (fun s2 mc => ∀ P, cnP P = o → nc (byM M) n s P → fOne (byM M) n k s P s2 mc) (putM M2 kt (nI x)) := by
  have t2 := rd_tk r2
  have hu3 : u2 < 300 := by omega
  obtain ⟨q1, q2, q3, q4⟩ := put_c (x := nI x) r2 hu3
  refine ⟨hu3, s2, u2 + 1, mc ++ [(c, 0)], hh, q2, (p1.tr p2 (Nat.le_refl _)).tr q3 hu2, by omega, by omega, hhm, ?_, fun P hP hn => one_un (hw P) (by omega) (by omega) (F (c :: P) (cn_c (by rcases hc with ⟨rfl, -⟩ | ⟨rfl, -⟩ <;> rfl) hP) (fun _ => by rcases hc with ⟨rfl, -⟩ | ⟨rfl, -⟩ <;> exact ia_f (by decide) (by decide)))⟩
  have sv2 : SV ((putM M2 kt (nI x)).1 (kt + 1)) u u2 mc k hh := sv.cg (fun i _ hi => q3.2.2.2 i hi)
  rcases hc with ⟨rfl, rfl⟩ | ⟨rfl, rfl⟩
  · exact sv_neg sv2 q4
  · exact sv_use sv2 q4
theorem one_st {o : Nat} (ho : o ≤ 8) (H : o < 8 → cOne (o + 1) ∧ cSum (o + 1) ∧ cChoi (o + 1)) : cOne o := by
  intro d hd M n kt k s u h hus hk
  obtain ⟨d, rfl⟩ : ∃ e, d = e + 10 := ⟨d - 10, by omega⟩
  have t := rd_tk h
  have e5 := h.2.1.1
  have ik := h.2.2.2.2.1
  have tb : ∀ c, c < 256 → (M.1 81 5 = nI c ↔ srt (byM M) n s = c) := fun c hc => by rw [e5]; exact nI_eq (by omega) (by omega)
  -- a sign or word that opens
  refine Cl_of rfl (Nat.le_of_ble_eq_true rfl) rfl (gX4_readOne_0 ⟨fun n2 => ⟨fun n40 => ⟨fun n45 => ?_, fun e45 => ?_⟩, fun e40 => ?_⟩, fun e2 => ?_⟩)
  · have n2' : srt (byM M) n s ≠ 2 := fun q => n2 ((tb 2 (by omega)).mpr q)
    have n40' : srt (byM M) n s ≠ 40 := fun q => n40 ((tb 40 (by omega)).mpr q)
    have n45' : srt (byM M) n s ≠ 45 := fun q => n45 ((tb 45 (by omega)).mpr q)
    refine ⟨_, kX4_isToken (i := 1) (by omega) h.1 h.2.2.1 h.2.1, fun zr zM hz => ?_⟩
    obtain ⟨rfl, rfl⟩ := hz
    refine gX4_readOne_102 ⟨fun z => ?_, fun z => ?_⟩
    · have w1 : tkW (byM zM) n s (wdI 1) = false := (bi_0 _).mp z
      refine ⟨_, kX4_isToken (i := 2) (by omega) h.1 h.2.2.1 h.2.1, fun zr zM hz => ?_⟩
      obtain ⟨rfl, rfl⟩ := hz
      refine gX4_readOne_143 ⟨fun z => ?_, fun z => ?_⟩
      · have w2 : tkW (byM zM) n s (wdI 2) = false := (bi_0 _).mp z
        refine ⟨_, kX4_readName (o := o) (hm := 5 * (8 - o) + 1) h hus hk n2' n40' n45' w1 w2 (by omega), fun zr zM2 hz => ?_⟩
        rcases hz with ⟨rfl, hz⟩ | ⟨rfl, hz⟩
        · exact gX4_readOne_174 ⟨rfl, Or.inl ⟨rfl, hz⟩⟩
        · exact gX4_readOne_174 ⟨rfl, Or.inr ⟨rfl, hz⟩⟩
      · have w2 : tkW (byM zM) n s (wdI 2) = true := (bi_n0 _).mp z
        have hw : ∀ P, opW (byM zM) n s P 41 := fun P => Or.inr (Or.inr (Or.inr (Or.inl ⟨w2, rfl⟩)))
        have hsn := srt_end (b := byM zM) (n := n) (s := s) (by rw [tkW_s w2]; decide)
        refine ⟨_, kX4_goDeeper h hsn ho, fun zr zM1 hz => ?_⟩
        rcases hz with ⟨o8, rfl, h1, p1, lt⟩ | ⟨o8, rfl, rfl⟩
        · have b1 := pfz_by ik p1
          refine gX4_readOne_151 ⟨fun c => absurd c (by decide), fun _ => ?_⟩
          rw [nI_1]
          refine ⟨_, (H (by omega)).2.2 (d + 9) (by omega) zM1 n kt k _ u h1 (by omega) hk, fun zr zM2 hz => ?_⟩
          rcases hz with ⟨rfl, s2, u2, mc, hh, r2, p2, g1, g2, g3, g4, F⟩ | ⟨rfl, hz⟩
          · rw [b1] at F
            exact gX4_readOne_161 ⟨fun c => absurd c (by decide), fun _ => Or.inl ⟨rfl, s2, u2, mc, hh, r2, p1.tr p2 (Nat.le_refl _), g1, by omega, by omega, g4, fun P hP _ K R Z => op_go (hw P) (by omega) (F P (cn_c rfl hP) K R Z)⟩⟩
          · refine gX4_readOne_161 ⟨fun _ => Or.inr ⟨rfl, hz.up p1 (Nat.le_refl _) (fun f s2 g P hP _ => ?_)⟩, fun c => absurd rfl c⟩
            rw [b1] at g
            exact op_f (hw P) (by omega) (g P (cn_c rfl hP))
        · exact gX4_readOne_151 ⟨fun _ => Or.inr ⟨rfl, fl_c (f := 3) h (by omega) (fun P hP _ => op_dp (hw P) (by omega))⟩, fun c => absurd rfl c⟩
    · have w1 : tkW (byM zM) n s (wdI 1) = true := (bi_n0 _).mp z
      have hw : ∀ P, opW (byM zM) n s P 2 := fun P => Or.inr (Or.inr (Or.inl ⟨w1, rfl⟩))
      have hsn := srt_end (b := byM zM) (n := n) (s := s) (by rw [tkW_s w1]; decide)
      refine ⟨_, kX4_goDeeper h hsn ho, fun zr zM1 hz => ?_⟩
      rcases hz with ⟨o8, rfl, h1, p1, lt⟩ | ⟨o8, rfl, rfl⟩
      · have b1 := pfz_by ik p1
        refine gX4_readOne_110 ⟨fun c => absurd c (by decide), fun _ => ?_⟩
        rw [nI_1]
        refine ⟨_, (H (by omega)).1 (d + 9) (by omega) zM1 n kt k _ u h1 (by omega) hk, fun zr zM2 hz => ?_⟩
        rcases hz with ⟨rfl, s2, u2, mc, hh, r2, p2, g1, g2, g3, g4, F⟩ | ⟨rfl, hz⟩
        · rw [b1] at F
          obtain ⟨hu, ok⟩ := un_ok (c := 2) (x := 4) (hm := 5 * (8 - o) + 1) h hus (by omega) hw (by omega) p1 lt r2 p2 g1 g2 (by omega) g4 F
          refine gX4_readOne_120 ⟨fun c => absurd c (by decide), fun _ => ⟨_, kX4_putOp r2 hu, fun zr zM3 hz => ?_⟩⟩
          obtain ⟨rfl, rfl⟩ := hz
          exact gX4_readOne_128 ⟨fun c => absurd c (by decide), fun _ => Or.inl ⟨rfl, ok⟩⟩
        · refine gX4_readOne_120 ⟨fun _ => Or.inr ⟨rfl, hz.up p1 (Nat.le_refl _) (fun f s2 g P hP _ => ?_)⟩, fun c => absurd rfl c⟩
          rw [b1] at g
          exact op_f (hw P) (by omega) (g (2 :: P) (cn_c rfl hP) (fun _ => ia_f (by decide) (by decide)))
      · exact gX4_readOne_110 ⟨fun _ => Or.inr ⟨rfl, fl_c (f := 3) h (by omega) (fun P hP _ => op_dp (hw P) (by omega))⟩, fun c => absurd rfl c⟩
  · have e := (tb 45 (by omega)).mp e45
    have hw : ∀ P, opW (byM M) n s P 4 := fun P => Or.inr (Or.inl ⟨e, rfl⟩)
    have hsn := srt_end (b := byM M) (n := n) (s := s) (by omega)
    refine ⟨_, kX4_goDeeper h hsn ho, fun zr zM1 hz => ?_⟩
    rcases hz with ⟨o8, rfl, h1, p1, lt⟩ | ⟨o8, rfl, rfl⟩
    · have b1 := pfz_by ik p1
      refine gX4_readOne_69 ⟨fun c => absurd c (by decide), fun _ => ?_⟩
      rw [nI_1]
      refine ⟨_, (H (by omega)).1 (d + 9) (by omega) zM1 n kt k _ u h1 (by omega) hk, fun zr zM2 hz => ?_⟩
      rcases hz with ⟨rfl, s2, u2, mc, hh, r2, p2, g1, g2, g3, g4, F⟩ | ⟨rfl, hz⟩
      · rw [b1] at F
        obtain ⟨hu, ok⟩ := un_ok (c := 4) (x := 3) (hm := 5 * (8 - o) + 1) h hus (by omega) hw (by omega) p1 lt r2 p2 g1 g2 (by omega) g4 F
        refine gX4_readOne_79 ⟨fun c => absurd c (by decide), fun _ => ⟨_, kX4_putOp r2 hu, fun zr zM3 hz => ?_⟩⟩
        obtain ⟨rfl, rfl⟩ := hz
        exact gX4_readOne_87 ⟨fun c => absurd c (by decide), fun _ => Or.inl ⟨rfl, ok⟩⟩
      · refine gX4_readOne_79 ⟨fun _ => Or.inr ⟨rfl, hz.up p1 (Nat.le_refl _) (fun f s2 g P hP _ => ?_)⟩, fun c => absurd rfl c⟩
        rw [b1] at g
        exact op_f (hw P) (by omega) (g (4 :: P) (cn_c rfl hP) (fun _ => ia_f (by decide) (by decide)))
    · exact gX4_readOne_69 ⟨fun _ => Or.inr ⟨rfl, fl_c (f := 3) h (by omega) (fun P hP _ => op_dp (hw P) (by omega))⟩, fun c => absurd rfl c⟩
  · have e := (tb 40 (by omega)).mp e40
    have hw : ∀ P, opW (byM M) n s P 40 := fun P => Or.inl ⟨e, rfl⟩
    have hsn := srt_end (b := byM M) (n := n) (s := s) (by omega)
    refine ⟨_, kX4_goDeeper h hsn ho, fun zr zM1 hz => ?_⟩
    rcases hz with ⟨o8, rfl, h1, p1, lt⟩ | ⟨o8, rfl, rfl⟩
    · have b1 := pfz_by ik p1
      refine gX4_readOne_27 ⟨fun c => absurd c (by decide), fun _ => ?_⟩
      rw [nI_1]
      refine ⟨_, (H (by omega)).2.1 (d + 9) (by omega) zM1 n kt k _ u h1 (by omega) hk, fun zr zM2 hz => ?_⟩
      rcases hz with ⟨rfl, s2, u2, mc, hh, r2, p2, g1, g2, g3, g4, hns, F⟩ | ⟨rfl, hz⟩
      · rw [b1] at F hns
        have p12 := p1.tr p2 (Nat.le_refl _)
        have b2 := pfz_by ik p12
        refine gX4_readOne_37 ⟨fun c => absurd c (by decide), fun _ => ⟨_, kX4_expectSign (c := 41) r2 (by omega) (by omega), fun zr zM3 hz => ?_⟩⟩
        rw [b2] at hz
        have F' : ∀ P, cnP P = o → fR 5 (byM M) n k (nxs (byM M) n s) (40 :: P) s2 mc := fun P hP => F (40 :: P) (cn_c rfl hP) (lt_op (by decide) (by decide)) (fun _ => ia_g (by decide) (by decide))
        rcases hz with ⟨e41, rfl, r3, p3, lt3⟩ | ⟨e41, rfl, rfl⟩
        · exact gX4_readOne_46 ⟨fun c => absurd c (by decide), fun _ => Or.inl ⟨rfl, _, u2, mc, hh, r3, p12.tr p3 g1, g1, by omega, by omega, g4.cg (fun i _ hi => p3.2.2.2 i hi), fun P hP _ => one_par (hw P) (by omega) (F' P hP) hns e41⟩⟩
        · exact gX4_readOne_46 ⟨fun _ => Or.inr ⟨rfl, (fl_c (f := 1) (G := fun f s2 => ∀ P, cnP P = o → nc (byM M) n s P → fF (byM M) n k s P f s2) r2 (by omega) (fun P hP _ => op_f (hw P) (by omega) (sum_bad (F' P hP) hns (Or.inl ⟨rfl, e41⟩)))).up p12 g1 (fun _ _ g => g)⟩, fun c => absurd rfl c⟩
      · refine gX4_readOne_37 ⟨fun _ => Or.inr ⟨rfl, hz.up p1 (Nat.le_refl _) (fun f s2 g P hP _ => ?_)⟩, fun c => absurd rfl c⟩
        rw [b1] at g
        exact op_f (hw P) (by omega) (g (40 :: P) (cn_c rfl hP) (lt_op (by decide) (by decide)) (fun _ => ia_g (by decide) (by decide)))
    · exact gX4_readOne_27 ⟨fun _ => Or.inr ⟨rfl, fl_c (f := 3) h (by omega) (fun P hP _ => op_dp (hw P) (by omega))⟩, fun c => absurd rfl c⟩
  · have e := (tb 2 (by omega)).mp e2
    refine ⟨_, kX4_readPlainNumber (o := o) (hm := 5 * (8 - o) + 1) h hus e (by omega), fun zr zM hz => ?_⟩
    rcases hz with ⟨rfl, hz⟩ | ⟨rfl, hz⟩
    · exact gX4_readOne_12 ⟨rfl, Or.inl ⟨rfl, hz⟩⟩
    · exact gX4_readOne_12 ⟨rfl, Or.inr ⟨rfl, hz⟩⟩
end
