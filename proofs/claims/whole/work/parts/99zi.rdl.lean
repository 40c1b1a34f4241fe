/-! THE CLASS'S READER: its leaves -/
section
variable {d : Nat} {M : ev_Mem}
theorem nrw (x : Int32) (h : x = 0 ∨ x = 1) : narrow .boolean (.int x) = .int x := by rcases h with rfl | rfl <;> rfl
theorem kX4_goDeeper {n kt k s u o : Nat} (h : rdS M n kt k s u) (hs : s < n) (ho : o ≤ 8) : Cl LX (d + 2) mX4_goDeeper [.ref 81, .int (nI o)] M (fun r M2 => (o ≠ 8 ∧ r = some (.int 1) ∧ rdS M2 n kt k (nxs (byM M) n s) u ∧ pfz kt u M M2 ∧ s < nxs (byM M) n s) ∨ (o = 8 ∧ r = some (.int 0) ∧ M2 = flM M (nI 3))) := by
  refine Cl_of rfl (Nat.le_of_ble_eq_true rfl) rfl (gX4_goDeeper_0 ⟨fun z => ?_, fun z M1 e => ?_⟩)
  · have z8 : o ≠ 8 := fun q => by rw [q] at z; exact absurd z (by decide)
    refine ⟨_, adv_c h hs, fun zr zM hz => ?_⟩
    obtain ⟨rfl, h1, h2, h3⟩ := hz
    exact gX4_goDeeper_16 (Or.inl ⟨by omega, rfl, h1, h2, h3⟩)
  · refine Or.inr ⟨?_, rfl, e⟩
    rcases Nat.lt_or_ge o 8 with q | q
    · exact absurd (nI_lt (a := o) (b := 8) q (by omega)) z
    · omega
theorem kX4_putOp {n kt k s u : Nat} {x : Int32} (h : rdS M n kt k s u) (hu : u < 300) : Cl LX (d + 1) mX4_putOp [.ref 81, .int x] M (ev_R (some (.int 1)) (putM M kt x)) := by
  have t := rd_kt h
  refine Cl_of rfl (Nat.le_of_ble_eq_true rfl) rfl (gX4_putOp_0 ⟨t.2, ?_, fun M1 e => ⟨rfl, ?_⟩⟩)
  · rw [t.1]; exact (put_c (x := x) h hu).1
  · rw [e, t.1]
theorem kX4_expectSign {n kt k s u c : Nat} (h : rdS M n kt k s u) (hc : c ≠ 0) (hc2 : c < 256) : Cl LX (d + 2) mX4_expectSign [.ref 81, .int (nI c)] M (fun r M2 => (srt (byM M) n s = c ∧ r = some (.int 1) ∧ rdS M2 n kt k (nxs (byM M) n s) u ∧ pfz kt u M M2 ∧ s < nxs (byM M) n s) ∨ (srt (byM M) n s ≠ c ∧ r = some (.int 0) ∧ M2 = flM M (nI 1))) := by
  have t := rd_tk h
  have e5 := h.2.1.1
  refine Cl_of rfl (Nat.le_of_ble_eq_true rfl) rfl (gX4_expectSign_0 ⟨fun z => ?_, fun z M1 e => ?_⟩)
  · rw [e5] at z
    have z1 := (nI_eq (by omega) (by omega)).mp z
    refine ⟨_, adv_c h (srt_end (b := byM M) (n := n) (s := s) (by omega)), fun zr zM hz => ?_⟩
    obtain ⟨rfl, h1, h2, h3⟩ := hz
    exact gX4_expectSign_18 (Or.inl ⟨z1, rfl, h1, h2, h3⟩)
  · rw [e5] at z
    exact Or.inr ⟨fun q => z (by rw [q]), rfl, e⟩
theorem kX4_expectToken {n kt k s u i : Nat} (h : rdS M n kt k s u) (hi : i < 15) : Cl LX (d + 5) mX4_expectToken [.ref 81, .ref (1010 + i)] M (fun r M2 => (tkW (byM M) n s (wdI i) = true ∧ r = some (.int 1) ∧ rdS M2 n kt k (nxs (byM M) n s) u ∧ pfz kt u M M2 ∧ s < nxs (byM M) n s) ∨ (tkW (byM M) n s (wdI i) = false ∧ r = some (.int 0) ∧ M2 = flM M (nI 1))) := by
  refine Cl_of rfl (Nat.le_of_ble_eq_true rfl) rfl (gX4_expectToken_0 hi ⟨_, kX4_isToken hi h.1 h.2.2.1 h.2.1, fun zr zM hz => ?_⟩)
  obtain ⟨rfl, rfl⟩ := hz
  have e : tkW (byM zM) n s (sxB.getD i []) = tkW (byM zM) n s (wdI i) := rfl
  rw [e]
  refine gX4_expectToken_5 hi ⟨fun z => ?_, fun z M1 e => ?_⟩
  · have z1 := (bi_n0 _).mp z
    refine ⟨_, adv_c h (srt_end (by rw [tkW_s z1]; decide)), fun zr zM hz => ?_⟩
    obtain ⟨rfl, h1, h2, h3⟩ := hz
    exact gX4_expectToken_18 hi (Or.inl ⟨z1, rfl, h1, h2, h3⟩)
  · exact Or.inr ⟨(bi_0 _).mp z, rfl, e⟩
/-- what a word is not, at the end of a sum -/
def nc (b : Nat → Nat) (n s : Nat) (P : List Nat) : Prop := tkW b n s (wdI 3) = true → iaP P = false
theorem kX4_readPlainNumber {n kt k s u o hm : Nat} (h : rdS M n kt k s u) (hus : u ≤ s) (h2 : srt (byM M) n s = 2) (hm1 : 1 ≤ hm) : Cl LX (d + 4) mX4_readPlainNumber [.ref 81] M (rRs SV M n kt k s u hm (fun s2 mc => ∀ P, cnP P = o → nc (byM M) n s P → fOne (byM M) n k s P s2 mc) (fun f s2 => ∀ P, cnP P = o → nc (byM M) n s P → fF (byM M) n k s P f s2)) := by
  have t := rd_tk h
  have hsn := srt_end (b := byM M) (n := n) (s := s) (by omega)
  have nr := num_rel (b := byM M) (s := s) (nxt (byM M) n s - s) (dig_all t.1 h2)
  refine Cl_of rfl (Nat.le_of_ble_eq_true rfl) rfl (gX4_readPlainNumber_0 ⟨_, kX4_number h.1 h.2.2.1 h.2.1 h2, fun zr zM hz => ?_⟩)
  obtain ⟨rfl, rfl⟩ := hz
  have kt' := rd_kt h
  refine gX4_readPlainNumber_4 ⟨fun z => ⟨kt'.2, ?_, fun M1 e1 => ?_⟩, fun z M2 e2 => ?_⟩
  · rw [kt'.1]; exact (put_c (x := 0) h (by omega)).1
  · rcases nr with ⟨e, hl⟩ | ⟨e, hl⟩
    · rw [kt'.1, e] at e1
      obtain ⟨p1, p2, p3, p4⟩ := put_c (x := enc 1 (nuK (byM zM) s (nxt (byM zM) n s - s))) h (by omega)
      have e1' : M1 = putM zM kt (enc 1 (nuK (byM zM) s (nxt (byM zM) n s - s))) := e1
      rw [← e1'] at p2 p3 p4
      refine ⟨_, adv_c p2 hsn, fun zr zM2 hz => ?_⟩
      obtain ⟨rfl, a1, a2, a3⟩ := hz
      rw [pfz_by h.2.2.2.2.1 p3] at a1 a3
      refine gX4_readPlainNumber_34 (Or.inl ⟨rfl, nxs (byM zM) n s, u + 1, [(0, nuN (byM zM) n s)], 1, a1, p3.tr a2 (by omega), by omega, by omega, hm1, sv_num (by unfold nuN; omega) ?_, fun P _ _ => one_num h2 (by unfold nuN; omega)⟩)
      rw [a2.2.2.2 u (by omega), p4]
      rfl
    · exfalso
      rw [e] at z
      exact absurd z (by decide)
  · have z2 : ¬ cnK (byM zM) s (nxt (byM zM) n s - s) ≤ 9999 := fun q => z (nI_le (a := cnK (byM zM) s (nxt (byM zM) n s - s)) (b := 9999) q (by omega))
    have z3 : 9999 < nuN (byM zM) n s := by unfold nuN; omega
    refine Or.inr ⟨rfl, ?_⟩
    rw [e2]
    exact fl_c (f := 2) h (by omega) (fun P _ _ => one_num_f h2 z3)
theorem lon_i : ∀ k, k < 3 → ∀ i, i < 12 → (iof (nI k) (nI i) = true ↔ (ev_lon i = -1 ∨ ev_lon i = nI k)) := by decide +kernel
theorem iof_nm {k i : Nat} (hk : k < 3) (hi : i < 12) (h : iof (nI k) (nI i) = true) : nmK k i := by
  have a0 : ∀ i, i < 12 → iof (nI 0) (nI i) = true → i < 7 := by decide +kernel
  have a1 : ∀ i, i < 12 → iof (nI 1) (nI i) = true → i < 2 ∨ (7 ≤ i ∧ i < 9) := by decide +kernel
  have a2 : ∀ i, i < 12 → iof (nI 2) (nI i) = true → i < 2 ∨ 9 ≤ i := by decide +kernel
  have : k = 0 ∨ k = 1 ∨ k = 2 := by omega
  unfold nmK
  rcases this with rfl | rfl | rfl
  · have := a0 i hi h; omega
  · have := a1 i hi h; omega
  · have := a2 i hi h; omega
theorem kX4_readName {n kt k s u o hm : Nat} (h : rdS M n kt k s u) (hus : u ≤ s) (hk : k < 3) (h2 : srt (byM M) n s ≠ 2) (h40 : srt (byM M) n s ≠ 40) (h45 : srt (byM M) n s ≠ 45) (w1 : tkW (byM M) n s (wdI 1) = false) (w2 : tkW (byM M) n s (wdI 2) = false) (hm1 : 1 ≤ hm) : Cl LX (d + 5) mX4_readName [.ref 81] M (rRs SV M n kt k s u hm (fun s2 mc => ∀ P, cnP P = o → nc (byM M) n s P → fOne (byM M) n k s P s2 mc) (fun f s2 => ∀ P, cnP P = o → nc (byM M) n s P → fF (byM M) n k s P f s2)) := by
  have t := rd_tk h
  refine Cl_of rfl (Nat.le_of_ble_eq_true rfl) rfl (gX4_readName_0 ⟨_, kX4_rankIn (i := 9) (by omega) nmW_e (by decide) h.1 h.2.2.1 h.2.1, fun zr zM hz => ?_⟩)
  obtain ⟨rfl, rfl⟩ := hz
  have kt' := rd_kt h
  have en : rkW (tkW (byM zM) n s) nmW 0 = nmN (byM zM) n s := rfl
  rw [en]
  rcases nm_c (byM zM) n s with e | ⟨i, hi, e⟩
  · rw [e]
    refine gX4_readName_6 ⟨fun z M1 e1 => Or.inr ⟨rfl, ?_⟩, fun z => absurd m1_lt0 z⟩
    rw [e1]
    exact fl_c (f := 1) h (by omega) (fun P _ hn => one_no h2 e h40 h45 w1 w2 hn)
  · have hsn := srt_end (b := byM zM) (n := n) (s := s) (fun q => by
      have := nm_no (b := byM zM) (n := n) (s := s) (by omega)
      rw [e] at this
      exact (nI_pos (n := i) (by omega)) (by rw [this]; decide))
    have good : iof (nI k) (nI i) = true → ∀ M1, M1 = putM zM kt (enc 2 i) → ∃ Q2 : Option Value → ev_Mem → Prop, Cl LX (d + 4) mX4_advance [.ref 81] M1 Q2 ∧ ∀ (zr : Option Value) (zM2 : ev_Mem), Q2 zr zM2 → Ev LX (d + 5) mX4_readName 68 [none, none] (zr.toList ++ []) zM2 (rRs SV zM n kt k s u hm (fun s2 mc => ∀ P, cnP P = o → nc (byM zM) n s P → fOne (byM zM) n k s P s2 mc) (fun f s2 => ∀ P, cnP P = o → nc (byM zM) n s P → fF (byM zM) n k s P f s2)) := by
      intro hi1 M1 e1
      obtain ⟨p1, p2, p3, p4⟩ := put_c (x := enc 2 i) h (by omega)
      rw [← e1] at p2 p3 p4
      refine ⟨_, adv_c p2 hsn, fun zr zM2 hz => ?_⟩
      obtain ⟨rfl, a1, a2, a3⟩ := hz
      rw [pfz_by h.2.2.2.2.1 p3] at a1 a3
      refine gX4_readName_68 (Or.inl ⟨rfl, nxs (byM zM) n s, u + 1, [(1, i)], 1, a1, p3.tr a2 (by omega), by omega, by omega, hm1, sv_nam (iof_nm hk hi hi1) hi ?_, fun P _ _ => one_nam hi e hi1⟩)
      rw [a2.2.2.2 u (by omega), p4]
    have li := lon_i k hk i hi
    rw [e]
    refine gX4_readName_6 ⟨fun z => absurd z (nI_pos (by omega)), fun _ => ⟨fun _ => ⟨vp_in_nI (by omega) (by omega), fun z => ⟨kt'.2, ?_, fun M2 e2 => ?_⟩, fun z => ⟨vp_in_nI (by omega) (by omega), fun z2 => ⟨kt'.2, ?_, fun M3 e3 => ?_⟩, fun z2 M4 e4 => Or.inr ⟨rfl, ?_⟩⟩⟩, fun z => absurd (nI_lt (a := i) (b := 12) hi (by omega)) z⟩⟩
    · rw [kt'.1]; exact (put_c (x := 0) h (by omega)).1
    · rw [nI_clamp (by omega)] at z
      rw [kt'.1] at e2
      exact good (li.mpr (Or.inl z)) M2 e2
    · rw [kt'.1]; exact (put_c (x := 0) h (by omega)).1
    · rw [nI_clamp (by omega), h.2.2.2.2.2.2] at z2
      rw [kt'.1] at e3
      exact good (li.mpr (Or.inr z2)) M3 e3
    · rw [nI_clamp (by omega)] at z z2
      rw [h.2.2.2.2.2.2] at z2
      rw [e4]
      refine fl_c (f := 5) h (by omega) (fun P _ _ => one_nam_f hi e ?_)
      cases q : iof (nI k) (nI i) with
      | false => rfl
      | true => exact absurd (li.mp q) (fun r => r.elim z z2)
end
