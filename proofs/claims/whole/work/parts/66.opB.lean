/-! CALLS: by, told, stiff -/
section
variable {B : Nat} {M N : ev_Mem}
theorem stRel_x2 {B : Nat} {M M2 : ev_Mem} {W S mc nc : Nat} {a : Nat → Int32} (hd : ∀ k, 5 ≤ k → k < 43 → M2.1 k = M.1 k) (hm : ∀ k, mc ≤ k → k < mc + 4 → M2.1 k = M.1 k) (hn : ∀ k, nc ≤ k → k < nc + 13 → M2.1 k = M.1 k) (h : stRel B M W S mc nc a) : stRel B M2 W S mc nc a := by
  obtain ⟨⟨h1, h2, h3⟩, ⟨h4, h5, h6⟩, h7, h8⟩ := h
  exact ⟨⟨h1, h2, fun w hw => wRel_cg (by omega) (fun k _ _ => (hd k (by omega) (by omega)).symm) (fun _ _ _ => rfl) (h3 w hw)⟩, ⟨h4, h5, fun s hs => sRel_cg (by omega) (fun k _ _ => (hd k (by omega) (by omega)).symm) (fun _ _ _ => rfl) (h6 s hs)⟩, mRel_cg (fun k q1 q2 => (hm k q1 q2).symm) rfl (fun _ _ _ => rfl) (fun _ _ _ => rfl) h7, nRel_cg (Nat.le_refl _) (fun k q1 q2 => (hn k q1 q2).symm) rfl rfl (fun _ _ _ => rfl) (fun _ _ _ => rfl) h8⟩
/-- a call on the tape alone -/
theorem RX_tp {M2 N2 : ev_Mem} (h : RX B M N) (hM : ∀ k, k < 118 → k ≠ 1 → k ≠ 2 → k < 82 ∨ 100 ≤ k → M2.1 k = M.1 k) (hN : ∀ k, 1 ≤ k → k ≤ 4 → N2.1 k = N.1 k) (h0 : N2.1 0 6 = N.1 0 6 ∧ N2.1 0 7 = N.1 0 7) (ht : tRel M2 N2) : RX B M2 N2 := by
  obtain ⟨W, S, T, Wk, Sk, Tk, h1, h2, h3, h4, h5, h6⟩ := h
  have hT := h1.2.2.2.2
  refine ⟨W, S, T, Wk, Sk, Tk, ⟨?_, by rw [hM 3 (by omega) (by omega) (by omega) (by omega)]; exact h1.2.1, by rw [hM 3 (by omega) (by omega) (by omega) (by omega)]; exact h1.2.2.1, by rw [hN 1 (by omega) (by omega)]; exact h1.2.2.2⟩, ⟨?_, by rw [hM 0 (by omega) (by omega) (by omega) (by omega), hN 2 (by omega) (by omega)]; exact h2.2⟩, h3, fun t ht => txtR_cg (fun i _ _ => (hM i (by omega) (by omega) (by omega) (by omega)).symm) (hN 4 (by omega) (by omega)).symm (h4 t ht), ht, ?_⟩
  · rw [hN 1 (by omega) (by omega)]
    exact stRel_x2 (fun k _ _ => hM k (by omega) (by omega) (by omega) (by omega)) (fun k _ _ => hM k (by omega) (by omega) (by omega) (by omega)) (fun k _ _ => hM k (by omega) (by omega) (by omega) (by omega)) h1.1
  · rw [hN 2 (by omega) (by omega)]
    exact stRel_x2 (fun k _ _ => hM k (by omega) (by omega) (by omega) (by omega)) (fun k _ _ => hM k (by omega) (by omega) (by omega) (by omega)) (fun k _ _ => hM k (by omega) (by omega) (by omega) (by omega)) h2.1
  · unfold fRel
    rw [hM 117 (by omega) (by omega) (by omega) (by omega), hM 81 (by omega) (by omega) (by omega) (by omega), hN 3 (by omega) (by omega), h0.1, h0.2]
    exact h6
theorem op_by (h : RX B M N) (x : Int32) : OP 200 mX10_by mX11_by [.int x] B M N := by
  obtain ⟨W, S, T, Wk, Sk, Tk, h1, h2, h3, h4, h5, h6⟩ := id h
  have hT4 := h1.2.2.2.2
  have hsd := (RX_sd h1 h4).1
  have hok := sd_okT hsd
  have go : (x = -1 ∨ ∃ t, t < T ∧ x = nI t) → RX (B + 2000) (ev_wr M 47 3 x) (ev_wr N 1 3 x) := by
    intro hx
    refine RX_dn (B := B) (M := M) (N := N) (T := T) (by omega) ⟨stRel_up (B := B) (by omega) ?_, by rw [wr_ne (by omega)]; exact h1.2.2.2.1, h1.2.2.2.2⟩ ⟨h1.2.1, h1.2.2.1⟩ ⟨h2, h3, h4, h5, h6⟩ (fun k _ => wr_cell (by omega)) (fun k _ _ => wr_cell (by omega)) (fun k _ _ => wr_cell (by omega)) (fun k _ _ => wr_cell (by omega))
    refine stRel_dn h1.1 (fun k _ => wr_cell (by omega)) (fun k _ _ => wr_cell (by omega)) (wr_ne (by omega)) ⟨wr_ne (by omega), wr_ne (by omega)⟩ (fun i _ => wr_ne (by omega)) ?_
    obtain ⟨q1, q2, q3, q4, q5⟩ := nRel_iff.mp h1.1.2.2.2
    rw [wr_up]
    refine nRel_iff.mpr ⟨?_, ?_, ?_, ?_, ?_⟩
    · rw [wr_cell (by omega), wr_cell (by omega)]
      exact nR1_cg (fun i _ _ => upd_ne (by omega)) q1
    · rw [wr_ne (by omega), wr_same]
      exact ⟨T, hT4, hsd.mt, by rw [upd_ne (by omega)]; exact h1.2.2.2.1, upd_eq.symm, by rw [upd_eq]; exact hx⟩
    · rw [wr_ne (by omega), wr_cell (by omega)]
      exact nR3_cg (Nat.le_refl _) (upd_ne (by omega)) (fun i _ _ => upd_ne (by omega)) q3
    · rw [wr_ne (by omega), wr_cell (by omega)]
      refine nR4_cg (upd_ne (by omega)) (fun i _ _ => upd_ne (by omega)) ?_
      obtain ⟨r, r1, r2, r3, r4⟩ := q4
      refine ⟨r, r1, r2, r3, fun i hi => ?_⟩
      obtain ⟨s1, n, s2, s3, s4, s5⟩ := r4 i hi
      exact ⟨s1, n, s2, s3, s4, fun j hj => by show rRel ((ev_wr M 47 3 x).1 (47 + 5 + i) j) _; rw [wr_cell (by omega)]; exact s5 j hj⟩
    · rw [wr_ne (by omega), wr_cell (by omega), wr_cell (by omega)]
      exact nR5_cg (Nat.le_refl _) (upd_ne (by omega)) (fun i _ _ => upd_ne (by omega)) q5
  have mi : iin x (-1) (N.1 1 2 - 1) = true ↔ x = -1 ∨ ∃ t, t < T ∧ x = nI t := by
    rw [h1.2.2.2.1]
    constructor
    · intro z
      by_cases y : x = -1
      · exact Or.inl y
      · refine Or.inr ((iin_N (by omega)).mp (iin_t.mpr ⟨?_, (iin_t.mp z).2⟩))
        have := (iin_t.mp z).1
        rw [I_le, I_m1] at this
        rw [I_eq, I_m1] at y
        rw [I_le, I_0]
        omega
    · rintro (rfl | y)
      · refine iin_t.mpr ⟨Int32.le_refl _, ?_⟩
        cases T with
        | zero => exact Int32.le_refl _
        | succ t => rw [nI_pred, I_le, I_m1, nI_toInt (by omega)]; omega
      · have := iin_t.mp ((iin_N (n := T) (by omega)).mpr y)
        refine iin_t.mpr ⟨?_, this.2⟩
        have h0 := this.1
        rw [I_le, I_0] at h0
        rw [I_le, I_m1]
        omega
  by_cases hx : x = -1 ∨ ∃ t, t < T ∧ x = nI t
  · refine ⟨some (.int 1), vok _, ev_wr N 1 3 x, Cl_of rfl (Nat.le_of_ble_eq_true rfl) rfl (gX10_by_0 ⟨fun a M1 e1 => ⟨rfl, by rw [e1]; exact go hx⟩, fun a => ⟨hok, fun b M1 e1 => ⟨rfl, by rw [e1]; exact go hx⟩, fun b => ?_⟩⟩), Cl_of rfl (Nat.le_of_ble_eq_true rfl) rfl (gX11_by_0 ⟨fun _ M1 e1 => ⟨rfl, by rw [e1]; exact pe.rf⟩, fun y => by rw [mi.mpr hx] at y; cases y⟩)⟩
    rw [hsd.mt, (iin_N (by omega)).mpr (hx.resolve_left a)] at b
    cases b
  · refine op_ro (v := some (.int 0)) h ?_ ?_
    · refine Cl_of rfl (Nat.le_of_ble_eq_true rfl) rfl (gX10_by_0 ⟨fun a => absurd (Or.inl a) hx, fun a => ⟨hok, fun b => ?_, fun _ => ⟨rfl, xq.rf⟩⟩⟩)
      rw [hsd.mt] at b
      exact absurd (Or.inr ((iin_N (by omega)).mp b)) hx
    · exact Cl_of rfl (Nat.le_of_ble_eq_true rfl) rfl (gX11_by_0 ⟨fun y => absurd (mi.mp y) hx, fun _ => ⟨rfl, pe.rf⟩⟩)
def tdv (N : ev_Mem) (w : Nat) (x : Int32) : Int32 := if x = 0 then aw N w 0 else if x = 1 then aw N w 1 else if x = 2 then aw N w 2 else if x = 3 then aw N w 3 else if x = 4 then nI (mH N (nI w)) else if x = 5 then mS N (nI w) else if x = 6 then bi (mC N (nI w)) else if x = 7 then mE N (nI w) else if iin x 8 (7 + aw N w 3) = true then aw N w (4 + (x - 8).toNatClampNeg) else -1
theorem op_told (h : RX B M N) (x y : Int32) : OP 200 mX10_told mX11_told [.int x, .int y] B M N := by
  obtain ⟨W, S, T, Wk, Sk, Tk, h1, h2, h3, h4, h5, h6⟩ := id h
  have hsd := (RX_sd h1 h4).1
  have hW := hsd.w24
  by_cases hx : ∃ w, w < W ∧ x = nI w
  · obtain ⟨w, hw, rfl⟩ := hx
    have zm : iin (nI w) 0 (M.1 3 5 - 1) = true := by rw [hsd.mw]; exact (iin_N (by omega)).mpr ⟨w, hw, rfl⟩
    have zn : iin (nI w) 0 (N.1 1 0 - 1) = true := by rw [hsd.nw]; exact (iin_N (by omega)).mpr ⟨w, hw, rfl⟩
    obtain ⟨⟨r1, r2, r3, r4⟩, -, n, n1, n9, en, rl⟩ := hsd.wr w hw
    have e3 : aw N w 3 = nI n := en
    have i24 : vp_in (nI w) 24 := vp_in_nI (by omega) (by omega)
    have hwd := sd_wd hsd hw
    have hwm := sd_wm hsd hw
    have md : okMd N := by obtain ⟨_, _, _, _, md, _⟩ := sd_gN hsd; exact md
    have e8 : (8 : Int32) + nI n = nI (8 + n) := by rw [show (8 : Int32) = nI 8 from rfl, nI_add]
    have e7 : (7 : Int32) + nI n = nI (7 + n) := by rw [show (7 : Int32) = nI 7 from rfl, nI_add]
    have sm : ∀ j, j < 8 → nI j < 8 + M.1 29 w := fun j hj => by rw [r1, en, e8]; exact nI_lt (by omega) (by omega)
    have ng : y < 0 → tdv N w y = -1 := by
      intro z
      have q : ∀ j : Int32, 0 ≤ j → ¬ y = j := fun j hj e => by rw [e] at z; exact I_nlt.mpr hj z
      unfold tdv
      rw [if_neg (q 0 (by decide)), if_neg (q 1 (by decide)), if_neg (q 2 (by decide)), if_neg (q 3 (by decide)), if_neg (q 4 (by decide)), if_neg (q 5 (by decide)), if_neg (q 6 (by decide)), if_neg (q 7 (by decide)), if_neg]
      intro i
      have := (iin_t.mp i).1
      rw [I_le, show (8 : Int32).toInt = 8 from rfl] at this
      rw [I_lt, I_0] at z
      omega
    have big : (¬ y = 0 ∧ ¬ y = 1 ∧ ¬ y = 2 ∧ ¬ y = 3 ∧ ¬ y = 4 ∧ ¬ y = 5 ∧ ¬ y = 6 ∧ ¬ y = 7) → tdv N w y = if iin y 8 (nI (7 + n)) = true then aw N w (4 + (y - 8).toNatClampNeg) else -1 := by
      rintro ⟨c0, c1, c2, c3, c4, c5, c6, c7⟩
      unfold tdv
      rw [if_neg c0, if_neg c1, if_neg c2, if_neg c3, if_neg c4, if_neg c5, if_neg c6, if_neg c7, e3, e7]
    have bj : ∀ j, j < 2 ^ 31 → (¬ nI j = 0 ∧ ¬ nI j = 1 ∧ ¬ nI j = 2 ∧ ¬ nI j = 3 ∧ ¬ nI j = 4 ∧ ¬ nI j = 5 ∧ ¬ nI j = 6 ∧ ¬ nI j = 7) → 8 ≤ j := by
      rintro j hj ⟨c0, c1, c2, c3, c4, c5, c6, c7⟩
      rcases Nat.lt_or_ge j 8 with q | q
      · have : j = 0 ∨ j = 1 ∨ j = 2 ∨ j = 3 ∨ j = 4 ∨ j = 5 ∨ j = 6 ∨ j = 7 := by omega
        rcases this with rfl | rfl | rfl | rfl | rfl | rfl | rfl | rfl
        · exact absurd rfl c0
        · exact absurd rfl c1
        · exact absurd rfl c2
        · exact absurd rfl c3
        · exact absurd rfl c4
        · exact absurd rfl c5
        · exact absurd rfl c6
        · exact absurd rfl c7
      · exact q
    have ps : ∀ j, 8 ≤ j → nI j - 8 = nI (j - 8) := fun j hj => by rw [show (8 : Int32) = nI 8 from rfl, pk_sub hj]
    refine op_ro (v := some (.int (tdv N w y))) h ?_ ?_
    · refine Cl_of rfl (Nat.le_of_ble_eq_true rfl) rfl (gX10_told_0 ⟨⟨W, hW, hsd.mw⟩, fun z => bb zm z, fun _ => ⟨fun z => ⟨sI (ng z).symm, xq.rf⟩, fun hy => ⟨i24, ?_⟩⟩⟩)
      rw [nI_clamp (by omega)]
      refine ⟨fun hlt => ⟨?_, ?_, ?_, ?_, ?_, ?_, ?_, ?_, ?_⟩, fun hge => ?_⟩
      · rintro rfl; exact ⟨i24, sI r2, xq.rf⟩
      · rintro rfl; exact ⟨i24, sI r3, xq.rf⟩
      · rintro rfl; exact ⟨i24, sI r4, xq.rf⟩
      · rintro rfl; exact ⟨i24, sI r1, xq.rf⟩
      · rintro rfl; exact ⟨hwd, sI (by rw [sd_xH hsd hw]; rfl), xq.rf⟩
      · rintro rfl; exact ⟨hwd, sI (by rw [sd_xS hsd hw]; rfl), xq.rf⟩
      · rintro rfl
        refine ⟨hwd, fun z => ⟨sI ?_, xq.rf⟩, fun z => ⟨sI ?_, xq.rf⟩⟩
        · rw [sd_xC hsd hw] at z
          show (0 : Int32) = bi (mC N (nI w))
          rw [z]; rfl
        · rw [sd_xC hsd hw] at z
          show (1 : Int32) = bi (mC N (nI w))
          rw [z]; rfl
      · rintro rfl; exact ⟨hwd, sI (by rw [sd_xE hsd hw]; rfl), xq.rf⟩
      · intro c
        obtain ⟨j, hj, rfl⟩ := nI_of hy
        have j8 := bj j hj c
        rw [r1, en, e8] at hlt
        have jn : j < 8 + n := by
          rcases Nat.lt_or_ge j (8 + n) with q | q
          · exact q
          · exact absurd hlt (I_nlt.mpr (nI_le q hj))
        rw [ps j j8]
        refine ⟨i24, vp_in_nI (by omega) (by omega), sI ?_, xq.rf⟩
        have ii : iin (nI j) 8 (nI (7 + n)) = true := iin_t.mpr ⟨nI_le (a := 8) j8 hj, nI_le (by omega) (by omega)⟩
        rw [big c, if_pos ii, ps j j8, nI_clamp (by omega), (rl (j - 8) (by omega)).1]
        unfold aw
        rw [show 39 + 13 * w + 4 + (j - 8) = 39 + 13 * w + (4 + (j - 8)) by omega]
      · refine ⟨sI ?_, xq.rf⟩
        obtain ⟨j, hj, rfl⟩ := nI_of hy
        have jn : 8 + n ≤ j := by
          rcases Nat.lt_or_ge j (8 + n) with q | q
          · exact absurd (by rw [r1, en, e8]; exact nI_lt q (by omega)) hge
          · exact q
        have q : ∀ i : Nat, i < 8 → ¬ nI j = nI i := fun i hi e => by have := (nI_eq hj (by omega)).mp e; omega
        rw [big ⟨q 0 (by omega), q 1 (by omega), q 2 (by omega), q 3 (by omega), q 4 (by omega), q 5 (by omega), q 6 (by omega), q 7 (by omega)⟩, if_neg]
        intro i
        have := (nI_leI hj (by omega)).mp (iin_t.mp i).2
        omega
    · refine Cl_of rfl (Nat.le_of_ble_eq_true rfl) rfl (gX11_told_0 ⟨fun _ => ⟨?_, ?_, ?_, ?_, ?_, ?_, ?_, ?_, ?_⟩, fun z => bb zn z⟩)
      · rintro rfl; exact ⟨awi0 (by omega), sI (aw0 (by omega)), pe.rf⟩
      · rintro rfl; exact ⟨awi1 (by omega), sI (aw1 (by omega)), pe.rf⟩
      · rintro rfl; exact ⟨awi2 (by omega), sI (aw2 (by omega)), pe.rf⟩
      · rintro rfl; exact ⟨awi3 (by omega), sI (aw3 (by omega)), pe.rf⟩
      · rintro rfl; exact ⟨hwm, rfl, pe.rf⟩
      · rintro rfl; exact ⟨hwm, rfl, pe.rf⟩
      · rintro rfl
        refine ⟨hwm, md, fun z => ⟨sI ?_, pe.rf⟩, fun z => ⟨sI ?_, pe.rf⟩⟩
        · show (0 : Int32) = bi (mC N (nI w))
          rw [z]; rfl
        · show (1 : Int32) = bi (mC N (nI w))
          rw [z]; rfl
      · rintro rfl; exact ⟨hwm, rfl, pe.rf⟩
      · intro c
        rw [aw3 (by omega), e3, e7]
        refine ⟨awi3 (by omega), fun z => ⟨sI ?_, pe.rf⟩, fun z => ?_⟩
        · rw [big c, if_neg (by rw [z]; decide)]
        · obtain ⟨z1, z2⟩ := iin_t.mp z
          obtain ⟨j, hj, rfl⟩ := nI_of (x := y) (by rw [I_lt, I_0]; rw [I_le, show (8 : Int32).toInt = 8 from rfl] at z1; omega)
          have j8 := (nI_leI (a := 8) (by omega) hj).mp z1
          have jn := (nI_leI hj (by omega)).mp z2
          have e : (4 : Int32) + nI j - 8 = 4 + nI (j - 8) := by rw [show (4 : Int32) = nI 4 from rfl, nI_add, nI_add, show (8 : Int32) = nI 8 from rfl, pk_sub (by omega)]; congr 1; omega
          rw [e, aw4 (by omega) (by omega)]
          refine ⟨awi4 (by omega) (by omega), sI ?_, pe.rf⟩
          rw [big c, if_pos z, ps j j8, nI_clamp (by omega)]
  · have zm : iin x 0 (M.1 3 5 - 1) = false := by rw [hsd.mw, ← Bool.not_eq_true, iin_N (by omega)]; exact hx
    have zn : iin x 0 (N.1 1 0 - 1) = false := by rw [hsd.nw, ← Bool.not_eq_true, iin_N (by omega)]; exact hx
    refine op_ro (v := some (.int (-1))) h ?_ ?_
    · exact Cl_of rfl (Nat.le_of_ble_eq_true rfl) rfl (gX10_told_0 ⟨⟨W, hW, hsd.mw⟩, fun _ => ⟨rfl, xq.rf⟩, fun z => bb zm z⟩)
    · exact Cl_of rfl (Nat.le_of_ble_eq_true rfl) rfl (gX11_told_0 ⟨fun z => bb zn z, fun _ => ⟨rfl, pe.rf⟩⟩)
theorem op_stiff (h : RX B M N) (x : Int32) : OP 200 mX10_stiff mX11_stiff [.int x] B M N := by
  obtain ⟨W, S, T, Wk, Sk, Tk, h1, h2, h3, h4, h5, h6⟩ := id h
  have hsd := (RX_sd h1 h4).1
  have hW := hsd.w24
  by_cases hx : ∃ w, w < W ∧ x = nI w
  · obtain ⟨w, hw, rfl⟩ := hx
    have zm : iin (nI w) 0 (M.1 3 5 - 1) = true := by rw [hsd.mw]; exact (iin_N (by omega)).mpr ⟨w, hw, rfl⟩
    have zn : iin (nI w) 0 (N.1 1 0 - 1) = true := by rw [hsd.nw]; exact (iin_N (by omega)).mpr ⟨w, hw, rfl⟩
    refine op_ro (v := some (.int (stN N (N.1 1 3) w))) h ?_ ?_
    · refine Cl_of rfl (Nat.le_of_ble_eq_true rfl) rfl (gX10_stiff_0 (d := 198) ⟨⟨W, hW, hsd.mw⟩, fun _ => ⟨sd_okT hsd, ?_⟩, fun z => bb zm z⟩)
      rw [hsd.te]
      refine ⟨_, stiffByN (d := 196) hsd hw hsd.ti, fun zr M2 q => ?_⟩
      rw [q.1]
      exact gX10_stiff_22 ⟨rfl, xq_q (qfr_l q.2)⟩
    · refine Cl_of rfl (Nat.le_of_ble_eq_true rfl) rfl (gX11_stiff_0 ⟨fun z => bb zn z, fun _ => ⟨⟨sd_gN hsd, sd_lawI hsd (by omega), w, rfl, W, hsd.nw, hW, hw⟩, fun N2 q => ?_⟩⟩)
      rw [nI_clamp (by omega)]
      exact ⟨rfl, me_pe (me_n q)⟩
  · have zm : iin x 0 (M.1 3 5 - 1) = false := by rw [hsd.mw, ← Bool.not_eq_true, iin_N (by omega)]; exact hx
    have zn : iin x 0 (N.1 1 0 - 1) = false := by rw [hsd.nw, ← Bool.not_eq_true, iin_N (by omega)]; exact hx
    refine op_ro (v := some (.int (-1))) h ?_ ?_
    · exact Cl_of rfl (Nat.le_of_ble_eq_true rfl) rfl (gX10_stiff_0 ⟨⟨W, hW, hsd.mw⟩, fun z => bb zm z, fun _ => ⟨rfl, xq.rf⟩⟩)
    · exact Cl_of rfl (Nat.le_of_ble_eq_true rfl) rfl (gX11_stiff_0 ⟨fun _ => ⟨rfl, pe.rf⟩, fun z => bb zn z⟩)
end
