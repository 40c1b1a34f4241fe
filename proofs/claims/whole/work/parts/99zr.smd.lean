/-! THE MODEL'S READER: behind one, and a whole sum -/
section
variable {d : Nat} {N0 N : ev_Mem} {t0 w0 k n s e : Nat} {P : List Nat} {K : List (Nat × Nat)}
theorem lt_top {r : Nat} {p : Nat} (h : ltP (p :: P) r) : rkN p < r := by
  rcases h with h | h
  · cases h
  · exact h
theorem push_ok {c : Nat} (h : okQ P) (hc : (5 ≤ c ∧ c < 23) ∧ ctd c = false ∧ (1 ≤ rkN c ∧ rkN c ≤ 6)) (hl : ltP P (rkN c)) : okQ (c :: P) ∧ cnP (c :: P) = cnP P := by
  have cc : cnP (c :: P) = cnP P := by rw [cnP, hc.2.1, if_neg (by decide), Nat.zero_add]
  refine ⟨⟨⟨by omega, by omega, ?_⟩, h⟩, cc⟩
  rw [cc]
  cases P with
  | nil => simp only [List.length_nil]; omega
  | cons p P =>
    have := lt_top hl
    have := h.1.2.2
    simp only [List.length_cons]
    omega
theorem rk_0 : ∀ p, p < 50 → rkN p < 1 → 40 ≤ p := by decide +kernel
/-- settled to what is open -/
theorem st_top (h : okQ P) (hl : ltP P 1) : (P = [] ∧ onP P = 0) ∨ ∃ q P2, P = q :: P2 ∧ 40 ≤ q ∧ onP P = q := by
  cases P with
  | nil => exact Or.inl ⟨rfl, rfl⟩
  | cons p P =>
    have := rk_0 p h.1.2.1 (lt_top hl)
    exact Or.inr ⟨p, P, rfl, this, on_op this⟩
theorem st_e2 {o v : Nat} (h : mSt N0 N t0 w0 k n s P K 0) (hs : w0 + K.length + P.length + 1 ≤ s) : Cl LM d mX11_emit [.ref 0, .int (nI o), .int (nI v)] N (fun r N2 => r = none ∧ mSt N0 N2 t0 w0 k n s P (K ++ [(o, v)]) 0 ∧ N2.1 0 19 = N.1 0 19) := by
  obtain ⟨h1, ⟨h2, h2'⟩, h3, h4, h5, h6, h7⟩ := h
  have n3 := h2.1
  obtain ⟨c1, c2⟩ := em_c (o := o) (v := v) h5 (by omega)
  refine (kX11_emit h5.2.2.2.2.2.1 h5.2.2.2.2.2.2.1 (by omega) h5.2.2.2.2.2.2.2.2.2).mono (fun r N2 hh => ?_)
  obtain ⟨rfl, rfl⟩ := hh
  have hg := h1.tr (gfr_s c1)
  exact ⟨rfl, ⟨hg, ⟨h2, g_tp hg h2⟩, mkS_f h3 (fun j a b => c1.2.1 j (by omega) (by omega) (by omega)) c1.2.2.2, h4, c2, (c1.2.1 15 (by omega) (by omega) (by omega)).trans h6, by rw [List.length_append, List.length_singleton]; omega⟩, c1.2.1 19 (by omega) (by omega) (by omega)⟩
def mRw (N0 N : ev_Mem) (t0 w0 k n s : Nat) (P : List Nat) (K : List (Nat × Nat)) (r : Option Value) (N2 : ev_Mem) : Prop := (∃ s2 P2 w2 K2, stW (byN N0) n s P K = Sum.inl (s2, P2, w2, K2) ∧ r = some (.int 1) ∧ mSt N0 N2 t0 w0 k n s2 P2 K2 0 ∧ N2.1 0 19 = bi w2) ∨ (btP (byN N0) n s P = 0 ∧ ptP (byN N0) n s P = none ∧ r = some (.int 0) ∧ N2 = N)
theorem kX11_behindOne (h : mSt N0 N t0 w0 k n s P K 0) (hw : N.1 0 19 = bi true) : Cl LM (d + 7) mX11_behindOne [.ref 0] N (mRw N0 N t0 w0 k n s P K) := by
  have bb := mk_b h
  have hP := h.2.2.2.2.1
  have pk := pk_ok hP
  have ol := on_lt hP.2.2.1
  refine Cl_of rfl (Nat.le_of_ble_eq_true rfl) rfl (gX11_behindOne_0 ⟨_, kX11_betweenOf h, fun zr zM hz => ?_⟩)
  obtain ⟨rfl, rfl⟩ := hz
  by_cases b0 : btP (byN N0) n s P = 0
  · rw [if_pos b0]
    refine gX11_behindOne_4 ⟨fun _ => ⟨pk.1, _, kX11_partOf h, fun zr N1 hz => ?_⟩, fun z => absurd m1_lt0 z⟩
    obtain ⟨rfl, rfl⟩ := hz
    cases ep : ptP (byN N0) n s P with
    | none => exact gX11_behindOne_70 ⟨fun z => absurd z (by decide), fun _ => Or.inr ⟨b0, ep, rfl, rfl⟩⟩
    | some x =>
      obtain ⟨p1, p2, p3⟩ := pt_c ep
      refine gX11_behindOne_70 ⟨fun _ => ⟨_, kX11_settle (r := 1) (by omega) (by omega) hP, fun zr N2 hz => ?_⟩, fun z => absurd (nI_0le (i := x) (by omega)) z⟩
      obtain ⟨rfl, s1, s2⟩ := hz
      have h2 := st_s h s1 s2
      have hw2 : N2.1 0 19 = bi true := (s1.2.1 19 (by omega) (by omega) (by omega)).trans hw
      rcases st_top s2.2.2.1 stl_is with ⟨q1, q2⟩ | ⟨q, P2, q1, q2, q3⟩
      · rw [stl_on (by omega)] at q2
        omega
      rw [stl_on (by omega)] at q3
      rw [q1] at h2
      refine gX11_behindOne_82 ⟨_, nx_c h2 p1 (by omega), fun zr N3 hz => ?_⟩
      obtain ⟨rfl, h3, e19, lt⟩ := hz
      have h3' := h3
      obtain ⟨g1, ⟨g2, g2'⟩, g3, g4, ⟨a1, a2, a3, a4, a5, a6, a7, a8, a9, a10⟩, g6, g7⟩ := h3
      have pk3 := pk_ok h3'.2.2.2.2.1
      simp only [List.length_cons] at a1 a9 g7
      have pl := pk3.2.1
      simp only [List.length_cons] at pl
      have cc : cnP (q :: P2) = cnP P2 + 1 := cn_c (by unfold ctd; rw [decide_eq_true q2]; rfl) rfl
      refine gX11_behindOne_86 ⟨fun z N4 e4 N5 e5 => ?_, fun z => ?_⟩
      · have x0 : x = 0 := by
          rcases Nat.eq_zero_or_pos x with q | q
          · exact q
          · exact absurd z (nI_ge (a := 0) (b := x) q (by omega))
        subst x0
        rw [a4, cc, nI_s1, nl_m1] at e4
        have a17 : N4.1 0 17 = nI (P2.length + 1) := by rw [e4, wr_ne (by omega)]; exact a1
        rw [a17, nI_s1, nl_m1] at e5
        have f0 : ∀ j, j ≠ 17 → j ≠ 18 → N5.1 0 j = N3.1 0 j := fun j x y => by rw [e5, wr_ne (by omega), e4, wr_ne (by omega)]
        have fc : ∀ i, i ≠ 0 → N5.1 i = N3.1 i := fun i hi => by rw [e5, wr_cell hi, e4, wr_cell hi]
        have hg : gfr t0 w0 N3 N5 := by rw [e5, e4]; exact (gfr_w (by omega)).tr (gfr_w (by omega))
        have l2 : N5.2 = N3.2 := by rw [e5, e4]; rfl
        have h5 : mSt N0 N5 t0 w0 k n (nxs (byN N0) n s) P2 (stl 1 P K).2 0 := ⟨g1.tr hg, ⟨g2, g_tp (g1.tr hg) g2⟩, mkS_f g3 (fun j x y => f0 j (by omega) (by omega)) l2, g4, ⟨by rw [e5, wr_same], by rw [fc 6 (by omega)]; exact a2.2, a3.2, by rw [e5, wr_ne (by omega), e4, wr_same], by omega, (f0 13 (by omega) (by omega)).trans a6, (f0 14 (by omega) (by omega)).trans a7, by rw [fc 4 (by omega)]; exact a8, by omega, a10⟩, (f0 15 (by omega) (by omega)).trans g6, by omega⟩
        have w5 : N5.1 0 19 = bi true := (f0 19 (by omega) (by omega)).trans (e19.trans hw2)
        have sW : stW (byN N0) n s P K = Sum.inl (nxs (byN N0) n s, (stl 7 P2 ((stl 1 P K).2 ++ (if onP P = 43 then [(3, 0)] else []))).1, true, (stl 7 P2 ((stl 1 P K).2 ++ (if onP P = 43 then [(3, 0)] else []))).2) := by
          unfold stW
          rw [if_pos b0, ep, q1]
          rfl
        have q43 : (opwI N1 = 43) ↔ onP P = 43 := by
          have r : ∀ x, x < 50 → (((if x = 0 then -1 else nI x) = (43 : Int32)) ↔ x = 43) := by decide +kernel
          rw [pk.2.2.1]
          exact r _ ol.1
        rw [q43]
        refine ⟨fun n43 => ⟨_, kX11_settle (r := 7) (by omega) (by omega) h5.2.2.2.2.1, fun zr N6 hz => ?_⟩, fun e43 => ⟨_, st_e2 (o := 3) (v := 0) h5 (by omega), fun zr N6 hz => ?_⟩⟩
        · obtain ⟨rfl, s3, s4⟩ := hz
          rw [if_neg n43, List.append_nil] at sW
          exact gX11_behindOne_145 (Or.inl ⟨_, _, _, _, sW, rfl, st_s h5 s3 s4, (s3.2.1 19 (by omega) (by omega) (by omega)).trans w5⟩)
        · obtain ⟨rfl, h6, w6⟩ := hz
          rw [if_pos e43] at sW
          refine gX11_behindOne_139 ⟨_, kX11_settle (r := 7) (by omega) (by omega) h6.2.2.2.2.1, fun zr N7 hz => ?_⟩
          obtain ⟨rfl, s3, s4⟩ := hz
          exact gX11_behindOne_145 (Or.inl ⟨_, _, _, _, sW, rfl, st_s h6 s3 s4, (s3.2.1 19 (by omega) (by omega) (by omega)).trans (w6.trans w5)⟩)
      · obtain ⟨y, rfl⟩ : ∃ y, x = y + 1 := ⟨x - 1, by
          rcases Nat.eq_zero_or_pos x with q | q
          · rw [q] at z; exact absurd (by decide) z
          · omega⟩
        have oa : oaI N3 = nI P2.length := by
          unfold oaI
          rw [a1, nI_clamp (by omega), oaF, a2.1, if_pos ((g40 q a3.1.2.1).mpr q2)]
        rw [oa, nI_clamp (by omega)]
        refine ⟨pk3.1, vp_in_nI (by omega) (by omega), fun N4 e4 N5 e5 => Or.inl ⟨nxs (byN N0) n s, (y + 1) :: P2, false, (stl 1 P K).2, ?_, rfl, ?_, ?_⟩⟩
        · unfold stW
          rw [if_pos b0, ep, q1]
          rfl
        · have f0 : ∀ j, j ≠ 19 → N5.1 0 j = N3.1 0 j := fun j x => by rw [e5, wr_ne (by omega), e4, wr_cell (by omega)]
          have hg : gfr t0 w0 N3 N5 := by rw [e5, e4]; exact gfr_p.tr (gfr_w (by omega))
          have l2 : N5.2 = N3.2 := by rw [e5, e4]; rfl
          have cy : cnP ((y + 1) :: P2) = cnP (q :: P2) := by rw [cc]; exact cn_c (by unfold ctd; rw [decide_eq_true (show 40 ≤ y + 1 by omega)]; rfl) rfl
          have ra : rkN (y + 1) = 0 ∧ rkN q = 0 := by unfold rkN; rw [if_pos (by omega), if_pos q2]; exact ⟨rfl, rfl⟩
          refine ⟨g1.tr hg, ⟨g2, g_tp (g1.tr hg) g2⟩, mkS_f g3 (fun j x y => f0 j (by omega)) l2, g4, ⟨(f0 17 (by omega)).trans a1, ⟨by rw [e5, wr_cell (by omega), e4, wr_same]; rfl, plR_cg (fun i hi => by rw [e5, wr_cell (by omega), e4, wr_ne (by omega)]) a2.2⟩, ⟨⟨by omega, by omega, ?_⟩, a3.2⟩, by rw [cy]; exact (f0 18 (by omega)).trans a4, by omega, (f0 13 (by omega)).trans a6, (f0 14 (by omega)).trans a7, by rw [e5, wr_cell (by omega), e4, wr_cell (by omega)]; exact a8, by simp only [List.length_cons]; omega, a10⟩, (f0 15 (by omega)).trans g6, by simp only [List.length_cons]; omega⟩
          have := a3.1.2.2
          rw [cy, ra.1]
          rw [ra.2] at this
          exact this
        · rw [e5, wr_same]; rfl
  · rw [if_neg b0]
    obtain ⟨c1, c2, c3, c4, c5⟩ := bt_c (P := P) (n := n) (s := s) rfl b0
    have rk := (rkI_n (btP (byN N0) n s P) (by omega)).1
    have main : ∀ r, (if rkN (btP (byN N0) n s P) = 4 then 5 else rkN (btP (byN N0) n s P)) = r → ∃ Q2 : Option Value → ev_Mem → Prop, Cl LM (d + 6) mX11_settle [.ref 0, .int (nI r)] zM Q2 ∧ ∀ (zr : Option Value) (N1 : ev_Mem), Q2 zr N1 → Ev LM (d + 7) mX11_behindOne 29 [some (.ref 0), some (.int (nI (btP (byN N0) n s P))), none, none] (zr.toList ++ []) N1 (mRw N0 zM t0 w0 k n s P K) := by
      intro r hr
      refine ⟨_, kX11_settle (r := r) (by rw [← hr]; split <;> omega) (by rw [← hr]; split <;> omega) hP, fun zr N1 hz => ?_⟩
      obtain ⟨rfl, s1, s2⟩ := hz
      have h2 := st_s h s1 s2
      have lt : ltP (stl r P K).1 (rkN (btP (byN N0) n s P)) := by
        have l0 := stl_is (r := r) (P := P) (K := K)
        by_cases z4 : rkN (btP (byN N0) n s P) = 4
        · rw [if_pos z4] at hr
          have ic : icP (stl r P K).1 = false := by rw [stl_ic (by omega)]; exact c4 z4
          rw [z4]
          generalize (stl r P K).1 = P1 at l0 ic
          cases P1 with
          | nil => exact Or.inl rfl
          | cons p P1 =>
            have := lt_top l0
            rw [icP, if_pos (by omega)] at ic
            have := beq_eq_false_iff_ne.mp ic
            exact Or.inr (show rkN p < 4 by omega)
        · rw [if_neg z4] at hr
          rw [hr]
          exact l0
      obtain ⟨o1, o2⟩ := push_ok s2.2.2.1 ⟨c1, c2, c3⟩ lt
      have pk2 := pk_ok s2
      obtain ⟨g1, ⟨g2, g2'⟩, g3, g4, ⟨a1, a2, a3, a4, a5, a6, a7, a8, a9, a10⟩, g6, g7⟩ := h2
      refine gX11_behindOne_29 ?_
      rw [a1, nI_clamp (by omega)]
      refine ⟨vp_in_nI (by omega) (by omega), fun N2 e2 N3 e3 N4 e4 => ?_⟩
      have b17 : N2.1 0 17 = nI (stl r P K).1.length := by rw [e2, wr_cell (by omega)]; exact a1
      rw [b17, nI_1] at e3
      have f0 : ∀ j, j ≠ 17 → j ≠ 19 → N4.1 0 j = N1.1 0 j := fun j x y => by rw [e4, wr_ne (by omega), e3, wr_ne (by omega), e2, wr_cell (by omega)]
      have hg : gfr t0 w0 N1 N4 := by rw [e4, e3, e2]; exact (gfr_p.tr (gfr_w (by omega))).tr (gfr_w (by omega))
      have l2 : N4.2 = N1.2 := by rw [e4, e3, e2]; rfl
      have n3 := g2.1
      have h4 : mSt N0 N4 t0 w0 k n s (btP (byN N0) n s P :: (stl r P K).1) (stl r P K).2 1 := by
        refine ⟨g1.tr hg, ⟨g2, g_tp (g1.tr hg) g2⟩, mkS_f g3 (fun j x y => f0 j (by omega) (by omega)) l2, g4, ⟨by rw [e4, wr_ne (by omega), e3, wr_same]; rfl, ⟨by rw [e4, wr_cell (by omega), e3, wr_cell (by omega), e2, wr_same], plR_cg (fun i hi => by rw [e4, wr_cell (by omega), e3, wr_cell (by omega), e2, wr_ne (by omega)]) a2⟩, o1, by rw [o2]; exact (f0 18 (by omega) (by omega)).trans a4, by omega, (f0 13 (by omega) (by omega)).trans a6, (f0 14 (by omega) (by omega)).trans a7, by rw [e4, wr_cell (by omega), e3, wr_cell (by omega), e2, wr_cell (by omega)]; exact a8, by simp only [List.length_cons]; omega, a10⟩, (f0 15 (by omega) (by omega)).trans g6, by simp only [List.length_cons]; omega⟩
      refine ⟨_, nx_c h4 c5 (by omega), fun zr N5 hz => ?_⟩
      obtain ⟨rfl, h5, e19, -⟩ := hz
      refine gX11_behindOne_58 (Or.inl ⟨_, _, false, _, ?_, rfl, h5, ?_⟩)
      · unfold stW
        rw [if_neg b0, hr]
      · rw [e19, e4, wr_same]; rfl
    refine gX11_behindOne_4 ⟨fun z => absurd z (nI_pos (by omega)), fun _ => ?_⟩
    rw [rk]
    refine ⟨fun z => main _ (if_neg (fun q => z (by rw [q]; rfl))), fun z => main 5 (if_pos ((nI_eq (b := 4) (by omega) (by omega)).mp z))⟩
end
