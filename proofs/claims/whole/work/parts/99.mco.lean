/-! CALLS: key, undo; the model's lines -/
section
variable {d B : Nat} {M N : ev_Mem}
theorem wr_rM {c j : Nat} {v : Int32} : ev_wr M c j v = rowM M c (upd (M.1 c) j v) := by rw [← rowM_w, rowM_id]
theorem e3255 {k : Nat} : (3255 : Int32) + 2 * nI k = nI (3255 + 2 * k) := by rw [show (3255 : Int32) = nI 3255 from rfl, show (2 : Int32) = nI 2 from rfl, pk_mul, nI_add]
theorem kX11_note {wn : Nat} {x1 x2 x3 : Int32} (hw : wn ≤ 30) (h12 : N.1 1 12 = nI wn) : Cl LM d mX11_note [.ref 0, .int x1, .int x2, .int x3] N (fun r N2 => r = none ∧ N2 = rowM N 1 (noA (N.1 1) wn (((x1 * 4) + x2) * 10000 + x3))) := by
  refine Cl_of rfl (Nat.le_of_ble_eq_true rfl) rfl (gX11_note_0 ⟨fun z => ?_, fun z => ?_⟩)
  · have hw2 : wn ≠ 30 := fun q => z (by rw [h12, q]; rfl)
    rw [h12, e3255, nI_clamp (by omega)]
    refine ⟨vp_in_nI (by omega) (by omega), fun M1 e1 => ?_⟩
    have f1 : M1.1 1 12 = nI wn := by rw [e1, wr_ne (by omega)]; exact h12
    rw [f1, e3255, nI_1, nI_clamp (by omega)]
    refine ⟨vp_in_nI (by omega) (by omega), fun M2 e2 M3 e3 => ⟨rfl, ?_⟩⟩
    have f2 : M2.1 1 12 = nI wn := by rw [e2, wr_ne (by omega)]; exact f1
    rw [f2, nI_1] at e3
    rw [e3, e2, e1, wr_rM (M := N), rowM_w, rowM_w]
    congr 1
    funext i
    unfold noA
    rw [show min wn 29 = wn by omega]
    by_cases a : i = 12
    · subst a; rw [upd_eq, if_pos rfl]; congr 1; omega
    · rw [upd_ne a, if_neg a]
      by_cases b : i = 3255 + 2 * wn + 1
      · rw [b, upd_eq, if_neg (by omega), if_pos rfl]
      · rw [upd_ne b]
        by_cases c : i = 3255 + 2 * wn
        · rw [c, upd_eq, if_pos rfl]
        · rw [upd_ne c, if_neg c, if_neg b, if_neg (by omega)]
  · have hw2 : wn = 30 := (nI_eq (b := 30) (by omega) (by omega)).mp (h12.symm.trans z)
    subst hw2
    have lp : ∀ i, i ≤ 58 → Ev LM d mX11_note 15 [some (.ref 0), some (.int x1), some (.int x2), some (.int x3), some (.int (nI (2 + i)))] [] (rowM N 1 (cpA (N.1 1) 3255 3257 i)) (fun r N2 => r = none ∧ N2 = rowM N 1 (noA (N.1 1) 30 (((x1 * 4) + x2) * 10000 + x3))) := by
      refine dn ?_ (fun i hi ih => ?_)
      · refine gX11_note_15 ⟨fun _ M1 e1 => ?_, fun z => absurd (by decide) z⟩
        have e12 : cpA (N.1 1) 3255 3257 58 12 - 1 = nI 29 := by
          unfold cpA
          rw [if_neg (by omega), h12]; rfl
        rw [rowM_w, rowM_s, e12] at e1
        have f1 : M1.1 1 12 = nI 29 := by rw [e1, rowM_s, upd_eq]
        have f8 : M1.1 1 8 = N.1 1 8 := by
          rw [e1, rowM_s, upd_ne (by omega)]
          unfold cpA
          rw [if_neg (by omega)]
        rw [f1, e3255, nI_clamp (by omega), f8]
        refine ⟨vp_in_nI (by omega) (by omega), fun M2 e2 => ?_⟩
        have f2 : M2.1 1 12 = nI 29 := by rw [e2, wr_ne (by omega)]; exact f1
        rw [f2, e3255, nI_1, nI_clamp (by omega)]
        refine ⟨vp_in_nI (by omega) (by omega), fun M3 e3 M4 e4 => ⟨rfl, ?_⟩⟩
        have f3 : M3.1 1 12 = nI 29 := by rw [e3, wr_ne (by omega)]; exact f2
        rw [f3, nI_1] at e4
        rw [e4, e3, e2, e1, rowM_w, rowM_w, rowM_w]
        congr 1
        funext i
        unfold noA
        rw [show min 30 29 = 29 from rfl]
        by_cases a : i = 12
        · subst a; rw [upd_eq, if_pos rfl]; rfl
        · rw [upd_ne a, if_neg a]
          by_cases b : i = 3255 + 2 * 29 + 1
          · rw [b, upd_eq, if_neg (by omega), if_pos rfl]
          · rw [upd_ne b]
            by_cases c : i = 3255 + 2 * 29
            · rw [c, upd_eq, if_pos rfl]
            · rw [upd_ne c, upd_ne a, if_neg c, if_neg b]
              unfold cpA
              by_cases w : 3255 ≤ i ∧ i < 3255 + 58
              · rw [if_pos w, if_pos (by omega), show 3257 + (i - 3255) = i + 2 by omega]
              · rw [if_neg w, if_neg (by omega)]
      · refine gX11_note_15 ⟨fun z => absurd z (nI_ge (b := 60) (by omega) (by omega)), fun _ => ?_⟩
        rw [show (3255 : Int32) + nI (2 + i) = nI (3255 + (2 + i)) from nI_add 3255 _, show nI (3255 + (2 + i)) - 2 = nI (3255 + (2 + i) - 2) from pk_sub (b := 2) (by omega), nI_clamp (by omega), nI_clamp (by omega)]
        refine ⟨vp_in_nI (by omega) (by omega), vp_in_nI (by omega) (by omega), fun M2 e2 => ?_⟩
        rw [rowM_w, rowM_s, show 3255 + (2 + i) - 2 = 3255 + i by omega, show 3255 + (2 + i) = 3257 + i by omega, cpA_s (by omega)] at e2
        rw [e2, nI_1]; exact ih
    have := lp 0 (by omega)
    rw [cpA_0, rowM_id] at this
    exact this
theorem kX11_undo {k : Nat} (hk0 : 1 ≤ k) (hk : k ≤ 30) (h4 : N.1 1 4 = nI k) : Cl LM d mX11_undo [.ref 0] N (fun r N2 => r = some (.int (nI (k - 1))) ∧ N2 = rowM N 1 (unA (N.1 1) k)) := by
  refine Cl_of rfl (Nat.le_of_ble_eq_true rfl) rfl (gX11_undo_0 ⟨fun _ M1 e1 => ?_, fun z => absurd (h4.symm.trans z) (nI_ne0 (by omega) (by omega))⟩)
  have e4 : N.1 1 4 - 1 = nI (k - 1) := by
    rw [h4]
    show nI k - nI 1 = _
    rw [pk_sub hk0]
  rw [e4, wr_rM] at e1
  rw [e1, rowM_s, upd_eq, e525]
  generalize eu : upd (N.1 1) 4 (nI (k - 1)) = u
  have u4 : u 4 = nI (k - 1) := by rw [← eu, upd_eq]
  have un : ∀ i, i ≠ 4 → u i = N.1 1 i := fun i hi => by rw [← eu, upd_ne hi]
  have l2 : ∀ i, i ≤ 60 → Ev LM d mX11_undo 68 [some (.ref 0), some (.int (nI (525 + 91 * (k - 1)))), some (.int (nI i))] [] (rowM N 1 (cpA (cpA u 8 (525 + 91 * (k - 1)) 31) 3255 (525 + 91 * (k - 1) + 31) i)) (fun r N2 => r = some (.int (nI (k - 1))) ∧ N2 = rowM N 1 (unA (N.1 1) k)) := by
    refine dn ?_ (fun i hi ih => ?_)
    · have e4 : cpA (cpA u 8 (525 + 91 * (k - 1)) 31) 3255 (525 + 91 * (k - 1) + 31) 60 4 = nI (k - 1) := by
        unfold cpA
        rw [if_neg (by omega), if_neg (by omega)]; exact u4
      refine gX11_undo_68 ⟨fun _ => ⟨by rw [rowM_s, e4], ?_⟩, fun z => absurd (by decide) z⟩
      congr 1
      funext i
      unfold unA
      by_cases i4 : i = 4
      · subst i4; rw [e4, if_pos rfl]
      · rw [if_neg i4]
        unfold cpA
        by_cases y : 3255 ≤ i ∧ i < 3255 + 60
        · rw [if_pos y, if_neg (by omega), if_neg (by omega), if_pos (by omega), un _ (by omega)]
        · rw [if_neg y]
          by_cases x : 8 ≤ i ∧ i < 8 + 31
          · rw [if_pos x, if_pos (by omega), un _ (by omega)]
          · rw [if_neg x, if_neg (by omega), if_neg (by omega), un _ i4]
    · refine gX11_undo_68 ⟨fun z => absurd z (nI_ge (b := 60) hi (by omega)), fun _ => ?_⟩
      rw [show (3255 : Int32) + nI i = nI (3255 + i) from nI_add 3255 i, show nI (525 + 91 * (k - 1)) + 31 = nI (525 + 91 * (k - 1) + 31) from nI_add _ 31, nI_add, nI_clamp (by omega), nI_clamp (by omega)]
      refine ⟨vp_in_nI (by omega) (by omega), vp_in_nI (by omega) (by omega), fun M2 e2 => ?_⟩
      rw [rowM_w, rowM_s, cpA_s (by omega)] at e2
      rw [e2, nI_1]; exact ih
  have l1 : ∀ i, i ≤ 31 → Ev LM d mX11_undo 37 [some (.ref 0), some (.int (nI (525 + 91 * (k - 1)))), some (.int (nI i))] [] (rowM N 1 (cpA u 8 (525 + 91 * (k - 1)) i)) (fun r N2 => r = some (.int (nI (k - 1))) ∧ N2 = rowM N 1 (unA (N.1 1) k)) := by
    refine dn ?_ (fun i hi ih => ?_)
    · refine gX11_undo_37 ⟨fun _ => ?_, fun z => absurd (by decide) z⟩
      have := l2 0 (by omega)
      rw [cpA_0] at this
      exact this
    · refine gX11_undo_37 ⟨fun z => absurd z (nI_ge (b := 31) hi (by omega)), fun _ => ?_⟩
      rw [show (8 : Int32) + nI i = nI (8 + i) from nI_add 8 i, nI_add, nI_clamp (by omega), nI_clamp (by omega)]
      refine ⟨vp_in_nI (by omega) (by omega), vp_in_nI (by omega) (by omega), fun M2 e2 => ?_⟩
      rw [rowM_w, rowM_s, cpA_s (by omega)] at e2
      rw [e2, nI_1]; exact ih
  have := l1 0 (by omega)
  rw [cpA_0] at this
  exact this
theorem RX_mr (h : RX B M N) : mRq B 2 (M.1 43) (M.1 44) (M.1 45) (M.1 46) (N.1 1) := by
  obtain ⟨W, S, T, Wk, Sk, Tk, h1, -⟩ := h
  exact mRq_of h1.1.2.2.1
/-- the machine alone has changed -/
theorem RX_mc {B2 q : Nat} {M2 N2 : ev_Mem} (h : RX B M N) (hB : B ≤ B2) (hq : q ≤ 2) (hm : mRq B2 q (M2.1 43) (M2.1 44) (M2.1 45) (M2.1 46) (N2.1 1)) (c : ∀ k, k < 118 → (k < 43 ∨ (47 ≤ k ∧ k < 82) ∨ 100 ≤ k) → M2.1 k = M.1 k) (n1 : ∀ i, i ≠ 4 → (i < 8 ∨ (39 ≤ i ∧ i < 525)) → N2.1 1 i = N.1 1 i) (n : ∀ k, k ≤ 5 → k ≠ 1 → N2.1 k = N.1 k) : RX B2 M2 N2 := by
  obtain ⟨W, S, T, Wk, Sk, Tk, h1, h2, h3, h4, h5, h6⟩ := h
  obtain ⟨⟨⟨a1, a2, a3⟩, ⟨b1, b2, b3⟩, mR, nR⟩, e1, e2, e3, e4⟩ := h1
  refine RX_dn (B := B) (M := M) (N := N) (T := T) (W := W) (S := S) hB ⟨⟨⟨a1, by rw [n1 0 (by omega) (by omega)]; exact a2, fun w hw => ?_⟩, ⟨b1, by rw [n1 1 (by omega) (by omega)]; exact b2, fun s hs => ?_⟩, mRq_to hq hm, ?_⟩, by rw [n1 2 (by omega) (by omega)]; exact e3, e4⟩ ⟨e1, e2⟩ ⟨h2, h3, h4, h5, h6⟩ (fun k hk => c k (by omega) (by omega)) (fun k q1 q2 => c k (by omega) (by omega)) (fun k q1 q2 => c k (by omega) (by omega)) n
  · exact wRel_cg (by omega) (fun k _ _ => (c k (by omega) (by omega)).symm) (fun i _ _ => (n1 i (by omega) (by omega)).symm) (a3 w hw)
  · exact sRel_cg (by omega) (fun k _ _ => (c k (by omega) (by omega)).symm) (fun i _ _ => (n1 i (by omega) (by omega)).symm) (b3 s hs)
  · exact nRel_cg (Nat.le_refl _) (fun k _ _ => (c k (by omega) (by omega)).symm) (n1 2 (by omega) (by omega)).symm (n1 3 (by omega) (by omega)).symm (fun i _ _ => (n1 i (by omega) (by omega)).symm) (fun i _ _ => (n1 i (by omega) (by omega)).symm) nR
/-- one call, the model's end told by its start alone -/
def OU (D : Nat) (x m : ev_Y) (ax am : List Value) (N : ev_Mem) : Prop := ∃ (v : Option Value), vOK x v ∧ ∃ (N1 : ev_Mem), Cl LM D m (.ref 0 :: am) N (fun r N2 => r = v ∧ pe N1 N2) ∧ ∀ B M, B < 2 ^ 28 → RX B M N → Cl LX D x (.ref 0 :: ax) M (fun r M2 => r = v ∧ RX (B + 80) M2 N1)
theorem OU.op {D : Nat} {x m : ev_Y} {as : List Value} (hB : B < 2 ^ 28) (h : RX B M N) (k : OU D x m as as N) : OP D x m as B M N := by
  obtain ⟨v, hv, N1, h1, h2⟩ := k
  exact ⟨v, hv, N1, Cl.mono (h2 B M hB h) (fun r M2 q => ⟨q.1, RX_up (by omega) q.2⟩), h1⟩
theorem ou_rf {D r : Nat} {x m : ev_Y} {ax am : List Value} {v : Option Value} (hr : r < 3) (hm : Cl LM D m (.ref 0 :: am) N (fun z N2 => z = v ∧ pe (rfs N 3 r) N2)) (hx : ∀ B M, RX B M N → Cl LX D x (.ref 0 :: ax) M (fun z M2 => z = v ∧ xq (rfs M 117 r) M2)) (hv : vOK x v := by first | exact vok _ | exact vol _) : OU D x m ax am N :=
  ⟨v, hv, rfs N 3 r, hm, fun B M _ h => Cl.mono (hx B M h) (fun z M2 q => ⟨q.1, RX_up (by omega) (RX_xq q.2 (RX_rfs hr h))⟩)⟩
theorem RX_lo (h : RX B M N) : M.1 43 0 = N.1 1 9 ∧ upto (N.1 1 9) (2 ^ 26 - 1) := (RX_mr h).1.2.1
theorem u_key {B0 : Nat} {M0 : ev_Mem} (h0 : RX B0 M0 N) (x : Int32) : OU (d + 20) mX10_key mX11_key [.int x] [.int x] N := by
  by_cases hx : iin x 0 25 = true
  · by_cases hl : hs (N.1 1 9) x = true
    · refine ou_rf (r := 2) (v := some (.int 0)) (by omega) ?_ (fun B M h => ?_)
      · exact Cl_of rfl (Nat.le_of_ble_eq_true rfl) rfl (gX11_key_0 (d := d + 18) ⟨fun z => bb z hx, fun _ => ⟨fun z => bb z hl, fun _ => ⟨fun z => bb z hx, fun _ => ⟨v23, fun M4 e4 => ⟨rfl, by rw [e4, c2]; exact pe.rf⟩⟩⟩⟩⟩)
      · refine Cl_of rfl (Nat.le_of_ble_eq_true rfl) rfl (gX10_key_0 (d := d + 19) ⟨fun _ => ⟨fun z => ?_, fun _ => ⟨v23, fun M4 e4 => ⟨rfl, by rw [e4, c2]; exact xq.rf⟩⟩⟩, fun z => bb z hx⟩)
        rw [(RX_lo h).1] at z
        exact bb z hl
    · have hl : hs (N.1 1 9) x = false := Bool.not_eq_true _ ▸ hl
      obtain ⟨k, e0, lc0, wn, hk, -, k4, -, -, -, -, -, -⟩ := kq_ex (RX_mr h0)
      obtain ⟨l, hl25, rfl⟩ := (iin_lit 25 (by omega)).mp hx
      refine ⟨some (.int 1), vok _, rowM N 1 (upd (keA (N.1 1) k) 9 (N.1 1 9 ||| (1 <<< (nI l &&& 31)))), ?_, fun B M hB h => ?_⟩
      · refine Cl_of rfl (Nat.le_of_ble_eq_true rfl) rfl (gX11_key_0 (d := d + 18) ⟨fun z => bb z hx, fun _ => ⟨fun _ => ⟨_, kX11_keep (d := d + 19) hk k4, fun zr N2 q => ?_⟩, fun z => bb z hl⟩⟩)
        rw [q.1, q.2]
        refine gX11_key_38 fun M1 e1 => ⟨rfl, ?_⟩
        rw [rowM_w, rowM_s, keA_lo (by omega) (by omega)] at e1
        rw [e1]
        exact pe.rf
      · obtain ⟨k', e, lc, wn', hk', m9, k4', he, m8, -, -, -, -⟩ := kq_ex (RX_mr h)
        have ek : k' = k := (nI_eq (by omega) (by omega)).mp (k4'.symm.trans k4)
        subst ek
        refine Cl_of rfl (Nat.le_of_ble_eq_true rfl) rfl (gX10_key_0 (d := d + 19) ⟨fun _ => ⟨fun _ => ⟨_, kX9_markStep (d := d + 18) hk' m9 he m8, fun zr M2 q => ?_⟩, fun z => ?_⟩, fun z => bb z hx⟩)
        · rw [q.1]
          refine gX10_key_44 fun M3 e3 => ⟨rfl, ?_⟩
          have hm := mq_keep (RX_mr h) hk' m9 he m8 q.2.2
          refine RX_mc (q := 0) h (by omega) (by omega) (M2 := M3) ?_ (fun c c1 c2 => by rw [e3, wr_cell (by omega), q.2.1 c (by omega) (by omega)]) (fun i i1 i2 => by rw [rowM_s, upd_ne (by omega), keA_lo i1 (by omega)]) (fun c c1 c2 => rowM_n c2)
          rw [rowM_s]
          have hk0 := kq_k hm
          have e9 : M2.1 43 0 = N.1 1 9 := by rw [q.2.2.1 0 (by omega) (by omega)]; exact (RX_lo h).1
          have hm2 : mRq B 0 (M3.1 43) (M3.1 44) (M3.1 45) (M3.1 46) (upd (keA (N.1 1) k') 9 (N.1 1 9 ||| (1 <<< (nI l &&& 31)))) := by
            rw [show M3.1 44 = M.1 44 by rw [e3, wr_cell (by omega), q.2.1 44 (by omega) (by omega)], show M3.1 45 = M.1 45 by rw [e3, wr_cell (by omega), q.2.1 45 (by omega) (by omega)], show M3.1 46 = M2.1 46 by rw [e3, wr_cell (by omega)]]
            refine mq_st hm ?_ ⟨by rw [e3, wr_ne (by omega)], by rw [e3, wr_ne (by omega)], by rw [e3, wr_ne (by omega)]⟩ (upd_ne (by omega)) (upd_ne (by omega)) (fun i hi => upd_ne (by omega))
            obtain ⟨r1, r2, r3, r4, r5⟩ := hk0
            refine ⟨fun l hl => ?_, ?_, ?_, ?_, ?_⟩
            · show _ = upd _ 9 _ (8 + (5 + l)) ∧ upto (upd _ 9 _ (8 + (5 + l))) 9999
              rw [upd_ne (by omega)]; exact r1 l hl
            · show _ = upd _ 9 _ 9 ∧ upto (upd _ 9 _ 9) (2 ^ 26 - 1)
              rw [upd_eq, e3, wr_same, e9]
              exact ⟨rfl, or_up (RX_lo h).2 (by omega)⟩
            · show _ = upd _ 9 _ 10 ∧ upto (upd _ 9 _ 10) 9999
              rw [upd_ne (by omega), e3, wr_ne (by omega)]; exact r3
            · show _ = upd _ 9 _ 8 ∧ upto (upd _ 9 _ 8) 9999
              rw [upd_ne (by omega), e3, wr_ne (by omega)]; exact r4
            · show _ = upd _ 9 _ 11 ∧ upto (upd _ 9 _ 11) 30516
              rw [upd_ne (by omega), e3, wr_ne (by omega)]; exact r5
          obtain ⟨w1, lc2, wn2, k2, e2, w2, w3⟩ := hm2
          exact ⟨w1, lc2, wn2, k2, e2, by omega, w3⟩
        · rw [(RX_lo h).1] at z
          exact bb z hl
  · have hx : iin x 0 25 = false := Bool.not_eq_true _ ▸ hx
    refine ou_rf (r := 0) (v := some (.int 0)) (by omega) ?_ (fun B M h => ?_)
    · exact Cl_of rfl (Nat.le_of_ble_eq_true rfl) rfl (gX11_key_0 (d := d + 18) ⟨fun _ => ⟨fun _ => ⟨v03, fun M4 e4 => ⟨rfl, by rw [e4, c0]; exact pe.rf⟩⟩, fun z => bb z hx⟩, fun z => bb z hx⟩)
    · exact Cl_of rfl (Nat.le_of_ble_eq_true rfl) rfl (gX10_key_0 (d := d + 19) ⟨fun z => bb z hx, fun _ => ⟨v03, fun M4 e4 => ⟨rfl, by rw [e4, c0]; exact xq.rf⟩⟩⟩)
theorem op_key (hB : B < 2 ^ 28) (h : RX B M N) (x : Int32) : OP 200 mX10_key mX11_key [.int x] B M N := OU.op hB h (u_key (d := 180) h x)
theorem op_undo (h : RX B M N) : OP 200 mX10_undo mX11_undo [] B M N := by
  obtain ⟨k, e, lc, wn, hk, m9, k4, he, m8, -, -, -, -⟩ := kq_ex (RX_mr h)
  by_cases hk0 : k = 0
  · subst hk0
    refine op_ro (v := some (.int (-1))) h ?_ ?_
    · refine Cl_of rfl (Nat.le_of_ble_eq_true rfl) rfl (gX10_undo_0 (d := 199) ⟨fun z => ?_, fun _ => ⟨rfl, xq.rf⟩⟩)
      rw [m9] at z; exact absurd z (by decide)
    · exact Cl_of rfl (Nat.le_of_ble_eq_true rfl) rfl (gX11_undo_0 ⟨fun z => absurd k4 z, fun _ => ⟨rfl, pe.rf⟩⟩)
  · refine ⟨some (.int (nI (k - 1))), vok _, rowM N 1 (unA (N.1 1) k), ?_, Cl.mono (kX11_undo (d := 200) (by omega) hk k4) (fun r N2 q => ⟨q.1, by rw [q.2]; exact pe.rf⟩)⟩
    refine Cl_of rfl (Nat.le_of_ble_eq_true rfl) rfl (gX10_undo_0 (d := 199) ⟨fun _ => ⟨_, kX9_takeBack (d := 198) (by omega) hk m9 he m8, fun zr M2 q => ?_⟩, fun z => absurd ?_ z⟩)
    · rw [q.1]
      refine gX10_undo_20 ⟨by rw [q.2.2.1], ?_⟩
      have hm := mq_undo (RX_mr h) (by omega) hk m9 he m8 q.2.2
      refine RX_up (B := B) (by omega) (RX_mc (q := 2) h (by omega) (by omega) (M2 := M2) ?_ (fun c c1 c2 => q.2.1 c (by omega) (by omega)) (fun i i1 i2 => by rw [rowM_s, unA_lo i1 (by omega)]) (fun c c1 c2 => rowM_n c2))
      rw [rowM_s, q.2.1 45 (by omega) (by omega), q.2.1 46 (by omega) (by omega)]
      exact hm
    · rw [m9]; exact nI_le (a := 1) (by omega) (by omega)
end
