/-! contracts: marking, noting, drawing, taking back, on both sides -/
section
variable {d B : Nat} {M N : ev_Mem}
theorem cp_cell {k0 k1 sp dp n a : Nat} (h : a ≠ k1) : (ev_cp M k0 k1 sp dp n).1 a = M.1 a := funext fun b => if_neg h
theorem cp_row {k0 k1 sp dp n : Nat} : (ev_cp M k0 k1 sp dp n).1 k1 = va_cpy (M.1 k0) (M.1 k1) sp dp n := funext fun b => if_pos rfl
theorem mk_fin {M1 M2 M3 M4 M5 M6 M7 : ev_Mem} {p k e : Nat} {v : Int32} (hv : v = nI (31 * p)) (hp : p < 30) (h1 : ∀ c, c ≠ 43 → M1.1 c = M.1 c) (h2 : ∀ j, j ≠ 8 → j ≠ 9 → M1.1 43 j = M.1 43 j) (he : p = (e + k) % 30) (h9 : M1.1 43 9 = nI (min (k + 1) 30)) (h8 : M1.1 43 8 = nI (if k = 30 then (e + 1) % 30 else e))
    (e2 : M2 = ev_cp M1 44 46 (0 : Int32).toNatClampNeg v.toNatClampNeg (26 : Int32).toNatClampNeg) (e3 : M3 = ev_wr M2 46 (v + 26).toNatClampNeg (M2.1 43 0)) (e4 : M4 = ev_wr M3 46 ((v + 26) + 1).toNatClampNeg (M3.1 43 2)) (e5 : M5 = ev_wr M4 46 ((v + 26) + 2).toNatClampNeg (M4.1 43 3)) (e6 : M6 = ev_wr M5 46 ((v + 26) + 3).toNatClampNeg (M5.1 43 4)) (e7 : M7 = ev_wr M6 46 ((v + 26) + 4).toNatClampNeg (M6.1 43 6)) :
    (∀ c, c ≠ 43 → c ≠ 46 → M7.1 c = M.1 c) ∧ mkO (M.1 43) (M.1 44) (M.1 46) (M7.1 43) (M7.1 46) k e := by
  rw [hv, show (0 : Int32).toNatClampNeg = 0 from rfl, show (26 : Int32).toNatClampNeg = 26 from rfl, nI_clamp (by omega)] at e2
  rw [hv, show nI (31 * p) + 26 = nI (31 * p + 26) from nI_add _ 26] at e3 e4 e5 e6 e7
  rw [nI_clamp (by omega)] at e3
  rw [show nI (31 * p + 26) + 1 = nI (31 * p + 27) from nI_add _ 1, nI_clamp (by omega)] at e4
  rw [show nI (31 * p + 26) + 2 = nI (31 * p + 28) from nI_add _ 2, nI_clamp (by omega)] at e5
  rw [show nI (31 * p + 26) + 3 = nI (31 * p + 29) from nI_add _ 3, nI_clamp (by omega)] at e6
  rw [show nI (31 * p + 26) + 4 = nI (31 * p + 30) from nI_add _ 4, nI_clamp (by omega)] at e7
  have c2 : ∀ c, c ≠ 46 → M2.1 c = M1.1 c := fun c hc => by rw [e2, cp_cell hc]
  have c3 : ∀ c, c ≠ 46 → M3.1 c = M1.1 c := fun c hc => by rw [e3, wr_cell hc, c2 c hc]
  have c4 : ∀ c, c ≠ 46 → M4.1 c = M1.1 c := fun c hc => by rw [e4, wr_cell hc, c3 c hc]
  have c5 : ∀ c, c ≠ 46 → M5.1 c = M1.1 c := fun c hc => by rw [e5, wr_cell hc, c4 c hc]
  have c6 : ∀ c, c ≠ 46 → M6.1 c = M1.1 c := fun c hc => by rw [e6, wr_cell hc, c5 c hc]
  have c7 : ∀ c, c ≠ 46 → M7.1 c = M1.1 c := fun c hc => by rw [e7, wr_cell hc, c6 c hc]
  have r7 : ∀ i, (i < 31 * p + 26 ∨ 31 * p + 31 ≤ i) → M7.1 46 i = va_cpy (M.1 44) (M.1 46) 0 (31 * p) 26 i := fun i hi => by
    rw [e7, wr_ne (by omega), e6, wr_ne (by omega), e5, wr_ne (by omega), e4, wr_ne (by omega), e3, wr_ne (by omega), e2, cp_row, h1 44 (by omega), h1 46 (by omega)]
  unfold mkO
  rw [← he]
  refine ⟨fun c q1 q2 => by rw [c7 c q2, h1 c q1], fun j q1 q2 => by rw [c7 43 (by omega), h2 j q1 q2], by rw [c7 43 (by omega)]; exact h9, by rw [c7 43 (by omega)]; exact h8, fun i hi => ?_, fun l hl => ?_, ?_, ?_, ?_, ?_, ?_⟩
  · rw [r7 i (by omega), pk_cpy_out (by omega)]
  · rw [r7 _ (by omega), pk_cpy_in (by omega) (by omega), show 0 + (31 * p + l - 31 * p) = l by omega]
  · rw [e7, wr_ne (by omega), e6, wr_ne (by omega), e5, wr_ne (by omega), e4, wr_ne (by omega), e3, wr_same, c2 43 (by omega), h2 0 (by omega) (by omega)]
  · rw [e7, wr_ne (by omega), e6, wr_ne (by omega), e5, wr_ne (by omega), e4, wr_same, c3 43 (by omega), h2 2 (by omega) (by omega)]
  · rw [e7, wr_ne (by omega), e6, wr_ne (by omega), e5, wr_same, c4 43 (by omega), h2 3 (by omega) (by omega)]
  · rw [e7, wr_ne (by omega), e6, wr_same, c5 43 (by omega), h2 4 (by omega) (by omega)]
  · rw [e7, wr_same, c6 43 (by omega), h2 6 (by omega) (by omega)]
theorem st_v {e k : Nat} (he : e < 30) (hk : k ≤ 30) : (nI e + nI k - (nI e + nI k) / 30 * 30) * 31 = nI (31 * ((e + k) % 30)) := by
  rw [nI_add, show (30 : Int32) = nI 30 from rfl, pk_rem (by omega) (by omega) (by omega), show (31 : Int32) = nI 31 from rfl, pk_mul, Nat.mul_comm]
theorem kX9_markStep {k e : Nat} (hk : k ≤ 30) (hk2 : M.1 43 9 = nI k) (he : e < 30) (he2 : M.1 43 8 = nI e) : Cl LX (d + 1) mX9_markStep [.ref 43] M (fun r M2 => r = none ∧ (∀ c, c ≠ 43 → c ≠ 46 → M2.1 c = M.1 c) ∧ mkO (M.1 43) (M.1 44) (M.1 46) (M2.1 43) (M2.1 46) k e) := by
  have hp : (e + k) % 30 < 30 := Nat.mod_lt _ (by omega)
  refine Cl_of rfl (Nat.le_of_ble_eq_true rfl) rfl (gX9_markStep_0 fun v ev => ?_)
  rw [he2, hk2, st_v he hk] at ev
  have i26 : ∀ c : Nat, c ≤ 30 → vp_in (nI (31 * ((e + k) % 30) + c)) 930 := fun c hc => vp_in_nI (by omega) (by omega)
  have a26 : v + 26 = nI (31 * ((e + k) % 30) + 26) := by rw [ev]; exact nI_add _ 26
  have gd : ¬ (0 : Int32) < 0 ∧ ¬ v < 0 ∧ ¬ (26 : Int32) < 0 ∧ (0 : Int32).toNatClampNeg + (26 : Int32).toNatClampNeg ≤ 26 ∧ v.toNatClampNeg + (26 : Int32).toNatClampNeg ≤ 930 := by
    refine ⟨by decide, by rw [ev]; exact nI_pos (by omega), by decide, by decide, ?_⟩
    rw [ev, nI_clamp (by omega), show (26 : Int32).toNatClampNeg = 26 from rfl]; omega
  have g0 : vp_in (v + 26) 930 := by rw [a26]; exact i26 26 (by omega)
  have g1 : vp_in (v + 26 + 1) 930 := by rw [a26, show nI (31 * ((e + k) % 30) + 26) + 1 = nI (31 * ((e + k) % 30) + 27) from nI_add _ 1]; exact i26 27 (by omega)
  have g2 : vp_in (v + 26 + 2) 930 := by rw [a26, show nI (31 * ((e + k) % 30) + 26) + 2 = nI (31 * ((e + k) % 30) + 28) from nI_add _ 2]; exact i26 28 (by omega)
  have g3 : vp_in (v + 26 + 3) 930 := by rw [a26, show nI (31 * ((e + k) % 30) + 26) + 3 = nI (31 * ((e + k) % 30) + 29) from nI_add _ 3]; exact i26 29 (by omega)
  have g4 : vp_in (v + 26 + 4) 930 := by rw [a26, show nI (31 * ((e + k) % 30) + 26) + 4 = nI (31 * ((e + k) % 30) + 30) from nI_add _ 4]; exact i26 30 (by omega)
  refine ⟨fun z M1 e1 => ⟨gd, fun M2 e2 => ⟨g0, fun M3 e3 => ⟨g1, fun M4 e4 => ⟨g2, fun M5 e5 => ⟨g3, fun M6 e6 => ⟨g4, fun M7 e7 => ⟨rfl, ?_⟩⟩⟩⟩⟩⟩⟩, fun z M1 e1 => ⟨gd, fun M2 e2 => ⟨g0, fun M3 e3 => ⟨g1, fun M4 e4 => ⟨g2, fun M5 e5 => ⟨g3, fun M6 e6 => ⟨g4, fun M7 e7 => ⟨rfl, ?_⟩⟩⟩⟩⟩⟩⟩⟩
  · have hk30 : ¬ k = 30 := fun q => z (by rw [hk2, q]; rfl)
    refine mk_fin (p := (e + k) % 30) ev hp (fun c hc => by rw [e1, wr_cell hc]) (fun j _ hj => by rw [e1, wr_ne (by omega)]) rfl ?_ ?_ e2 e3 e4 e5 e6 e7
    · rw [e1, wr_same, hk2, nI_1]; congr 1; omega
    · rw [e1, wr_ne (by omega), he2, if_neg hk30]
  · have hk30 : k = 30 := (nI_eq (b := 30) (by omega) (by omega)).mp (hk2.symm.trans z)
    refine mk_fin (p := (e + k) % 30) ev hp (fun c hc => by rw [e1, wr_cell hc]) (fun j hj _ => by rw [e1, wr_ne (by omega)]) rfl ?_ ?_ e2 e3 e4 e5 e6 e7
    · rw [e1, wr_ne (by omega), hk2]; congr 1; omega
    · rw [e1, wr_same, he2, if_pos hk30, nI_1, show (30 : Int32) = nI 30 from rfl, pk_rem (by omega) (by omega) (by omega)]
theorem kX9_note {lc : Nat} {x1 x2 x3 : Int32} (hl : lc < 2 ^ 30) (hl2 : M.1 43 6 = nI lc) : Cl LX d mX9_note [.ref 43, .int x1, .int x2, .int x3] M (fun r M2 => r = none ∧ (∀ c, c ≠ 43 → c ≠ 45 → M2.1 c = M.1 c) ∧ ntO (M.1 43) (M.1 45) (M2.1 43) (M2.1 45) lc x1 x2 x3) := by
  have hp : lc % 90 < 90 := Nat.mod_lt _ (by omega)
  refine Cl_of rfl (Nat.le_of_ble_eq_true rfl) rfl (gX9_note_0 fun v ev => ?_)
  rw [hl2, show (90 : Int32) = nI 90 from rfl, pk_rem (by omega) (by omega) (by omega), show (4 : Int32) = nI 4 from rfl, pk_mul, Nat.mul_comm] at ev
  rw [ev, show nI (4 * (lc % 90)) + 1 = nI (4 * (lc % 90) + 1) from nI_add _ 1, show nI (4 * (lc % 90)) + 2 = nI (4 * (lc % 90) + 2) from nI_add _ 2, show nI (4 * (lc % 90)) + 3 = nI (4 * (lc % 90) + 3) from nI_add _ 3, nI_clamp (by omega), nI_clamp (by omega), nI_clamp (by omega), nI_clamp (by omega)]
  refine ⟨vp_in_nI (by omega) (by omega), fun M1 e1 => ⟨vp_in_nI (by omega) (by omega), fun M2 e2 => ⟨vp_in_nI (by omega) (by omega), fun M3 e3 => ⟨vp_in_nI (by omega) (by omega), fun M4 e4 M5 e5 => ⟨rfl, ?_⟩⟩⟩⟩⟩
  have c4 : ∀ c, c ≠ 45 → M4.1 c = M.1 c := fun c hc => by rw [e4, wr_cell hc, e3, wr_cell hc, e2, wr_cell hc, e1, wr_cell hc]
  have c5 : ∀ c, c ≠ 43 → M5.1 c = M4.1 c := fun c hc => by rw [e5, wr_cell hc]
  refine ⟨fun c q1 q2 => by rw [c5 c q1, c4 c q2], fun j hj => by rw [e5, wr_ne (by omega), c4 43 (by omega)], by rw [e5, wr_same, c4 43 (by omega), hl2, nI_1], fun i hi => ?_, ?_, ?_, ?_, ?_⟩
  · rw [c5 45 (by omega), e4, wr_ne (by omega), e3, wr_ne (by omega), e2, wr_ne (by omega), e1, wr_ne (by omega)]
  · rw [c5 45 (by omega), e4, wr_ne (by omega), e3, wr_ne (by omega), e2, wr_ne (by omega), e1, wr_same]
  · rw [c5 45 (by omega), e4, wr_ne (by omega), e3, wr_ne (by omega), e2, wr_same]
  · rw [c5 45 (by omega), e4, wr_ne (by omega), e3, wr_same]
  · rw [c5 45 (by omega), e4, wr_same]
theorem kX9_takeBack {k e : Nat} (hk0 : 1 ≤ k) (hk : k ≤ 30) (hk2 : M.1 43 9 = nI k) (he : e < 30) (he2 : M.1 43 8 = nI e) : Cl LX (d + 1) mX9_takeBack [.ref 43] M (fun r M2 => r = none ∧ (∀ c, c ≠ 43 → c ≠ 44 → M2.1 c = M.1 c) ∧ bkO (M.1 43) (M.1 46) (M2.1 43) (M2.1 44) k e) := by
  have hp : (e + (k - 1)) % 30 < 30 := Nat.mod_lt _ (by omega)
  refine Cl_of rfl (Nat.le_of_ble_eq_true rfl) rfl (gX9_takeBack_0 ⟨fun _ M1 e1 v ev => ?_, fun z => absurd ?_ z⟩)
  · have f9 : M1.1 43 9 = nI (k - 1) := by
      rw [e1, wr_same, hk2]
      show nI k - nI 1 = _
      rw [pk_sub hk0]
    have f8 : M1.1 43 8 = nI e := by rw [e1, wr_ne (by omega)]; exact he2
    rw [f8, f9, st_v he (by omega)] at ev
    rw [ev, show nI (31 * ((e + (k - 1)) % 30)) + 26 = nI (31 * ((e + (k - 1)) % 30) + 26) from nI_add _ 26, show nI (31 * ((e + (k - 1)) % 30) + 26) + 1 = nI (31 * ((e + (k - 1)) % 30) + 27) from nI_add _ 1, show nI (31 * ((e + (k - 1)) % 30) + 26) + 2 = nI (31 * ((e + (k - 1)) % 30) + 28) from nI_add _ 2, show nI (31 * ((e + (k - 1)) % 30) + 26) + 3 = nI (31 * ((e + (k - 1)) % 30) + 29) from nI_add _ 3, show nI (31 * ((e + (k - 1)) % 30) + 26) + 4 = nI (31 * ((e + (k - 1)) % 30) + 30) from nI_add _ 4, nI_clamp (by omega), nI_clamp (by omega), nI_clamp (by omega), nI_clamp (by omega), nI_clamp (by omega), nI_clamp (by omega), show (0 : Int32).toNatClampNeg = 0 from rfl, show (26 : Int32).toNatClampNeg = 26 from rfl]
    refine ⟨⟨nI_pos (by omega), by decide, by decide, by omega, by omega⟩, fun M2 e2 => ⟨vp_in_nI (by omega) (by omega), fun M3 e3 => ⟨vp_in_nI (by omega) (by omega), fun M4 e4 => ⟨vp_in_nI (by omega) (by omega), fun M5 e5 => ⟨vp_in_nI (by omega) (by omega), fun M6 e6 => ⟨vp_in_nI (by omega) (by omega), fun M7 e7 => ⟨rfl, ?_⟩⟩⟩⟩⟩⟩⟩
    have c1 : ∀ c, c ≠ 43 → M1.1 c = M.1 c := fun c hc => by rw [e1, wr_cell hc]
    have c2 : ∀ c, c ≠ 44 → M2.1 c = M1.1 c := fun c hc => by rw [e2, cp_cell hc]
    have c3 : ∀ c, c ≠ 43 → M3.1 c = M2.1 c := fun c hc => by rw [e3, wr_cell hc]
    have c4 : ∀ c, c ≠ 43 → M4.1 c = M2.1 c := fun c hc => by rw [e4, wr_cell hc, c3 c hc]
    have c5 : ∀ c, c ≠ 43 → M5.1 c = M2.1 c := fun c hc => by rw [e5, wr_cell hc, c4 c hc]
    have c6 : ∀ c, c ≠ 43 → M6.1 c = M2.1 c := fun c hc => by rw [e6, wr_cell hc, c5 c hc]
    have c7 : ∀ c, c ≠ 43 → M7.1 c = M2.1 c := fun c hc => by rw [e7, wr_cell hc, c6 c hc]
    have p2 : M2.1 46 = M.1 46 := by rw [c2 46 (by omega), c1 46 (by omega)]
    rw [p2] at e3
    rw [c3 46 (by omega), p2] at e4
    rw [c4 46 (by omega), p2] at e5
    rw [c5 46 (by omega), p2] at e6
    rw [c6 46 (by omega), p2] at e7
    refine ⟨fun c q1 q2 => by rw [c7 c q1, c2 c q2, c1 c q1], ?_, ?_, fun l hl => ?_, ?_, ?_, ?_, ?_, ?_⟩
    · rw [e7, wr_ne (by omega), e6, wr_ne (by omega), e5, wr_ne (by omega), e4, wr_ne (by omega), e3, wr_ne (by omega), c2 43 (by omega)]; exact f9
    · rw [e7, wr_ne (by omega), e6, wr_ne (by omega), e5, wr_ne (by omega), e4, wr_ne (by omega), e3, wr_ne (by omega), c2 43 (by omega), f8, he2]
    · rw [c7 44 (by omega), e2, cp_row, pk_cpy_in (by omega) (by omega), c1 46 (by omega), Nat.sub_zero]
    · rw [e7, wr_ne (by omega), e6, wr_ne (by omega), e5, wr_ne (by omega), e4, wr_ne (by omega), e3, wr_same]
    · rw [e7, wr_ne (by omega), e6, wr_ne (by omega), e5, wr_ne (by omega), e4, wr_same]
    · rw [e7, wr_ne (by omega), e6, wr_ne (by omega), e5, wr_same]
    · rw [e7, wr_ne (by omega), e6, wr_same]
    · rw [e7, wr_same]
  · rw [hk2]; exact nI_le (a := 1) hk0 (by omega)
/-- numbers moved within a row, one by one -/
def cpA (u : Nat → Int32) (dp sp n : Nat) : Nat → Int32 := fun j => if dp ≤ j ∧ j < dp + n then u (sp + (j - dp)) else u j
theorem cpA_0 {u : Nat → Int32} {dp sp : Nat} : cpA u dp sp 0 = u := funext fun j => if_neg (by omega)
theorem cpA_s {u : Nat → Int32} {dp sp i : Nat} (h : sp + i < dp ∨ dp ≤ sp) : upd (cpA u dp sp i) (dp + i) (cpA u dp sp i (sp + i)) = cpA u dp sp (i + 1) := by
  funext j
  have e : cpA u dp sp i (sp + i) = u (sp + i) := if_neg (by omega)
  rw [e]
  by_cases z : j = dp + i
  · subst z
    rw [upd_eq]
    unfold cpA
    rw [if_pos (by omega), Nat.add_sub_cancel_left]
  · rw [upd_ne z]
    unfold cpA
    by_cases y : dp ≤ j ∧ j < dp + i
    · rw [if_pos y, if_pos (by omega)]
    · rw [if_neg y, if_neg (by omega)]
theorem kp_lp2 {k : Nat} {a b : Nat → Int32} (hk : k ≤ 29) (h4 : a 4 = nI k) (hb : upd (cpA (cpA a (525 + 91 * k) 8 31) (525 + 91 * k + 31) 3255 60) 4 (nI (k + 1)) = b) : Ev LM d mX11_keep 72 [some (.ref 0), some (.int (nI (525 + 91 * k))), some (.int 0)] [] (rowM N 1 a) (fun r N2 => r = none ∧ N2 = rowM N 1 b) := by
  have l2 : ∀ i, i ≤ 60 → Ev LM d mX11_keep 103 [some (.ref 0), some (.int (nI (525 + 91 * k))), some (.int (nI i))] [] (rowM N 1 (cpA (cpA a (525 + 91 * k) 8 31) (525 + 91 * k + 31) 3255 i)) (fun r N2 => r = none ∧ N2 = rowM N 1 b) := by
    refine dn ?_ (fun i hi ih => ?_)
    · refine gX11_keep_103 ⟨fun _ M1 e1 => ⟨rfl, ?_⟩, fun z => absurd (by decide) z⟩
      rw [e1, rowM_w, rowM_s]
      have : cpA (cpA a (525 + 91 * k) 8 31) (525 + 91 * k + 31) 3255 60 4 = nI k := by
        unfold cpA
        rw [if_neg (by omega), if_neg (by omega)]; exact h4
      rw [this, nI_1, hb]
    · refine gX11_keep_103 ⟨fun z => absurd z (nI_ge (b := 60) hi (by omega)), fun _ => ?_⟩
      rw [show (3255 : Int32) + nI i = nI (3255 + i) from nI_add 3255 i, show nI (525 + 91 * k) + 31 = nI (525 + 91 * k + 31) from nI_add _ 31, nI_add, nI_clamp (by omega), nI_clamp (by omega)]
      refine ⟨vp_in_nI (by omega) (by omega), vp_in_nI (by omega) (by omega), fun M2 e2 => ?_⟩
      rw [rowM_w, rowM_s, cpA_s (by omega)] at e2
      rw [e2, nI_1]; exact ih
  have l1 : ∀ i, i ≤ 31 → Ev LM d mX11_keep 72 [some (.ref 0), some (.int (nI (525 + 91 * k))), some (.int (nI i))] [] (rowM N 1 (cpA a (525 + 91 * k) 8 i)) (fun r N2 => r = none ∧ N2 = rowM N 1 b) := by
    refine dn ?_ (fun i hi ih => ?_)
    · refine gX11_keep_72 ⟨fun _ => ?_, fun z => absurd (by decide) z⟩
      have := l2 0 (by omega)
      rw [cpA_0] at this
      exact this
    · refine gX11_keep_72 ⟨fun z => absurd z (nI_ge (b := 31) hi (by omega)), fun _ => ?_⟩
      rw [show (8 : Int32) + nI i = nI (8 + i) from nI_add 8 i, nI_add, nI_clamp (by omega), nI_clamp (by omega)]
      refine ⟨vp_in_nI (by omega) (by omega), vp_in_nI (by omega) (by omega), fun M2 e2 => ?_⟩
      rw [rowM_w, rowM_s, cpA_s (by omega)] at e2
      rw [e2, nI_1]; exact ih
  have := l1 0 (by omega)
  rw [cpA_0] at this
  exact this
theorem e525 {k : Nat} : (525 : Int32) + 91 * nI k = nI (525 + 91 * k) := by rw [show (525 : Int32) = nI 525 from rfl, show (91 : Int32) = nI 91 from rfl, pk_mul, nI_add]
theorem kX11_keep {k : Nat} (hk : k ≤ 30) (h4 : N.1 1 4 = nI k) : Cl LM d mX11_keep [.ref 0] N (fun r N2 => r = none ∧ N2 = rowM N 1 (keA (N.1 1) k)) := by
  refine Cl_of rfl (Nat.le_of_ble_eq_true rfl) rfl (gX11_keep_0 ⟨fun z => ?_, fun z => ?_⟩)
  · have hk2 : k ≠ 30 := fun q => z (by rw [h4, q]; rfl)
    rw [h4, e525]
    have := kp_lp2 (d := d) (N := N) (k := k) (a := N.1 1) (b := keA (N.1 1) k) (by omega) h4 ?_
    · rw [rowM_id] at this; exact this
    · funext i
      unfold keA
      by_cases i4 : i = 4
      · subst i4; rw [upd_eq, if_pos rfl]; congr 1; omega
      · rw [upd_ne i4, if_neg i4, show min k 29 = k by omega, if_neg (c := k = 30 ∧ 525 ≤ i ∧ i < 3164) (by omega)]
        unfold cpA
        by_cases y : 525 + 91 * k + 31 ≤ i ∧ i < 525 + 91 * k + 91
        · rw [if_pos (by omega), if_neg (by omega), if_neg (by omega), if_pos y]
        · rw [if_neg (by omega)]
          by_cases x : 525 + 91 * k ≤ i ∧ i < 525 + 91 * k + 31
          · rw [if_pos x, if_pos x]
          · rw [if_neg x, if_neg x, if_neg y]
  · have hk2 : k = 30 := (nI_eq (b := 30) (by omega) (by omega)).mp (h4.symm.trans z)
    subst hk2
    have l0 : ∀ i, i ≤ 2639 → Ev LM d mX11_keep 13 [some (.ref 0), some (.int (nI i)), none] [] (rowM N 1 (cpA (N.1 1) 525 616 i)) (fun r N2 => r = none ∧ N2 = rowM N 1 (keA (N.1 1) 30)) := by
      refine dn ?_ (fun i hi ih => ?_)
      · refine gX11_keep_13 ⟨fun _ M1 e1 => ?_, fun z => absurd (by decide) z⟩
        have e4 : cpA (N.1 1) 525 616 2639 4 - 1 = nI 29 := by
          unfold cpA
          rw [if_neg (by omega), h4]; rfl
        rw [rowM_w, rowM_s, e4] at e1
        rw [e1, rowM_s, upd_eq, e525]
        refine kp_lp2 (d := d) (N := N) (k := 29) (by omega) upd_eq ?_
        funext i
        unfold keA
        by_cases i4 : i = 4
        · subst i4; rw [upd_eq, if_pos rfl]; rfl
        · rw [upd_ne i4, if_neg i4, show min 30 29 = 29 from rfl]
          have g : ∀ j, j ≠ 4 → upd (cpA (N.1 1) 525 616 2639) 4 (nI 29) j = cpA (N.1 1) 525 616 2639 j := fun j hj => upd_ne hj
          unfold cpA at g ⊢
          by_cases y : 525 + 91 * 29 + 31 ≤ i ∧ i < 525 + 91 * 29 + 91
          · rw [if_pos (by omega), if_neg (by omega), g _ (by omega), if_neg (by omega), if_neg (by omega), if_pos y]
          · rw [if_neg (by omega)]
            by_cases x : 525 + 91 * 29 ≤ i ∧ i < 525 + 91 * 29 + 31
            · rw [if_pos (by omega), if_pos x, g _ (by omega), if_neg (by omega)]
            · rw [if_neg (by omega), if_neg x, if_neg y, g _ (by omega)]
              by_cases w : 525 ≤ i ∧ i < 525 + 2639
              · rw [if_pos w, if_pos (by omega), show 616 + (i - 525) = i + 91 by omega]
              · rw [if_neg w, if_neg (by omega)]
      · refine gX11_keep_13 ⟨fun z => absurd z (nI_ge (b := 2639) hi (by omega)), fun _ => ?_⟩
        rw [show (616 : Int32) + nI i = nI (616 + i) from nI_add 616 i, show (525 : Int32) + nI i = nI (525 + i) from nI_add 525 i, nI_clamp (by omega), nI_clamp (by omega)]
        refine ⟨vp_in_nI (by omega) (by omega), vp_in_nI (by omega) (by omega), fun M2 e2 => ?_⟩
        rw [rowM_w, rowM_s, cpA_s (by omega)] at e2
        rw [e2, nI_1]; exact ih
    have := l0 0 (by omega)
    rw [cpA_0, rowM_id] at this
    exact this
end
