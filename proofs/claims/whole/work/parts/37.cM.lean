/-! the model: how stiff, whether it wears, whether it is noticed -/
section
variable {d : Nat} {M N : ev_Mem}
theorem aw_1 {N2 : ev_Mem} (h : N2.1 1 = N.1 1) : aw N2 = aw N := funext fun w => funext fun f => by unfold aw; rw [h]
theorem mH_1 {N2 : ev_Mem} {x : Int32} (h : N2.1 1 = N.1 1) : mH N2 x = mH N x := by unfold mH; rw [aw_1 h, h]
theorem mK_1 {N2 : ev_Mem} {x : Int32} (h : N2.1 1 = N.1 1) : mK N2 x = mK N x := by unfold mK; rw [aw_1 h, h]
theorem mE_1 {N2 : ev_Mem} {x : Int32} (h : N2.1 1 = N.1 1) : mE N2 x = mE N x := by unfold mE; rw [aw_1 h, mH_1 h, mK_1 h]
theorem mS_1 {N2 : ev_Mem} {x : Int32} (h : N2.1 1 = N.1 1) : mS N2 x = mS N x := by unfold mS; rw [aw_1 h, mH_1 h]
theorem mC_1 {N2 : ev_Mem} {x : Int32} (h : N2.1 1 = N.1 1) : mC N2 x = mC N x := by unfold mC; rw [aw_1 h, h]
theorem wm_1 {N2 : ev_Mem} {x : Int32} (h : N2.1 1 = N.1 1) : wm N x → wm N2 x := by unfold wm; rw [aw_1 h]; exact id
theorem okMd_1 {N2 : ev_Mem} (h : N2.1 1 = N.1 1) : okMd N → okMd N2 := by unfold okMd; rw [h]; exact id
theorem usv_1 {N2 : ev_Mem} (h : N2.1 1 = N.1 1) : usv N2 = usv N := funext fun x => by unfold usv; rw [h]
/-- how often the keys were used, in the model -/
def uNs (N : ev_Mem) : Nat → Int32 := fun l => N.1 1 (13 + l)
/-- a word's stiffness in the model, by text x -/
def stN (N : ev_Mem) (x : Int32) (w : Nat) : Int32 := syv (N.1 4) (nS (N.1 1 8) (bc (N.1 1 9)) (aw N w 0) (aw N w 2) (aw N w 3) (nI (mH N (nI w))) (mE N (nI w))) (usM (uNs N)) x 0 (aw N w 2 + mE N (nI w)) 99
theorem wm_kn {w : Nat} (hw24 : w < 24) (h : wm N (nI w)) : (∃ k, k ≤ 6 ∧ aw N w 0 = nI k) ∧ (∃ k, k ≤ 9 ∧ aw N w 2 = nI k) ∧ (∃ n, n ≤ 9 ∧ aw N w 3 = nI n) ∧ mH N (nI w) ≤ 9 := by
  obtain ⟨w2, n, e, h, hn, hl, hf, hk, -, ht⟩ := h
  have : w = w2 := (nI_eq (by omega) (by omega)).mp e
  subst this
  refine ⟨hk, ht, ⟨n, hn, hl⟩, ?_⟩
  unfold mH
  rw [nI_clamp (by omega), hl, nI_clamp (by omega)]
  exact Nat.le_trans (hol_le _ _ _) hn
theorem kX11_stiffOf {x : Int32} {w : Nat} (hw24 : w < 24) (hw : wm N (nI w)) (hl : lawI N x 0) (hu : okU (uNs N)) (hb : upto (N.1 1 8) 1000000 ∧ upto (bc (N.1 1 9)) 1000000 ∧ upto (mE N (nI w)) 1000000) :
    Cl LM (d + 4) mX11_stiffOf [.ref 0, .int x, .int (nI w)] N (fun r N2 => r = some (.int (stN N x w)) ∧ nfr N N2) := by
  obtain ⟨⟨k, hk, ek⟩, ⟨t9, ht9, et⟩, ⟨n, hn, en⟩, hH⟩ := wm_kn hw24 hw
  refine Cl_of rfl (Nat.le_of_ble_eq_true rfl) rfl (gX11_stiffOf_0 (fun M1 e1 => ⟨awi0 hw24, fun M2 e2 => ⟨awi2 hw24, fun M3 e3 => ⟨awi3 hw24, fun M4 e4 => ?_⟩⟩⟩))
  rw [aw0 hw24] at e2
  rw [aw2 hw24] at e3
  rw [aw3 hw24] at e4
  have n1 : nfr N M1 := by rw [e1]; exact nfr_nm
  have n2 : nfr N M2 := by rw [e2]; exact n1.tr nfr_wr
  have n3 : nfr N M3 := by rw [e3]; exact n2.tr nfr_wr
  have n4 : nfr N M4 := by rw [e4]; exact n3.tr nfr_wr
  have a1 := n1.1 1 (by omega) (by omega)
  have a2 := n2.1 1 (by omega) (by omega)
  have a3 := n3.1 1 (by omega) (by omega)
  have a4 := n4.1 1 (by omega) (by omega)
  rw [aw_1 a1] at e2
  rw [aw_1 a2] at e3
  rw [aw_1 a3] at e4
  refine ⟨wm_1 a4 hw, fun M5 e5 => ?_⟩
  rw [mH_1 a4] at e5
  have n5 : nfr N M5 := by rw [e5]; exact n4.tr nfr_wr
  have a5 := n5.1 1 (by omega) (by omega)
  refine ⟨wm_1 a5 hw, fun M6 e6 => ?_⟩
  rw [mE_1 a5] at e6
  have n6 : nfr N M6 := by rw [e6]; exact n5.tr nfr_wr
  have a6 := n6.1 1 (by omega) (by omega)
  have t6 := n6.1 4 (by omega) (by omega)
  have r6 : M6.1 7 = upd (upd (upd (upd (upd (upd (upd (N.1 7) 0 (N.1 1 8)) 1 (bc (N.1 1 9))) 2 (aw N w 0)) 3 (aw N w 2)) 4 (aw N w 3)) 5 (nI (mH N (nI w)))) 6 (mE N (nI w)) := by
    rw [e6, wr_row, e5, wr_row, e4, wr_row, e3, wr_row, e2, wr_row, e1, nm_row]
  have hag : agr 0 (M6.1 7) (nS (N.1 1 8) (bc (N.1 1 9)) (aw N w 0) (aw N w 2) (aw N w 3) (nI (mH N (nI w))) (mE N (nI w))) := by
    intro i hi
    rw [r6]
    have hi7 : i < 7 := by
      rcases hi with h | h | h | h
      · omega
      · omega
      · exact absurd h.1 (by omega)
      · exact absurd h.1 (by omega)
    match i, hi7 with
    | 0, _ => exact ⟨rfl, hb.1⟩
    | 1, _ => exact ⟨rfl, hb.2.1⟩
    | 2, _ => exact ⟨rfl, by show upto (aw N w 0) _; exact ⟨k, by omega, ek⟩⟩
    | 3, _ => exact ⟨rfl, by show upto (aw N w 2) _; exact ⟨t9, by omega, et⟩⟩
    | 4, _ => exact ⟨rfl, by show upto (aw N w 3) _; exact ⟨n, by omega, en⟩⟩
    | 5, _ => exact ⟨rfl, by show upto (nI (mH N (nI w))) _; exact ⟨_, by omega, rfl⟩⟩
    | 6, _ => exact ⟨rfl, hb.2.2⟩
    | i + 7, h => exact absurd h (by omega)
  have eu : usv M6 = usM (uNs N) := by rw [usv_1 a6]; exact usv_eq
  rw [t6, eu]
  refine ⟨lawI_txk hl hag.l hu, fun M7 hm => ⟨?_, n6.tr (nfr_mfr hm)⟩⟩
  have s3 : M6.1 7 3 = aw N w 2 := by rw [r6]; rfl
  have s6 : M6.1 7 6 = mE N (nI w) := by rw [r6]; rfl
  rw [s3, s6]
  unfold stN
  rw [show (0 : Int32) = nI 0 from rfl, lawI_syv hl hag hu]
/-- whether a key wears -/
def weN (N : ev_Mem) (l : Nat) : Int32 := syv (N.1 4) (nW (N.1 1 8) (bc (N.1 1 9)) (nI l) (N.1 1 (13 + l))) (usM (uNs N)) (N.1 1 3) 1 (N.1 1 (13 + l) / 10) 10
theorem kX11_wearsOf {l : Nat} (hl26 : l < 26) (hl : lawI N (N.1 1 3) 1) (hu : okU (uNs N)) (hb : upto (N.1 1 8) 1000000 ∧ upto (bc (N.1 1 9)) 1000000) :
    Cl LM (d + 4) mX11_wearsOf [.ref 0, .int (nI l)] N (fun r N2 => r = some (.int (weN N l)) ∧ nfr N N2) := by
  have hul : upto (N.1 1 (13 + l)) 1000000 := by obtain ⟨n, h1, h2⟩ := hu l hl26; exact ⟨n, by omega, h2⟩
  have e13 : (13 : Int32) + nI l = nI (13 + l) := by rw [show (13 : Int32) = nI 13 from rfl, nI_add]
  refine Cl_of rfl (Nat.le_of_ble_eq_true rfl) rfl (gX11_wearsOf_0 (fun M1 e1 M2 e2 => ⟨by rw [e13]; exact vp_in_nI (by omega) (by omega), fun M3 e3 => ?_⟩))
  rw [e13, nI_clamp (by omega)] at e3
  have n1 : nfr N M1 := by rw [e1]; exact nfr_nm
  have n2 : nfr N M2 := by rw [e2]; exact n1.tr nfr_wr
  have n3 : nfr N M3 := by rw [e3]; exact n2.tr nfr_wr
  rw [n2.1 1 (by omega) (by omega)] at e3
  have a3 := n3.1 1 (by omega) (by omega)
  have t3 := n3.1 4 (by omega) (by omega)
  have r3 : M3.1 7 = upd (upd (upd (upd (N.1 7) 0 (N.1 1 8)) 1 (bc (N.1 1 9))) 7 (nI l)) 8 (N.1 1 (13 + l)) := by
    rw [e3, wr_row, e2, wr_row, e1, nm_row]
  have hag : agr 1 (M3.1 7) (nW (N.1 1 8) (bc (N.1 1 9)) (nI l) (N.1 1 (13 + l))) := by
    intro i hi
    rw [r3]
    rcases hi with h | h | h | h
    · match i, h with
      | 0, _ => exact ⟨rfl, hb.1⟩
      | 1, _ => exact ⟨rfl, hb.2⟩
      | i + 2, h => exact absurd h (by omega)
    · exact absurd h.1 (by omega)
    · obtain ⟨-, h7, h9⟩ := h
      have : i = 7 ∨ i = 8 := by omega
      rcases this with rfl | rfl
      · exact ⟨rfl, l, by omega, rfl⟩
      · exact ⟨rfl, hul⟩
    · exact absurd h.1 (by omega)
  have eu : usv M3 = usM (uNs N) := by rw [usv_1 a3]; exact usv_eq
  rw [t3, eu, a3]
  refine ⟨lawI_txk hl hag.l hu, fun M7 hm => ⟨?_, n3.tr (nfr_mfr hm)⟩⟩
  have s8 : M3.1 7 8 = N.1 1 (13 + l) := by rw [r3]; rfl
  rw [s8]
  unfold weN
  rw [show (1 : Int32) = nI 1 from rfl, lawI_syv hl hag hu]
/-- whether a line is noticed -/
def noN (N : ev_Mem) (li to se : Int32) : Int32 := syv (N.1 4) (nN (N.1 1 8) (bc (N.1 1 9)) li to se) (usM (uNs N)) (N.1 1 3) 2 (to / 4) 10
theorem kX11_noticesOf {li to se : Int32} (hl : lawI N (N.1 1 3) 2) (hu : okU (uNs N)) (hb : upto (N.1 1 8) 1000000 ∧ upto (bc (N.1 1 9)) 1000000 ∧ upto li 1000000 ∧ upto to 1000000 ∧ upto se 1000000) :
    Cl LM (d + 4) mX11_noticesOf [.ref 0, .int li, .int to, .int se] N (fun r N2 => r = some (.int (noN N li to se)) ∧ nfr N N2) := by
  refine Cl_of rfl (Nat.le_of_ble_eq_true rfl) rfl (gX11_noticesOf_0 (fun M1 e1 M2 e2 M3 e3 M4 e4 => ?_))
  have n4 : nfr N M4 := by rw [e4, e3, e2, e1]; exact ((nfr_nm.tr nfr_wr).tr nfr_wr).tr nfr_wr
  have a4 := n4.1 1 (by omega) (by omega)
  have t4 := n4.1 4 (by omega) (by omega)
  have r4 : M4.1 7 = upd (upd (upd (upd (upd (N.1 7) 0 (N.1 1 8)) 1 (bc (N.1 1 9))) 9 li) 10 to) 11 se := by
    rw [e4, wr_row, e3, wr_row, e2, wr_row, e1, nm_row]
  have hag : agr 2 (M4.1 7) (nN (N.1 1 8) (bc (N.1 1 9)) li to se) := by
    intro i hi
    rw [r4]
    rcases hi with h | h | h | h
    · match i, h with
      | 0, _ => exact ⟨rfl, hb.1⟩
      | 1, _ => exact ⟨rfl, hb.2.1⟩
      | i + 2, h => exact absurd h (by omega)
    · exact absurd h.1 (by omega)
    · exact absurd h.1 (by omega)
    · obtain ⟨-, h7, h9⟩ := h
      have : i = 9 ∨ i = 10 ∨ i = 11 := by omega
      rcases this with rfl | rfl | rfl
      · exact ⟨rfl, hb.2.2.1⟩
      · exact ⟨rfl, hb.2.2.2.1⟩
      · exact ⟨rfl, hb.2.2.2.2⟩
  have eu : usv M4 = usM (uNs N) := by rw [usv_1 a4]; exact usv_eq
  rw [t4, eu, a4]
  refine ⟨lawI_txk hl hag.l hu, fun M7 hm => ⟨?_, n4.tr (nfr_mfr hm)⟩⟩
  unfold noN
  rw [show (2 : Int32) = nI 2 from rfl, lawI_syv hl hag hu]
end
