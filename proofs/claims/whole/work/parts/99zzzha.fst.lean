/-! THE FIRST MEMORIES -/
/-- where the class's cells stand, in the order in which they are made -/
def pX (k : Nat) : Nat := if k < 61 then k else if k < 81 then k + 23 else if k < 82 then 61 else if k < 100 then k + 22 else k - 38
def qX (p : Nat) : Nat := if p < 61 then p else if p < 62 then 81 else if p < 84 then p + 38 else if p < 104 then p - 23 else p - 22
theorem pX_q : ∀ k, k < 122 → qX (pX k) = k ∧ pX k < 122 := by decide +kernel
theorem pX_lo {k : Nat} (h : k < 61) : pX k = k := if_pos h
/-- the class's memory as it is made -/
def M0 : ev_Mem := (fun k j => if k = 43 then (if j = 4 then 173 else 0) else if k = 100 then (if j = 4 then 173 else 0) else if k = 47 then (if j = 3 then -1 else 0) else if k = 104 then (if j = 3 then -1 else 0) else if k = 48 then (if j < 26 then -1 else 0) else if k = 105 then (if j < 26 then -1 else 0) else if k = 81 then (if j = 4 then -1 else 0) else if k = 86 then (if j = 8 then -1 else 0) else 0, fun _ _ => 0)
/-- entries that say the same of a heap -/
def vEq (e f : va_E) : Prop := ∀ (D : va_G) (a : Nat) (H : Heap), va_at D ev_cl (a, e) H → va_at D ev_cl (a, f) H
theorem vEq.rf {e : va_E} : vEq e e := fun _ _ _ h => h
theorem vEq.rows {c : ClassId} {n : Nat} {f g : Nat → Option Nat} (h : ∀ j, j < n → f j = g j) : vEq (.inl (c, n, .inr (.inr (.inr (.inr f))))) (.inl (c, n, .inr (.inr (.inr (.inr g))))) := fun D a H q => by
  have q : H[a]? = some (arrV c n (fun j => va_rf (f j))) := q
  show H[a]? = some (arrV c n (fun j => va_rf (g j)))
  exact q.trans (congrArg some (arrV_cg (fun j hj => by rw [h j hj])))
theorem vEq.e {e f : va_E} (h : e = f) : vEq e f := h ▸ vEq.rf
theorem ek_bl {t g : List va_E} {hd x : va_E} {n j : Nat} (ht : t.length = n) (hg : g[j]? = some x) : (hd :: (t ++ g))[n + 1 + j]? = some x := by
  rw [show n + 1 + j = n + j + 1 by omega, List.getElem?_cons_succ, List.getElem?_append_right (by omega), ht, Nat.add_sub_cancel_left]
  exact hg
section
variable {ids : Nat → ClassId} {ad : Nat → Nat} {h0 : Nat} {f : Nat → Option Nat} {hd x : va_E} {k j : Nat}
theorem bU_20 (h : (hd :: tX20 ids h0 f)[k]? = some x) : (hd :: tX20 ids h0 f)[k]? = some x := h
theorem bU_19 (h : (hd :: tX19 ids h0 f)[k]? = some x) : (hd :: tX20 ids h0 f)[k]? = some x := bU_20 (ek_pr (t := tX19 ids h0 f) h)
theorem bU_18 (h : (hd :: tX18 ids h0 f)[k]? = some x) : (hd :: tX20 ids h0 f)[k]? = some x := bU_19 (ek_pr (t := tX18 ids h0 f) h)
theorem bU_17 (h : (hd :: tX17 ids h0 f)[k]? = some x) : (hd :: tX20 ids h0 f)[k]? = some x := bU_18 (ek_pr (t := tX17 ids h0 f) h)
theorem bU_16 (h : (hd :: tX16 ids h0 f)[k]? = some x) : (hd :: tX20 ids h0 f)[k]? = some x := bU_17 (ek_pr (t := tX16 ids h0 f) h)
theorem bU_15 (h : (hd :: tX15 ids h0 f)[k]? = some x) : (hd :: tX20 ids h0 f)[k]? = some x := bU_16 (ek_pr (t := tX15 ids h0 f) h)
theorem bU_14 (h : (hd :: tX14 ids h0 f)[k]? = some x) : (hd :: tX20 ids h0 f)[k]? = some x := bU_15 (ek_pr (t := tX14 ids h0 f) h)
theorem bU_13 (h : (hd :: tX13 ids h0 f)[k]? = some x) : (hd :: tX20 ids h0 f)[k]? = some x := bU_14 (ek_pr (t := tX13 ids h0 f) h)
theorem bU_12 (h : (hd :: tX12 ids h0 f)[k]? = some x) : (hd :: tX20 ids h0 f)[k]? = some x := bU_13 (ek_pr (t := tX12 ids h0 f) h)
theorem bU_11 (h : (hd :: tX11 ids h0 f)[k]? = some x) : (hd :: tX20 ids h0 f)[k]? = some x := bU_12 (ek_pr (t := tX11 ids h0 f) h)
theorem bU_10 (h : (hd :: tX10 ids h0 f)[k]? = some x) : (hd :: tX20 ids h0 f)[k]? = some x := bU_11 (ek_pr (t := tX10 ids h0 f) h)
theorem bU_9 (h : (hd :: tX9 ids h0 f)[k]? = some x) : (hd :: tX20 ids h0 f)[k]? = some x := bU_10 (ek_pr (t := tX9 ids h0 f) h)
theorem bU_8 (h : (hd :: tX8 ids h0 f)[k]? = some x) : (hd :: tX20 ids h0 f)[k]? = some x := bU_9 (ek_pr (t := tX8 ids h0 f) h)
theorem bU_7 (h : (hd :: tX7 ids h0 f)[k]? = some x) : (hd :: tX20 ids h0 f)[k]? = some x := bU_8 (ek_pr (t := tX7 ids h0 f) h)
theorem bU_6 (h : (hd :: tX6 ids h0 f)[k]? = some x) : (hd :: tX20 ids h0 f)[k]? = some x := bU_7 (ek_pr (t := tX6 ids h0 f) h)
theorem bU_5 (h : (hd :: tX5 ids h0 f)[k]? = some x) : (hd :: tX20 ids h0 f)[k]? = some x := bU_6 (ek_pr (t := tX5 ids h0 f) h)
theorem bU_4 (h : (hd :: tX4 ids h0 f)[k]? = some x) : (hd :: tX20 ids h0 f)[k]? = some x := bU_5 (ek_pr (t := tX4 ids h0 f) h)
theorem bU_3 (h : (hd :: tX3 ids h0 f)[k]? = some x) : (hd :: tX20 ids h0 f)[k]? = some x := bU_4 (ek_pr (t := tX3 ids h0 f) h)
theorem bU_2 (h : (hd :: tX2 ids h0 f)[k]? = some x) : (hd :: tX20 ids h0 f)[k]? = some x := bU_3 (ek_pr (t := tX2 ids h0 f) h)
theorem bU_1 (h : (hd :: tX1 ids h0 f)[k]? = some x) : (hd :: tX20 ids h0 f)[k]? = some x := bU_2 (ek_pr (t := tX1 ids h0 f) h)
theorem bB_1 (h : (eX7_init ids (h0 + 1) : List va_E)[j]? = some x) : (hd :: tX1 ids h0 f)[0 + 1 + j]? = some x := ek_bl (t := ([] : List va_E)) rfl h
theorem bB_2 (h : (eX0_init ids (h0 + 3) : List va_E)[j]? = some x) : (hd :: tX2 ids h0 f)[2 + 1 + j]? = some x := ek_bl (t := tX1 ids h0 f) ltX1 h
theorem bB_3 (h : (eX9_init ids (h0 + 43) : List va_E)[j]? = some x) : (hd :: tX3 ids h0 f)[42 + 1 + j]? = some x := ek_bl (t := tX2 ids h0 f) ltX2 h
theorem bB_4 (h : (eX3_init ids (h0 + 47) : List va_E)[j]? = some x) : (hd :: tX4 ids h0 f)[46 + 1 + j]? = some x := ek_bl (t := tX3 ids h0 f) ltX3 h
theorem bB_5 (h : ([.inl (ids 4, 4, .inr (.inr (.inr (.inr f))))] : List va_E)[j]? = some x) : (hd :: tX5 ids h0 f)[59 + 1 + j]? = some x := ek_bl (t := tX4 ids h0 f) ltX4 h
theorem bB_6 (h : (eX4_init ids (h0 + 61) ((h0 + 1)) : List va_E)[j]? = some x) : (hd :: tX6 ids h0 f)[60 + 1 + j]? = some x := ek_bl (t := tX5 ids h0 f) ltX5 h
theorem bB_7 (h : (eX9_init ids (h0 + 62) : List va_E)[j]? = some x) : (hd :: tX7 ids h0 f)[61 + 1 + j]? = some x := ek_bl (t := tX6 ids h0 f) ltX6 h
theorem bB_8 (h : (eX3_init ids (h0 + 66) : List va_E)[j]? = some x) : (hd :: tX8 ids h0 f)[65 + 1 + j]? = some x := ek_bl (t := tX7 ids h0 f) ltX7 h
theorem bB_9 (h : ([.inl (ids 0, 3, .inl (fun _ => 0))] : List va_E)[j]? = some x) : (hd :: tX9 ids h0 f)[78 + 1 + j]? = some x := ek_bl (t := tX8 ids h0 f) ltX8 h
theorem bB_10 (h : ([.inl (ids 0, 9, .inl (fun _ => 0))] : List va_E)[j]? = some x) : (hd :: tX10 ids h0 f)[79 + 1 + j]? = some x := ek_bl (t := tX9 ids h0 f) ltX9 h
theorem bB_11 (h : ([.inl (ids 0, 26, .inl (fun _ => 0))] : List va_E)[j]? = some x) : (hd :: tX11 ids h0 f)[80 + 1 + j]? = some x := ek_bl (t := tX10 ids h0 f) ltX10 h
theorem bB_12 (h : ([.inl (ids 0, 8, .inl (fun _ => 0))] : List va_E)[j]? = some x) : (hd :: tX12 ids h0 f)[81 + 1 + j]? = some x := ek_bl (t := tX11 ids h0 f) ltX11 h
theorem bB_13 (h : ([.inl (ids 0, 8, .inl (fun _ => 0))] : List va_E)[j]? = some x) : (hd :: tX13 ids h0 f)[82 + 1 + j]? = some x := ek_bl (t := tX12 ids h0 f) ltX12 h
theorem bB_14 (h : (eX8_init ids (h0 + 84) : List va_E)[j]? = some x) : (hd :: tX14 ids h0 f)[83 + 1 + j]? = some x := ek_bl (t := tX13 ids h0 f) ltX13 h
theorem bB_15 (h : (eX8_init ids (h0 + 89) : List va_E)[j]? = some x) : (hd :: tX15 ids h0 f)[88 + 1 + j]? = some x := ek_bl (t := tX14 ids h0 f) ltX14 h
theorem bB_16 (h : (eX8_init ids (h0 + 94) : List va_E)[j]? = some x) : (hd :: tX16 ids h0 f)[93 + 1 + j]? = some x := ek_bl (t := tX15 ids h0 f) ltX15 h
theorem bB_17 (h : (eX8_init ids (h0 + 99) : List va_E)[j]? = some x) : (hd :: tX17 ids h0 f)[98 + 1 + j]? = some x := ek_bl (t := tX16 ids h0 f) ltX16 h
theorem bB_18 (h : (eX5_init ids (h0 + 104) ((h0 + 3)) ((h0 + 47)) : List va_E)[j]? = some x) : (hd :: tX18 ids h0 f)[103 + 1 + j]? = some x := ek_bl (t := tX17 ids h0 f) ltX17 h
theorem bB_19 (h : (eX1_init ids (h0 + 105) ((h0 + 3)) ((h0 + 43)) : List va_E)[j]? = some x) : (hd :: tX19 ids h0 f)[104 + 1 + j]? = some x := ek_bl (t := tX18 ids h0 f) ltX18 h
theorem bB_20 (h : (eX6_init ids (h0 + 108) ((h0 + 3)) ((h0 + 104)) ((h0 + 105)) : List va_E)[j]? = some x) : (hd :: tX20 ids h0 f)[107 + 1 + j]? = some x := ek_bl (t := tX19 ids h0 f) ltX19 h
end
section
variable {ids : Nat → ClassId} {ad : Nat → Nat} {h0 : Nat}
def xiP (ids : Nat → ClassId) (ad : Nat → Nat) (h0 k : Nat) (c : ev_C) : Prop := ∃ e, (eX10_init ids h0)[pX k]? = some e ∧ vEq e (ev_ent (ek_ad h0 pX ad) ids M0 k c)
theorem xi_r {a b j : Nat} (h : b + j < 61) (e : b = a + 1) : some (h0 + a + 1 + j) = some (ek_ad h0 pX ad (b + j)) := by
  unfold ek_ad
  rw [if_pos (by omega), pX_lo h]
  exact congrArg some (by omega)
theorem xi_r2 {a b j : Nat} (h : pX (b + j) = a + 1 + j) (h2 : b + j < 1000) : some (h0 + a + 1 + j) = some (ek_ad h0 pX ad (b + j)) := by
  unfold ek_ad
  rw [if_pos h2, h]
  exact congrArg some (by omega)
set_option maxRecDepth 100000 in
theorem xi_g0 : ∀ (r : Nat) (c : ev_C), r < 10 → LX[0 + r]? = some c → xiP ids ad h0 (0 + r) c := fun r c hr h => match r, c, hr, h with
  | 0, _, _, h => by cases lx_0.symm.trans h; exact ⟨_, rfl, vEq.e (ent_o rfl)⟩
  | 1, _, _, h => by cases lx_1.symm.trans h; exact ⟨_, bU_1 (bB_1 (j := 0) rfl), vEq.e (ent_o rfl)⟩
  | 2, _, _, h => by cases lx_2.symm.trans h; exact ⟨_, bU_1 (bB_1 (j := 1) rfl), vEq.e (ent_i rfl)⟩
  | 3, _, _, h => by cases lx_3.symm.trans h; exact ⟨_, bU_2 (bB_2 (j := 0) rfl), vEq.e (ent_o rfl)⟩
  | 4, _, _, h => by cases lx_4.symm.trans h; exact ⟨_, bU_2 (bB_2 (j := 1) rfl), vEq.rows (fun j hj => xi_r (a := 4) (b := 5) (by omega) rfl)⟩
  | 5, _, _, h => by cases lx_5.symm.trans h; exact ⟨_, bU_2 (bB_2 (j := 2) rfl), vEq.e (ent_i rfl)⟩
  | 6, _, _, h => by cases lx_6.symm.trans h; exact ⟨_, bU_2 (bB_2 (j := 3) rfl), vEq.e (ent_i rfl)⟩
  | 7, _, _, h => by cases lx_7.symm.trans h; exact ⟨_, bU_2 (bB_2 (j := 4) rfl), vEq.e (ent_i rfl)⟩
  | 8, _, _, h => by cases lx_8.symm.trans h; exact ⟨_, bU_2 (bB_2 (j := 5) rfl), vEq.e (ent_i rfl)⟩
  | 9, _, _, h => by cases lx_9.symm.trans h; exact ⟨_, bU_2 (bB_2 (j := 6) rfl), vEq.e (ent_i rfl)⟩
  | r + 10, _, hr, _ => absurd hr (by omega)
set_option maxRecDepth 100000 in
theorem xi_g1 : ∀ (r : Nat) (c : ev_C), r < 10 → LX[10 + r]? = some c → xiP ids ad h0 (10 + r) c := fun r c hr h => match r, c, hr, h with
  | 0, _, _, h => by cases lx_10.symm.trans h; exact ⟨_, bU_2 (bB_2 (j := 7) rfl), vEq.e (ent_i rfl)⟩
  | 1, _, _, h => by cases lx_11.symm.trans h; exact ⟨_, bU_2 (bB_2 (j := 8) rfl), vEq.e (ent_i rfl)⟩
  | 2, _, _, h => by cases lx_12.symm.trans h; exact ⟨_, bU_2 (bB_2 (j := 9) rfl), vEq.e (ent_i rfl)⟩
  | 3, _, _, h => by cases lx_13.symm.trans h; exact ⟨_, bU_2 (bB_2 (j := 10) rfl), vEq.e (ent_i rfl)⟩
  | 4, _, _, h => by cases lx_14.symm.trans h; exact ⟨_, bU_2 (bB_2 (j := 11) rfl), vEq.e (ent_i rfl)⟩
  | 5, _, _, h => by cases lx_15.symm.trans h; exact ⟨_, bU_2 (bB_2 (j := 12) rfl), vEq.e (ent_i rfl)⟩
  | 6, _, _, h => by cases lx_16.symm.trans h; exact ⟨_, bU_2 (bB_2 (j := 13) rfl), vEq.e (ent_i rfl)⟩
  | 7, _, _, h => by cases lx_17.symm.trans h; exact ⟨_, bU_2 (bB_2 (j := 14) rfl), vEq.e (ent_i rfl)⟩
  | 8, _, _, h => by cases lx_18.symm.trans h; exact ⟨_, bU_2 (bB_2 (j := 15) rfl), vEq.e (ent_i rfl)⟩
  | 9, _, _, h => by cases lx_19.symm.trans h; exact ⟨_, bU_2 (bB_2 (j := 16) rfl), vEq.e (ent_i rfl)⟩
  | r + 10, _, hr, _ => absurd hr (by omega)
set_option maxRecDepth 100000 in
theorem xi_g2 : ∀ (r : Nat) (c : ev_C), r < 10 → LX[20 + r]? = some c → xiP ids ad h0 (20 + r) c := fun r c hr h => match r, c, hr, h with
  | 0, _, _, h => by cases lx_20.symm.trans h; exact ⟨_, bU_2 (bB_2 (j := 17) rfl), vEq.e (ent_i rfl)⟩
  | 1, _, _, h => by cases lx_21.symm.trans h; exact ⟨_, bU_2 (bB_2 (j := 18) rfl), vEq.e (ent_i rfl)⟩
  | 2, _, _, h => by cases lx_22.symm.trans h; exact ⟨_, bU_2 (bB_2 (j := 19) rfl), vEq.e (ent_i rfl)⟩
  | 3, _, _, h => by cases lx_23.symm.trans h; exact ⟨_, bU_2 (bB_2 (j := 20) rfl), vEq.e (ent_i rfl)⟩
  | 4, _, _, h => by cases lx_24.symm.trans h; exact ⟨_, bU_2 (bB_2 (j := 21) rfl), vEq.e (ent_i rfl)⟩
  | 5, _, _, h => by cases lx_25.symm.trans h; exact ⟨_, bU_2 (bB_2 (j := 22) rfl), vEq.e (ent_i rfl)⟩
  | 6, _, _, h => by cases lx_26.symm.trans h; exact ⟨_, bU_2 (bB_2 (j := 23) rfl), vEq.e (ent_i rfl)⟩
  | 7, _, _, h => by cases lx_27.symm.trans h; exact ⟨_, bU_2 (bB_2 (j := 24) rfl), vEq.e (ent_i rfl)⟩
  | 8, _, _, h => by cases lx_28.symm.trans h; exact ⟨_, bU_2 (bB_2 (j := 25) rfl), vEq.e (ent_i rfl)⟩
  | 9, _, _, h => by cases lx_29.symm.trans h; exact ⟨_, bU_2 (bB_2 (j := 26) rfl), vEq.e (ent_i rfl)⟩
  | r + 10, _, hr, _ => absurd hr (by omega)
set_option maxRecDepth 100000 in
theorem xi_g3 : ∀ (r : Nat) (c : ev_C), r < 10 → LX[30 + r]? = some c → xiP ids ad h0 (30 + r) c := fun r c hr h => match r, c, hr, h with
  | 0, _, _, h => by cases lx_30.symm.trans h; exact ⟨_, bU_2 (bB_2 (j := 27) rfl), vEq.e (ent_i rfl)⟩
  | 1, _, _, h => by cases lx_31.symm.trans h; exact ⟨_, bU_2 (bB_2 (j := 28) rfl), vEq.e (ent_i rfl)⟩
  | 2, _, _, h => by cases lx_32.symm.trans h; exact ⟨_, bU_2 (bB_2 (j := 29) rfl), vEq.e (ent_i rfl)⟩
  | 3, _, _, h => by cases lx_33.symm.trans h; exact ⟨_, bU_2 (bB_2 (j := 30) rfl), vEq.rows (fun j hj => xi_r (a := 33) (b := 34) (by omega) rfl)⟩
  | 4, _, _, h => by cases lx_34.symm.trans h; exact ⟨_, bU_2 (bB_2 (j := 31) rfl), vEq.e (ent_i rfl)⟩
  | 5, _, _, h => by cases lx_35.symm.trans h; exact ⟨_, bU_2 (bB_2 (j := 32) rfl), vEq.e (ent_i rfl)⟩
  | 6, _, _, h => by cases lx_36.symm.trans h; exact ⟨_, bU_2 (bB_2 (j := 33) rfl), vEq.e (ent_i rfl)⟩
  | 7, _, _, h => by cases lx_37.symm.trans h; exact ⟨_, bU_2 (bB_2 (j := 34) rfl), vEq.e (ent_i rfl)⟩
  | 8, _, _, h => by cases lx_38.symm.trans h; exact ⟨_, bU_2 (bB_2 (j := 35) rfl), vEq.e (ent_i rfl)⟩
  | 9, _, _, h => by cases lx_39.symm.trans h; exact ⟨_, bU_2 (bB_2 (j := 36) rfl), vEq.e (ent_i rfl)⟩
  | r + 10, _, hr, _ => absurd hr (by omega)
set_option maxRecDepth 100000 in
theorem xi_g4 : ∀ (r : Nat) (c : ev_C), r < 10 → LX[40 + r]? = some c → xiP ids ad h0 (40 + r) c := fun r c hr h => match r, c, hr, h with
  | 0, _, _, h => by cases lx_40.symm.trans h; exact ⟨_, bU_2 (bB_2 (j := 37) rfl), vEq.e (ent_i rfl)⟩
  | 1, _, _, h => by cases lx_41.symm.trans h; exact ⟨_, bU_2 (bB_2 (j := 38) rfl), vEq.e (ent_i rfl)⟩
  | 2, _, _, h => by cases lx_42.symm.trans h; exact ⟨_, bU_2 (bB_2 (j := 39) rfl), vEq.e (ent_i rfl)⟩
  | 3, _, _, h => by cases lx_43.symm.trans h; exact ⟨_, bU_3 (bB_3 (j := 0) rfl), vEq.e (ent_o rfl)⟩
  | 4, _, _, h => by cases lx_44.symm.trans h; exact ⟨_, bU_3 (bB_3 (j := 1) rfl), vEq.e (ent_i rfl)⟩
  | 5, _, _, h => by cases lx_45.symm.trans h; exact ⟨_, bU_3 (bB_3 (j := 2) rfl), vEq.e (ent_i rfl)⟩
  | 6, _, _, h => by cases lx_46.symm.trans h; exact ⟨_, bU_3 (bB_3 (j := 3) rfl), vEq.e (ent_i rfl)⟩
  | 7, _, _, h => by cases lx_47.symm.trans h; exact ⟨_, bU_4 (bB_4 (j := 0) rfl), vEq.e (ent_o rfl)⟩
  | 8, _, _, h => by cases lx_48.symm.trans h; exact ⟨_, bU_4 (bB_4 (j := 1) rfl), vEq.e (ent_i rfl)⟩
  | 9, _, _, h => by cases lx_49.symm.trans h; exact ⟨_, bU_4 (bB_4 (j := 2) rfl), vEq.e (ent_i rfl)⟩
  | r + 10, _, hr, _ => absurd hr (by omega)
set_option maxRecDepth 100000 in
theorem xi_g5 : ∀ (r : Nat) (c : ev_C), r < 10 → LX[50 + r]? = some c → xiP ids ad h0 (50 + r) c := fun r c hr h => match r, c, hr, h with
  | 0, _, _, h => by cases lx_50.symm.trans h; exact ⟨_, bU_4 (bB_4 (j := 3) rfl), vEq.e (ent_i rfl)⟩
  | 1, _, _, h => by cases lx_51.symm.trans h; exact ⟨_, bU_4 (bB_4 (j := 4) rfl), vEq.rows (fun j hj => xi_r (a := 51) (b := 52) (by omega) rfl)⟩
  | 2, _, _, h => by cases lx_52.symm.trans h; exact ⟨_, bU_4 (bB_4 (j := 5) rfl), vEq.e (ent_i rfl)⟩
  | 3, _, _, h => by cases lx_53.symm.trans h; exact ⟨_, bU_4 (bB_4 (j := 6) rfl), vEq.e (ent_i rfl)⟩
  | 4, _, _, h => by cases lx_54.symm.trans h; exact ⟨_, bU_4 (bB_4 (j := 7) rfl), vEq.e (ent_i rfl)⟩
  | 5, _, _, h => by cases lx_55.symm.trans h; exact ⟨_, bU_4 (bB_4 (j := 8) rfl), vEq.e (ent_i rfl)⟩
  | 6, _, _, h => by cases lx_56.symm.trans h; exact ⟨_, bU_4 (bB_4 (j := 9) rfl), vEq.e (ent_i rfl)⟩
  | 7, _, _, h => by cases lx_57.symm.trans h; exact ⟨_, bU_4 (bB_4 (j := 10) rfl), vEq.e (ent_i rfl)⟩
  | 8, _, _, h => by cases lx_58.symm.trans h; exact ⟨_, bU_4 (bB_4 (j := 11) rfl), vEq.e (ent_i rfl)⟩
  | 9, _, _, h => by cases lx_59.symm.trans h; exact ⟨_, bU_4 (bB_4 (j := 12) rfl), vEq.e (ent_i rfl)⟩
  | r + 10, _, hr, _ => absurd hr (by omega)
set_option maxRecDepth 100000 in
theorem xi_g6 : ∀ (r : Nat) (c : ev_C), r < 10 → LX[60 + r]? = some c → xiP ids ad h0 (60 + r) c := fun r c hr h => match r, c, hr, h with
  | 0, _, _, h => by cases lx_60.symm.trans h; exact ⟨_, bU_5 (bB_5 (j := 0) rfl), vEq.rows (fun j hj => match j, hj with
    | 0, _ => rfl
    | 1, _ => rfl
    | 2, _ => rfl
    | 3, _ => rfl
    | j + 4, hj => absurd hj (by omega))⟩
  | 1, _, _, h => by cases lx_61.symm.trans h; exact ⟨_, bU_14 (bB_14 (j := 0) rfl), vEq.e (ent_o rfl)⟩
  | 2, _, _, h => by cases lx_62.symm.trans h; exact ⟨_, bU_14 (bB_14 (j := 1) rfl), vEq.e (ent_i rfl)⟩
  | 3, _, _, h => by cases lx_63.symm.trans h; exact ⟨_, bU_14 (bB_14 (j := 2) rfl), vEq.e (ent_i rfl)⟩
  | 4, _, _, h => by cases lx_64.symm.trans h; exact ⟨_, bU_14 (bB_14 (j := 3) rfl), vEq.e (ent_i rfl)⟩
  | 5, _, _, h => by cases lx_65.symm.trans h; exact ⟨_, bU_14 (bB_14 (j := 4) rfl), vEq.e (ent_i rfl)⟩
  | 6, _, _, h => by cases lx_66.symm.trans h; exact ⟨_, bU_15 (bB_15 (j := 0) rfl), vEq.e (ent_o rfl)⟩
  | 7, _, _, h => by cases lx_67.symm.trans h; exact ⟨_, bU_15 (bB_15 (j := 1) rfl), vEq.e (ent_i rfl)⟩
  | 8, _, _, h => by cases lx_68.symm.trans h; exact ⟨_, bU_15 (bB_15 (j := 2) rfl), vEq.e (ent_i rfl)⟩
  | 9, _, _, h => by cases lx_69.symm.trans h; exact ⟨_, bU_15 (bB_15 (j := 3) rfl), vEq.e (ent_i rfl)⟩
  | r + 10, _, hr, _ => absurd hr (by omega)
set_option maxRecDepth 100000 in
theorem xi_g7 : ∀ (r : Nat) (c : ev_C), r < 10 → LX[70 + r]? = some c → xiP ids ad h0 (70 + r) c := fun r c hr h => match r, c, hr, h with
  | 0, _, _, h => by cases lx_70.symm.trans h; exact ⟨_, bU_15 (bB_15 (j := 4) rfl), vEq.e (ent_i rfl)⟩
  | 1, _, _, h => by cases lx_71.symm.trans h; exact ⟨_, bU_16 (bB_16 (j := 0) rfl), vEq.e (ent_o rfl)⟩
  | 2, _, _, h => by cases lx_72.symm.trans h; exact ⟨_, bU_16 (bB_16 (j := 1) rfl), vEq.e (ent_i rfl)⟩
  | 3, _, _, h => by cases lx_73.symm.trans h; exact ⟨_, bU_16 (bB_16 (j := 2) rfl), vEq.e (ent_i rfl)⟩
  | 4, _, _, h => by cases lx_74.symm.trans h; exact ⟨_, bU_16 (bB_16 (j := 3) rfl), vEq.e (ent_i rfl)⟩
  | 5, _, _, h => by cases lx_75.symm.trans h; exact ⟨_, bU_16 (bB_16 (j := 4) rfl), vEq.e (ent_i rfl)⟩
  | 6, _, _, h => by cases lx_76.symm.trans h; exact ⟨_, bU_17 (bB_17 (j := 0) rfl), vEq.e (ent_o rfl)⟩
  | 7, _, _, h => by cases lx_77.symm.trans h; exact ⟨_, bU_17 (bB_17 (j := 1) rfl), vEq.e (ent_i rfl)⟩
  | 8, _, _, h => by cases lx_78.symm.trans h; exact ⟨_, bU_17 (bB_17 (j := 2) rfl), vEq.e (ent_i rfl)⟩
  | 9, _, _, h => by cases lx_79.symm.trans h; exact ⟨_, bU_17 (bB_17 (j := 3) rfl), vEq.e (ent_i rfl)⟩
  | r + 10, _, hr, _ => absurd hr (by omega)
set_option maxRecDepth 100000 in
theorem xi_g8 : ∀ (r : Nat) (c : ev_C), r < 10 → LX[80 + r]? = some c → xiP ids ad h0 (80 + r) c := fun r c hr h => match r, c, hr, h with
  | 0, _, _, h => by cases lx_80.symm.trans h; exact ⟨_, bU_17 (bB_17 (j := 4) rfl), vEq.e (ent_i rfl)⟩
  | 1, _, _, h => by cases lx_81.symm.trans h; exact ⟨_, bU_6 (bB_6 (j := 0) rfl), vEq.e (ent_o rfl)⟩
  | 2, _, _, h => by cases lx_82.symm.trans h; exact ⟨_, bU_18 (bB_18 (j := 0) rfl), vEq.e (ent_o rfl)⟩
  | 3, _, _, h => by cases lx_83.symm.trans h; exact ⟨_, bU_19 (bB_19 (j := 0) rfl), vEq.e (ent_o rfl)⟩
  | 4, _, _, h => by cases lx_84.symm.trans h; exact ⟨_, bU_19 (bB_19 (j := 1) rfl), vEq.e (ent_i rfl)⟩
  | 5, _, _, h => by cases lx_85.symm.trans h; exact ⟨_, bU_19 (bB_19 (j := 2) rfl), vEq.e (ent_i rfl)⟩
  | 6, _, _, h => by cases lx_86.symm.trans h; exact ⟨_, bU_20 (bB_20 (j := 0) rfl), vEq.e (ent_o rfl)⟩
  | 7, _, _, h => by cases lx_87.symm.trans h; exact ⟨_, bU_20 (bB_20 (j := 1) rfl), vEq.e (ent_i rfl)⟩
  | 8, _, _, h => by cases lx_88.symm.trans h; exact ⟨_, bU_20 (bB_20 (j := 2) rfl), vEq.e (ent_i rfl)⟩
  | 9, _, _, h => by cases lx_89.symm.trans h; exact ⟨_, bU_20 (bB_20 (j := 3) rfl), vEq.e (ent_i rfl)⟩
  | r + 10, _, hr, _ => absurd hr (by omega)
set_option maxRecDepth 100000 in
theorem xi_g9 : ∀ (r : Nat) (c : ev_C), r < 10 → LX[90 + r]? = some c → xiP ids ad h0 (90 + r) c := fun r c hr h => match r, c, hr, h with
  | 0, _, _, h => by cases lx_90.symm.trans h; exact ⟨_, bU_20 (bB_20 (j := 4) rfl), vEq.e (ent_i rfl)⟩
  | 1, _, _, h => by cases lx_91.symm.trans h; exact ⟨_, bU_20 (bB_20 (j := 5) rfl), vEq.rows (fun j hj => xi_r2 (a := 113) (b := 92) (by unfold pX; rw [if_neg (by omega), if_neg (by omega), if_neg (by omega), if_pos (by omega)]; omega) (by omega))⟩
  | 2, _, _, h => by cases lx_92.symm.trans h; exact ⟨_, bU_20 (bB_20 (j := 6) rfl), vEq.e (ent_i rfl)⟩
  | 3, _, _, h => by cases lx_93.symm.trans h; exact ⟨_, bU_20 (bB_20 (j := 7) rfl), vEq.e (ent_i rfl)⟩
  | 4, _, _, h => by cases lx_94.symm.trans h; exact ⟨_, bU_20 (bB_20 (j := 8) rfl), vEq.e (ent_i rfl)⟩
  | 5, _, _, h => by cases lx_95.symm.trans h; exact ⟨_, bU_20 (bB_20 (j := 9) rfl), vEq.e (ent_i rfl)⟩
  | 6, _, _, h => by cases lx_96.symm.trans h; exact ⟨_, bU_20 (bB_20 (j := 10) rfl), vEq.e (ent_i rfl)⟩
  | 7, _, _, h => by cases lx_97.symm.trans h; exact ⟨_, bU_20 (bB_20 (j := 11) rfl), vEq.e (ent_o rfl)⟩
  | 8, _, _, h => by cases lx_98.symm.trans h; exact ⟨_, bU_20 (bB_20 (j := 12) rfl), vEq.e (ent_o rfl)⟩
  | 9, _, _, h => by cases lx_99.symm.trans h; exact ⟨_, bU_20 (bB_20 (j := 13) rfl), vEq.e (ent_i rfl)⟩
  | r + 10, _, hr, _ => absurd hr (by omega)
set_option maxRecDepth 100000 in
theorem xi_g10 : ∀ (r : Nat) (c : ev_C), r < 10 → LX[100 + r]? = some c → xiP ids ad h0 (100 + r) c := fun r c hr h => match r, c, hr, h with
  | 0, _, _, h => by cases lx_100.symm.trans h; exact ⟨_, bU_7 (bB_7 (j := 0) rfl), vEq.e (ent_o rfl)⟩
  | 1, _, _, h => by cases lx_101.symm.trans h; exact ⟨_, bU_7 (bB_7 (j := 1) rfl), vEq.e (ent_i rfl)⟩
  | 2, _, _, h => by cases lx_102.symm.trans h; exact ⟨_, bU_7 (bB_7 (j := 2) rfl), vEq.e (ent_i rfl)⟩
  | 3, _, _, h => by cases lx_103.symm.trans h; exact ⟨_, bU_7 (bB_7 (j := 3) rfl), vEq.e (ent_i rfl)⟩
  | 4, _, _, h => by cases lx_104.symm.trans h; exact ⟨_, bU_8 (bB_8 (j := 0) rfl), vEq.e (ent_o rfl)⟩
  | 5, _, _, h => by cases lx_105.symm.trans h; exact ⟨_, bU_8 (bB_8 (j := 1) rfl), vEq.e (ent_i rfl)⟩
  | 6, _, _, h => by cases lx_106.symm.trans h; exact ⟨_, bU_8 (bB_8 (j := 2) rfl), vEq.e (ent_i rfl)⟩
  | 7, _, _, h => by cases lx_107.symm.trans h; exact ⟨_, bU_8 (bB_8 (j := 3) rfl), vEq.e (ent_i rfl)⟩
  | 8, _, _, h => by cases lx_108.symm.trans h; exact ⟨_, bU_8 (bB_8 (j := 4) rfl), vEq.rows (fun j hj => xi_r2 (a := 70) (b := 109) (by unfold pX; rw [if_neg (by omega), if_neg (by omega), if_neg (by omega), if_neg (by omega)]; omega) (by omega))⟩
  | 9, _, _, h => by cases lx_109.symm.trans h; exact ⟨_, bU_8 (bB_8 (j := 5) rfl), vEq.e (ent_i rfl)⟩
  | r + 10, _, hr, _ => absurd hr (by omega)
set_option maxRecDepth 100000 in
theorem xi_g11 : ∀ (r : Nat) (c : ev_C), r < 10 → LX[110 + r]? = some c → xiP ids ad h0 (110 + r) c := fun r c hr h => match r, c, hr, h with
  | 0, _, _, h => by cases lx_110.symm.trans h; exact ⟨_, bU_8 (bB_8 (j := 6) rfl), vEq.e (ent_i rfl)⟩
  | 1, _, _, h => by cases lx_111.symm.trans h; exact ⟨_, bU_8 (bB_8 (j := 7) rfl), vEq.e (ent_i rfl)⟩
  | 2, _, _, h => by cases lx_112.symm.trans h; exact ⟨_, bU_8 (bB_8 (j := 8) rfl), vEq.e (ent_i rfl)⟩
  | 3, _, _, h => by cases lx_113.symm.trans h; exact ⟨_, bU_8 (bB_8 (j := 9) rfl), vEq.e (ent_i rfl)⟩
  | 4, _, _, h => by cases lx_114.symm.trans h; exact ⟨_, bU_8 (bB_8 (j := 10) rfl), vEq.e (ent_i rfl)⟩
  | 5, _, _, h => by cases lx_115.symm.trans h; exact ⟨_, bU_8 (bB_8 (j := 11) rfl), vEq.e (ent_i rfl)⟩
  | 6, _, _, h => by cases lx_116.symm.trans h; exact ⟨_, bU_8 (bB_8 (j := 12) rfl), vEq.e (ent_i rfl)⟩
  | 7, _, _, h => by cases lx_117.symm.trans h; exact ⟨_, bU_9 (bB_9 (j := 0) rfl), vEq.e (ent_i rfl)⟩
  | 8, _, _, h => by cases lx_118.symm.trans h; exact ⟨_, bU_10 (bB_10 (j := 0) rfl), vEq.e (ent_i rfl)⟩
  | 9, _, _, h => by cases lx_119.symm.trans h; exact ⟨_, bU_11 (bB_11 (j := 0) rfl), vEq.e (ent_i rfl)⟩
  | r + 10, _, hr, _ => absurd hr (by omega)
set_option maxRecDepth 100000 in
theorem xi_g12 : ∀ (r : Nat) (c : ev_C), r < 10 → LX[120 + r]? = some c → xiP ids ad h0 (120 + r) c := fun r c hr h => match r, c, hr, h with
  | 0, _, _, h => by cases lx_120.symm.trans h; exact ⟨_, bU_12 (bB_12 (j := 0) rfl), vEq.e (ent_i rfl)⟩
  | 1, _, _, h => by cases lx_121.symm.trans h; exact ⟨_, bU_13 (bB_13 (j := 0) rfl), vEq.e (ent_i rfl)⟩
  | r + 2, _, _, h => by
    have : LX[120 + (r + 2)]? = none := List.getElem?_eq_none (show 122 ≤ 120 + (r + 2) by omega)
    rw [this] at h
    cases h
theorem xi_all (k : Nat) (c : ev_C) (h : LX[k]? = some c) : xiP ids ad h0 k c := by
  have hk : k < 122 := (List.getElem?_eq_some_iff.mp h).1
  obtain ⟨g, r, e, hr⟩ : ∃ g r, k = 10 * g + r ∧ r < 10 := ⟨k / 10, k % 10, by omega, by omega⟩
  subst e
  match g, hk, h with
  | 0, _, h => exact xi_g0 r c hr h
  | 1, _, h => exact xi_g1 r c hr h
  | 2, _, h => exact xi_g2 r c hr h
  | 3, _, h => exact xi_g3 r c hr h
  | 4, _, h => exact xi_g4 r c hr h
  | 5, _, h => exact xi_g5 r c hr h
  | 6, _, h => exact xi_g6 r c hr h
  | 7, _, h => exact xi_g7 r c hr h
  | 8, _, h => exact xi_g8 r c hr h
  | 9, _, h => exact xi_g9 r c hr h
  | 10, _, h => exact xi_g10 r c hr h
  | 11, _, h => exact xi_g11 r c hr h
  | 12, _, h => exact xi_g12 r c hr h
  | g + 13, hk, _ => exact absurd hk (by omega)
theorem xi_len : LX.length = 122 := rfl
theorem xi_P {D : va_G} {H : Heap} (h : ∀ (i : Nat) (x : va_E), (eX10_init ids h0)[i]? = some x → va_at D ev_cl (h0 + i, x) H) : va_P D ev_cl (ev_ws LX (ek_ad h0 pX ad) ids M0) H := fun k q hq => by
  have hkl : k < LX.length := by rw [← ev_len (ad := ek_ad h0 pX ad) (ids := ids) (M := M0)]; exact (List.getElem?_eq_some_iff.mp hq).1
  rw [ev_at (List.getElem?_eq_getElem hkl)] at hq
  cases hq
  obtain ⟨e, he, hv⟩ := xi_all (ids := ids) (ad := ad) (h0 := h0) k _ (List.getElem?_eq_getElem hkl)
  have hk : k < 122 := hkl
  have ea : ek_ad h0 pX ad k = h0 + pX k := if_pos (by omega)
  have := hv D _ H (h _ _ he)
  rw [← ea] at this
  exact this
theorem xi_J : ev_J LX (ek_ad h0 pX ad) := fun i j hi hj e => by
  have hi : i < 122 := hi
  have hj : j < 122 := hj
  have e1 : ek_ad h0 pX ad i = h0 + pX i := if_pos (by omega)
  have e2 : ek_ad h0 pX ad j = h0 + pX j := if_pos (by omega)
  rw [e1, e2] at e
  have : pX i = pX j := by omega
  rw [← (pX_q i hi).1, ← (pX_q j hj).1, this]
theorem mi_P {D : va_G} {H : Heap} {f g : Nat → Int32} (h : ∀ (i : Nat) (x : va_E), (eM ids h0 f g)[i]? = some x → va_at D ev_cl (h0 + i, x) H) : va_P D ev_cl (ev_ws LM (ek_ad h0 (fun k => k) ad) ids (mN f g)) H := fun k q hq => by
  have hkl : k < LM.length := by rw [← ev_len (ad := ek_ad h0 (fun k => k) ad) (ids := ids) (M := mN f g)]; exact (List.getElem?_eq_some_iff.mp hq).1
  rw [ev_at (List.getElem?_eq_getElem hkl)] at hq
  cases hq
  have he := mi_ent (ids := ids) (ad := ad) (h0 := h0) f g k _ (List.getElem?_eq_getElem hkl)
  have hk : k < 20 := hkl
  have ea : ek_ad h0 (fun k => k) ad k = h0 + k := if_pos (by omega)
  have := h _ _ he
  rw [← ea] at this
  exact this
theorem mi_J : ev_J LM (ek_ad h0 (fun k => k) ad) := fun i j hi hj e => by
  have hi : i < 20 := hi
  have hj : j < 20 := hj
  have e1 : ek_ad h0 (fun k => k) ad i = h0 + i := if_pos (by omega)
  have e2 : ek_ad h0 (fun k => k) ad j = h0 + j := if_pos (by omega)
  rw [e1, e2] at e
  omega
end
