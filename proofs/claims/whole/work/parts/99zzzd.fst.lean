/-! THE FIRST MEMORIES -/
/-- where the class's cells stand, in the order in which they are made -/
def pX (k : Nat) : Nat := if k < 61 then k else if k < 81 then k + 23 else if k < 82 then 61 else if k < 100 then k + 22 else k - 38
def qX (p : Nat) : Nat := if p < 61 then p else if p < 62 then 81 else if p < 84 then p + 38 else if p < 104 then p - 23 else p - 22
theorem pX_q : ∀ k, k < 122 → qX (pX k) = k ∧ pX k < 122 := by decide +kernel
theorem pX_lo {k : Nat} (h : k < 61) : pX k = k := if_pos h
/-- the class's memory as it is made -/
def M0 : ev_Mem := (fun k j => if k = 43 then (if j = 4 then 173 else 0) else if k = 100 then (if j = 4 then 173 else 0) else if k = 47 then (if j = 3 then -1 else 0) else if k = 104 then (if j = 3 then -1 else 0) else if k = 48 then (if j < 26 then -1 else 0) else if k = 105 then (if j < 26 then -1 else 0) else if k = 81 then (if j = 4 then -1 else 0) else if k = 86 then (if j = 8 then -1 else 0) else 0, fun _ _ => 0)
/-- entries that say the same of a heap -/
def vEq (e f : va_E) : Prop := ∀ (D : va_G) (a : Nat) (H : Heap), va_at D ev_cl (a, e) H → va_at D ev_cl (a, f) H
theorem vEq.rf {e : va_E} : vEq e e := fun _ _ _ h => h
theorem vEq.rows {c : ClassId} {n : Nat} {f g : Nat → Option Nat} (h : ∀ j, j < n → f j = g j) : vEq (.inl (c, n, .inr (.inr (.inr (.inr f))))) (.inl (c, n, .inr (.inr (.inr (.inr g))))) := fun D a H q => by
  refine Eq.trans (b := some (vp_cell c (n, .inr (.inr (.inr (.inr f)))))) q (congrArg some (arrV_cg (fun j hj => ?_)))
  rw [h j hj]
section
variable {ids : Nat → ClassId} {ad : Nat → Nat} {h0 : Nat}
def xiP (ids : Nat → ClassId) (ad : Nat → Nat) (h0 k : Nat) (c : ev_C) : Prop := ∃ e, (eX10_init ids h0)[pX k]? = some e ∧ vEq e (ev_ent (ek_ad h0 pX ad) ids M0 k c)
theorem xi_r {a b j : Nat} (h : b + j < 61) (e : b = a + 1) : some (h0 + a + 1 + j) = some (ek_ad h0 pX ad (b + j)) := by
  unfold ek_ad
  rw [if_pos (by omega), pX_lo h]
  exact congrArg some (by omega)
theorem xi_r2 {a b j : Nat} (h : pX (b + j) = a + 1 + j) (h2 : b + j < 1000) : some (h0 + a + 1 + j) = some (ek_ad h0 pX ad (b + j)) := by
  unfold ek_ad
  rw [if_pos h2, h]
  exact congrArg some (by omega)
set_option maxRecDepth 100000
theorem xi_g0 : ∀ (r : Nat) (c : ev_C), r < 10 → LX[0 + r]? = some c → xiP ids ad h0 (0 + r) c := fun r c hr h => match r, c, hr, h with
  | 0, _, _, h => by cases h; exact ⟨_, rfl, vEq.rf⟩
  | 1, _, _, h => by cases h; exact ⟨_, rfl, vEq.rf⟩
  | 2, _, _, h => by cases h; exact ⟨_, rfl, vEq.rf⟩
  | 3, _, _, h => by cases h; exact ⟨_, rfl, vEq.rf⟩
  | 4, _, _, h => by cases h; exact ⟨_, rfl, vEq.rows (fun j hj => xi_r (a := 4) (b := 5) (by omega) rfl)⟩
  | 5, _, _, h => by cases h; exact ⟨_, rfl, vEq.rf⟩
  | 6, _, _, h => by cases h; exact ⟨_, rfl, vEq.rf⟩
  | 7, _, _, h => by cases h; exact ⟨_, rfl, vEq.rf⟩
  | 8, _, _, h => by cases h; exact ⟨_, rfl, vEq.rf⟩
  | 9, _, _, h => by cases h; exact ⟨_, rfl, vEq.rf⟩
  | r + 10, _, hr, _ => absurd hr (by omega)
theorem xi_g1 : ∀ (r : Nat) (c : ev_C), r < 10 → LX[10 + r]? = some c → xiP ids ad h0 (10 + r) c := fun r c hr h => match r, c, hr, h with
  | 0, _, _, h => by cases h; exact ⟨_, rfl, vEq.rf⟩
  | 1, _, _, h => by cases h; exact ⟨_, rfl, vEq.rf⟩
  | 2, _, _, h => by cases h; exact ⟨_, rfl, vEq.rf⟩
  | 3, _, _, h => by cases h; exact ⟨_, rfl, vEq.rf⟩
  | 4, _, _, h => by cases h; exact ⟨_, rfl, vEq.rf⟩
  | 5, _, _, h => by cases h; exact ⟨_, rfl, vEq.rf⟩
  | 6, _, _, h => by cases h; exact ⟨_, rfl, vEq.rf⟩
  | 7, _, _, h => by cases h; exact ⟨_, rfl, vEq.rf⟩
  | 8, _, _, h => by cases h; exact ⟨_, rfl, vEq.rf⟩
  | 9, _, _, h => by cases h; exact ⟨_, rfl, vEq.rf⟩
  | r + 10, _, hr, _ => absurd hr (by omega)
theorem xi_g2 : ∀ (r : Nat) (c : ev_C), r < 10 → LX[20 + r]? = some c → xiP ids ad h0 (20 + r) c := fun r c hr h => match r, c, hr, h with
  | 0, _, _, h => by cases h; exact ⟨_, rfl, vEq.rf⟩
  | 1, _, _, h => by cases h; exact ⟨_, rfl, vEq.rf⟩
  | 2, _, _, h => by cases h; exact ⟨_, rfl, vEq.rf⟩
  | 3, _, _, h => by cases h; exact ⟨_, rfl, vEq.rf⟩
  | 4, _, _, h => by cases h; exact ⟨_, rfl, vEq.rf⟩
  | 5, _, _, h => by cases h; exact ⟨_, rfl, vEq.rf⟩
  | 6, _, _, h => by cases h; exact ⟨_, rfl, vEq.rf⟩
  | 7, _, _, h => by cases h; exact ⟨_, rfl, vEq.rf⟩
  | 8, _, _, h => by cases h; exact ⟨_, rfl, vEq.rf⟩
  | 9, _, _, h => by cases h; exact ⟨_, rfl, vEq.rf⟩
  | r + 10, _, hr, _ => absurd hr (by omega)
theorem xi_g3 : ∀ (r : Nat) (c : ev_C), r < 10 → LX[30 + r]? = some c → xiP ids ad h0 (30 + r) c := fun r c hr h => match r, c, hr, h with
  | 0, _, _, h => by cases h; exact ⟨_, rfl, vEq.rf⟩
  | 1, _, _, h => by cases h; exact ⟨_, rfl, vEq.rf⟩
  | 2, _, _, h => by cases h; exact ⟨_, rfl, vEq.rf⟩
  | 3, _, _, h => by cases h; exact ⟨_, rfl, vEq.rows (fun j hj => xi_r (a := 33) (b := 34) (by omega) rfl)⟩
  | 4, _, _, h => by cases h; exact ⟨_, rfl, vEq.rf⟩
  | 5, _, _, h => by cases h; exact ⟨_, rfl, vEq.rf⟩
  | 6, _, _, h => by cases h; exact ⟨_, rfl, vEq.rf⟩
  | 7, _, _, h => by cases h; exact ⟨_, rfl, vEq.rf⟩
  | 8, _, _, h => by cases h; exact ⟨_, rfl, vEq.rf⟩
  | 9, _, _, h => by cases h; exact ⟨_, rfl, vEq.rf⟩
  | r + 10, _, hr, _ => absurd hr (by omega)
theorem xi_g4 : ∀ (r : Nat) (c : ev_C), r < 10 → LX[40 + r]? = some c → xiP ids ad h0 (40 + r) c := fun r c hr h => match r, c, hr, h with
  | 0, _, _, h => by cases h; exact ⟨_, rfl, vEq.rf⟩
  | 1, _, _, h => by cases h; exact ⟨_, rfl, vEq.rf⟩
  | 2, _, _, h => by cases h; exact ⟨_, rfl, vEq.rf⟩
  | 3, _, _, h => by cases h; exact ⟨_, rfl, vEq.rf⟩
  | 4, _, _, h => by cases h; exact ⟨_, rfl, vEq.rf⟩
  | 5, _, _, h => by cases h; exact ⟨_, rfl, vEq.rf⟩
  | 6, _, _, h => by cases h; exact ⟨_, rfl, vEq.rf⟩
  | 7, _, _, h => by cases h; exact ⟨_, rfl, vEq.rf⟩
  | 8, _, _, h => by cases h; exact ⟨_, rfl, vEq.rf⟩
  | 9, _, _, h => by cases h; exact ⟨_, rfl, vEq.rf⟩
  | r + 10, _, hr, _ => absurd hr (by omega)
theorem xi_g5 : ∀ (r : Nat) (c : ev_C), r < 10 → LX[50 + r]? = some c → xiP ids ad h0 (50 + r) c := fun r c hr h => match r, c, hr, h with
  | 0, _, _, h => by cases h; exact ⟨_, rfl, vEq.rf⟩
  | 1, _, _, h => by cases h; exact ⟨_, rfl, vEq.rows (fun j hj => xi_r (a := 51) (b := 52) (by omega) rfl)⟩
  | 2, _, _, h => by cases h; exact ⟨_, rfl, vEq.rf⟩
  | 3, _, _, h => by cases h; exact ⟨_, rfl, vEq.rf⟩
  | 4, _, _, h => by cases h; exact ⟨_, rfl, vEq.rf⟩
  | 5, _, _, h => by cases h; exact ⟨_, rfl, vEq.rf⟩
  | 6, _, _, h => by cases h; exact ⟨_, rfl, vEq.rf⟩
  | 7, _, _, h => by cases h; exact ⟨_, rfl, vEq.rf⟩
  | 8, _, _, h => by cases h; exact ⟨_, rfl, vEq.rf⟩
  | 9, _, _, h => by cases h; exact ⟨_, rfl, vEq.rf⟩
  | r + 10, _, hr, _ => absurd hr (by omega)
theorem xi_g6 : ∀ (r : Nat) (c : ev_C), r < 10 → LX[60 + r]? = some c → xiP ids ad h0 (60 + r) c := fun r c hr h => match r, c, hr, h with
  | 0, _, _, h => by cases h; exact ⟨_, rfl, vEq.rows (fun j hj => match j, hj with
    | 0, _ => rfl
    | 1, _ => rfl
    | 2, _ => rfl
    | 3, _ => rfl
    | j + 4, hj => absurd hj (by omega))⟩
  | 1, _, _, h => by cases h; exact ⟨_, rfl, vEq.rf⟩
  | 2, _, _, h => by cases h; exact ⟨_, rfl, vEq.rf⟩
  | 3, _, _, h => by cases h; exact ⟨_, rfl, vEq.rf⟩
  | 4, _, _, h => by cases h; exact ⟨_, rfl, vEq.rf⟩
  | 5, _, _, h => by cases h; exact ⟨_, rfl, vEq.rf⟩
  | 6, _, _, h => by cases h; exact ⟨_, rfl, vEq.rf⟩
  | 7, _, _, h => by cases h; exact ⟨_, rfl, vEq.rf⟩
  | 8, _, _, h => by cases h; exact ⟨_, rfl, vEq.rf⟩
  | 9, _, _, h => by cases h; exact ⟨_, rfl, vEq.rf⟩
  | r + 10, _, hr, _ => absurd hr (by omega)
theorem xi_g7 : ∀ (r : Nat) (c : ev_C), r < 10 → LX[70 + r]? = some c → xiP ids ad h0 (70 + r) c := fun r c hr h => match r, c, hr, h with
  | 0, _, _, h => by cases h; exact ⟨_, rfl, vEq.rf⟩
  | 1, _, _, h => by cases h; exact ⟨_, rfl, vEq.rf⟩
  | 2, _, _, h => by cases h; exact ⟨_, rfl, vEq.rf⟩
  | 3, _, _, h => by cases h; exact ⟨_, rfl, vEq.rf⟩
  | 4, _, _, h => by cases h; exact ⟨_, rfl, vEq.rf⟩
  | 5, _, _, h => by cases h; exact ⟨_, rfl, vEq.rf⟩
  | 6, _, _, h => by cases h; exact ⟨_, rfl, vEq.rf⟩
  | 7, _, _, h => by cases h; exact ⟨_, rfl, vEq.rf⟩
  | 8, _, _, h => by cases h; exact ⟨_, rfl, vEq.rf⟩
  | 9, _, _, h => by cases h; exact ⟨_, rfl, vEq.rf⟩
  | r + 10, _, hr, _ => absurd hr (by omega)
theorem xi_g8 : ∀ (r : Nat) (c : ev_C), r < 10 → LX[80 + r]? = some c → xiP ids ad h0 (80 + r) c := fun r c hr h => match r, c, hr, h with
  | 0, _, _, h => by cases h; exact ⟨_, rfl, vEq.rf⟩
  | 1, _, _, h => by cases h; exact ⟨_, rfl, vEq.rf⟩
  | 2, _, _, h => by cases h; exact ⟨_, rfl, vEq.rf⟩
  | 3, _, _, h => by cases h; exact ⟨_, rfl, vEq.rf⟩
  | 4, _, _, h => by cases h; exact ⟨_, rfl, vEq.rf⟩
  | 5, _, _, h => by cases h; exact ⟨_, rfl, vEq.rf⟩
  | 6, _, _, h => by cases h; exact ⟨_, rfl, vEq.rf⟩
  | 7, _, _, h => by cases h; exact ⟨_, rfl, vEq.rf⟩
  | 8, _, _, h => by cases h; exact ⟨_, rfl, vEq.rf⟩
  | 9, _, _, h => by cases h; exact ⟨_, rfl, vEq.rf⟩
  | r + 10, _, hr, _ => absurd hr (by omega)
theorem xi_g9 : ∀ (r : Nat) (c : ev_C), r < 10 → LX[90 + r]? = some c → xiP ids ad h0 (90 + r) c := fun r c hr h => match r, c, hr, h with
  | 0, _, _, h => by cases h; exact ⟨_, rfl, vEq.rf⟩
  | 1, _, _, h => by cases h; exact ⟨_, rfl, vEq.rows (fun j hj => xi_r2 (a := 113) (b := 92) (by unfold pX; rw [if_neg (by omega), if_neg (by omega), if_neg (by omega), if_pos (by omega)]; omega) (by omega))⟩
  | 2, _, _, h => by cases h; exact ⟨_, rfl, vEq.rf⟩
  | 3, _, _, h => by cases h; exact ⟨_, rfl, vEq.rf⟩
  | 4, _, _, h => by cases h; exact ⟨_, rfl, vEq.rf⟩
  | 5, _, _, h => by cases h; exact ⟨_, rfl, vEq.rf⟩
  | 6, _, _, h => by cases h; exact ⟨_, rfl, vEq.rf⟩
  | 7, _, _, h => by cases h; exact ⟨_, rfl, vEq.rf⟩
  | 8, _, _, h => by cases h; exact ⟨_, rfl, vEq.rf⟩
  | 9, _, _, h => by cases h; exact ⟨_, rfl, vEq.rf⟩
  | r + 10, _, hr, _ => absurd hr (by omega)
theorem xi_g10 : ∀ (r : Nat) (c : ev_C), r < 10 → LX[100 + r]? = some c → xiP ids ad h0 (100 + r) c := fun r c hr h => match r, c, hr, h with
  | 0, _, _, h => by cases h; exact ⟨_, rfl, vEq.rf⟩
  | 1, _, _, h => by cases h; exact ⟨_, rfl, vEq.rf⟩
  | 2, _, _, h => by cases h; exact ⟨_, rfl, vEq.rf⟩
  | 3, _, _, h => by cases h; exact ⟨_, rfl, vEq.rf⟩
  | 4, _, _, h => by cases h; exact ⟨_, rfl, vEq.rf⟩
  | 5, _, _, h => by cases h; exact ⟨_, rfl, vEq.rf⟩
  | 6, _, _, h => by cases h; exact ⟨_, rfl, vEq.rf⟩
  | 7, _, _, h => by cases h; exact ⟨_, rfl, vEq.rf⟩
  | 8, _, _, h => by cases h; exact ⟨_, rfl, vEq.rows (fun j hj => xi_r2 (a := 70) (b := 109) (by unfold pX; rw [if_neg (by omega), if_neg (by omega), if_neg (by omega), if_neg (by omega)]; omega) (by omega))⟩
  | 9, _, _, h => by cases h; exact ⟨_, rfl, vEq.rf⟩
  | r + 10, _, hr, _ => absurd hr (by omega)
theorem xi_g11 : ∀ (r : Nat) (c : ev_C), r < 10 → LX[110 + r]? = some c → xiP ids ad h0 (110 + r) c := fun r c hr h => match r, c, hr, h with
  | 0, _, _, h => by cases h; exact ⟨_, rfl, vEq.rf⟩
  | 1, _, _, h => by cases h; exact ⟨_, rfl, vEq.rf⟩
  | 2, _, _, h => by cases h; exact ⟨_, rfl, vEq.rf⟩
  | 3, _, _, h => by cases h; exact ⟨_, rfl, vEq.rf⟩
  | 4, _, _, h => by cases h; exact ⟨_, rfl, vEq.rf⟩
  | 5, _, _, h => by cases h; exact ⟨_, rfl, vEq.rf⟩
  | 6, _, _, h => by cases h; exact ⟨_, rfl, vEq.rf⟩
  | 7, _, _, h => by cases h; exact ⟨_, rfl, vEq.rf⟩
  | 8, _, _, h => by cases h; exact ⟨_, rfl, vEq.rf⟩
  | 9, _, _, h => by cases h; exact ⟨_, rfl, vEq.rf⟩
  | r + 10, _, hr, _ => absurd hr (by omega)
theorem xi_g12 : ∀ (r : Nat) (c : ev_C), r < 10 → LX[120 + r]? = some c → xiP ids ad h0 (120 + r) c := fun r c hr h => match r, c, hr, h with
  | 0, _, _, h => by cases h; exact ⟨_, rfl, vEq.rf⟩
  | 1, _, _, h => by cases h; exact ⟨_, rfl, vEq.rf⟩
  | r + 2, _, _, h => by
    have : LX[120 + (r + 2)]? = none := List.getElem?_eq_none (show 122 ≤ 120 + (r + 2) by omega)
    rw [this] at h
    cases h
theorem xi_all (k : Nat) (c : ev_C) (h : LX[k]? = some c) : xiP ids ad h0 k c := by
  have hk : k < 122 := (List.getElem?_eq_some_iff.mp h).1
  obtain ⟨g, r, e, hr⟩ : ∃ g r, k = 10 * g + r ∧ r < 10 := ⟨k / 10, k % 10, by omega, by omega⟩
  subst e
  match g, hk, h with
  | 0, _, h => exact xi_g0 r c hr h
  | 1, _, h => exact xi_g1 r c hr h
  | 2, _, h => exact xi_g2 r c hr h
  | 3, _, h => exact xi_g3 r c hr h
  | 4, _, h => exact xi_g4 r c hr h
  | 5, _, h => exact xi_g5 r c hr h
  | 6, _, h => exact xi_g6 r c hr h
  | 7, _, h => exact xi_g7 r c hr h
  | 8, _, h => exact xi_g8 r c hr h
  | 9, _, h => exact xi_g9 r c hr h
  | 10, _, h => exact xi_g10 r c hr h
  | 11, _, h => exact xi_g11 r c hr h
  | 12, _, h => exact xi_g12 r c hr h
  | g + 13, hk, _ => exact absurd hk (by omega)
theorem xi_len : LX.length = 122 := rfl
theorem xi_P {D : va_G} {H : Heap} (h : ∀ (i : Nat) (x : va_E), (eX10_init ids h0)[i]? = some x → va_at D ev_cl (h0 + i, x) H) : va_P D ev_cl (ev_ws LX (ek_ad h0 pX ad) ids M0) H := fun k q hq => by
  have hkl : k < LX.length := by rw [← ev_len (ad := ek_ad h0 pX ad) (ids := ids) (M := M0)]; exact (List.getElem?_eq_some_iff.mp hq).1
  rw [ev_at (List.getElem?_eq_getElem hkl)] at hq
  cases hq
  obtain ⟨e, he, hv⟩ := xi_all (ids := ids) (ad := ad) (h0 := h0) k _ (List.getElem?_eq_getElem hkl)
  have hk : k < 122 := hkl
  have ea : ek_ad h0 pX ad k = h0 + pX k := if_pos (by omega)
  have := hv D _ H (h _ _ he)
  rw [← ea] at this
  exact this
theorem xi_J : ev_J LX (ek_ad h0 pX ad) := fun i j hi hj e => by
  have hi : i < 122 := hi
  have hj : j < 122 := hj
  have e1 : ek_ad h0 pX ad i = h0 + pX i := if_pos (by omega)
  have e2 : ek_ad h0 pX ad j = h0 + pX j := if_pos (by omega)
  rw [e1, e2] at e
  have : pX i = pX j := by omega
  rw [← (pX_q i hi).1, ← (pX_q j hj).1, this]
theorem mi_P {D : va_G} {H : Heap} {f g : Nat → Int32} (h : ∀ (i : Nat) (x : va_E), (eM ids h0 f g)[i]? = some x → va_at D ev_cl (h0 + i, x) H) : va_P D ev_cl (ev_ws LM (ek_ad h0 (fun k => k) ad) ids (mN f g)) H := fun k q hq => by
  have hkl : k < LM.length := by rw [← ev_len (ad := ek_ad h0 (fun k => k) ad) (ids := ids) (M := mN f g)]; exact (List.getElem?_eq_some_iff.mp hq).1
  rw [ev_at (List.getElem?_eq_getElem hkl)] at hq
  cases hq
  have he := mi_ent (ids := ids) (ad := ad) (h0 := h0) f g k _ (List.getElem?_eq_getElem hkl)
  have hk : k < 20 := hkl
  have ea : ek_ad h0 (fun k => k) ad k = h0 + k := if_pos (by omega)
  have := h _ _ he
  rw [← ea] at this
  exact this
theorem mi_J : ev_J LM (ek_ad h0 (fun k => k) ad) := fun i j hi hj e => by
  have hi : i < 20 := hi
  have hj : j < 20 := hj
  have e1 : ek_ad h0 (fun k => k) ad i = h0 + i := if_pos (by omega)
  have e2 : ek_ad h0 (fun k => k) ad j = h0 + j := if_pos (by omega)
  rw [e1, e2] at e
  omega
end
theorem fA_z {j : Nat} (h3 : j ≠ 3) (h11 : j ≠ 11) (h : ¬ (399 ≤ j ∧ j < 451 ∧ (j - 399) % 2 = 0)) : fA 26 j = 0 := by
  unfold fA f0A
  rw [if_neg (by omega), pk_un h3, pk_un h11]
theorem fA_m {l : Nat} (h : l < 26) : fA 26 (399 + 2 * l) = -1 := by
  unfold fA
  rw [if_pos (by omega)]
theorem gA_eq : gA = fA 26 := funext fun i => by
  unfold gA
  by_cases h : i < 3315
  · rw [if_pos h]
  · rw [if_neg h, fA_z (by omega) (by omega) (by omega)]
theorem up_z0 {b : Nat} : upto 0 b := ⟨0, Nat.zero_le _, rfl⟩
/-- the first state -/
theorem st_0 {M : ev_Mem} {mc nc : Nat} (hm : M.1 mc = fun j => if j = 4 then 173 else 0) (hu : M.1 (mc + 1) = fun _ => 0) (hn : M.1 nc = fun j => if j = 3 then -1 else 0) (ho : ∀ l, l < 26 → M.1 (nc + 1) l = -1) (hk : M.1 (nc + 2) = fun _ => 0) : stRel 0 M 0 0 mc nc (fA 26) := by
  have z : ∀ j, j ≠ 3 → j ≠ 11 → j < 399 → fA 26 j = 0 := fun j h1 h2 h3 => fA_z h1 h2 (by omega)
  refine ⟨⟨by omega, z 0 (by omega) (by omega) (by omega), fun w h => absurd h (by omega)⟩, ⟨by omega, z 1 (by omega) (by omega) (by omega), fun w h => absurd h (by omega)⟩, ⟨⟨fun l hl => ?_, ?_, ?_, ?_, ?_⟩, 0, 0, 0, 0, by omega, ?_, z 12 (by omega) (by omega) (by omega), ⟨by omega, fun i h => absurd h (by omega)⟩, ⟨by omega, ?_, z 4 (by omega) (by omega) (by omega)⟩, ⟨by omega, ?_⟩, fun _ => 0, rfl, fun j h => absurd h (by omega), fun j h => absurd h (by omega)⟩, ⟨fun l hl => ?_, ⟨0, by omega, ?_, z 2 (by omega) (by omega) (by omega), ?_, ?_⟩, ⟨0, by omega, ?_, z 5 (by omega) (by omega) (by omega), fun i h => absurd h (by omega)⟩, ⟨0, by omega, ?_, z 6 (by omega) (by omega) (by omega), fun i h => absurd h (by omega)⟩, ⟨0, by omega, ?_, z 7 (by omega) (by omega) (by omega), fun i h => absurd h (by omega)⟩⟩⟩
  · have e : fA 26 (8 + (5 + l)) = 0 := z _ (by omega) (by omega) (by omega)
    rw [hu]
    show (0 : Int32) = fA 26 (8 + (5 + l)) ∧ upto (fA 26 (8 + (5 + l))) 9999
    rw [e]
    exact ⟨rfl, up_z0⟩
  · show M.1 mc 0 = fA 26 (8 + 1) ∧ upto (fA 26 (8 + 1)) _
    rw [hm, z (8 + 1) (by omega) (by omega) (by omega)]
    exact ⟨rfl, up_z0⟩
  · show M.1 mc 2 = fA 26 (8 + 2) ∧ upto (fA 26 (8 + 2)) _
    rw [hm, z (8 + 2) (by omega) (by omega) (by omega)]
    exact ⟨rfl, up_z0⟩
  · show M.1 mc 3 = fA 26 (8 + 0) ∧ upto (fA 26 (8 + 0)) _
    rw [hm, z (8 + 0) (by omega) (by omega) (by omega)]
    exact ⟨rfl, up_z0⟩
  · show M.1 mc 4 = fA 26 (8 + 3) ∧ upto (fA 26 (8 + 3)) _
    rw [hm, show fA 26 (8 + 3) = 173 by decide +kernel]
    exact ⟨rfl, 173, by omega, by decide⟩
  · rw [hm]; rfl
  · rw [hm]; rfl
  · rw [hm]; rfl
  · refine ⟨by rw [ho l hl, fA_m hl], Or.inl (fA_m hl), ?_, ?_⟩
    · rw [hk, fA_z (by omega) (by omega) (by omega)]
    · rw [fA_z (by omega) (by omega) (by omega)]; exact up_z0
  · rw [hn]; rfl
  · rw [hn]; decide +kernel
  · exact Or.inl (by decide +kernel)
  · rw [hn]; rfl
  · rw [hn]; rfl
  · rw [hn]; rfl
/-- the first memories are related -/
theorem RX_0 : RX 0 M0 (mN (fA 26) gA) := by
  rw [gA_eq]
  refine ⟨0, 0, 0, 0, 0, 0, ⟨st_0 rfl rfl rfl (fun l hl => if_pos hl) rfl, rfl, rfl, fA_z (by omega) (by omega) (by omega), by omega⟩, ⟨st_0 rfl rfl rfl (fun l hl => if_pos hl) rfl, rfl, rfl, fA_z (by omega) (by omega) (by omega)⟩, ⟨by omega, by omega, by omega⟩, fun t h => absurd h (by omega), ⟨0, by omega, rfl, rfl, fun i h => absurd h (by omega)⟩, ⟨fun i _ => ⟨rfl, up_z0⟩, Or.inl ⟨rfl, rfl, rfl⟩⟩⟩
