/-! the same, for callers: a word by its number as an int -/
section
variable {d : Nat} {M : ev_Mem}
/-- x is a word of the dictionary's rows -/
def wd (M : ev_Mem) (x : Int32) : Prop := ∃ w n : Nat, x = nI w ∧ w < 24 ∧ n ≤ 9 ∧ M.1 29 w = nI n ∧ (∀ i, i < n → vp_in (M.1 (5 + w) i) 26) ∧ (∃ k, k ≤ 6 ∧ M.1 30 w = nI k) ∧ (∃ k, k ≤ 11 ∧ M.1 31 w = nI k) ∧ (∃ k, k ≤ 9 ∧ M.1 32 w = nI k)
def xH (M : ev_Mem) (x s : Int32) : Nat := hol (M.1 (5 + x.toNatClampNeg)) s (M.1 29 x.toNatClampNeg).toNatClampNeg
def xK (M : ev_Mem) (x s : Int32) : Int32 := lks (M.1 (5 + x.toNatClampNeg)) s (M.1 49) (M.1 29 x.toNatClampNeg).toNatClampNeg
theorem xH_le {x s : Int32} (h : wd M x) : xH M x s ≤ 9 := by
  obtain ⟨w, n, rfl, hw, hn, hl, -⟩ := h
  unfold xH
  rw [nI_clamp (by omega), hl, nI_clamp (by omega)]
  exact Nat.le_trans (hol_le _ _ _) hn
theorem qX5_holesOf {x s : Int32} (h : wd M x) : Cl LX (d + 1) mX5_holesOf [.ref 82, .int x, .int s] M (ev_R (some (.int (nI (xH M x s)))) M) := by
  obtain ⟨w, n, rfl, hw, hn, hl, -⟩ := h
  have := kX5_holesOf (d := d) (M := M) (s := s) hw hn hl
  unfold xH
  rw [nI_clamp (by omega), hl, nI_clamp (by omega)]
  exact this
theorem qX5_looksOf {x s : Int32} (h : wd M x) : Cl LX (d + 1) mX5_looksOf [.ref 82, .int x, .int s] M (ev_R (some (.int (xK M x s))) M) := by
  obtain ⟨w, n, rfl, hw, hn, hl, hf, -⟩ := h
  have := kX5_looksOf (d := d) (M := M) (s := s) hw hn hl hf
  unfold xK
  rw [nI_clamp (by omega), hl, nI_clamp (by omega)]
  exact this
/-- the model: x is a word of its row -/
def aw (M : ev_Mem) (w f : Nat) : Int32 := M.1 1 (39 + 13 * w + f)
theorem aw_at {M : ev_Mem} {w f : Nat} (h : 39 + 13 * w + f < 3315) : M.1 1 (39 + 13 * nI w + nI f).toNatClampNeg = aw M w f := by
  rw [show (39 : Int32) = nI 39 from rfl, show (13 : Int32) = nI 13 from rfl, pk_mul, nI_add, nI_add, nI_clamp (by omega)]
  rfl
theorem aw_in {w f : Nat} (h : 39 + 13 * w + f < 3315) : vp_in (39 + 13 * nI w + nI f) 3315 := by
  rw [show (39 : Int32) = nI 39 from rfl, show (13 : Int32) = nI 13 from rfl, pk_mul, nI_add, nI_add]
  exact vp_in_nI h (by omega)
theorem qX11_get {w f : Nat} (h : 39 + 13 * w + f < 3315) : Cl LM d mX11_get [.ref 0, .int (nI w), .int (nI f)] M (ev_R (some (.int (aw M w f))) M) := by
  have := kX11_get (d := d) (M := M) (aw_in h)
  rw [aw_at h] at this
  exact this
theorem aw0 {M : ev_Mem} {w : Nat} (hw : w < 24) : M.1 1 (39 + 13 * nI w + (0 : Int32)).toNatClampNeg = aw M w 0 := aw_at (f := 0) (by omega)
theorem aw1 {M : ev_Mem} {w : Nat} (hw : w < 24) : M.1 1 (39 + 13 * nI w + (1 : Int32)).toNatClampNeg = aw M w 1 := aw_at (f := 1) (by omega)
theorem aw2 {M : ev_Mem} {w : Nat} (hw : w < 24) : M.1 1 (39 + 13 * nI w + (2 : Int32)).toNatClampNeg = aw M w 2 := aw_at (f := 2) (by omega)
theorem aw3 {M : ev_Mem} {w : Nat} (hw : w < 24) : M.1 1 (39 + 13 * nI w + (3 : Int32)).toNatClampNeg = aw M w 3 := aw_at (f := 3) (by omega)
theorem aw4 {M : ev_Mem} {w i : Nat} (hw : w < 24) (hi : i < 9) : M.1 1 (39 + 13 * nI w + (4 + nI i)).toNatClampNeg = aw M w (4 + i) := by
  rw [show (4 : Int32) = nI 4 from rfl, nI_add]
  exact aw_at (by omega)
theorem awi0 {w : Nat} (hw : w < 24) : vp_in (39 + 13 * nI w + (0 : Int32)) 3315 := aw_in (f := 0) (by omega)
theorem awi1 {w : Nat} (hw : w < 24) : vp_in (39 + 13 * nI w + (1 : Int32)) 3315 := aw_in (f := 1) (by omega)
theorem awi2 {w : Nat} (hw : w < 24) : vp_in (39 + 13 * nI w + (2 : Int32)) 3315 := aw_in (f := 2) (by omega)
theorem awi3 {w : Nat} (hw : w < 24) : vp_in (39 + 13 * nI w + (3 : Int32)) 3315 := aw_in (f := 3) (by omega)
theorem awi4 {w i : Nat} (hw : w < 24) (hi : i < 9) : vp_in (39 + 13 * nI w + (4 + nI i)) 3315 := by
  rw [show (4 : Int32) = nI 4 from rfl, nI_add]
  exact aw_in (by omega)
/-- the made letters' row -/
theorem am_at {M : ev_Mem} {l : Nat} (h : l < 26) : M.1 1 (399 + 2 * nI l).toNatClampNeg = M.1 1 (399 + 2 * l) := by
  rw [show (399 : Int32) = nI 399 from rfl, show (2 : Int32) = nI 2 from rfl, pk_mul, nI_add, nI_clamp (by omega)]
theorem am_in {l : Nat} (h : l < 26) : vp_in (399 + 2 * nI l) 3315 := by
  rw [show (399 : Int32) = nI 399 from rfl, show (2 : Int32) = nI 2 from rfl, pk_mul, nI_add]
  exact vp_in_nI (by omega) (by omega)
theorem al_at {M : ev_Mem} {l : Nat} (h : l < 26) : M.1 1 ((399 + (2 * nI l)) + 1).toNatClampNeg = M.1 1 (399 + 2 * l + 1) := by
  rw [show (399 : Int32) = nI 399 from rfl, show (2 : Int32) = nI 2 from rfl, pk_mul, nI_add, nI_1, nI_clamp (by omega)]
theorem al_in {l : Nat} (h : l < 26) : vp_in ((399 + (2 * nI l)) + 1) 3315 := by
  rw [show (399 : Int32) = nI 399 from rfl, show (2 : Int32) = nI 2 from rfl, pk_mul, nI_add, nI_1]
  exact vp_in_nI (by omega) (by omega)
def wm (M : ev_Mem) (x : Int32) : Prop := ∃ w n : Nat, x = nI w ∧ w < 24 ∧ n ≤ 9 ∧ aw M w 3 = nI n ∧ (∀ i, i < n → vp_in (aw M w (4 + i)) 26) ∧ (∃ k, k ≤ 6 ∧ aw M w 0 = nI k) ∧ (∃ k, k ≤ 11 ∧ aw M w 1 = nI k) ∧ (∃ k, k ≤ 9 ∧ aw M w 2 = nI k)
def mH (M : ev_Mem) (x : Int32) : Nat := hol (fun i => aw M x.toNatClampNeg (4 + i)) (M.1 1 9) (aw M x.toNatClampNeg 3).toNatClampNeg
def mK (M : ev_Mem) (x : Int32) : Int32 := lks (fun i => aw M x.toNatClampNeg (4 + i)) (M.1 1 9) (fun l => M.1 1 (399 + 2 * l + 1)) (aw M x.toNatClampNeg 3).toNatClampNeg
/-- what a letter is made of is left -/
def mdl (s m : Int32) : Bool := !decide (m = -1) && !hs s m
/-- letters are made of letters -/
def okMd (M : ev_Mem) : Prop := ∀ l, l < 26 → M.1 1 (399 + 2 * l) = -1 ∨ vp_in (M.1 1 (399 + 2 * l)) 26
end
