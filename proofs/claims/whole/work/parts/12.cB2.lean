/-! the same, for callers: a word by its number as an int -/
section
variable {d : Nat} {M : ev_Mem}
/-- x is a word of the dictionary's rows -/
def wd (M : ev_Mem) (x : Int32) : Prop := ∃ w n : Nat, x = nI w ∧ w < 24 ∧ n ≤ 9 ∧ M.1 29 w = nI n ∧ (∀ i, i < n → vp_in (M.1 (5 + w) i) 26) ∧ (∃ k, k ≤ 6 ∧ M.1 30 w = nI k) ∧ (∃ k, k ≤ 11 ∧ M.1 31 w = nI k) ∧ (∃ k, k ≤ 9 ∧ M.1 32 w = nI k)
def xH (M : ev_Mem) (x s : Int32) : Nat := hol (M.1 (5 + x.toNatClampNeg)) s (M.1 29 x.toNatClampNeg).toNatClampNeg
def xK (M : ev_Mem) (x s : Int32) : Int32 := lks (M.1 (5 + x.toNatClampNeg)) s (M.1 49) (M.1 29 x.toNatClampNeg).toNatClampNeg
theorem xH_le {x s : Int32} (h : wd M x) : xH M x s ≤ 9 := by
  obtain ⟨w, n, rfl, hw, hn, hl, -⟩ := h
  unfold xH
  rw [nI_clamp (by omega), hl, nI_clamp (by omega)]
  exact Nat.le_trans (hol_le _ _ _) hn
theorem qX5_holesOf {x s : Int32} (h : wd M x) : Cl LX (d + 1) mX5_holesOf [.ref 82, .int x, .int s] M (ev_R (some (.int (nI (xH M x s)))) M) := by
  obtain ⟨w, n, rfl, hw, hn, hl, -⟩ := h
  have := kX5_holesOf (d := d) (M := M) (s := s) hw hn hl
  unfold xH
  rw [nI_clamp (by omega), hl, nI_clamp (by omega)]
  exact this
theorem qX5_looksOf {x s : Int32} (h : wd M x) : Cl LX (d + 1) mX5_looksOf [.ref 82, .int x, .int s] M (ev_R (some (.int (xK M x s))) M) := by
  obtain ⟨w, n, rfl, hw, hn, hl, hf, -⟩ := h
  have := kX5_looksOf (d := d) (M := M) (s := s) hw hn hl hf
  unfold xK
  rw [nI_clamp (by omega), hl, nI_clamp (by omega)]
  exact this
/-- the model: x is a word of its row -/
def aw (M : ev_Mem) (w f : Nat) : Int32 := M.1 1 (39 + 13 * w + f)
theorem aw_at {M : ev_Mem} {w f : Nat} (h : 39 + 13 * w + f < 3315) : M.1 1 (39 + 13 * nI w + nI f).toNatClampNeg = aw M w f := by
  rw [show (39 : Int32) = nI 39 from rfl, show (13 : Int32) = nI 13 from rfl, pk_mul, nI_add, nI_add, nI_clamp (by omega)]
  rfl
theorem aw_in {w f : Nat} (h : 39 + 13 * w + f < 3315) : vp_in (39 + 13 * nI w + nI f) 3315 := by
  rw [show (39 : Int32) = nI 39 from rfl, show (13 : Int32) = nI 13 from rfl, pk_mul, nI_add, nI_add]
  exact vp_in_nI h (by omega)
theorem qX11_get {w f : Nat} (h : 39 + 13 * w + f < 3315) : Cl LM d mX11_get [.ref 0, .int (nI w), .int (nI f)] M (ev_R (some (.int (aw M w f))) M) := by
  have := kX11_get (d := d) (M := M) (aw_in h)
  rw [aw_at h] at this
  exact this
end
