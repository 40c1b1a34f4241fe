/-! letters of a word as a set, on both sides; the tape's bytes in the model -/
section
variable {d : Nat} {M N : ev_Mem} {W T : Nat} {lo : Int32}
theorem qX0_lettersOf {x : Int32} (h : wd M x) : Cl LX d mX0_lettersOf [.ref 3, .int x] M (ev_R (some (.int (lts (M.1 (5 + x.toNatClampNeg)) (M.1 29 x.toNatClampNeg).toNatClampNeg))) M) := by
  obtain ⟨w, n, rfl, hw, hn, hl, -⟩ := h
  have := kX0_lettersOf (d := d) (M := M) hw hn hl
  rw [nI_clamp (by omega), hl, nI_clamp (by omega)]
  exact this
def ltM (N : ev_Mem) (x : Int32) : Int32 := lts (fun i => aw N x.toNatClampNeg (4 + i)) (aw N x.toNatClampNeg 3).toNatClampNeg
theorem qX11_lettersOf {x : Int32} (h : wm N x) : Cl LM (d + 1) mX11_lettersOf [.ref 0, .int x] N (ev_R (some (.int (ltM N x))) N) := by
  obtain ⟨w, n, rfl, hw, hn, hl, hf, -⟩ := h
  have e : ltM N (nI w) = lts (fun i => aw N w (4 + i)) n := by unfold ltM; rw [nI_clamp (by omega), hl, nI_clamp (by omega)]
  rw [e]
  refine Cl_of rfl (Nat.le_of_ble_eq_true rfl) rfl (gX11_lettersOf_0 ?_)
  have lp : ∀ i, i ≤ n → Ev LM (d + 1) mX11_lettersOf 4 [some (.ref 0), some (.int (nI w)), some (.int (lts (fun i => aw N w (4 + i)) i)), some (.int (nI i))] [] N (ev_R (some (.int (lts (fun i => aw N w (4 + i)) n))) N) := by
    refine dn ?_ (fun i hi ih => ?_)
    · refine gX11_lettersOf_4 ⟨awi3 hw, fun _ => ⟨rfl, rfl⟩, fun z => absurd ?_ z⟩
      rw [aw3 hw, hl]; exact nI_le (Nat.le_refl _) (by omega)
    · refine gX11_lettersOf_4 ⟨awi3 hw, fun z => ?_, fun _ => ⟨awi4 hw (by omega), fun v1 e1 => ?_⟩⟩
      · rw [aw3 hw, hl] at z; exact absurd z (nI_ge hi (by omega))
      · rw [aw4 hw (by omega)] at e1
        rw [nI_1, e1]; exact ih
  exact lp 0 (by omega)
def btA (N : ev_Mem) (x : Int32) : Int32 := if N.1 0 5 ≤ x then -1 else N.1 5 x.toNatClampNeg
def baOK (N : ev_Mem) (x : Int32) : Prop := N.1 0 5 ≤ x ∨ vp_in x 300
theorem qX11_byteAt {x : Int32} (h : baOK N x) : Cl LM d mX11_byteAt [.ref 0, .int x] N (ev_R (some (.int (btA N x))) N) := by
  refine Cl_of rfl (Nat.le_of_ble_eq_true rfl) rfl (gX11_byteAt_0 ⟨fun z => ⟨?_, rfl⟩, fun z => ⟨h.resolve_left z, ?_, rfl⟩⟩)
  · unfold btA; rw [if_pos z]
  · unfold btA; rw [if_neg z]
theorem bt_lts {g : Nat → Int32} {l : Nat} (hl : l < 32) : ∀ n, (∀ i, i < n → ∃ j, j < 26 ∧ g i = nI j) → (bt (lts g n) l = true ↔ ∃ i, i < n ∧ g i = nI l)
  | 0, _ => by rw [lts, b_0]; exact ⟨fun h => Bool.noConfusion h, fun ⟨i, h, _⟩ => absurd h (by omega)⟩
  | n + 1, h => by
    obtain ⟨j, hj, ej⟩ := h n (by omega)
    rw [lts, b_or, Bool.or_eq_true, bt_lts hl n (fun i hi => h i (by omega)), ej, bt_sh (by omega) hl, decide_eq_true_eq]
    constructor
    · rintro (⟨i, h1, h2⟩ | e)
      · exact ⟨i, by omega, h2⟩
      · exact ⟨n, by omega, by rw [e]; exact ej⟩
    · rintro ⟨i, h1, h2⟩
      by_cases e : i = n
      · rw [e, ej] at h2
        exact Or.inr ((nI_eq (by omega) (by omega)).mp h2).symm
      · exact Or.inl ⟨i, by omega, h2⟩
theorem sd_lts (h : sdR M N W T lo) {w : Nat} (hw : w < W) : lts (M.1 (5 + w)) (M.1 29 w).toNatClampNeg = ltM N (nI w) := by
  have h24 := h.w24
  obtain ⟨l1, l9, l3, l29, ll⟩ := sd_ln h hw
  unfold ltM
  rw [nI_clamp (by omega), l29, l3, nI_clamp (by omega)]
  exact lts_cong fun i hi => (ll i hi).1
theorem ltM_bt (h : sdR M N W T lo) {w l : Nat} (hw : w < W) (hl : l < 32) : bt (ltM N (nI w)) l = true ↔ ∃ i, i < lnW N w ∧ aw N w (4 + i) = nI l := by
  have h24 := h.w24
  obtain ⟨l1, l9, l3, l29, ll⟩ := sd_ln h hw
  unfold ltM
  rw [nI_clamp (by omega), l3, nI_clamp (by omega)]
  exact bt_lts hl _ (fun i hi => by obtain ⟨j, hj, ej⟩ := (ll i hi).2; exact ⟨j, by omega, ej⟩)
end
