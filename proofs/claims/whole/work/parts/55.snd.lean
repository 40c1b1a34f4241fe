/-! how things sound, on both sides: the same -/
section
variable {d : Nat} {M N : ev_Mem}
/-- W words, T texts, the keys lo lost (or supposed to be) -/
def sdR (M N : ev_Mem) (W T : Nat) (lo : Int32) : Prop :=
  (W ≤ 24) ∧
  (M.1 3 5 = nI W) ∧
  (N.1 1 0 = nI W) ∧
  (∀ w, w < W → wRel M (N.1 1) w) ∧
  (∀ l, l < 26 → M.1 48 l = N.1 1 (399 + 2 * l) ∧ (N.1 1 (399 + 2 * l) = -1 ∨ upto (N.1 1 (399 + 2 * l)) 25) ∧ M.1 49 l = N.1 1 (399 + 2 * l + 1) ∧ upto (N.1 1 (399 + 2 * l + 1)) 9) ∧
  (N.1 1 9 = lo) ∧
  (upto lo (2 ^ 26 - 1)) ∧
  (M.1 43 3 = N.1 1 8 ∧ upto (N.1 1 8) 9999) ∧
  (∀ l, l < 26 → M.1 44 l = N.1 1 (13 + l) ∧ upto (N.1 1 (13 + l)) 9999) ∧
  (T ≤ 4) ∧
  (M.1 47 2 = nI T) ∧
  (N.1 1 2 = nI T) ∧
  (M.1 47 3 = N.1 1 3) ∧
  (N.1 1 3 = -1 ∨ ∃ t, t < T ∧ N.1 1 3 = nI t) ∧
  (∀ t, t < T → ∀ k, k < 3 → lawR M N t k)
theorem sdR.w24 {M N : ev_Mem} {W T : Nat} {lo : Int32} (h : sdR M N W T lo) : W ≤ 24 := h.1
theorem sdR.mw {M N : ev_Mem} {W T : Nat} {lo : Int32} (h : sdR M N W T lo) : M.1 3 5 = nI W := h.2.1
theorem sdR.nw {M N : ev_Mem} {W T : Nat} {lo : Int32} (h : sdR M N W T lo) : N.1 1 0 = nI W := h.2.2.1
theorem sdR.wr {M N : ev_Mem} {W T : Nat} {lo : Int32} (h : sdR M N W T lo) : ∀ w, w < W → wRel M (N.1 1) w := h.2.2.2.1
theorem sdR.md {M N : ev_Mem} {W T : Nat} {lo : Int32} (h : sdR M N W T lo) : ∀ l, l < 26 → M.1 48 l = N.1 1 (399 + 2 * l) ∧ (N.1 1 (399 + 2 * l) = -1 ∨ upto (N.1 1 (399 + 2 * l)) 25) ∧ M.1 49 l = N.1 1 (399 + 2 * l + 1) ∧ upto (N.1 1 (399 + 2 * l + 1)) 9 := h.2.2.2.2.1
theorem sdR.lo {M N : ev_Mem} {W T : Nat} {lo : Int32} (h : sdR M N W T lo) : N.1 1 9 = lo := h.2.2.2.2.2.1
theorem sdR.lu {M N : ev_Mem} {W T : Nat} {lo : Int32} (h : sdR M N W T lo) : upto lo (2 ^ 26 - 1) := h.2.2.2.2.2.2.1
theorem sdR.da {M N : ev_Mem} {W T : Nat} {lo : Int32} (h : sdR M N W T lo) : M.1 43 3 = N.1 1 8 ∧ upto (N.1 1 8) 9999 := h.2.2.2.2.2.2.2.1
theorem sdR.us {M N : ev_Mem} {W T : Nat} {lo : Int32} (h : sdR M N W T lo) : ∀ l, l < 26 → M.1 44 l = N.1 1 (13 + l) ∧ upto (N.1 1 (13 + l)) 9999 := h.2.2.2.2.2.2.2.2.1
theorem sdR.t4 {M N : ev_Mem} {W T : Nat} {lo : Int32} (h : sdR M N W T lo) : T ≤ 4 := h.2.2.2.2.2.2.2.2.2.1
theorem sdR.mt {M N : ev_Mem} {W T : Nat} {lo : Int32} (h : sdR M N W T lo) : M.1 47 2 = nI T := h.2.2.2.2.2.2.2.2.2.2.1
theorem sdR.nt {M N : ev_Mem} {W T : Nat} {lo : Int32} (h : sdR M N W T lo) : N.1 1 2 = nI T := h.2.2.2.2.2.2.2.2.2.2.2.1
theorem sdR.te {M N : ev_Mem} {W T : Nat} {lo : Int32} (h : sdR M N W T lo) : M.1 47 3 = N.1 1 3 := h.2.2.2.2.2.2.2.2.2.2.2.2.1
theorem sdR.ti {M N : ev_Mem} {W T : Nat} {lo : Int32} (h : sdR M N W T lo) : N.1 1 3 = -1 ∨ ∃ t, t < T ∧ N.1 1 3 = nI t := h.2.2.2.2.2.2.2.2.2.2.2.2.2.1
theorem sdR.la {M N : ev_Mem} {W T : Nat} {lo : Int32} (h : sdR M N W T lo) : ∀ t, t < T → ∀ k, k < 3 → lawR M N t k := h.2.2.2.2.2.2.2.2.2.2.2.2.2.2
theorem upto_in {x : Int32} {n : Nat} (h : upto x n) (hn : n < 2 ^ 30) : vp_in x (n + 1) := by
  obtain ⟨j, hj, rfl⟩ := h
  exact vp_in_nI (by omega) (by omega)
variable {W T : Nat} {lo : Int32}
theorem sd_wd (h : sdR M N W T lo) {w : Nat} (hw : w < W) : wd M (nI w) := by
  obtain ⟨⟨h1, h2, h3, h4⟩, ⟨h5, h6, h7⟩, n, h8, h9, h10, h11⟩ := h.wr w hw
  have := h.w24
  refine ⟨w, n, rfl, by omega, h9, by rw [h1]; exact h10, fun i hi => by rw [(h11 i hi).1]; exact upto_in (h11 i hi).2 (by omega), by rw [h2]; exact h5, by rw [h3]; exact h6, by rw [h4]; exact h7⟩
theorem sd_wm (h : sdR M N W T lo) {w : Nat} (hw : w < W) : wm N (nI w) := by
  obtain ⟨⟨h1, h2, h3, h4⟩, ⟨h5, h6, h7⟩, n, h8, h9, h10, h11⟩ := h.wr w hw
  have h11 : ∀ i, i < n → M.1 (5 + w) i = N.1 1 (39 + 13 * w + (4 + i)) ∧ upto (N.1 1 (39 + 13 * w + (4 + i))) 25 := fun i hi => by rw [← Nat.add_assoc]; exact h11 i hi
  have := h.w24
  exact ⟨w, n, rfl, by omega, h9, h10, fun i hi => upto_in (h11 i hi).2 (by omega), h5, h6, h7⟩
theorem sd_xH (h : sdR M N W T lo) {w : Nat} (hw : w < W) : xH M (nI w) lo = mH N (nI w) := by
  obtain ⟨⟨h1, h2, h3, h4⟩, ⟨h5, h6, h7⟩, n, h8, h9, h10, h11⟩ := h.wr w hw
  have h11 : ∀ i, i < n → M.1 (5 + w) i = N.1 1 (39 + 13 * w + (4 + i)) ∧ upto (N.1 1 (39 + 13 * w + (4 + i))) 25 := fun i hi => by rw [← Nat.add_assoc]; exact h11 i hi
  have := h.w24
  unfold xH mH aw
  rw [nI_clamp (by omega), h1, h.lo, h10, nI_clamp (by omega)]
  exact hol_cong fun i hi => (h11 i hi).1
theorem sd_xK (h : sdR M N W T lo) {w : Nat} (hw : w < W) : xK M (nI w) lo = mK N (nI w) := by
  obtain ⟨⟨h1, h2, h3, h4⟩, ⟨h5, h6, h7⟩, n, h8, h9, h10, h11⟩ := h.wr w hw
  have h11 : ∀ i, i < n → M.1 (5 + w) i = N.1 1 (39 + 13 * w + (4 + i)) ∧ upto (N.1 1 (39 + 13 * w + (4 + i))) 25 := fun i hi => by rw [← Nat.add_assoc]; exact h11 i hi
  have := h.w24
  unfold xK mK aw
  rw [nI_clamp (by omega), h1, h.lo, h10, nI_clamp (by omega)]
  refine lks_cong (fun i hi => (h11 i hi).1) (fun i hi => ?_)
  obtain ⟨l, hl, el⟩ := (h11 i hi).2
  rw [(h11 i hi).1, el, nI_clamp (by omega)]
  exact (h.md l (by omega)).2.2.1
theorem sd_xE (h : sdR M N W T lo) {w : Nat} (hw : w < W) : xE M (nI w) lo = mE N (nI w) := by
  have := h.w24
  unfold xE mE
  rw [sd_xH h hw, sd_xK h hw, nI_clamp (by omega), (h.wr w hw).1.2.1]
  rfl
theorem sd_xS (h : sdR M N W T lo) {w : Nat} (hw : w < W) : xS M (nI w) lo = mS N (nI w) := by
  have := h.w24
  unfold xS mS
  rw [sd_xH h hw, nI_clamp (by omega), (h.wr w hw).1.2.1]
  rfl
theorem cbe_cong {k s : Int32} {mo mo2 f g : Nat → Int32} {n : Nat} (hf : ∀ i, i < n → f i = g i ∧ upto (g i) 25) (hm : ∀ l, l < 26 → mo l = mo2 l) : cbe k mo s f n = cbe k mo2 s g n := by
  unfold cbe
  by_cases h : k = 4 ∨ k = 6
  · rw [if_pos h, if_pos h]
  · rw [if_neg h, if_neg h]
    refine al_cong fun i hi => ?_
    obtain ⟨l, hl, el⟩ := (hf i hi).2
    unfold cbl mnd
    rw [(hf i hi).1, el, nI_clamp (by omega), hm l (by omega)]
theorem sd_xC (h : sdR M N W T lo) {w : Nat} (hw : w < W) : xC M (nI w) lo = mC N (nI w) := by
  obtain ⟨⟨h1, h2, h3, h4⟩, ⟨h5, h6, h7⟩, n, h8, h9, h10, h11⟩ := h.wr w hw
  have h11 : ∀ i, i < n → M.1 (5 + w) i = N.1 1 (39 + 13 * w + (4 + i)) ∧ upto (N.1 1 (39 + 13 * w + (4 + i))) 25 := fun i hi => by rw [← Nat.add_assoc]; exact h11 i hi
  have := h.w24
  unfold xC mC aw
  rw [nI_clamp (by omega), h1, h2, h.lo, h10, nI_clamp (by omega)]
  exact cbe_cong (fun i hi => h11 i hi) (fun l hl => (h.md l hl).1)
theorem usM_cong {us us2 : Nat → Int32} (h : ∀ l, l < 26 → us l = us2 l) : usM us = usM us2 := by
  funext x
  unfold usM
  by_cases hx : 0 ≤ x ∧ x < 26
  · rw [if_pos hx, if_pos hx]
    obtain ⟨j, hj, rfl⟩ := pk_lOf (L_nlt.mpr hx.1)
    have hj26 : j < 26 := (pk_lLT (a := j) (b := 26) hj (by omega)).mp hx.2
    rw [lN_i, nI_clamp (by omega), h j hj26]
  · rw [if_neg hx, if_neg hx]
theorem sd_okU (h : sdR M N W T lo) : okU (M.1 44) ∧ okU (uNs N) ∧ usM (M.1 44) = usM (uNs N) :=
  ⟨fun l hl => by rw [(h.us l hl).1]; exact (h.us l hl).2, fun l hl => (h.us l hl).2, usM_cong fun l hl => (h.us l hl).1⟩
theorem sd_lawI (h : sdR M N W T lo) {k : Nat} (hk : k < 3) : lawI N (N.1 1 3) k := by
  have := h.t4
  rcases h.ti with z | ⟨t, ht, z⟩
  · exact Or.inl (by rw [z]; decide)
  · exact Or.inr ⟨t, by omega, z, M, h.la t ht k hk⟩
theorem sd_gN (h : sdR M N W T lo) : gN N := by
  have hu := (sd_okU h).2.1
  refine ⟨W, h.w24, h.nw, fun w hw => sd_wm h hw, fun l hl => ?_, fun l hl => (h.md l hl).2.2.2, fun k hk => sd_lawI h hk, hu, h.da.2, by rw [h.lo]; exact h.lu⟩
  rcases (h.md l hl).2.1 with z | z
  · exact Or.inl z
  · exact Or.inr (upto_in z (by omega))
/-- what a word of so many holes sounds like -/
def hvl (N : ev_Mem) (x go : Int32) (w : Nat) (ho ex : Int32) : Int32 := syv (N.1 4) (nS (N.1 1 8) go (aw N w 0) (aw N w 2) (aw N w 3) ho ex) (usM (uNs N)) x 0 (aw N w 2 + ex) 99
theorem stN_hvl {x : Int32} {w : Nat} : stN N x w = hvl N x (bc (N.1 1 9)) w (nI (mH N (nI w))) (mE N (nI w)) := rfl
/-- a text, or none -/
def tv (x : Int32) : Value := if x < 0 then .null else .ref (61 + 5 * x.toNatClampNeg)
theorem tv_ok {x : Int32} (h : x = -1 ∨ ∃ t, t < 4 ∧ x = nI t) : tv x = .null ∨ ∃ k, ev_isT k ∧ tv x = .ref k := by
  unfold tv
  rcases h with rfl | ⟨t, ht, rfl⟩
  · exact Or.inl rfl
  · rw [if_neg (nI_pos (by omega)), nI_clamp (by omega)]
    exact Or.inr ⟨_, ⟨t, ht, rfl⟩, rfl⟩
theorem sd_ex (h : sdR M N W T lo) {w : Nat} (hw : w < W) : upto (mE N (nI w)) 81 := by
  have := h.w24
  exact mE_up (by omega) (sd_wm h hw) (fun l hl => (h.md l hl).2.2.2)
/-- the class's law of stiffness, at a memory where only its own cells have changed -/
theorem stiffV {M2 : ev_Mem} {x ho ex go : Int32} {w : Nat} (h : sdR M N W T lo) (hM : ∀ k, k < 82 → M2.1 k = M.1 k) (hw : w < W) (hx : x = -1 ∨ ∃ t, t < T ∧ x = nI t) (hgo : upto go 32) (hho : upto ho 9) (hex : upto ex 81) :
    Cl LX (d + 2) mX1_stiffness [.ref 83, tv x, .int (nI w), .int ho, .int ex, .int go] M2 (fun r M3 => r = some (.int (hvl N x go w ho ex)) ∧ lfr M2 M3) := by
  have hw24 := h.w24
  obtain ⟨⟨h1, h2, h3, h4⟩, ⟨⟨a1, b1, c1⟩, h6, ⟨a2, b2, c2⟩⟩, n, h8, h9, h10, h11⟩ := h.wr w hw
  obtain ⟨e1, e2, e3⟩ : M2.1 30 w = aw N w 0 ∧ M2.1 32 w = aw N w 2 ∧ M2.1 29 w = aw N w 3 := by
    rw [hM 30 (by omega), hM 32 (by omega), hM 29 (by omega)]; exact ⟨h2, h4, h1⟩
  have e43 : M2.1 43 3 = N.1 1 8 := by rw [hM 43 (by omega)]; exact h.da.1
  have e44 : M2.1 44 = M.1 44 := hM 44 (by omega)
  have ht9 : upto (M2.1 32 w + ex) 99 := by
    obtain ⟨e, he, rfl⟩ := hex
    rw [e2]
    unfold aw
    rw [c2, nI_add]
    exact ⟨a2 + e, by omega, rfl⟩
  unfold tv hvl
  rcases hx with rfl | ⟨t, ht, rfl⟩
  · rw [if_pos (by decide), ← e2]
    exact kX1_stiffnessN (d := d) (M := M2) (N := N) (x := -1) (by decide) (by omega) ht9
  · have ht4 := h.t4
    rw [if_neg (nI_pos (by omega)), nI_clamp (by omega), ← e1, ← e2, ← e3, ← e43, ← (sd_okU h).2.2, ← e44]
    refine kX1_stiffness (d := d) (M := M2) (N := N) (by omega) (by omega) (lawR_cg (fun i _ _ => (hM i (by omega)).symm) rfl (h.la t ht 0 (by omega))) (by rw [e44]; exact (sd_okU h).1) ⟨?_, upto_mono hgo (by omega), ?_, ?_, ?_, upto_mono hho (by omega), upto_mono hex (by omega)⟩ ht9
    · rw [e43]; exact upto_mono h.da.2 (by omega)
    · rw [e1]; exact ⟨a1, by omega, c1⟩
    · rw [e2]; exact ⟨a2, by omega, c2⟩
    · rw [e3]; exact ⟨n, by omega, h10⟩
end
