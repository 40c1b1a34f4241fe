/-! the model: the lowest word at a place behind a word -/
section
variable {d : Nat} {N : ev_Mem}
/-- what stands in the row of rests, and what the word ahead adds -/
def nxv (N : ev_Mem) (p : Nat) (x : Int32) (v : Nat) : Int32 := if x = -1 then N.1 12 (24 * p + v) else N.1 12 (24 * p + v) + bhd (aw N x.toNatClampNeg 0) (aw N v 0) x (nI v)
def onI (o : Option Nat) : Int32 := match o with
  | none => -1
  | some m => nI m
theorem kX11_nextOf {s p W : Nat} {x : Int32} {F : Nat → Nat} (hs : s < 8) (hp : p < 5) (hW : N.1 1 0 = nI W) (hW24 : W ≤ 24) (hx : x = -1 ∨ ∃ f, f < 24 ∧ x = nI f) (hF : ∀ v, v < W → atN N s p v = true → F v < 2 ^ 30 ∧ nxv N p x v = nI (F v)) (hG : ∀ v, v < W → atN N s p v = false → FARn ≤ F v) :
    Cl LM (d + 2) mX11_nextOf [.ref 0, .int (nI s), .int (nI p), .int x] N (ev_R (some (.int (onI (bst F W)))) N) := by
  refine Cl_of rfl (Nat.le_of_ble_eq_true rfl) rfl (gX11_nextOf_0 ?_)
  have lp : ∀ (j i : Nat), i + j = W → Ev LM (d + 2) mX11_nextOf 11 [some (.ref 0), some (.int (nI s)), some (.int (nI p)), some (.int x), some (.int (onI (bst F i))), some (.int (nI (bsv F i))), some (.int (nI i)), none] [] N (ev_R (some (.int (onI (bst F W)))) N) := by
    intro j
    induction j with
    | zero =>
      intro i hi
      obtain rfl : i = W := by omega
      refine gX11_nextOf_11 ⟨fun _ => ⟨rfl, rfl⟩, fun z => absurd ?_ z⟩
      rw [hW]
      exact nI_le (Nat.le_refl _) (by omega)
    | succ j ih =>
      intro i hi
      have hb := (bsv_le (f := F) (n := i)).1
      have ih1 := ih (i + 1) (by omega)
      have yes : F i < bsv F i → Ev LM (d + 2) mX11_nextOf 11 [some (.ref 0), some (.int (nI s)), some (.int (nI p)), some (.int x), some (.int (nI i)), some (.int (nI (F i))), some (.int (nI i + 1)), none] [] N (ev_R (some (.int (onI (bst F W)))) N) := by
        intro h
        rw [nI_1]
        rw [bsv_s, if_pos h] at ih1
        have e : bst F (i + 1) = some i := by
          rw [bst]
          cases e2 : bst F i with
          | none =>
            simp only
            rw [bsv_none e2] at h
            rw [if_pos h]
          | some m =>
            simp only
            rw [bsv_some e2] at h
            rw [if_pos h]
        rw [e] at ih1
        exact ih1
      have no : ¬ F i < bsv F i → Ev LM (d + 2) mX11_nextOf 11 [some (.ref 0), some (.int (nI s)), some (.int (nI p)), some (.int x), some (.int (onI (bst F i))), some (.int (nI (bsv F i))), some (.int (nI i + 1)), none] [] N (ev_R (some (.int (onI (bst F W)))) N) := by
        intro h
        rw [nI_1]
        rw [bsv_s, if_neg h] at ih1
        have e : bst F (i + 1) = bst F i := by
          rw [bst]
          cases e2 : bst F i with
          | none =>
            simp only
            rw [bsv_none e2] at h
            rw [if_neg h]
          | some m =>
            simp only
            rw [bsv_some e2] at h
            rw [if_neg h]
        rw [e] at ih1
        exact ih1
      have e12 : (24 : Int32) * nI p + nI i = nI (24 * p + i) := by rw [show (24 : Int32) = nI 24 from rfl, pk_mul, nI_add]
      have eat : atQ N (nI s) (nI p) (nI i) = atN N s p i := by
        unfold atQ
        rw [nI_clamp (by omega), nI_clamp (by omega), nI_clamp (by omega)]
      unfold FARn at hb
      refine gX11_nextOf_11 ⟨fun z => ?_, fun _ => ⟨⟨vp_in_nI hs (by omega), vp_in_nI hp (by omega), vp_in_nI (by omega) (by omega)⟩, fun h => ?_, fun h => ?_⟩⟩
      · rw [hW] at z
        exact absurd z (nI_ge (by omega) (by omega))
      · rw [eat] at h
        obtain ⟨hF1, hF2⟩ := hF i (by omega) h
        refine ⟨by rw [e12]; exact vp_in_nI (by omega) (by omega), fun hx1 => ?_, fun hx1 v2 e2 => ?_⟩
        · obtain ⟨f, hf24, rfl⟩ := hx.resolve_left hx1
          refine ⟨⟨vp_in_nI hf24 (by omega), vp_in_nI (by omega) (by omega)⟩, fun v1 e1 => ?_⟩
          have ev : v1 = nI (F i) := by
            rw [e1, e12, nI_clamp (by omega), aw0 hf24, aw0 (by omega), ← hF2, nxv, if_neg hx1, nI_clamp (by omega)]
          subst ev
          refine ⟨fun h2 => yes ((nI_ltI (by omega) (by omega)).mp h2), fun h2 => no (fun z => h2 ((nI_ltI (by omega) (by omega)).mpr z))⟩
        · have ev : v2 = nI (F i) := by
            rw [e2, e12, nI_clamp (by omega), ← hF2, nxv, if_pos hx1, Int32.add_zero]
          subst ev
          refine ⟨fun h2 => yes ((nI_ltI (by omega) (by omega)).mp h2), fun h2 => no (fun z => h2 ((nI_ltI (by omega) (by omega)).mpr z))⟩
      · rw [eat] at h
        have := hG i (by omega) h
        unfold FARn at this
        exact no (by omega)
  exact lp W 0 (by omega)
end
