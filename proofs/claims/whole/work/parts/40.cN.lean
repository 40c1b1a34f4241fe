/-! the model: all words' stiffness now; what stands behind what -/
section
variable {d : Nat} {N : ev_Mem}
def sfr (N N2 : ev_Mem) : Prop := (∀ k, k ≠ 7 → k ≠ 9 → k ≠ 11 → N2.1 k = N.1 k) ∧ ∀ k, k ≠ 8 → N2.2 k = N.2 k
theorem sfr.rf : sfr N N := ⟨fun _ _ _ _ => rfl, fun _ _ => rfl⟩
theorem sfr.tr {N2 N3 : ev_Mem} (h : sfr N N2) (k : sfr N2 N3) : sfr N N3 := ⟨fun i h1 h2 h3 => (k.1 i h1 h2 h3).trans (h.1 i h1 h2 h3), fun i h1 => (k.2 i h1).trans (h.2 i h1)⟩
theorem sfr_nfr {N2 : ev_Mem} (h : nfr N N2) : sfr N N2 := ⟨fun k h1 h2 _ => h.1 k h1 h2, h.2⟩
theorem sfr_wr {j : Nat} {v : Int32} : sfr N (ev_wr N 11 j v) := ⟨fun _ _ _ h => wr_cell h, fun _ _ => rfl⟩
theorem kX11_layStiffs {W : Nat} (h : gN N) (hW : N.1 1 0 = nI W) (hW24 : W ≤ 24) : Cl LM (d + 5) mX11_layStiffs [.ref 0] N (fun r N2 => r = none ∧ sfr N N2 ∧ ∀ w, w < W → N2.1 11 w = sfw N w) := by
  refine Cl_of rfl (Nat.le_of_ble_eq_true rfl) rfl (gX11_layStiffs_0 ?_)
  have lp : ∀ (j i : Nat) (N1 : ev_Mem), i + j = W → sfr N N1 → (∀ w, w < i → N1.1 11 w = sfw N w) → Ev LM (d + 5) mX11_layStiffs 2 [some (.ref 0), some (.int (nI i))] [] N1 (fun r N2 => r = none ∧ sfr N N2 ∧ ∀ w, w < W → N2.1 11 w = sfw N w) := by
    intro j
    induction j with
    | zero =>
      intro i N1 hi hs ha
      obtain rfl : i = W := by omega
      refine gX11_layStiffs_2 ⟨fun _ => ⟨rfl, hs, ha⟩, fun z => absurd ?_ z⟩
      rw [hs.1 1 (by omega) (by omega) (by omega), hW]
      exact nI_le (Nat.le_refl _) (by omega)
    | succ j ih =>
      intro i N1 hi hs ha
      have e1 := hs.1 1 (by omega) (by omega) (by omega)
      have e4 := hs.1 4 (by omega) (by omega) (by omega)
      have hg := gN_cg e1 e4 h
      have hg0 := hg
      obtain ⟨W2, a, b, c, e, f, g, u, p, q⟩ := hg0
      have eW : W2 = W := (nI_eq (by omega) (by omega)).mp (b.symm.trans (by rw [e1]; exact hW))
      subst eW
      have nx : ∀ (N2 : ev_Mem) (v : Int32), sfr N1 N2 → N2.1 11 = N1.1 11 → v = sfw N i → Ev LM (d + 5) mX11_layStiffs 2 [some (.ref 0), some (.int (nI i + 1))] [] (ev_wr N2 11 i v) (fun r N2 => r = none ∧ sfr N N2 ∧ ∀ w, w < W2 → N2.1 11 w = sfw N w) := by
        intro N2 v hs2 h11 hv
        rw [nI_1]
        refine ih (i + 1) _ (by omega) ((hs.tr hs2).tr sfr_wr) (fun w hw => ?_)
        rw [wr_row]
        by_cases ew : w = i
        · subst ew; rw [pk_us, hv]
        · rw [pk_un ew, h11]; exact ha w (by omega)
      refine gX11_layStiffs_2 ⟨fun z => ?_, fun _ => ⟨c i (by omega), e, fun hm => ⟨vp_in_nI (by omega) (by omega), fun M1 e9 => ?_⟩, fun hm => ⟨⟨hg, g 0 (by omega), i, rfl, W2, b, a, by omega⟩, fun M2 hn => ⟨vp_in_nI (by omega) (by omega), fun M3 e9 => ?_⟩⟩⟩⟩
      · rw [b] at z
        exact absurd z (nI_ge (by omega) (by omega))
      · rw [nI_clamp (by omega)] at e9
        rw [e9]
        refine nx N1 _ sfr.rf rfl ?_
        unfold sfw
        rw [← mC_1 e1, if_neg (by rw [hm]; decide)]
      · rw [nI_clamp (by omega)] at e9
        rw [e9]
        refine nx M2 _ (sfr_nfr hn) (hn.1 11 (by omega) (by omega)) ?_
        unfold sfw
        rw [← mC_1 e1, if_pos hm, stN_1 e1 e4, e1]
  exact lp W 0 N (by omega) sfr.rf (fun w hw => absurd hw (by omega))
/-- how much two words one behind the other cost, by their kinds and numbers -/
def bhd (kx ky x y : Int32) : Int32 := if x = y then 3 else if kx = 2 ∧ ky = 2 then 1 else 0
theorem kX11_behind {w v : Nat} (hw : w < 24) (hv : v < 24) : Cl LM (d + 1) mX11_behind [.ref 0, .int (nI w), .int (nI v)] N (ev_R (some (.int (bhd (aw N w 0) (aw N v 0) (nI w) (nI v)))) N) := by
  refine Cl_of rfl (Nat.le_of_ble_eq_true rfl) rfl (gX11_behind_0 ⟨fun h => ⟨awi0 hw, fun h1 => ⟨?_, rfl⟩, fun h1 => ⟨awi0 hv, fun h2 => ⟨?_, rfl⟩, fun h2 => ⟨?_, rfl⟩⟩⟩, fun h => ⟨?_, rfl⟩⟩)
  · rw [aw0 hw] at h1
    rw [bhd, if_neg h, if_neg (fun z => h1 z.1)]
  · rw [aw0 hv] at h2
    rw [bhd, if_neg h, if_neg (fun z => h2 z.2)]
  · rw [aw0 hw] at h1
    rw [aw0 hv] at h2
    rw [bhd, if_neg h, if_pos ⟨h1, h2⟩]
  · rw [bhd, if_pos h]
/-- whether word w can stand at a place of a sentence -/
def atN (N : ev_Mem) (s p w : Nat) : Bool := decide (aw N w 1 = N.1 1 (351 + 6 * s + 1 + p)) && decide (N.1 11 w < 1000000)
theorem kX11_isAt {s p w : Nat} (hs : s < 8) (hp : p < 5) (hw : w < 24) : Cl LM (d + 1) mX11_isAt [.ref 0, .int (nI s), .int (nI p), .int (nI w)] N (ev_R (some (.int (bi (atN N s p w)))) N) := by
  have e1 : (351 : Int32) + 6 * nI s + 1 + nI p = nI (351 + 6 * s + 1 + p) := by
    rw [show (351 : Int32) = nI 351 from rfl, show (6 : Int32) = nI 6 from rfl, pk_mul, nI_add, nI_1, nI_add]
  refine Cl_of rfl (Nat.le_of_ble_eq_true rfl) rfl (gX11_isAt_0 ⟨awi1 hw, by rw [e1]; exact vp_in_nI (by omega) (by omega), fun h => ⟨?_, rfl⟩, fun h => ⟨vp_in_nI hw (by omega), fun h2 => ⟨?_, rfl⟩, fun h2 => ⟨?_, rfl⟩⟩⟩)
  · rw [aw1 hw, e1, nI_clamp (by omega)] at h
    rw [atN, decide_eq_false h]; rfl
  · rw [nI_clamp (by omega)] at h2
    rw [atN, decide_eq_false (p := N.1 11 w < 1000000) (I_nlt.mpr h2), Bool.and_false]; rfl
  · rw [aw1 hw, e1, nI_clamp (by omega)] at h
    rw [nI_clamp (by omega)] at h2
    rw [atN, decide_eq_true h, decide_eq_true (I_nle.mp h2)]; rfl
end
