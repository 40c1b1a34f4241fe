section
variable {d : Nat} {N : ev_Mem}
theorem kX11_worded {n s x lo hi i : Nat} {w : Int64} (h : mdS N n s) (hx : x < 3780) (hh : hi ≤ 9999) (hl : lo ≤ hi) (hw : w = lN (pkL (wdI i)) ∧ okw (wdI i)) : Cl LM (d + 3) mX11_worded [.ref 0, .long w, .int (nI x), .int (nI lo), .int (nI hi)] N (fun r N2 => (∃ f s2, thn (wdR (byN N) n i s) (fun s => nuR (byN N) n lo hi s) = Sum.inl (f, s2) ∧ 1 ≤ f ∧ f ≤ 8 ∧ r = some (.int (nI f)) ∧ mdS N2 n s2 ∧ mfd x (x + 1) N N2) ∨ (∃ v s2, thn (wdR (byN N) n i s) (fun s => nuR (byN N) n lo hi s) = Sum.inr ([v], s2) ∧ (lo ≤ v ∧ v ≤ hi) ∧ r = some (.int 0) ∧ mdS N2 n s2 ∧ mfd x (x + 1) N N2 ∧ N2.1 4 x = nI v)) := by
  have b := md_b h
  have iw : isw N w = tkW (byN N) n s (wdI i) := by rw [hw.1]; exact isw_e b.1 h.2.1 hw.2
  refine Cl_of rfl (Nat.le_of_ble_eq_true rfl) rfl (gX11_worded_0 ?_)
  rw [iw]
  refine ⟨fun z => ?_, fun z => Or.inl ⟨1, s, ?_, by omega, by omega, rfl, h, mfd.rf⟩⟩
  · have hsn := srt_end (b := byN N) (n := n) (s := s) (by rw [tkW_s z]; decide)
    have ew : wdR (byN N) n i s = Sum.inr ([], nxs (byN N) n s) := by unfold wdR; rw [if_pos z]
    refine ⟨_, md_nx (a := x) (c := x) h hsn, fun zr N1 hz => ?_⟩
    obtain ⟨rfl, m1, f1, lt⟩ := hz
    have b1 := mfd_by f1
    refine gX11_worded_14 ⟨_, kX11_figure m1 hx hh hl, fun zr N2 hz => ?_⟩
    rw [b1] at hz
    rcases hz with ⟨f, e, g1, g2, rfl, rfl⟩ | ⟨e, rfl, m2, f2, c2⟩
    · exact gX11_worded_23 (Or.inl ⟨f, _, by simp only [thn, ew, e], g1, g2, rfl, m1, f1.up (Nat.le_refl _) (by omega)⟩)
    · have nn := nuR_1 e
      exact gX11_worded_23 (Or.inr ⟨_, _, by simp only [thn, ew, e]; rfl, ⟨nn.2.2.1, nn.2.2.2.1⟩, rfl, m2, (f1.up (Nat.le_refl _) (by omega)).tr f2, c2⟩)
  · have ew : wdR (byN N) n i s = Sum.inl (1, s) := by unfold wdR; rw [z]; rfl
    simp only [thn, ew]
end
