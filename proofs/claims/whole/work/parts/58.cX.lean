/-! the text whose laws hold -/
section
variable {d : Nat} {M N : ev_Mem}
theorem kX10_ruling (h : okT M) : Cl LX (d + 1) mX10_ruling [.ref 0] M (ev_R (some (tv (M.1 47 3))) M) := by
  obtain ⟨T, hT, e, hr⟩ := h
  refine Cl_of rfl (Nat.le_of_ble_eq_true rfl) rfl (gX10_ruling_0 ⟨⟨T, hT, e, hr⟩, fun z => ⟨?_, rfl⟩, fun z => ?_⟩)
  · rw [e] at z
    rcases hr with q | ⟨t, ht, q⟩
    · rw [q]; rfl
    · rw [(iin_N (by omega)).mpr ⟨t, ht, q⟩] at z; cases z
  · rw [e] at z
    obtain ⟨j, hj, ej⟩ := (iin_N (by omega)).mp z
    rw [ej, nI_clamp (by omega)]
    refine ⟨vp_in_nI (by omega) (by omega), ?_, rfl⟩
    unfold tv
    rw [if_neg (nI_pos (by omega)), nI_clamp (by omega)]
end
