theorem dX11_name_0 : decode cX11_name 0 = .ok (.aload_n 0, 1) := by decide +kernel
theorem dX11_name_1 : decode cX11_name 1 = .ok (.getfield 35, 3) := by decide +kernel
theorem dX11_name_4 : decode cX11_name 4 = .ok (.iconst 0, 1) := by decide +kernel
theorem dX11_name_5 : decode cX11_name 5 = .ok (.aload_n 0, 1) := by decide +kernel
theorem dX11_name_6 : decode cX11_name 6 = .ok (.getfield 7, 3) := by decide +kernel
theorem dX11_name_9 : decode cX11_name 9 = .ok (.bipush 8, 2) := by decide +kernel
theorem dX11_name_11 : decode cX11_name 11 = .ok (.iaload, 1) := by decide +kernel
theorem dX11_name_12 : decode cX11_name 12 = .ok (.iastore, 1) := by decide +kernel
theorem dX11_name_13 : decode cX11_name 13 = .ok (.aload_n 0, 1) := by decide +kernel
theorem dX11_name_14 : decode cX11_name 14 = .ok (.getfield 35, 3) := by decide +kernel
theorem dX11_name_17 : decode cX11_name 17 = .ok (.iconst 1, 1) := by decide +kernel
theorem dX11_name_18 : decode cX11_name 18 = .ok (.aload_n 0, 1) := by decide +kernel
theorem dX11_name_19 : decode cX11_name 19 = .ok (.getfield 7, 3) := by decide +kernel
theorem dX11_name_22 : decode cX11_name 22 = .ok (.bipush 9, 2) := by decide +kernel
theorem dX11_name_24 : decode cX11_name 24 = .ok (.iaload, 1) := by decide +kernel
theorem dX11_name_25 : decode cX11_name 25 = .ok (.invokestatic 312, 3) := by decide +kernel
theorem dX11_name_28 : decode cX11_name 28 = .ok (.iastore, 1) := by decide +kernel
theorem dX11_name_29 : decode cX11_name 29 = .ok (.return_, 1) := by decide +kernel
theorem gX11_name_0 {d : Nat} {M : ev_Mem} {Q : Option Value → ev_Mem → Prop} (h : (∀ M1 : ev_Mem, M1 = ev_wr M 7 0 (M.1 1 8) → (∀ M2 : ev_Mem, M2 = ev_wr M1 7 1 (bc (M1.1 1 9)) → (Q none M2)))) : Ev LM (d + 1) mX11_name 0 [some (.ref 0)] [] M Q := by
  refine ev_aload_n dX11_name_0 rfl ?_
  refine ev_getA dX11_name_1 fl_WithoutEModel_35 lm_0 rfl ?_
  refine ev_iconst (v := 0) dX11_name_4 (by decide) ?_
  refine ev_aload_n dX11_name_5 rfl ?_
  refine ev_getA dX11_name_6 fl_WithoutEModel_7 lm_0 rfl ?_
  refine ev_bipush (v := 8) dX11_name_9 (by decide) ?_
  refine ev_iaN (j := 8) dX11_name_11 lm_1 (by decide) (by decide) ?_
  refine ev_isN (j := 0) dX11_name_12 lm_7 (by decide) (by decide) ?_
  generalize eM1 : ev_wr M 7 0 (M.1 1 8) = M1
  replace h := h M1 eM1.symm
  refine ev_aload_n dX11_name_13 rfl ?_
  refine ev_getA dX11_name_14 fl_WithoutEModel_35 lm_0 rfl ?_
  refine ev_iconst (v := 1) dX11_name_17 (by decide) ?_
  refine ev_aload_n dX11_name_18 rfl ?_
  refine ev_getA dX11_name_19 fl_WithoutEModel_7 lm_0 rfl ?_
  refine ev_bipush (v := 9) dX11_name_22 (by decide) ?_
  refine ev_iaN (j := 9) dX11_name_24 lm_1 (by decide) (by decide) ?_
  refine ev_callS [.int (M1.1 1 9)] dX11_name_25 ml_WithoutEModel_312 rfl (Nat.le_of_ble_eq_true rfl) (kX11_bits) ?_
  rintro zr zM ⟨q1, q2⟩
  rw [q1, q2]
  show Ev LM (d + 1) mX11_name 28 [some (.ref 0)] [(.int (bc (M1.1 1 9))), (.int 1), (.ref 7)] M1 Q
  refine ev_isN (j := 1) dX11_name_28 lm_7 (by decide) (by decide) ?_
  generalize eM2 : ev_wr M1 7 1 (bc (M1.1 1 9)) = M2
  replace h := h M2 eM2.symm
  exact ev_vret dX11_name_29 rfl h
