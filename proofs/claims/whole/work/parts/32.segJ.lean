theorem dX11_stiffOf_0 : decode cX11_stiffOf 0 = .ok (.aload_n 0, 1) := by decide +kernel
theorem dX11_stiffOf_1 : decode cX11_stiffOf 1 = .ok (.invokevirtual 315, 3) := by decide +kernel
theorem dX11_stiffOf_4 : decode cX11_stiffOf 4 = .ok (.aload_n 0, 1) := by decide +kernel
theorem dX11_stiffOf_5 : decode cX11_stiffOf 5 = .ok (.getfield 35, 3) := by decide +kernel
theorem dX11_stiffOf_8 : decode cX11_stiffOf 8 = .ok (.iconst 2, 1) := by decide +kernel
theorem dX11_stiffOf_9 : decode cX11_stiffOf 9 = .ok (.aload_n 0, 1) := by decide +kernel
theorem dX11_stiffOf_10 : decode cX11_stiffOf 10 = .ok (.iload_n 2, 1) := by decide +kernel
theorem dX11_stiffOf_11 : decode cX11_stiffOf 11 = .ok (.iconst 0, 1) := by decide +kernel
theorem dX11_stiffOf_12 : decode cX11_stiffOf 12 = .ok (.invokevirtual 92, 3) := by decide +kernel
theorem dX11_stiffOf_15 : decode cX11_stiffOf 15 = .ok (.iastore, 1) := by decide +kernel
theorem dX11_stiffOf_16 : decode cX11_stiffOf 16 = .ok (.aload_n 0, 1) := by decide +kernel
theorem dX11_stiffOf_17 : decode cX11_stiffOf 17 = .ok (.getfield 35, 3) := by decide +kernel
theorem dX11_stiffOf_20 : decode cX11_stiffOf 20 = .ok (.iconst 3, 1) := by decide +kernel
theorem dX11_stiffOf_21 : decode cX11_stiffOf 21 = .ok (.aload_n 0, 1) := by decide +kernel
theorem dX11_stiffOf_22 : decode cX11_stiffOf 22 = .ok (.iload_n 2, 1) := by decide +kernel
theorem dX11_stiffOf_23 : decode cX11_stiffOf 23 = .ok (.iconst 2, 1) := by decide +kernel
theorem dX11_stiffOf_24 : decode cX11_stiffOf 24 = .ok (.invokevirtual 92, 3) := by decide +kernel
theorem dX11_stiffOf_27 : decode cX11_stiffOf 27 = .ok (.iastore, 1) := by decide +kernel
theorem dX11_stiffOf_28 : decode cX11_stiffOf 28 = .ok (.aload_n 0, 1) := by decide +kernel
theorem dX11_stiffOf_29 : decode cX11_stiffOf 29 = .ok (.getfield 35, 3) := by decide +kernel
theorem dX11_stiffOf_32 : decode cX11_stiffOf 32 = .ok (.iconst 4, 1) := by decide +kernel
theorem dX11_stiffOf_33 : decode cX11_stiffOf 33 = .ok (.aload_n 0, 1) := by decide +kernel
theorem dX11_stiffOf_34 : decode cX11_stiffOf 34 = .ok (.iload_n 2, 1) := by decide +kernel
theorem dX11_stiffOf_35 : decode cX11_stiffOf 35 = .ok (.iconst 3, 1) := by decide +kernel
theorem dX11_stiffOf_36 : decode cX11_stiffOf 36 = .ok (.invokevirtual 92, 3) := by decide +kernel
theorem dX11_stiffOf_39 : decode cX11_stiffOf 39 = .ok (.iastore, 1) := by decide +kernel
theorem dX11_stiffOf_40 : decode cX11_stiffOf 40 = .ok (.aload_n 0, 1) := by decide +kernel
theorem dX11_stiffOf_41 : decode cX11_stiffOf 41 = .ok (.getfield 35, 3) := by decide +kernel
theorem dX11_stiffOf_44 : decode cX11_stiffOf 44 = .ok (.iconst 5, 1) := by decide +kernel
theorem dX11_stiffOf_45 : decode cX11_stiffOf 45 = .ok (.aload_n 0, 1) := by decide +kernel
theorem dX11_stiffOf_46 : decode cX11_stiffOf 46 = .ok (.iload_n 2, 1) := by decide +kernel
theorem dX11_stiffOf_47 : decode cX11_stiffOf 47 = .ok (.invokevirtual 96, 3) := by decide +kernel
theorem dX11_stiffOf_50 : decode cX11_stiffOf 50 = .ok (.iastore, 1) := by decide +kernel
theorem dX11_stiffOf_51 : decode cX11_stiffOf 51 = .ok (.aload_n 0, 1) := by decide +kernel
theorem dX11_stiffOf_52 : decode cX11_stiffOf 52 = .ok (.getfield 35, 3) := by decide +kernel
theorem dX11_stiffOf_55 : decode cX11_stiffOf 55 = .ok (.bipush 6, 2) := by decide +kernel
theorem dX11_stiffOf_57 : decode cX11_stiffOf 57 = .ok (.aload_n 0, 1) := by decide +kernel
theorem dX11_stiffOf_58 : decode cX11_stiffOf 58 = .ok (.iload_n 2, 1) := by decide +kernel
theorem dX11_stiffOf_59 : decode cX11_stiffOf 59 = .ok (.invokevirtual 318, 3) := by decide +kernel
theorem dX11_stiffOf_62 : decode cX11_stiffOf 62 = .ok (.iastore, 1) := by decide +kernel
theorem dX11_stiffOf_63 : decode cX11_stiffOf 63 = .ok (.aload_n 0, 1) := by decide +kernel
theorem dX11_stiffOf_64 : decode cX11_stiffOf 64 = .ok (.iload_n 1, 1) := by decide +kernel
theorem dX11_stiffOf_65 : decode cX11_stiffOf 65 = .ok (.iconst 0, 1) := by decide +kernel
theorem dX11_stiffOf_66 : decode cX11_stiffOf 66 = .ok (.aload_n 0, 1) := by decide +kernel
theorem dX11_stiffOf_67 : decode cX11_stiffOf 67 = .ok (.getfield 35, 3) := by decide +kernel
theorem dX11_stiffOf_70 : decode cX11_stiffOf 70 = .ok (.iconst 3, 1) := by decide +kernel
theorem dX11_stiffOf_71 : decode cX11_stiffOf 71 = .ok (.iaload, 1) := by decide +kernel
theorem dX11_stiffOf_72 : decode cX11_stiffOf 72 = .ok (.aload_n 0, 1) := by decide +kernel
theorem dX11_stiffOf_73 : decode cX11_stiffOf 73 = .ok (.getfield 35, 3) := by decide +kernel
theorem dX11_stiffOf_76 : decode cX11_stiffOf 76 = .ok (.bipush 6, 2) := by decide +kernel
theorem dX11_stiffOf_78 : decode cX11_stiffOf 78 = .ok (.iaload, 1) := by decide +kernel
theorem dX11_stiffOf_79 : decode cX11_stiffOf 79 = .ok (.iadd, 1) := by decide +kernel
theorem dX11_stiffOf_80 : decode cX11_stiffOf 80 = .ok (.bipush 99, 2) := by decide +kernel
theorem dX11_stiffOf_82 : decode cX11_stiffOf 82 = .ok (.invokevirtual 321, 3) := by decide +kernel
theorem dX11_stiffOf_85 : decode cX11_stiffOf 85 = .ok (.ireturn, 1) := by decide +kernel
theorem gX11_stiffOf_0 {d : Nat} {M : ev_Mem} {Q : Option Value → ev_Mem → Prop} {x1 x2 : Int32} (h : (∀ M1 : ev_Mem, M1 = nmM M → ((vp_in (39 + 13 * x2 + (0 : Int32)) 3315) ∧ (∀ M2 : ev_Mem, M2 = ev_wr M1 7 2 (M1.1 1 (39 + 13 * x2 + (0 : Int32)).toNatClampNeg) → ((vp_in (39 + 13 * x2 + (2 : Int32)) 3315) ∧ (∀ M3 : ev_Mem, M3 = ev_wr M2 7 3 (M2.1 1 (39 + 13 * x2 + (2 : Int32)).toNatClampNeg) → ((vp_in (39 + 13 * x2 + (3 : Int32)) 3315) ∧ (∀ M4 : ev_Mem, M4 = ev_wr M3 7 4 (M3.1 1 (39 + 13 * x2 + (3 : Int32)).toNatClampNeg) → ((wm M4 x2) ∧ (∀ M5 : ev_Mem, M5 = ev_wr M4 7 5 (nI (mH M4 x2)) → ((wm M5 x2) ∧ (∀ M6 : ev_Mem, M6 = ev_wr M5 7 6 (mE M5 x2) → ((txk (M6.1 4) (M6.1 7) (usv M6) x1 (0 : Int32)) ∧ (∀ M7 : ev_Mem, mfr M6 M7 → (Q (some (.int (syv (M6.1 4) (M6.1 7) (usv M6) x1 (0 : Int32) ((M6.1 7 3) + (M6.1 7 6)) (99 : Int32)))) M7))))))))))))))) : Ev LM (d + 4) mX11_stiffOf 0 [some (.ref 0), some (.int x1), some (.int x2)] [] M Q := by
  refine ev_aload_n dX11_stiffOf_0 rfl ?_
  refine ev_callV [] dX11_stiffOf_1 ml_WithoutEModel_315 lm_0 rfl rfl (Nat.le_of_ble_eq_true rfl) (kX11_name) ?_
  rintro zr zM ⟨q1, q2⟩
  rw [q1, q2]
  generalize eM1 : nmM M = M1
  replace h := h M1 eM1.symm
  show Ev LM (d + 4) mX11_stiffOf 4 [some (.ref 0), some (.int x1), some (.int x2)] [] M1 Q
  refine ev_aload_n dX11_stiffOf_4 rfl ?_
  refine ev_getA dX11_stiffOf_5 fl_WithoutEModel_35 lm_0 rfl ?_
  refine ev_iconst (v := 2) dX11_stiffOf_8 (by decide) ?_
  refine ev_aload_n dX11_stiffOf_9 rfl ?_
  refine ev_iload_n dX11_stiffOf_10 rfl ?_
  refine ev_iconst (v := 0) dX11_stiffOf_11 (by decide) ?_
  obtain ⟨p1, h⟩ := h
  refine ev_callV [.int x2, .int 0] dX11_stiffOf_12 ml_WithoutEModel_92 lm_0 rfl rfl (Nat.le_of_ble_eq_true rfl) (kX11_get p1) ?_
  rintro zr zM ⟨q1, q2⟩
  rw [q1, q2]
  show Ev LM (d + 4) mX11_stiffOf 15 [some (.ref 0), some (.int x1), some (.int x2)] [(.int (M1.1 1 (39 + 13 * x2 + (0 : Int32)).toNatClampNeg)), (.int 2), (.ref 7)] M1 Q
  refine ev_isN (j := 2) dX11_stiffOf_15 lm_7 (by decide) (by decide) ?_
  generalize eM2 : ev_wr M1 7 2 (M1.1 1 (39 + 13 * x2 + (0 : Int32)).toNatClampNeg) = M2
  replace h := h M2 eM2.symm
  refine ev_aload_n dX11_stiffOf_16 rfl ?_
  refine ev_getA dX11_stiffOf_17 fl_WithoutEModel_35 lm_0 rfl ?_
  refine ev_iconst (v := 3) dX11_stiffOf_20 (by decide) ?_
  refine ev_aload_n dX11_stiffOf_21 rfl ?_
  refine ev_iload_n dX11_stiffOf_22 rfl ?_
  refine ev_iconst (v := 2) dX11_stiffOf_23 (by decide) ?_
  obtain ⟨p1, h⟩ := h
  refine ev_callV [.int x2, .int 2] dX11_stiffOf_24 ml_WithoutEModel_92 lm_0 rfl rfl (Nat.le_of_ble_eq_true rfl) (kX11_get p1) ?_
  rintro zr zM ⟨q1, q2⟩
  rw [q1, q2]
  show Ev LM (d + 4) mX11_stiffOf 27 [some (.ref 0), some (.int x1), some (.int x2)] [(.int (M2.1 1 (39 + 13 * x2 + (2 : Int32)).toNatClampNeg)), (.int 3), (.ref 7)] M2 Q
  refine ev_isN (j := 3) dX11_stiffOf_27 lm_7 (by decide) (by decide) ?_
  generalize eM3 : ev_wr M2 7 3 (M2.1 1 (39 + 13 * x2 + (2 : Int32)).toNatClampNeg) = M3
  replace h := h M3 eM3.symm
  refine ev_aload_n dX11_stiffOf_28 rfl ?_
  refine ev_getA dX11_stiffOf_29 fl_WithoutEModel_35 lm_0 rfl ?_
  refine ev_iconst (v := 4) dX11_stiffOf_32 (by decide) ?_
  refine ev_aload_n dX11_stiffOf_33 rfl ?_
  refine ev_iload_n dX11_stiffOf_34 rfl ?_
  refine ev_iconst (v := 3) dX11_stiffOf_35 (by decide) ?_
  obtain ⟨p1, h⟩ := h
  refine ev_callV [.int x2, .int 3] dX11_stiffOf_36 ml_WithoutEModel_92 lm_0 rfl rfl (Nat.le_of_ble_eq_true rfl) (kX11_get p1) ?_
  rintro zr zM ⟨q1, q2⟩
  rw [q1, q2]
  show Ev LM (d + 4) mX11_stiffOf 39 [some (.ref 0), some (.int x1), some (.int x2)] [(.int (M3.1 1 (39 + 13 * x2 + (3 : Int32)).toNatClampNeg)), (.int 4), (.ref 7)] M3 Q
  refine ev_isN (j := 4) dX11_stiffOf_39 lm_7 (by decide) (by decide) ?_
  generalize eM4 : ev_wr M3 7 4 (M3.1 1 (39 + 13 * x2 + (3 : Int32)).toNatClampNeg) = M4
  replace h := h M4 eM4.symm
  refine ev_aload_n dX11_stiffOf_40 rfl ?_
  refine ev_getA dX11_stiffOf_41 fl_WithoutEModel_35 lm_0 rfl ?_
  refine ev_iconst (v := 5) dX11_stiffOf_44 (by decide) ?_
  refine ev_aload_n dX11_stiffOf_45 rfl ?_
  refine ev_iload_n dX11_stiffOf_46 rfl ?_
  obtain ⟨p1, h⟩ := h
  refine ev_callV [.int x2] dX11_stiffOf_47 ml_WithoutEModel_96 lm_0 rfl rfl (Nat.le_of_ble_eq_true rfl) (kX11_holesOf p1) ?_
  rintro zr zM ⟨q1, q2⟩
  rw [q1, q2]
  show Ev LM (d + 4) mX11_stiffOf 50 [some (.ref 0), some (.int x1), some (.int x2)] [(.int (nI (mH M4 x2))), (.int 5), (.ref 7)] M4 Q
  refine ev_isN (j := 5) dX11_stiffOf_50 lm_7 (by decide) (by decide) ?_
  generalize eM5 : ev_wr M4 7 5 (nI (mH M4 x2)) = M5
  replace h := h M5 eM5.symm
  refine ev_aload_n dX11_stiffOf_51 rfl ?_
  refine ev_getA dX11_stiffOf_52 fl_WithoutEModel_35 lm_0 rfl ?_
  refine ev_bipush (v := 6) dX11_stiffOf_55 (by decide) ?_
  refine ev_aload_n dX11_stiffOf_57 rfl ?_
  refine ev_iload_n dX11_stiffOf_58 rfl ?_
  obtain ⟨p1, h⟩ := h
  refine ev_callV [.int x2] dX11_stiffOf_59 ml_WithoutEModel_318 lm_0 rfl rfl (Nat.le_of_ble_eq_true rfl) (kX11_extraOf p1) ?_
  rintro zr zM ⟨q1, q2⟩
  rw [q1, q2]
  show Ev LM (d + 4) mX11_stiffOf 62 [some (.ref 0), some (.int x1), some (.int x2)] [(.int (mE M5 x2)), (.int 6), (.ref 7)] M5 Q
  refine ev_isN (j := 6) dX11_stiffOf_62 lm_7 (by decide) (by decide) ?_
  generalize eM6 : ev_wr M5 7 6 (mE M5 x2) = M6
  replace h := h M6 eM6.symm
  refine ev_aload_n dX11_stiffOf_63 rfl ?_
  refine ev_iload_n dX11_stiffOf_64 rfl ?_
  refine ev_iconst (v := 0) dX11_stiffOf_65 (by decide) ?_
  refine ev_aload_n dX11_stiffOf_66 rfl ?_
  refine ev_getA dX11_stiffOf_67 fl_WithoutEModel_35 lm_0 rfl ?_
  refine ev_iconst (v := 3) dX11_stiffOf_70 (by decide) ?_
  refine ev_iaN (j := 3) dX11_stiffOf_71 lm_7 (by decide) (by decide) ?_
  refine ev_aload_n dX11_stiffOf_72 rfl ?_
  refine ev_getA dX11_stiffOf_73 fl_WithoutEModel_35 lm_0 rfl ?_
  refine ev_bipush (v := 6) dX11_stiffOf_76 (by decide) ?_
  refine ev_iaN (j := 6) dX11_stiffOf_78 lm_7 (by decide) (by decide) ?_
  refine ev_iadd dX11_stiffOf_79 ?_
  refine ev_bipush (v := 99) dX11_stiffOf_80 (by decide) ?_
  obtain ⟨p1, h⟩ := h
  refine ev_callV [.int x1, .int 0, .int ((M6.1 7 3) + (M6.1 7 6)), .int 99] dX11_stiffOf_82 ml_WithoutEModel_321 lm_0 rfl rfl (Nat.le_of_ble_eq_true rfl) (kX11_says p1) ?_
  rintro zr M7 ⟨q1, q⟩
  rw [q1]
  replace h := h M7 q
  show Ev LM (d + 4) mX11_stiffOf 85 [some (.ref 0), some (.int x1), some (.int x2)] [(.int (syv (M6.1 4) (M6.1 7) (usv M6) x1 (0 : Int32) ((M6.1 7 3) + (M6.1 7 6)) (99 : Int32)))] M7 Q
  exact ev_iret dX11_stiffOf_85 rfl h
theorem dX11_wearsOf_0 : decode cX11_wearsOf 0 = .ok (.aload_n 0, 1) := by decide +kernel
theorem dX11_wearsOf_1 : decode cX11_wearsOf 1 = .ok (.invokevirtual 315, 3) := by decide +kernel
theorem dX11_wearsOf_4 : decode cX11_wearsOf 4 = .ok (.aload_n 0, 1) := by decide +kernel
theorem dX11_wearsOf_5 : decode cX11_wearsOf 5 = .ok (.getfield 35, 3) := by decide +kernel
theorem dX11_wearsOf_8 : decode cX11_wearsOf 8 = .ok (.bipush 7, 2) := by decide +kernel
theorem dX11_wearsOf_10 : decode cX11_wearsOf 10 = .ok (.iload_n 1, 1) := by decide +kernel
theorem dX11_wearsOf_11 : decode cX11_wearsOf 11 = .ok (.iastore, 1) := by decide +kernel
theorem dX11_wearsOf_12 : decode cX11_wearsOf 12 = .ok (.aload_n 0, 1) := by decide +kernel
theorem dX11_wearsOf_13 : decode cX11_wearsOf 13 = .ok (.getfield 35, 3) := by decide +kernel
theorem dX11_wearsOf_16 : decode cX11_wearsOf 16 = .ok (.bipush 8, 2) := by decide +kernel
theorem dX11_wearsOf_18 : decode cX11_wearsOf 18 = .ok (.aload_n 0, 1) := by decide +kernel
theorem dX11_wearsOf_19 : decode cX11_wearsOf 19 = .ok (.getfield 7, 3) := by decide +kernel
theorem dX11_wearsOf_22 : decode cX11_wearsOf 22 = .ok (.bipush 13, 2) := by decide +kernel
theorem dX11_wearsOf_24 : decode cX11_wearsOf 24 = .ok (.iload_n 1, 1) := by decide +kernel
theorem dX11_wearsOf_25 : decode cX11_wearsOf 25 = .ok (.iadd, 1) := by decide +kernel
theorem dX11_wearsOf_26 : decode cX11_wearsOf 26 = .ok (.iaload, 1) := by decide +kernel
theorem dX11_wearsOf_27 : decode cX11_wearsOf 27 = .ok (.iastore, 1) := by decide +kernel
theorem dX11_wearsOf_28 : decode cX11_wearsOf 28 = .ok (.aload_n 0, 1) := by decide +kernel
theorem dX11_wearsOf_29 : decode cX11_wearsOf 29 = .ok (.aload_n 0, 1) := by decide +kernel
theorem dX11_wearsOf_30 : decode cX11_wearsOf 30 = .ok (.getfield 7, 3) := by decide +kernel
theorem dX11_wearsOf_33 : decode cX11_wearsOf 33 = .ok (.iconst 3, 1) := by decide +kernel
theorem dX11_wearsOf_34 : decode cX11_wearsOf 34 = .ok (.iaload, 1) := by decide +kernel
theorem dX11_wearsOf_35 : decode cX11_wearsOf 35 = .ok (.iconst 1, 1) := by decide +kernel
theorem dX11_wearsOf_36 : decode cX11_wearsOf 36 = .ok (.aload_n 0, 1) := by decide +kernel
theorem dX11_wearsOf_37 : decode cX11_wearsOf 37 = .ok (.getfield 35, 3) := by decide +kernel
theorem dX11_wearsOf_40 : decode cX11_wearsOf 40 = .ok (.bipush 8, 2) := by decide +kernel
theorem dX11_wearsOf_42 : decode cX11_wearsOf 42 = .ok (.iaload, 1) := by decide +kernel
theorem dX11_wearsOf_43 : decode cX11_wearsOf 43 = .ok (.bipush 10, 2) := by decide +kernel
theorem dX11_wearsOf_45 : decode cX11_wearsOf 45 = .ok (.idiv, 1) := by decide +kernel
theorem dX11_wearsOf_46 : decode cX11_wearsOf 46 = .ok (.bipush 10, 2) := by decide +kernel
theorem dX11_wearsOf_48 : decode cX11_wearsOf 48 = .ok (.invokevirtual 321, 3) := by decide +kernel
theorem dX11_wearsOf_51 : decode cX11_wearsOf 51 = .ok (.ireturn, 1) := by decide +kernel
theorem gX11_wearsOf_0 {d : Nat} {M : ev_Mem} {Q : Option Value → ev_Mem → Prop} {x1 : Int32} (h : (∀ M1 : ev_Mem, M1 = nmM M → (∀ M2 : ev_Mem, M2 = ev_wr M1 7 7 x1 → (vp_in (13 + x1) 3315 ∧ (∀ M3 : ev_Mem, M3 = ev_wr M2 7 8 (M2.1 1 (13 + x1).toNatClampNeg) → ((txk (M3.1 4) (M3.1 7) (usv M3) (M3.1 1 3) (1 : Int32)) ∧ (∀ M4 : ev_Mem, mfr M3 M4 → (Q (some (.int (syv (M3.1 4) (M3.1 7) (usv M3) (M3.1 1 3) (1 : Int32) ((M3.1 7 8) / 10) (10 : Int32)))) M4)))))))) : Ev LM (d + 4) mX11_wearsOf 0 [some (.ref 0), some (.int x1)] [] M Q := by
  refine ev_aload_n dX11_wearsOf_0 rfl ?_
  refine ev_callV [] dX11_wearsOf_1 ml_WithoutEModel_315 lm_0 rfl rfl (Nat.le_of_ble_eq_true rfl) (kX11_name) ?_
  rintro zr zM ⟨q1, q2⟩
  rw [q1, q2]
  generalize eM1 : nmM M = M1
  replace h := h M1 eM1.symm
  show Ev LM (d + 4) mX11_wearsOf 4 [some (.ref 0), some (.int x1)] [] M1 Q
  refine ev_aload_n dX11_wearsOf_4 rfl ?_
  refine ev_getA dX11_wearsOf_5 fl_WithoutEModel_35 lm_0 rfl ?_
  refine ev_bipush (v := 7) dX11_wearsOf_8 (by decide) ?_
  refine ev_iload_n dX11_wearsOf_10 rfl ?_
  refine ev_isN (j := 7) dX11_wearsOf_11 lm_7 (by decide) (by decide) ?_
  generalize eM2 : ev_wr M1 7 7 x1 = M2
  replace h := h M2 eM2.symm
  refine ev_aload_n dX11_wearsOf_12 rfl ?_
  refine ev_getA dX11_wearsOf_13 fl_WithoutEModel_35 lm_0 rfl ?_
  refine ev_bipush (v := 8) dX11_wearsOf_16 (by decide) ?_
  refine ev_aload_n dX11_wearsOf_18 rfl ?_
  refine ev_getA dX11_wearsOf_19 fl_WithoutEModel_7 lm_0 rfl ?_
  refine ev_bipush (v := 13) dX11_wearsOf_22 (by decide) ?_
  refine ev_iload_n dX11_wearsOf_24 rfl ?_
  refine ev_iadd dX11_wearsOf_25 ?_
  obtain ⟨c, h⟩ := h
  refine ev_iald dX11_wearsOf_26 lm_1 c ?_
  refine ev_isN (j := 8) dX11_wearsOf_27 lm_7 (by decide) (by decide) ?_
  generalize eM3 : ev_wr M2 7 8 (M2.1 1 (13 + x1).toNatClampNeg) = M3
  replace h := h M3 eM3.symm
  refine ev_aload_n dX11_wearsOf_28 rfl ?_
  refine ev_aload_n dX11_wearsOf_29 rfl ?_
  refine ev_getA dX11_wearsOf_30 fl_WithoutEModel_7 lm_0 rfl ?_
  refine ev_iconst (v := 3) dX11_wearsOf_33 (by decide) ?_
  refine ev_iaN (j := 3) dX11_wearsOf_34 lm_1 (by decide) (by decide) ?_
  refine ev_iconst (v := 1) dX11_wearsOf_35 (by decide) ?_
  refine ev_aload_n dX11_wearsOf_36 rfl ?_
  refine ev_getA dX11_wearsOf_37 fl_WithoutEModel_35 lm_0 rfl ?_
  refine ev_bipush (v := 8) dX11_wearsOf_40 (by decide) ?_
  refine ev_iaN (j := 8) dX11_wearsOf_42 lm_7 (by decide) (by decide) ?_
  refine ev_bipush (v := 10) dX11_wearsOf_43 (by decide) ?_
  refine ev_idiv dX11_wearsOf_45 (by decide) ?_
  refine ev_bipush (v := 10) dX11_wearsOf_46 (by decide) ?_
  obtain ⟨p1, h⟩ := h
  refine ev_callV [.int (M3.1 1 3), .int 1, .int ((M3.1 7 8) / 10), .int 10] dX11_wearsOf_48 ml_WithoutEModel_321 lm_0 rfl rfl (Nat.le_of_ble_eq_true rfl) (kX11_says p1) ?_
  rintro zr M4 ⟨q1, q⟩
  rw [q1]
  replace h := h M4 q
  show Ev LM (d + 4) mX11_wearsOf 51 [some (.ref 0), some (.int x1)] [(.int (syv (M3.1 4) (M3.1 7) (usv M3) (M3.1 1 3) (1 : Int32) ((M3.1 7 8) / 10) (10 : Int32)))] M4 Q
  exact ev_iret dX11_wearsOf_51 rfl h
theorem dX11_noticesOf_0 : decode cX11_noticesOf 0 = .ok (.aload_n 0, 1) := by decide +kernel
theorem dX11_noticesOf_1 : decode cX11_noticesOf 1 = .ok (.invokevirtual 315, 3) := by decide +kernel
theorem dX11_noticesOf_4 : decode cX11_noticesOf 4 = .ok (.aload_n 0, 1) := by decide +kernel
theorem dX11_noticesOf_5 : decode cX11_noticesOf 5 = .ok (.getfield 35, 3) := by decide +kernel
theorem dX11_noticesOf_8 : decode cX11_noticesOf 8 = .ok (.bipush 9, 2) := by decide +kernel
theorem dX11_noticesOf_10 : decode cX11_noticesOf 10 = .ok (.iload_n 1, 1) := by decide +kernel
theorem dX11_noticesOf_11 : decode cX11_noticesOf 11 = .ok (.iastore, 1) := by decide +kernel
theorem dX11_noticesOf_12 : decode cX11_noticesOf 12 = .ok (.aload_n 0, 1) := by decide +kernel
theorem dX11_noticesOf_13 : decode cX11_noticesOf 13 = .ok (.getfield 35, 3) := by decide +kernel
theorem dX11_noticesOf_16 : decode cX11_noticesOf 16 = .ok (.bipush 10, 2) := by decide +kernel
theorem dX11_noticesOf_18 : decode cX11_noticesOf 18 = .ok (.iload_n 2, 1) := by decide +kernel
theorem dX11_noticesOf_19 : decode cX11_noticesOf 19 = .ok (.iastore, 1) := by decide +kernel
theorem dX11_noticesOf_20 : decode cX11_noticesOf 20 = .ok (.aload_n 0, 1) := by decide +kernel
theorem dX11_noticesOf_21 : decode cX11_noticesOf 21 = .ok (.getfield 35, 3) := by decide +kernel
theorem dX11_noticesOf_24 : decode cX11_noticesOf 24 = .ok (.bipush 11, 2) := by decide +kernel
theorem dX11_noticesOf_26 : decode cX11_noticesOf 26 = .ok (.iload_n 3, 1) := by decide +kernel
theorem dX11_noticesOf_27 : decode cX11_noticesOf 27 = .ok (.iastore, 1) := by decide +kernel
theorem dX11_noticesOf_28 : decode cX11_noticesOf 28 = .ok (.aload_n 0, 1) := by decide +kernel
theorem dX11_noticesOf_29 : decode cX11_noticesOf 29 = .ok (.aload_n 0, 1) := by decide +kernel
theorem dX11_noticesOf_30 : decode cX11_noticesOf 30 = .ok (.getfield 7, 3) := by decide +kernel
theorem dX11_noticesOf_33 : decode cX11_noticesOf 33 = .ok (.iconst 3, 1) := by decide +kernel
theorem dX11_noticesOf_34 : decode cX11_noticesOf 34 = .ok (.iaload, 1) := by decide +kernel
theorem dX11_noticesOf_35 : decode cX11_noticesOf 35 = .ok (.iconst 2, 1) := by decide +kernel
theorem dX11_noticesOf_36 : decode cX11_noticesOf 36 = .ok (.iload_n 2, 1) := by decide +kernel
theorem dX11_noticesOf_37 : decode cX11_noticesOf 37 = .ok (.iconst 4, 1) := by decide +kernel
theorem dX11_noticesOf_38 : decode cX11_noticesOf 38 = .ok (.idiv, 1) := by decide +kernel
theorem dX11_noticesOf_39 : decode cX11_noticesOf 39 = .ok (.bipush 10, 2) := by decide +kernel
theorem dX11_noticesOf_41 : decode cX11_noticesOf 41 = .ok (.invokevirtual 321, 3) := by decide +kernel
theorem dX11_noticesOf_44 : decode cX11_noticesOf 44 = .ok (.ireturn, 1) := by decide +kernel
theorem gX11_noticesOf_0 {d : Nat} {M : ev_Mem} {Q : Option Value → ev_Mem → Prop} {x1 x2 x3 : Int32} (h : (∀ M1 : ev_Mem, M1 = nmM M → (∀ M2 : ev_Mem, M2 = ev_wr M1 7 9 x1 → (∀ M3 : ev_Mem, M3 = ev_wr M2 7 10 x2 → (∀ M4 : ev_Mem, M4 = ev_wr M3 7 11 x3 → ((txk (M4.1 4) (M4.1 7) (usv M4) (M4.1 1 3) (2 : Int32)) ∧ (∀ M5 : ev_Mem, mfr M4 M5 → (Q (some (.int (syv (M4.1 4) (M4.1 7) (usv M4) (M4.1 1 3) (2 : Int32) (x2 / 4) (10 : Int32)))) M5)))))))) : Ev LM (d + 4) mX11_noticesOf 0 [some (.ref 0), some (.int x1), some (.int x2), some (.int x3)] [] M Q := by
  refine ev_aload_n dX11_noticesOf_0 rfl ?_
  refine ev_callV [] dX11_noticesOf_1 ml_WithoutEModel_315 lm_0 rfl rfl (Nat.le_of_ble_eq_true rfl) (kX11_name) ?_
  rintro zr zM ⟨q1, q2⟩
  rw [q1, q2]
  generalize eM1 : nmM M = M1
  replace h := h M1 eM1.symm
  show Ev LM (d + 4) mX11_noticesOf 4 [some (.ref 0), some (.int x1), some (.int x2), some (.int x3)] [] M1 Q
  refine ev_aload_n dX11_noticesOf_4 rfl ?_
  refine ev_getA dX11_noticesOf_5 fl_WithoutEModel_35 lm_0 rfl ?_
  refine ev_bipush (v := 9) dX11_noticesOf_8 (by decide) ?_
  refine ev_iload_n dX11_noticesOf_10 rfl ?_
  refine ev_isN (j := 9) dX11_noticesOf_11 lm_7 (by decide) (by decide) ?_
  generalize eM2 : ev_wr M1 7 9 x1 = M2
  replace h := h M2 eM2.symm
  refine ev_aload_n dX11_noticesOf_12 rfl ?_
  refine ev_getA dX11_noticesOf_13 fl_WithoutEModel_35 lm_0 rfl ?_
  refine ev_bipush (v := 10) dX11_noticesOf_16 (by decide) ?_
  refine ev_iload_n dX11_noticesOf_18 rfl ?_
  refine ev_isN (j := 10) dX11_noticesOf_19 lm_7 (by decide) (by decide) ?_
  generalize eM3 : ev_wr M2 7 10 x2 = M3
  replace h := h M3 eM3.symm
  refine ev_aload_n dX11_noticesOf_20 rfl ?_
  refine ev_getA dX11_noticesOf_21 fl_WithoutEModel_35 lm_0 rfl ?_
  refine ev_bipush (v := 11) dX11_noticesOf_24 (by decide) ?_
  refine ev_iload_n dX11_noticesOf_26 rfl ?_
  refine ev_isN (j := 11) dX11_noticesOf_27 lm_7 (by decide) (by decide) ?_
  generalize eM4 : ev_wr M3 7 11 x3 = M4
  replace h := h M4 eM4.symm
  refine ev_aload_n dX11_noticesOf_28 rfl ?_
  refine ev_aload_n dX11_noticesOf_29 rfl ?_
  refine ev_getA dX11_noticesOf_30 fl_WithoutEModel_7 lm_0 rfl ?_
  refine ev_iconst (v := 3) dX11_noticesOf_33 (by decide) ?_
  refine ev_iaN (j := 3) dX11_noticesOf_34 lm_1 (by decide) (by decide) ?_
  refine ev_iconst (v := 2) dX11_noticesOf_35 (by decide) ?_
  refine ev_iload_n dX11_noticesOf_36 rfl ?_
  refine ev_iconst (v := 4) dX11_noticesOf_37 (by decide) ?_
  refine ev_idiv dX11_noticesOf_38 (by decide) ?_
  refine ev_bipush (v := 10) dX11_noticesOf_39 (by decide) ?_
  obtain ⟨p1, h⟩ := h
  refine ev_callV [.int (M4.1 1 3), .int 2, .int (x2 / 4), .int 10] dX11_noticesOf_41 ml_WithoutEModel_321 lm_0 rfl rfl (Nat.le_of_ble_eq_true rfl) (kX11_says p1) ?_
  rintro zr M5 ⟨q1, q⟩
  rw [q1]
  replace h := h M5 q
  show Ev LM (d + 4) mX11_noticesOf 44 [some (.ref 0), some (.int x1), some (.int x2), some (.int x3)] [(.int (syv (M4.1 4) (M4.1 7) (usv M4) (M4.1 1 3) (2 : Int32) (x2 / 4) (10 : Int32)))] M5 Q
  exact ev_iret dX11_noticesOf_44 rfl h
