theorem dX9_copyOf_0 : decode cX9_copyOf 0 = .ok (.aload_n 0, 1) := by decide +kernel
theorem dX9_copyOf_1 : decode cX9_copyOf 1 = .ok (.aload_n 1, 1) := by decide +kernel
theorem dX9_copyOf_2 : decode cX9_copyOf 2 = .ok (.getfield 25, 3) := by decide +kernel
theorem dX9_copyOf_5 : decode cX9_copyOf 5 = .ok (.putfield 25, 3) := by decide +kernel
theorem dX9_copyOf_8 : decode cX9_copyOf 8 = .ok (.aload_n 1, 1) := by decide +kernel
theorem dX9_copyOf_9 : decode cX9_copyOf 9 = .ok (.getfield 9, 3) := by decide +kernel
theorem dX9_copyOf_12 : decode cX9_copyOf 12 = .ok (.iconst 0, 1) := by decide +kernel
theorem dX9_copyOf_13 : decode cX9_copyOf 13 = .ok (.aload_n 0, 1) := by decide +kernel
theorem dX9_copyOf_14 : decode cX9_copyOf 14 = .ok (.getfield 9, 3) := by decide +kernel
theorem dX9_copyOf_17 : decode cX9_copyOf 17 = .ok (.iconst 0, 1) := by decide +kernel
theorem dX9_copyOf_18 : decode cX9_copyOf 18 = .ok (.bipush 26, 2) := by decide +kernel
theorem dX9_copyOf_20 : decode cX9_copyOf 20 = .ok (.invokestatic 28, 3) := by decide +kernel
theorem dX9_copyOf_23 : decode cX9_copyOf 23 = .ok (.aload_n 0, 1) := by decide +kernel
theorem dX9_copyOf_24 : decode cX9_copyOf 24 = .ok (.aload_n 1, 1) := by decide +kernel
theorem dX9_copyOf_25 : decode cX9_copyOf 25 = .ok (.getfield 34, 3) := by decide +kernel
theorem dX9_copyOf_28 : decode cX9_copyOf 28 = .ok (.putfield 34, 3) := by decide +kernel
theorem dX9_copyOf_31 : decode cX9_copyOf 31 = .ok (.aload_n 0, 1) := by decide +kernel
theorem dX9_copyOf_32 : decode cX9_copyOf 32 = .ok (.aload_n 1, 1) := by decide +kernel
theorem dX9_copyOf_33 : decode cX9_copyOf 33 = .ok (.getfield 37, 3) := by decide +kernel
theorem dX9_copyOf_36 : decode cX9_copyOf 36 = .ok (.putfield 37, 3) := by decide +kernel
theorem dX9_copyOf_39 : decode cX9_copyOf 39 = .ok (.aload_n 0, 1) := by decide +kernel
theorem dX9_copyOf_40 : decode cX9_copyOf 40 = .ok (.aload_n 1, 1) := by decide +kernel
theorem dX9_copyOf_41 : decode cX9_copyOf 41 = .ok (.getfield 15, 3) := by decide +kernel
theorem dX9_copyOf_44 : decode cX9_copyOf 44 = .ok (.putfield 15, 3) := by decide +kernel
theorem dX9_copyOf_47 : decode cX9_copyOf 47 = .ok (.aload_n 1, 1) := by decide +kernel
theorem dX9_copyOf_48 : decode cX9_copyOf 48 = .ok (.getfield 19, 3) := by decide +kernel
theorem dX9_copyOf_51 : decode cX9_copyOf 51 = .ok (.iconst 0, 1) := by decide +kernel
theorem dX9_copyOf_52 : decode cX9_copyOf 52 = .ok (.aload_n 0, 1) := by decide +kernel
theorem dX9_copyOf_53 : decode cX9_copyOf 53 = .ok (.getfield 19, 3) := by decide +kernel
theorem dX9_copyOf_56 : decode cX9_copyOf 56 = .ok (.iconst 0, 1) := by decide +kernel
theorem dX9_copyOf_57 : decode cX9_copyOf 57 = .ok (.aload_n 0, 1) := by decide +kernel
theorem dX9_copyOf_58 : decode cX9_copyOf 58 = .ok (.getfield 19, 3) := by decide +kernel
theorem dX9_copyOf_61 : decode cX9_copyOf 61 = .ok (.arraylength, 1) := by decide +kernel
theorem dX9_copyOf_62 : decode cX9_copyOf 62 = .ok (.invokestatic 28, 3) := by decide +kernel
theorem dX9_copyOf_65 : decode cX9_copyOf 65 = .ok (.aload_n 0, 1) := by decide +kernel
theorem dX9_copyOf_66 : decode cX9_copyOf 66 = .ok (.aload_n 1, 1) := by decide +kernel
theorem dX9_copyOf_67 : decode cX9_copyOf 67 = .ok (.getfield 40, 3) := by decide +kernel
theorem dX9_copyOf_70 : decode cX9_copyOf 70 = .ok (.putfield 40, 3) := by decide +kernel
theorem dX9_copyOf_73 : decode cX9_copyOf 73 = .ok (.aload_n 1, 1) := by decide +kernel
theorem dX9_copyOf_74 : decode cX9_copyOf 74 = .ok (.getfield 22, 3) := by decide +kernel
theorem dX9_copyOf_77 : decode cX9_copyOf 77 = .ok (.iconst 0, 1) := by decide +kernel
theorem dX9_copyOf_78 : decode cX9_copyOf 78 = .ok (.aload_n 0, 1) := by decide +kernel
theorem dX9_copyOf_79 : decode cX9_copyOf 79 = .ok (.getfield 22, 3) := by decide +kernel
theorem dX9_copyOf_82 : decode cX9_copyOf 82 = .ok (.iconst 0, 1) := by decide +kernel
theorem dX9_copyOf_83 : decode cX9_copyOf 83 = .ok (.aload_n 0, 1) := by decide +kernel
theorem dX9_copyOf_84 : decode cX9_copyOf 84 = .ok (.getfield 22, 3) := by decide +kernel
theorem dX9_copyOf_87 : decode cX9_copyOf 87 = .ok (.arraylength, 1) := by decide +kernel
theorem dX9_copyOf_88 : decode cX9_copyOf 88 = .ok (.invokestatic 28, 3) := by decide +kernel
theorem dX9_copyOf_91 : decode cX9_copyOf 91 = .ok (.aload_n 0, 1) := by decide +kernel
theorem dX9_copyOf_92 : decode cX9_copyOf 92 = .ok (.aload_n 1, 1) := by decide +kernel
theorem dX9_copyOf_93 : decode cX9_copyOf 93 = .ok (.getfield 43, 3) := by decide +kernel
theorem dX9_copyOf_96 : decode cX9_copyOf 96 = .ok (.putfield 43, 3) := by decide +kernel
theorem dX9_copyOf_99 : decode cX9_copyOf 99 = .ok (.aload_n 0, 1) := by decide +kernel
theorem dX9_copyOf_100 : decode cX9_copyOf 100 = .ok (.aload_n 1, 1) := by decide +kernel
theorem dX9_copyOf_101 : decode cX9_copyOf 101 = .ok (.getfield 46, 3) := by decide +kernel
theorem dX9_copyOf_104 : decode cX9_copyOf 104 = .ok (.putfield 46, 3) := by decide +kernel
theorem dX9_copyOf_107 : decode cX9_copyOf 107 = .ok (.return_, 1) := by decide +kernel
theorem gX9_copyOfi_0 {d : Nat} {M : ev_Mem} {Q : Option Value → ev_Mem → Prop} (h : (∀ M1 : ev_Mem, M1 = ev_wr M 100 0 (M.1 43 0) → ((¬ (0 : Int32) < 0 ∧ ¬ (0 : Int32) < 0 ∧ ¬ (26 : Int32) < 0 ∧ (0 : Int32).toNatClampNeg + (26 : Int32).toNatClampNeg ≤ 26 ∧ (0 : Int32).toNatClampNeg + (26 : Int32).toNatClampNeg ≤ 26) ∧ (∀ M2 : ev_Mem, M2 = ev_cp M1 44 101 (0 : Int32).toNatClampNeg (0 : Int32).toNatClampNeg (26 : Int32).toNatClampNeg → (∀ M3 : ev_Mem, M3 = ev_wr M2 100 2 (M2.1 43 2) → (∀ M4 : ev_Mem, M4 = ev_wr M3 100 3 (M3.1 43 3) → (∀ M5 : ev_Mem, M5 = ev_wr M4 100 4 (M4.1 43 4) → ((¬ (0 : Int32) < 0 ∧ ¬ (0 : Int32) < 0 ∧ ¬ (360 : Int32) < 0 ∧ (0 : Int32).toNatClampNeg + (360 : Int32).toNatClampNeg ≤ 360 ∧ (0 : Int32).toNatClampNeg + (360 : Int32).toNatClampNeg ≤ 360) ∧ (∀ M6 : ev_Mem, M6 = ev_cp M5 45 102 (0 : Int32).toNatClampNeg (0 : Int32).toNatClampNeg (360 : Int32).toNatClampNeg → (∀ M7 : ev_Mem, M7 = ev_wr M6 100 6 (M6.1 43 6) → ((¬ (0 : Int32) < 0 ∧ ¬ (0 : Int32) < 0 ∧ ¬ (930 : Int32) < 0 ∧ (0 : Int32).toNatClampNeg + (930 : Int32).toNatClampNeg ≤ 930 ∧ (0 : Int32).toNatClampNeg + (930 : Int32).toNatClampNeg ≤ 930) ∧ (∀ M8 : ev_Mem, M8 = ev_cp M7 46 103 (0 : Int32).toNatClampNeg (0 : Int32).toNatClampNeg (930 : Int32).toNatClampNeg → (∀ M9 : ev_Mem, M9 = ev_wr M8 100 8 (M8.1 43 8) → (∀ M10 : ev_Mem, M10 = ev_wr M9 100 9 (M9.1 43 9) → (Q none M10))))))))))))))) : Ev LX (d + 1) mX9_copyOf 0 [some (.ref 100), some (.ref 43)] [] M Q := by
  refine ev_aload_n dX9_copyOf_0 rfl ?_
  refine ev_aload_n dX9_copyOf_1 rfl ?_
  refine ev_getI dX9_copyOf_2 fl_WithoutE_Typewriter_25 lx_43 rfl ?_
  refine ev_putI dX9_copyOf_5 fp_WithoutE_Typewriter_25 lx_100 rfl rfl rfl ?_
  generalize eM1 : ev_wr M 100 0 (M.1 43 0) = M1
  replace h := h M1 eM1.symm
  refine ev_aload_n dX9_copyOf_8 rfl ?_
  refine ev_getA dX9_copyOf_9 fl_WithoutE_Typewriter_9 lx_43 rfl ?_
  refine ev_iconst (v := 0) dX9_copyOf_12 (by decide) ?_
  refine ev_aload_n dX9_copyOf_13 rfl ?_
  refine ev_getA dX9_copyOf_14 fl_WithoutE_Typewriter_9 lx_100 rfl ?_
  refine ev_iconst (v := 0) dX9_copyOf_17 (by decide) ?_
  refine ev_bipush (v := 26) dX9_copyOf_18 (by decide) ?_
  obtain ⟨⟨c, c2, c3, c4, c5⟩, h⟩ := h
  refine ev_copy dX9_copyOf_20 (cpw cp_WithoutE_Typewriter_28) lx_44 lx_101 (by omega) rfl c c2 c3 c4 c5 ?_
  generalize eM2 : ev_cp M1 44 101 (0 : Int32).toNatClampNeg (0 : Int32).toNatClampNeg (26 : Int32).toNatClampNeg = M2
  replace h := h M2 eM2.symm
  refine ev_aload_n dX9_copyOf_23 rfl ?_
  refine ev_aload_n dX9_copyOf_24 rfl ?_
  refine ev_getI dX9_copyOf_25 fl_WithoutE_Typewriter_34 lx_43 rfl ?_
  refine ev_putI dX9_copyOf_28 fp_WithoutE_Typewriter_34 lx_100 rfl rfl rfl ?_
  generalize eM3 : ev_wr M2 100 2 (M2.1 43 2) = M3
  replace h := h M3 eM3.symm
  refine ev_aload_n dX9_copyOf_31 rfl ?_
  refine ev_aload_n dX9_copyOf_32 rfl ?_
  refine ev_getI dX9_copyOf_33 fl_WithoutE_Typewriter_37 lx_43 rfl ?_
  refine ev_putI dX9_copyOf_36 fp_WithoutE_Typewriter_37 lx_100 rfl rfl rfl ?_
  generalize eM4 : ev_wr M3 100 3 (M3.1 43 3) = M4
  replace h := h M4 eM4.symm
  refine ev_aload_n dX9_copyOf_39 rfl ?_
  refine ev_aload_n dX9_copyOf_40 rfl ?_
  refine ev_getI dX9_copyOf_41 fl_WithoutE_Typewriter_15 lx_43 rfl ?_
  refine ev_putI dX9_copyOf_44 fp_WithoutE_Typewriter_15 lx_100 rfl rfl rfl ?_
  generalize eM5 : ev_wr M4 100 4 (M4.1 43 4) = M5
  replace h := h M5 eM5.symm
  refine ev_aload_n dX9_copyOf_47 rfl ?_
  refine ev_getA dX9_copyOf_48 fl_WithoutE_Typewriter_19 lx_43 rfl ?_
  refine ev_iconst (v := 0) dX9_copyOf_51 (by decide) ?_
  refine ev_aload_n dX9_copyOf_52 rfl ?_
  refine ev_getA dX9_copyOf_53 fl_WithoutE_Typewriter_19 lx_100 rfl ?_
  refine ev_iconst (v := 0) dX9_copyOf_56 (by decide) ?_
  refine ev_aload_n dX9_copyOf_57 rfl ?_
  refine ev_getA dX9_copyOf_58 fl_WithoutE_Typewriter_19 lx_100 rfl ?_
  refine ev_alen (q := 0) (v := 360) dX9_copyOf_61 lx_102 (fun _ => rfl) (by decide) ?_
  obtain ⟨⟨c, c2, c3, c4, c5⟩, h⟩ := h
  refine ev_copy dX9_copyOf_62 (cpw cp_WithoutE_Typewriter_28) lx_45 lx_102 (by omega) rfl c c2 c3 c4 c5 ?_
  generalize eM6 : ev_cp M5 45 102 (0 : Int32).toNatClampNeg (0 : Int32).toNatClampNeg (360 : Int32).toNatClampNeg = M6
  replace h := h M6 eM6.symm
  refine ev_aload_n dX9_copyOf_65 rfl ?_
  refine ev_aload_n dX9_copyOf_66 rfl ?_
  refine ev_getI dX9_copyOf_67 fl_WithoutE_Typewriter_40 lx_43 rfl ?_
  refine ev_putI dX9_copyOf_70 fp_WithoutE_Typewriter_40 lx_100 rfl rfl rfl ?_
  generalize eM7 : ev_wr M6 100 6 (M6.1 43 6) = M7
  replace h := h M7 eM7.symm
  refine ev_aload_n dX9_copyOf_73 rfl ?_
  refine ev_getA dX9_copyOf_74 fl_WithoutE_Typewriter_22 lx_43 rfl ?_
  refine ev_iconst (v := 0) dX9_copyOf_77 (by decide) ?_
  refine ev_aload_n dX9_copyOf_78 rfl ?_
  refine ev_getA dX9_copyOf_79 fl_WithoutE_Typewriter_22 lx_100 rfl ?_
  refine ev_iconst (v := 0) dX9_copyOf_82 (by decide) ?_
  refine ev_aload_n dX9_copyOf_83 rfl ?_
  refine ev_getA dX9_copyOf_84 fl_WithoutE_Typewriter_22 lx_100 rfl ?_
  refine ev_alen (q := 0) (v := 930) dX9_copyOf_87 lx_103 (fun _ => rfl) (by decide) ?_
  obtain ⟨⟨c, c2, c3, c4, c5⟩, h⟩ := h
  refine ev_copy dX9_copyOf_88 (cpw cp_WithoutE_Typewriter_28) lx_46 lx_103 (by omega) rfl c c2 c3 c4 c5 ?_
  generalize eM8 : ev_cp M7 46 103 (0 : Int32).toNatClampNeg (0 : Int32).toNatClampNeg (930 : Int32).toNatClampNeg = M8
  replace h := h M8 eM8.symm
  refine ev_aload_n dX9_copyOf_91 rfl ?_
  refine ev_aload_n dX9_copyOf_92 rfl ?_
  refine ev_getI dX9_copyOf_93 fl_WithoutE_Typewriter_43 lx_43 rfl ?_
  refine ev_putI dX9_copyOf_96 fp_WithoutE_Typewriter_43 lx_100 rfl rfl rfl ?_
  generalize eM9 : ev_wr M8 100 8 (M8.1 43 8) = M9
  replace h := h M9 eM9.symm
  refine ev_aload_n dX9_copyOf_99 rfl ?_
  refine ev_aload_n dX9_copyOf_100 rfl ?_
  refine ev_getI dX9_copyOf_101 fl_WithoutE_Typewriter_46 lx_43 rfl ?_
  refine ev_putI dX9_copyOf_104 fp_WithoutE_Typewriter_46 lx_100 rfl rfl rfl ?_
  generalize eM10 : ev_wr M9 100 9 (M9.1 43 9) = M10
  replace h := h M10 eM10.symm
  exact ev_vret dX9_copyOf_107 rfl h
theorem gX9_copyOfr_0 {d : Nat} {M : ev_Mem} {Q : Option Value → ev_Mem → Prop} (h : (∀ M1 : ev_Mem, M1 = ev_wr M 43 0 (M.1 100 0) → ((¬ (0 : Int32) < 0 ∧ ¬ (0 : Int32) < 0 ∧ ¬ (26 : Int32) < 0 ∧ (0 : Int32).toNatClampNeg + (26 : Int32).toNatClampNeg ≤ 26 ∧ (0 : Int32).toNatClampNeg + (26 : Int32).toNatClampNeg ≤ 26) ∧ (∀ M2 : ev_Mem, M2 = ev_cp M1 101 44 (0 : Int32).toNatClampNeg (0 : Int32).toNatClampNeg (26 : Int32).toNatClampNeg → (∀ M3 : ev_Mem, M3 = ev_wr M2 43 2 (M2.1 100 2) → (∀ M4 : ev_Mem, M4 = ev_wr M3 43 3 (M3.1 100 3) → (∀ M5 : ev_Mem, M5 = ev_wr M4 43 4 (M4.1 100 4) → ((¬ (0 : Int32) < 0 ∧ ¬ (0 : Int32) < 0 ∧ ¬ (360 : Int32) < 0 ∧ (0 : Int32).toNatClampNeg + (360 : Int32).toNatClampNeg ≤ 360 ∧ (0 : Int32).toNatClampNeg + (360 : Int32).toNatClampNeg ≤ 360) ∧ (∀ M6 : ev_Mem, M6 = ev_cp M5 102 45 (0 : Int32).toNatClampNeg (0 : Int32).toNatClampNeg (360 : Int32).toNatClampNeg → (∀ M7 : ev_Mem, M7 = ev_wr M6 43 6 (M6.1 100 6) → ((¬ (0 : Int32) < 0 ∧ ¬ (0 : Int32) < 0 ∧ ¬ (930 : Int32) < 0 ∧ (0 : Int32).toNatClampNeg + (930 : Int32).toNatClampNeg ≤ 930 ∧ (0 : Int32).toNatClampNeg + (930 : Int32).toNatClampNeg ≤ 930) ∧ (∀ M8 : ev_Mem, M8 = ev_cp M7 103 46 (0 : Int32).toNatClampNeg (0 : Int32).toNatClampNeg (930 : Int32).toNatClampNeg → (∀ M9 : ev_Mem, M9 = ev_wr M8 43 8 (M8.1 100 8) → (∀ M10 : ev_Mem, M10 = ev_wr M9 43 9 (M9.1 100 9) → (Q none M10))))))))))))))) : Ev LX (d + 1) mX9_copyOf 0 [some (.ref 43), some (.ref 100)] [] M Q := by
  refine ev_aload_n dX9_copyOf_0 rfl ?_
  refine ev_aload_n dX9_copyOf_1 rfl ?_
  refine ev_getI dX9_copyOf_2 fl_WithoutE_Typewriter_25 lx_100 rfl ?_
  refine ev_putI dX9_copyOf_5 fp_WithoutE_Typewriter_25 lx_43 rfl rfl rfl ?_
  generalize eM1 : ev_wr M 43 0 (M.1 100 0) = M1
  replace h := h M1 eM1.symm
  refine ev_aload_n dX9_copyOf_8 rfl ?_
  refine ev_getA dX9_copyOf_9 fl_WithoutE_Typewriter_9 lx_100 rfl ?_
  refine ev_iconst (v := 0) dX9_copyOf_12 (by decide) ?_
  refine ev_aload_n dX9_copyOf_13 rfl ?_
  refine ev_getA dX9_copyOf_14 fl_WithoutE_Typewriter_9 lx_43 rfl ?_
  refine ev_iconst (v := 0) dX9_copyOf_17 (by decide) ?_
  refine ev_bipush (v := 26) dX9_copyOf_18 (by decide) ?_
  obtain ⟨⟨c, c2, c3, c4, c5⟩, h⟩ := h
  refine ev_copy dX9_copyOf_20 (cpw cp_WithoutE_Typewriter_28) lx_101 lx_44 (by omega) rfl c c2 c3 c4 c5 ?_
  generalize eM2 : ev_cp M1 101 44 (0 : Int32).toNatClampNeg (0 : Int32).toNatClampNeg (26 : Int32).toNatClampNeg = M2
  replace h := h M2 eM2.symm
  refine ev_aload_n dX9_copyOf_23 rfl ?_
  refine ev_aload_n dX9_copyOf_24 rfl ?_
  refine ev_getI dX9_copyOf_25 fl_WithoutE_Typewriter_34 lx_100 rfl ?_
  refine ev_putI dX9_copyOf_28 fp_WithoutE_Typewriter_34 lx_43 rfl rfl rfl ?_
  generalize eM3 : ev_wr M2 43 2 (M2.1 100 2) = M3
  replace h := h M3 eM3.symm
  refine ev_aload_n dX9_copyOf_31 rfl ?_
  refine ev_aload_n dX9_copyOf_32 rfl ?_
  refine ev_getI dX9_copyOf_33 fl_WithoutE_Typewriter_37 lx_100 rfl ?_
  refine ev_putI dX9_copyOf_36 fp_WithoutE_Typewriter_37 lx_43 rfl rfl rfl ?_
  generalize eM4 : ev_wr M3 43 3 (M3.1 100 3) = M4
  replace h := h M4 eM4.symm
  refine ev_aload_n dX9_copyOf_39 rfl ?_
  refine ev_aload_n dX9_copyOf_40 rfl ?_
  refine ev_getI dX9_copyOf_41 fl_WithoutE_Typewriter_15 lx_100 rfl ?_
  refine ev_putI dX9_copyOf_44 fp_WithoutE_Typewriter_15 lx_43 rfl rfl rfl ?_
  generalize eM5 : ev_wr M4 43 4 (M4.1 100 4) = M5
  replace h := h M5 eM5.symm
  refine ev_aload_n dX9_copyOf_47 rfl ?_
  refine ev_getA dX9_copyOf_48 fl_WithoutE_Typewriter_19 lx_100 rfl ?_
  refine ev_iconst (v := 0) dX9_copyOf_51 (by decide) ?_
  refine ev_aload_n dX9_copyOf_52 rfl ?_
  refine ev_getA dX9_copyOf_53 fl_WithoutE_Typewriter_19 lx_43 rfl ?_
  refine ev_iconst (v := 0) dX9_copyOf_56 (by decide) ?_
  refine ev_aload_n dX9_copyOf_57 rfl ?_
  refine ev_getA dX9_copyOf_58 fl_WithoutE_Typewriter_19 lx_43 rfl ?_
  refine ev_alen (q := 0) (v := 360) dX9_copyOf_61 lx_45 (fun _ => rfl) (by decide) ?_
  obtain ⟨⟨c, c2, c3, c4, c5⟩, h⟩ := h
  refine ev_copy dX9_copyOf_62 (cpw cp_WithoutE_Typewriter_28) lx_102 lx_45 (by omega) rfl c c2 c3 c4 c5 ?_
  generalize eM6 : ev_cp M5 102 45 (0 : Int32).toNatClampNeg (0 : Int32).toNatClampNeg (360 : Int32).toNatClampNeg = M6
  replace h := h M6 eM6.symm
  refine ev_aload_n dX9_copyOf_65 rfl ?_
  refine ev_aload_n dX9_copyOf_66 rfl ?_
  refine ev_getI dX9_copyOf_67 fl_WithoutE_Typewriter_40 lx_100 rfl ?_
  refine ev_putI dX9_copyOf_70 fp_WithoutE_Typewriter_40 lx_43 rfl rfl rfl ?_
  generalize eM7 : ev_wr M6 43 6 (M6.1 100 6) = M7
  replace h := h M7 eM7.symm
  refine ev_aload_n dX9_copyOf_73 rfl ?_
  refine ev_getA dX9_copyOf_74 fl_WithoutE_Typewriter_22 lx_100 rfl ?_
  refine ev_iconst (v := 0) dX9_copyOf_77 (by decide) ?_
  refine ev_aload_n dX9_copyOf_78 rfl ?_
  refine ev_getA dX9_copyOf_79 fl_WithoutE_Typewriter_22 lx_43 rfl ?_
  refine ev_iconst (v := 0) dX9_copyOf_82 (by decide) ?_
  refine ev_aload_n dX9_copyOf_83 rfl ?_
  refine ev_getA dX9_copyOf_84 fl_WithoutE_Typewriter_22 lx_43 rfl ?_
  refine ev_alen (q := 0) (v := 930) dX9_copyOf_87 lx_46 (fun _ => rfl) (by decide) ?_
  obtain ⟨⟨c, c2, c3, c4, c5⟩, h⟩ := h
  refine ev_copy dX9_copyOf_88 (cpw cp_WithoutE_Typewriter_28) lx_103 lx_46 (by omega) rfl c c2 c3 c4 c5 ?_
  generalize eM8 : ev_cp M7 103 46 (0 : Int32).toNatClampNeg (0 : Int32).toNatClampNeg (930 : Int32).toNatClampNeg = M8
  replace h := h M8 eM8.symm
  refine ev_aload_n dX9_copyOf_91 rfl ?_
  refine ev_aload_n dX9_copyOf_92 rfl ?_
  refine ev_getI dX9_copyOf_93 fl_WithoutE_Typewriter_43 lx_100 rfl ?_
  refine ev_putI dX9_copyOf_96 fp_WithoutE_Typewriter_43 lx_43 rfl rfl rfl ?_
  generalize eM9 : ev_wr M8 43 8 (M8.1 100 8) = M9
  replace h := h M9 eM9.symm
  refine ev_aload_n dX9_copyOf_99 rfl ?_
  refine ev_aload_n dX9_copyOf_100 rfl ?_
  refine ev_getI dX9_copyOf_101 fl_WithoutE_Typewriter_46 lx_100 rfl ?_
  refine ev_putI dX9_copyOf_104 fp_WithoutE_Typewriter_46 lx_43 rfl rfl rfl ?_
  generalize eM10 : ev_wr M9 43 9 (M9.1 100 9) = M10
  replace h := h M10 eM10.symm
  exact ev_vret dX9_copyOf_107 rfl h
theorem dX3_copyOf_0 : decode cX3_copyOf 0 = .ok (.aload_n 1, 1) := by decide +kernel
theorem dX3_copyOf_1 : decode cX3_copyOf 1 = .ok (.getfield 9, 3) := by decide +kernel
theorem dX3_copyOf_4 : decode cX3_copyOf 4 = .ok (.iconst 0, 1) := by decide +kernel
theorem dX3_copyOf_5 : decode cX3_copyOf 5 = .ok (.aload_n 0, 1) := by decide +kernel
theorem dX3_copyOf_6 : decode cX3_copyOf 6 = .ok (.getfield 9, 3) := by decide +kernel
theorem dX3_copyOf_9 : decode cX3_copyOf 9 = .ok (.iconst 0, 1) := by decide +kernel
theorem dX3_copyOf_10 : decode cX3_copyOf 10 = .ok (.bipush 26, 2) := by decide +kernel
theorem dX3_copyOf_12 : decode cX3_copyOf 12 = .ok (.invokestatic 45, 3) := by decide +kernel
theorem dX3_copyOf_15 : decode cX3_copyOf 15 = .ok (.aload_n 1, 1) := by decide +kernel
theorem dX3_copyOf_16 : decode cX3_copyOf 16 = .ok (.getfield 15, 3) := by decide +kernel
theorem dX3_copyOf_19 : decode cX3_copyOf 19 = .ok (.iconst 0, 1) := by decide +kernel
theorem dX3_copyOf_20 : decode cX3_copyOf 20 = .ok (.aload_n 0, 1) := by decide +kernel
theorem dX3_copyOf_21 : decode cX3_copyOf 21 = .ok (.getfield 15, 3) := by decide +kernel
theorem dX3_copyOf_24 : decode cX3_copyOf 24 = .ok (.iconst 0, 1) := by decide +kernel
theorem dX3_copyOf_25 : decode cX3_copyOf 25 = .ok (.bipush 26, 2) := by decide +kernel
theorem dX3_copyOf_27 : decode cX3_copyOf 27 = .ok (.invokestatic 45, 3) := by decide +kernel
theorem dX3_copyOf_30 : decode cX3_copyOf 30 = .ok (.aload_n 0, 1) := by decide +kernel
theorem dX3_copyOf_31 : decode cX3_copyOf 31 = .ok (.aload_n 1, 1) := by decide +kernel
theorem dX3_copyOf_32 : decode cX3_copyOf 32 = .ok (.getfield 51, 3) := by decide +kernel
theorem dX3_copyOf_35 : decode cX3_copyOf 35 = .ok (.putfield 51, 3) := by decide +kernel
theorem dX3_copyOf_38 : decode cX3_copyOf 38 = .ok (.aload_n 0, 1) := by decide +kernel
theorem dX3_copyOf_39 : decode cX3_copyOf 39 = .ok (.aload_n 1, 1) := by decide +kernel
theorem dX3_copyOf_40 : decode cX3_copyOf 40 = .ok (.getfield 18, 3) := by decide +kernel
theorem dX3_copyOf_43 : decode cX3_copyOf 43 = .ok (.putfield 18, 3) := by decide +kernel
theorem dX3_copyOf_46 : decode cX3_copyOf 46 = .ok (.aload_n 1, 1) := by decide +kernel
theorem dX3_copyOf_47 : decode cX3_copyOf 47 = .ok (.getfield 22, 3) := by decide +kernel
theorem dX3_copyOf_50 : decode cX3_copyOf 50 = .ok (.iconst 0, 1) := by decide +kernel
theorem dX3_copyOf_51 : decode cX3_copyOf 51 = .ok (.aload_n 0, 1) := by decide +kernel
theorem dX3_copyOf_52 : decode cX3_copyOf 52 = .ok (.getfield 22, 3) := by decide +kernel
theorem dX3_copyOf_55 : decode cX3_copyOf 55 = .ok (.iconst 0, 1) := by decide +kernel
theorem dX3_copyOf_56 : decode cX3_copyOf 56 = .ok (.bipush 8, 2) := by decide +kernel
theorem dX3_copyOf_58 : decode cX3_copyOf 58 = .ok (.invokestatic 45, 3) := by decide +kernel
theorem dX3_copyOf_61 : decode cX3_copyOf 61 = .ok (.aload_n 0, 1) := by decide +kernel
theorem dX3_copyOf_62 : decode cX3_copyOf 62 = .ok (.aload_n 1, 1) := by decide +kernel
theorem dX3_copyOf_63 : decode cX3_copyOf 63 = .ok (.getfield 54, 3) := by decide +kernel
theorem dX3_copyOf_66 : decode cX3_copyOf 66 = .ok (.putfield 54, 3) := by decide +kernel
theorem dX3_copyOf_69 : decode cX3_copyOf 69 = .ok (.iconst 0, 1) := by decide +kernel
theorem dX3_copyOf_70 : decode cX3_copyOf 70 = .ok (.istore_n 2, 1) := by decide +kernel
theorem dX3_copyOf_71 : decode cX3_copyOf 71 = .ok (.iload_n 2, 1) := by decide +kernel
theorem dX3_copyOf_72 : decode cX3_copyOf 72 = .ok (.iconst 5, 1) := by decide +kernel
theorem dX3_copyOf_73 : decode cX3_copyOf 73 = .ok (.if_icmp .ge 28, 3) := by decide +kernel
theorem dX3_copyOf_76 : decode cX3_copyOf 76 = .ok (.aload_n 1, 1) := by decide +kernel
theorem dX3_copyOf_77 : decode cX3_copyOf 77 = .ok (.getfield 27, 3) := by decide +kernel
theorem dX3_copyOf_80 : decode cX3_copyOf 80 = .ok (.iload_n 2, 1) := by decide +kernel
theorem dX3_copyOf_81 : decode cX3_copyOf 81 = .ok (.aaload, 1) := by decide +kernel
theorem dX3_copyOf_82 : decode cX3_copyOf 82 = .ok (.iconst 0, 1) := by decide +kernel
theorem dX3_copyOf_83 : decode cX3_copyOf 83 = .ok (.aload_n 0, 1) := by decide +kernel
theorem dX3_copyOf_84 : decode cX3_copyOf 84 = .ok (.getfield 27, 3) := by decide +kernel
theorem dX3_copyOf_87 : decode cX3_copyOf 87 = .ok (.iload_n 2, 1) := by decide +kernel
theorem dX3_copyOf_88 : decode cX3_copyOf 88 = .ok (.aaload, 1) := by decide +kernel
theorem dX3_copyOf_89 : decode cX3_copyOf 89 = .ok (.iconst 0, 1) := by decide +kernel
theorem dX3_copyOf_90 : decode cX3_copyOf 90 = .ok (.bipush 9, 2) := by decide +kernel
theorem dX3_copyOf_92 : decode cX3_copyOf 92 = .ok (.invokestatic 45, 3) := by decide +kernel
theorem dX3_copyOf_95 : decode cX3_copyOf 95 = .ok (.iinc 2 1, 3) := by decide +kernel
theorem dX3_copyOf_98 : decode cX3_copyOf 98 = .ok (.goto (-27), 3) := by decide +kernel
theorem dX3_copyOf_101 : decode cX3_copyOf 101 = .ok (.aload_n 1, 1) := by decide +kernel
theorem dX3_copyOf_102 : decode cX3_copyOf 102 = .ok (.getfield 30, 3) := by decide +kernel
theorem dX3_copyOf_105 : decode cX3_copyOf 105 = .ok (.iconst 0, 1) := by decide +kernel
theorem dX3_copyOf_106 : decode cX3_copyOf 106 = .ok (.aload_n 0, 1) := by decide +kernel
theorem dX3_copyOf_107 : decode cX3_copyOf 107 = .ok (.getfield 30, 3) := by decide +kernel
theorem dX3_copyOf_110 : decode cX3_copyOf 110 = .ok (.iconst 0, 1) := by decide +kernel
theorem dX3_copyOf_111 : decode cX3_copyOf 111 = .ok (.iconst 5, 1) := by decide +kernel
theorem dX3_copyOf_112 : decode cX3_copyOf 112 = .ok (.invokestatic 45, 3) := by decide +kernel
theorem dX3_copyOf_115 : decode cX3_copyOf 115 = .ok (.aload_n 0, 1) := by decide +kernel
theorem dX3_copyOf_116 : decode cX3_copyOf 116 = .ok (.aload_n 1, 1) := by decide +kernel
theorem dX3_copyOf_117 : decode cX3_copyOf 117 = .ok (.getfield 57, 3) := by decide +kernel
theorem dX3_copyOf_120 : decode cX3_copyOf 120 = .ok (.putfield 57, 3) := by decide +kernel
theorem dX3_copyOf_123 : decode cX3_copyOf 123 = .ok (.aload_n 1, 1) := by decide +kernel
theorem dX3_copyOf_124 : decode cX3_copyOf 124 = .ok (.getfield 33, 3) := by decide +kernel
theorem dX3_copyOf_127 : decode cX3_copyOf 127 = .ok (.iconst 0, 1) := by decide +kernel
theorem dX3_copyOf_128 : decode cX3_copyOf 128 = .ok (.aload_n 0, 1) := by decide +kernel
theorem dX3_copyOf_129 : decode cX3_copyOf 129 = .ok (.getfield 33, 3) := by decide +kernel
theorem dX3_copyOf_132 : decode cX3_copyOf 132 = .ok (.iconst 0, 1) := by decide +kernel
theorem dX3_copyOf_133 : decode cX3_copyOf 133 = .ok (.bipush 8, 2) := by decide +kernel
theorem dX3_copyOf_135 : decode cX3_copyOf 135 = .ok (.invokestatic 45, 3) := by decide +kernel
theorem dX3_copyOf_138 : decode cX3_copyOf 138 = .ok (.aload_n 1, 1) := by decide +kernel
theorem dX3_copyOf_139 : decode cX3_copyOf 139 = .ok (.getfield 36, 3) := by decide +kernel
theorem dX3_copyOf_142 : decode cX3_copyOf 142 = .ok (.iconst 0, 1) := by decide +kernel
theorem dX3_copyOf_143 : decode cX3_copyOf 143 = .ok (.aload_n 0, 1) := by decide +kernel
theorem dX3_copyOf_144 : decode cX3_copyOf 144 = .ok (.getfield 36, 3) := by decide +kernel
theorem dX3_copyOf_147 : decode cX3_copyOf 147 = .ok (.iconst 0, 1) := by decide +kernel
theorem dX3_copyOf_148 : decode cX3_copyOf 148 = .ok (.bipush 8, 2) := by decide +kernel
theorem dX3_copyOf_150 : decode cX3_copyOf 150 = .ok (.invokestatic 45, 3) := by decide +kernel
theorem dX3_copyOf_153 : decode cX3_copyOf 153 = .ok (.aload_n 0, 1) := by decide +kernel
theorem dX3_copyOf_154 : decode cX3_copyOf 154 = .ok (.aload_n 1, 1) := by decide +kernel
theorem dX3_copyOf_155 : decode cX3_copyOf 155 = .ok (.getfield 60, 3) := by decide +kernel
theorem dX3_copyOf_158 : decode cX3_copyOf 158 = .ok (.putfield 60, 3) := by decide +kernel
theorem dX3_copyOf_161 : decode cX3_copyOf 161 = .ok (.return_, 1) := by decide +kernel
theorem gX3_copyOfi_0 {d : Nat} {M : ev_Mem} {Q : Option Value → ev_Mem → Prop} (h : ((¬ (0 : Int32) < 0 ∧ ¬ (0 : Int32) < 0 ∧ ¬ (26 : Int32) < 0 ∧ (0 : Int32).toNatClampNeg + (26 : Int32).toNatClampNeg ≤ 26 ∧ (0 : Int32).toNatClampNeg + (26 : Int32).toNatClampNeg ≤ 26) ∧ (∀ M1 : ev_Mem, M1 = ev_cp M 48 105 (0 : Int32).toNatClampNeg (0 : Int32).toNatClampNeg (26 : Int32).toNatClampNeg → ((¬ (0 : Int32) < 0 ∧ ¬ (0 : Int32) < 0 ∧ ¬ (26 : Int32) < 0 ∧ (0 : Int32).toNatClampNeg + (26 : Int32).toNatClampNeg ≤ 26 ∧ (0 : Int32).toNatClampNeg + (26 : Int32).toNatClampNeg ≤ 26) ∧ (∀ M2 : ev_Mem, M2 = ev_cp M1 49 106 (0 : Int32).toNatClampNeg (0 : Int32).toNatClampNeg (26 : Int32).toNatClampNeg → (∀ M3 : ev_Mem, M3 = ev_wr M2 104 2 (M2.1 47 2) → (∀ M4 : ev_Mem, M4 = ev_wr M3 104 3 (M3.1 47 3) → ((¬ (0 : Int32) < 0 ∧ ¬ (0 : Int32) < 0 ∧ ¬ (8 : Int32) < 0 ∧ (0 : Int32).toNatClampNeg + (8 : Int32).toNatClampNeg ≤ 8 ∧ (0 : Int32).toNatClampNeg + (8 : Int32).toNatClampNeg ≤ 8) ∧ (∀ M5 : ev_Mem, M5 = ev_cp M4 50 107 (0 : Int32).toNatClampNeg (0 : Int32).toNatClampNeg (8 : Int32).toNatClampNeg → (∀ M6 : ev_Mem, M6 = ev_wr M5 104 5 (M5.1 47 5) → (Ev LX (d + 1) mX3_copyOf 71 [some (.ref 104), some (.ref 47), some (.int 0)] [] M6 Q))))))))))) : Ev LX (d + 1) mX3_copyOf 0 [some (.ref 104), some (.ref 47), none] [] M Q := by
  refine ev_aload_n dX3_copyOf_0 rfl ?_
  refine ev_getA dX3_copyOf_1 fl_WithoutE_Notes_9 lx_47 rfl ?_
  refine ev_iconst (v := 0) dX3_copyOf_4 (by decide) ?_
  refine ev_aload_n dX3_copyOf_5 rfl ?_
  refine ev_getA dX3_copyOf_6 fl_WithoutE_Notes_9 lx_104 rfl ?_
  refine ev_iconst (v := 0) dX3_copyOf_9 (by decide) ?_
  refine ev_bipush (v := 26) dX3_copyOf_10 (by decide) ?_
  obtain ⟨⟨c, c2, c3, c4, c5⟩, h⟩ := h
  refine ev_copy dX3_copyOf_12 (cpw cp_WithoutE_Notes_45) lx_48 lx_105 (by omega) rfl c c2 c3 c4 c5 ?_
  generalize eM1 : ev_cp M 48 105 (0 : Int32).toNatClampNeg (0 : Int32).toNatClampNeg (26 : Int32).toNatClampNeg = M1
  replace h := h M1 eM1.symm
  refine ev_aload_n dX3_copyOf_15 rfl ?_
  refine ev_getA dX3_copyOf_16 fl_WithoutE_Notes_15 lx_47 rfl ?_
  refine ev_iconst (v := 0) dX3_copyOf_19 (by decide) ?_
  refine ev_aload_n dX3_copyOf_20 rfl ?_
  refine ev_getA dX3_copyOf_21 fl_WithoutE_Notes_15 lx_104 rfl ?_
  refine ev_iconst (v := 0) dX3_copyOf_24 (by decide) ?_
  refine ev_bipush (v := 26) dX3_copyOf_25 (by decide) ?_
  obtain ⟨⟨c, c2, c3, c4, c5⟩, h⟩ := h
  refine ev_copy dX3_copyOf_27 (cpw cp_WithoutE_Notes_45) lx_49 lx_106 (by omega) rfl c c2 c3 c4 c5 ?_
  generalize eM2 : ev_cp M1 49 106 (0 : Int32).toNatClampNeg (0 : Int32).toNatClampNeg (26 : Int32).toNatClampNeg = M2
  replace h := h M2 eM2.symm
  refine ev_aload_n dX3_copyOf_30 rfl ?_
  refine ev_aload_n dX3_copyOf_31 rfl ?_
  refine ev_getI dX3_copyOf_32 fl_WithoutE_Notes_51 lx_47 rfl ?_
  refine ev_putI dX3_copyOf_35 fp_WithoutE_Notes_51 lx_104 rfl rfl rfl ?_
  generalize eM3 : ev_wr M2 104 2 (M2.1 47 2) = M3
  replace h := h M3 eM3.symm
  refine ev_aload_n dX3_copyOf_38 rfl ?_
  refine ev_aload_n dX3_copyOf_39 rfl ?_
  refine ev_getI dX3_copyOf_40 fl_WithoutE_Notes_18 lx_47 rfl ?_
  refine ev_putI dX3_copyOf_43 fp_WithoutE_Notes_18 lx_104 rfl rfl rfl ?_
  generalize eM4 : ev_wr M3 104 3 (M3.1 47 3) = M4
  replace h := h M4 eM4.symm
  refine ev_aload_n dX3_copyOf_46 rfl ?_
  refine ev_getA dX3_copyOf_47 fl_WithoutE_Notes_22 lx_47 rfl ?_
  refine ev_iconst (v := 0) dX3_copyOf_50 (by decide) ?_
  refine ev_aload_n dX3_copyOf_51 rfl ?_
  refine ev_getA dX3_copyOf_52 fl_WithoutE_Notes_22 lx_104 rfl ?_
  refine ev_iconst (v := 0) dX3_copyOf_55 (by decide) ?_
  refine ev_bipush (v := 8) dX3_copyOf_56 (by decide) ?_
  obtain ⟨⟨c, c2, c3, c4, c5⟩, h⟩ := h
  refine ev_copy dX3_copyOf_58 (cpw cp_WithoutE_Notes_45) lx_50 lx_107 (by omega) rfl c c2 c3 c4 c5 ?_
  generalize eM5 : ev_cp M4 50 107 (0 : Int32).toNatClampNeg (0 : Int32).toNatClampNeg (8 : Int32).toNatClampNeg = M5
  replace h := h M5 eM5.symm
  refine ev_aload_n dX3_copyOf_61 rfl ?_
  refine ev_aload_n dX3_copyOf_62 rfl ?_
  refine ev_getI dX3_copyOf_63 fl_WithoutE_Notes_54 lx_47 rfl ?_
  refine ev_putI dX3_copyOf_66 fp_WithoutE_Notes_54 lx_104 rfl rfl rfl ?_
  generalize eM6 : ev_wr M5 104 5 (M5.1 47 5) = M6
  replace h := h M6 eM6.symm
  refine ev_iconst (v := 0) dX3_copyOf_69 (by decide) ?_
  refine ev_istore_n (ls2 := [some (.ref 104), some (.ref 47), some (.int 0)]) dX3_copyOf_70 (Nat.le_of_ble_eq_true rfl) rfl ?_
  exact h
theorem gX3_copyOfi_71 {d : Nat} {M : ev_Mem} {Q : Option Value → ev_Mem → Prop} {x2 : Int32} (h : (((5 ≤ x2) → ((¬ (0 : Int32) < 0 ∧ ¬ (0 : Int32) < 0 ∧ ¬ (5 : Int32) < 0 ∧ (0 : Int32).toNatClampNeg + (5 : Int32).toNatClampNeg ≤ 5 ∧ (0 : Int32).toNatClampNeg + (5 : Int32).toNatClampNeg ≤ 5) ∧ (∀ M1 : ev_Mem, M1 = ev_cp M 57 114 (0 : Int32).toNatClampNeg (0 : Int32).toNatClampNeg (5 : Int32).toNatClampNeg → (∀ M2 : ev_Mem, M2 = ev_wr M1 104 8 (M1.1 47 8) → ((¬ (0 : Int32) < 0 ∧ ¬ (0 : Int32) < 0 ∧ ¬ (8 : Int32) < 0 ∧ (0 : Int32).toNatClampNeg + (8 : Int32).toNatClampNeg ≤ 8 ∧ (0 : Int32).toNatClampNeg + (8 : Int32).toNatClampNeg ≤ 8) ∧ (∀ M3 : ev_Mem, M3 = ev_cp M2 58 115 (0 : Int32).toNatClampNeg (0 : Int32).toNatClampNeg (8 : Int32).toNatClampNeg → ((¬ (0 : Int32) < 0 ∧ ¬ (0 : Int32) < 0 ∧ ¬ (8 : Int32) < 0 ∧ (0 : Int32).toNatClampNeg + (8 : Int32).toNatClampNeg ≤ 8 ∧ (0 : Int32).toNatClampNeg + (8 : Int32).toNatClampNeg ≤ 8) ∧ (∀ M4 : ev_Mem, M4 = ev_cp M3 59 116 (0 : Int32).toNatClampNeg (0 : Int32).toNatClampNeg (8 : Int32).toNatClampNeg → (∀ M5 : ev_Mem, M5 = ev_wr M4 104 11 (M4.1 47 11) → (Q none M5)))))))))) ∧ ((¬ 5 ≤ x2) → (vp_in x2 5 ∧ (vp_in x2 5 ∧ ((¬ (0 : Int32) < 0 ∧ ¬ (0 : Int32) < 0 ∧ ¬ (9 : Int32) < 0 ∧ (0 : Int32).toNatClampNeg + (9 : Int32).toNatClampNeg ≤ 9 ∧ (0 : Int32).toNatClampNeg + (9 : Int32).toNatClampNeg ≤ 9) ∧ (∀ M6 : ev_Mem, M6 = ev_cp M (52 + x2.toNatClampNeg) (109 + x2.toNatClampNeg) (0 : Int32).toNatClampNeg (0 : Int32).toNatClampNeg (9 : Int32).toNatClampNeg → (Ev LX (d + 1) mX3_copyOf 71 [some (.ref 104), some (.ref 47), some (.int (x2 + 1))] [] M6 Q)))))))) : Ev LX (d + 1) mX3_copyOf 71 [some (.ref 104), some (.ref 47), some (.int x2)] [] M Q := by
  refine ev_iload_n dX3_copyOf_71 rfl ?_
  refine ev_iconst (v := 5) dX3_copyOf_72 (by decide) ?_
  refine ev_icmp_ge (tgt := 101) dX3_copyOf_73 (by decide) (fun c => ?_) (fun c => ?_)
  · replace h := h.1 c
    refine ev_aload_n dX3_copyOf_101 rfl ?_
    refine ev_getA dX3_copyOf_102 fl_WithoutE_Notes_30 lx_47 rfl ?_
    refine ev_iconst (v := 0) dX3_copyOf_105 (by decide) ?_
    refine ev_aload_n dX3_copyOf_106 rfl ?_
    refine ev_getA dX3_copyOf_107 fl_WithoutE_Notes_30 lx_104 rfl ?_
    refine ev_iconst (v := 0) dX3_copyOf_110 (by decide) ?_
    refine ev_iconst (v := 5) dX3_copyOf_111 (by decide) ?_
    obtain ⟨⟨c, c2, c3, c4, c5⟩, h⟩ := h
    refine ev_copy dX3_copyOf_112 (cpw cp_WithoutE_Notes_45) lx_57 lx_114 (by omega) rfl c c2 c3 c4 c5 ?_
    generalize eM1 : ev_cp M 57 114 (0 : Int32).toNatClampNeg (0 : Int32).toNatClampNeg (5 : Int32).toNatClampNeg = M1
    replace h := h M1 eM1.symm
    refine ev_aload_n dX3_copyOf_115 rfl ?_
    refine ev_aload_n dX3_copyOf_116 rfl ?_
    refine ev_getI dX3_copyOf_117 fl_WithoutE_Notes_57 lx_47 rfl ?_
    refine ev_putI dX3_copyOf_120 fp_WithoutE_Notes_57 lx_104 rfl rfl rfl ?_
    generalize eM2 : ev_wr M1 104 8 (M1.1 47 8) = M2
    replace h := h M2 eM2.symm
    refine ev_aload_n dX3_copyOf_123 rfl ?_
    refine ev_getA dX3_copyOf_124 fl_WithoutE_Notes_33 lx_47 rfl ?_
    refine ev_iconst (v := 0) dX3_copyOf_127 (by decide) ?_
    refine ev_aload_n dX3_copyOf_128 rfl ?_
    refine ev_getA dX3_copyOf_129 fl_WithoutE_Notes_33 lx_104 rfl ?_
    refine ev_iconst (v := 0) dX3_copyOf_132 (by decide) ?_
    refine ev_bipush (v := 8) dX3_copyOf_133 (by decide) ?_
    obtain ⟨⟨c, c2, c3, c4, c5⟩, h⟩ := h
    refine ev_copy dX3_copyOf_135 (cpw cp_WithoutE_Notes_45) lx_58 lx_115 (by omega) rfl c c2 c3 c4 c5 ?_
    generalize eM3 : ev_cp M2 58 115 (0 : Int32).toNatClampNeg (0 : Int32).toNatClampNeg (8 : Int32).toNatClampNeg = M3
    replace h := h M3 eM3.symm
    refine ev_aload_n dX3_copyOf_138 rfl ?_
    refine ev_getA dX3_copyOf_139 fl_WithoutE_Notes_36 lx_47 rfl ?_
    refine ev_iconst (v := 0) dX3_copyOf_142 (by decide) ?_
    refine ev_aload_n dX3_copyOf_143 rfl ?_
    refine ev_getA dX3_copyOf_144 fl_WithoutE_Notes_36 lx_104 rfl ?_
    refine ev_iconst (v := 0) dX3_copyOf_147 (by decide) ?_
    refine ev_bipush (v := 8) dX3_copyOf_148 (by decide) ?_
    obtain ⟨⟨c, c2, c3, c4, c5⟩, h⟩ := h
    refine ev_copy dX3_copyOf_150 (cpw cp_WithoutE_Notes_45) lx_59 lx_116 (by omega) rfl c c2 c3 c4 c5 ?_
    generalize eM4 : ev_cp M3 59 116 (0 : Int32).toNatClampNeg (0 : Int32).toNatClampNeg (8 : Int32).toNatClampNeg = M4
    replace h := h M4 eM4.symm
    refine ev_aload_n dX3_copyOf_153 rfl ?_
    refine ev_aload_n dX3_copyOf_154 rfl ?_
    refine ev_getI dX3_copyOf_155 fl_WithoutE_Notes_60 lx_47 rfl ?_
    refine ev_putI dX3_copyOf_158 fp_WithoutE_Notes_60 lx_104 rfl rfl rfl ?_
    generalize eM5 : ev_wr M4 104 11 (M4.1 47 11) = M5
    replace h := h M5 eM5.symm
    exact ev_vret dX3_copyOf_161 rfl h
  · replace h := h.2 c
    refine ev_aload_n dX3_copyOf_76 rfl ?_
    refine ev_getA dX3_copyOf_77 fl_WithoutE_Notes_27 lx_47 rfl ?_
    refine ev_iload_n dX3_copyOf_80 rfl ?_
    obtain ⟨b1, h⟩ := h
    refine ev_aald dX3_copyOf_81 lx_51 (fun _ => rfl) rfl b1 ?_
    refine ev_iconst (v := 0) dX3_copyOf_82 (by decide) ?_
    refine ev_aload_n dX3_copyOf_83 rfl ?_
    refine ev_getA dX3_copyOf_84 fl_WithoutE_Notes_27 lx_104 rfl ?_
    refine ev_iload_n dX3_copyOf_87 rfl ?_
    obtain ⟨b2, h⟩ := h
    refine ev_aald dX3_copyOf_88 lx_108 (fun _ => rfl) rfl b2 ?_
    refine ev_iconst (v := 0) dX3_copyOf_89 (by decide) ?_
    refine ev_bipush (v := 9) dX3_copyOf_90 (by decide) ?_
    obtain ⟨⟨c, c2, c3, c4, c5⟩, h⟩ := h
    refine ev_copy dX3_copyOf_92 (cpw cp_WithoutE_Notes_45) (lx_re (ev_lt b1)) (lx_rk (ev_lt b2)) (by omega) rfl c c2 c3 c4 c5 ?_
    generalize eM6 : ev_cp M (52 + x2.toNatClampNeg) (109 + x2.toNatClampNeg) (0 : Int32).toNatClampNeg (0 : Int32).toNatClampNeg (9 : Int32).toNatClampNeg = M6
    replace h := h M6 eM6.symm
    refine ev_iinc (v := x2 + 1) (ls2 := [some (.ref 104), some (.ref 47), some (.int (x2 + 1))]) dX3_copyOf_95 rfl rfl rfl ?_
    refine ev_goto (tgt := 71) dX3_copyOf_98 (by decide) ?_
    exact h
theorem gX3_copyOfr_0 {d : Nat} {M : ev_Mem} {Q : Option Value → ev_Mem → Prop} (h : ((¬ (0 : Int32) < 0 ∧ ¬ (0 : Int32) < 0 ∧ ¬ (26 : Int32) < 0 ∧ (0 : Int32).toNatClampNeg + (26 : Int32).toNatClampNeg ≤ 26 ∧ (0 : Int32).toNatClampNeg + (26 : Int32).toNatClampNeg ≤ 26) ∧ (∀ M1 : ev_Mem, M1 = ev_cp M 105 48 (0 : Int32).toNatClampNeg (0 : Int32).toNatClampNeg (26 : Int32).toNatClampNeg → ((¬ (0 : Int32) < 0 ∧ ¬ (0 : Int32) < 0 ∧ ¬ (26 : Int32) < 0 ∧ (0 : Int32).toNatClampNeg + (26 : Int32).toNatClampNeg ≤ 26 ∧ (0 : Int32).toNatClampNeg + (26 : Int32).toNatClampNeg ≤ 26) ∧ (∀ M2 : ev_Mem, M2 = ev_cp M1 106 49 (0 : Int32).toNatClampNeg (0 : Int32).toNatClampNeg (26 : Int32).toNatClampNeg → (∀ M3 : ev_Mem, M3 = ev_wr M2 47 2 (M2.1 104 2) → (∀ M4 : ev_Mem, M4 = ev_wr M3 47 3 (M3.1 104 3) → ((¬ (0 : Int32) < 0 ∧ ¬ (0 : Int32) < 0 ∧ ¬ (8 : Int32) < 0 ∧ (0 : Int32).toNatClampNeg + (8 : Int32).toNatClampNeg ≤ 8 ∧ (0 : Int32).toNatClampNeg + (8 : Int32).toNatClampNeg ≤ 8) ∧ (∀ M5 : ev_Mem, M5 = ev_cp M4 107 50 (0 : Int32).toNatClampNeg (0 : Int32).toNatClampNeg (8 : Int32).toNatClampNeg → (∀ M6 : ev_Mem, M6 = ev_wr M5 47 5 (M5.1 104 5) → (Ev LX (d + 1) mX3_copyOf 71 [some (.ref 47), some (.ref 104), some (.int 0)] [] M6 Q))))))))))) : Ev LX (d + 1) mX3_copyOf 0 [some (.ref 47), some (.ref 104), none] [] M Q := by
  refine ev_aload_n dX3_copyOf_0 rfl ?_
  refine ev_getA dX3_copyOf_1 fl_WithoutE_Notes_9 lx_104 rfl ?_
  refine ev_iconst (v := 0) dX3_copyOf_4 (by decide) ?_
  refine ev_aload_n dX3_copyOf_5 rfl ?_
  refine ev_getA dX3_copyOf_6 fl_WithoutE_Notes_9 lx_47 rfl ?_
  refine ev_iconst (v := 0) dX3_copyOf_9 (by decide) ?_
  refine ev_bipush (v := 26) dX3_copyOf_10 (by decide) ?_
  obtain ⟨⟨c, c2, c3, c4, c5⟩, h⟩ := h
  refine ev_copy dX3_copyOf_12 (cpw cp_WithoutE_Notes_45) lx_105 lx_48 (by omega) rfl c c2 c3 c4 c5 ?_
  generalize eM1 : ev_cp M 105 48 (0 : Int32).toNatClampNeg (0 : Int32).toNatClampNeg (26 : Int32).toNatClampNeg = M1
  replace h := h M1 eM1.symm
  refine ev_aload_n dX3_copyOf_15 rfl ?_
  refine ev_getA dX3_copyOf_16 fl_WithoutE_Notes_15 lx_104 rfl ?_
  refine ev_iconst (v := 0) dX3_copyOf_19 (by decide) ?_
  refine ev_aload_n dX3_copyOf_20 rfl ?_
  refine ev_getA dX3_copyOf_21 fl_WithoutE_Notes_15 lx_47 rfl ?_
  refine ev_iconst (v := 0) dX3_copyOf_24 (by decide) ?_
  refine ev_bipush (v := 26) dX3_copyOf_25 (by decide) ?_
  obtain ⟨⟨c, c2, c3, c4, c5⟩, h⟩ := h
  refine ev_copy dX3_copyOf_27 (cpw cp_WithoutE_Notes_45) lx_106 lx_49 (by omega) rfl c c2 c3 c4 c5 ?_
  generalize eM2 : ev_cp M1 106 49 (0 : Int32).toNatClampNeg (0 : Int32).toNatClampNeg (26 : Int32).toNatClampNeg = M2
  replace h := h M2 eM2.symm
  refine ev_aload_n dX3_copyOf_30 rfl ?_
  refine ev_aload_n dX3_copyOf_31 rfl ?_
  refine ev_getI dX3_copyOf_32 fl_WithoutE_Notes_51 lx_104 rfl ?_
  refine ev_putI dX3_copyOf_35 fp_WithoutE_Notes_51 lx_47 rfl rfl rfl ?_
  generalize eM3 : ev_wr M2 47 2 (M2.1 104 2) = M3
  replace h := h M3 eM3.symm
  refine ev_aload_n dX3_copyOf_38 rfl ?_
  refine ev_aload_n dX3_copyOf_39 rfl ?_
  refine ev_getI dX3_copyOf_40 fl_WithoutE_Notes_18 lx_104 rfl ?_
  refine ev_putI dX3_copyOf_43 fp_WithoutE_Notes_18 lx_47 rfl rfl rfl ?_
  generalize eM4 : ev_wr M3 47 3 (M3.1 104 3) = M4
  replace h := h M4 eM4.symm
  refine ev_aload_n dX3_copyOf_46 rfl ?_
  refine ev_getA dX3_copyOf_47 fl_WithoutE_Notes_22 lx_104 rfl ?_
  refine ev_iconst (v := 0) dX3_copyOf_50 (by decide) ?_
  refine ev_aload_n dX3_copyOf_51 rfl ?_
  refine ev_getA dX3_copyOf_52 fl_WithoutE_Notes_22 lx_47 rfl ?_
  refine ev_iconst (v := 0) dX3_copyOf_55 (by decide) ?_
  refine ev_bipush (v := 8) dX3_copyOf_56 (by decide) ?_
  obtain ⟨⟨c, c2, c3, c4, c5⟩, h⟩ := h
  refine ev_copy dX3_copyOf_58 (cpw cp_WithoutE_Notes_45) lx_107 lx_50 (by omega) rfl c c2 c3 c4 c5 ?_
  generalize eM5 : ev_cp M4 107 50 (0 : Int32).toNatClampNeg (0 : Int32).toNatClampNeg (8 : Int32).toNatClampNeg = M5
  replace h := h M5 eM5.symm
  refine ev_aload_n dX3_copyOf_61 rfl ?_
  refine ev_aload_n dX3_copyOf_62 rfl ?_
  refine ev_getI dX3_copyOf_63 fl_WithoutE_Notes_54 lx_104 rfl ?_
  refine ev_putI dX3_copyOf_66 fp_WithoutE_Notes_54 lx_47 rfl rfl rfl ?_
  generalize eM6 : ev_wr M5 47 5 (M5.1 104 5) = M6
  replace h := h M6 eM6.symm
  refine ev_iconst (v := 0) dX3_copyOf_69 (by decide) ?_
  refine ev_istore_n (ls2 := [some (.ref 47), some (.ref 104), some (.int 0)]) dX3_copyOf_70 (Nat.le_of_ble_eq_true rfl) rfl ?_
  exact h
theorem gX3_copyOfr_71 {d : Nat} {M : ev_Mem} {Q : Option Value → ev_Mem → Prop} {x2 : Int32} (h : (((5 ≤ x2) → ((¬ (0 : Int32) < 0 ∧ ¬ (0 : Int32) < 0 ∧ ¬ (5 : Int32) < 0 ∧ (0 : Int32).toNatClampNeg + (5 : Int32).toNatClampNeg ≤ 5 ∧ (0 : Int32).toNatClampNeg + (5 : Int32).toNatClampNeg ≤ 5) ∧ (∀ M1 : ev_Mem, M1 = ev_cp M 114 57 (0 : Int32).toNatClampNeg (0 : Int32).toNatClampNeg (5 : Int32).toNatClampNeg → (∀ M2 : ev_Mem, M2 = ev_wr M1 47 8 (M1.1 104 8) → ((¬ (0 : Int32) < 0 ∧ ¬ (0 : Int32) < 0 ∧ ¬ (8 : Int32) < 0 ∧ (0 : Int32).toNatClampNeg + (8 : Int32).toNatClampNeg ≤ 8 ∧ (0 : Int32).toNatClampNeg + (8 : Int32).toNatClampNeg ≤ 8) ∧ (∀ M3 : ev_Mem, M3 = ev_cp M2 115 58 (0 : Int32).toNatClampNeg (0 : Int32).toNatClampNeg (8 : Int32).toNatClampNeg → ((¬ (0 : Int32) < 0 ∧ ¬ (0 : Int32) < 0 ∧ ¬ (8 : Int32) < 0 ∧ (0 : Int32).toNatClampNeg + (8 : Int32).toNatClampNeg ≤ 8 ∧ (0 : Int32).toNatClampNeg + (8 : Int32).toNatClampNeg ≤ 8) ∧ (∀ M4 : ev_Mem, M4 = ev_cp M3 116 59 (0 : Int32).toNatClampNeg (0 : Int32).toNatClampNeg (8 : Int32).toNatClampNeg → (∀ M5 : ev_Mem, M5 = ev_wr M4 47 11 (M4.1 104 11) → (Q none M5)))))))))) ∧ ((¬ 5 ≤ x2) → (vp_in x2 5 ∧ (vp_in x2 5 ∧ ((¬ (0 : Int32) < 0 ∧ ¬ (0 : Int32) < 0 ∧ ¬ (9 : Int32) < 0 ∧ (0 : Int32).toNatClampNeg + (9 : Int32).toNatClampNeg ≤ 9 ∧ (0 : Int32).toNatClampNeg + (9 : Int32).toNatClampNeg ≤ 9) ∧ (∀ M6 : ev_Mem, M6 = ev_cp M (109 + x2.toNatClampNeg) (52 + x2.toNatClampNeg) (0 : Int32).toNatClampNeg (0 : Int32).toNatClampNeg (9 : Int32).toNatClampNeg → (Ev LX (d + 1) mX3_copyOf 71 [some (.ref 47), some (.ref 104), some (.int (x2 + 1))] [] M6 Q)))))))) : Ev LX (d + 1) mX3_copyOf 71 [some (.ref 47), some (.ref 104), some (.int x2)] [] M Q := by
  refine ev_iload_n dX3_copyOf_71 rfl ?_
  refine ev_iconst (v := 5) dX3_copyOf_72 (by decide) ?_
  refine ev_icmp_ge (tgt := 101) dX3_copyOf_73 (by decide) (fun c => ?_) (fun c => ?_)
  · replace h := h.1 c
    refine ev_aload_n dX3_copyOf_101 rfl ?_
    refine ev_getA dX3_copyOf_102 fl_WithoutE_Notes_30 lx_104 rfl ?_
    refine ev_iconst (v := 0) dX3_copyOf_105 (by decide) ?_
    refine ev_aload_n dX3_copyOf_106 rfl ?_
    refine ev_getA dX3_copyOf_107 fl_WithoutE_Notes_30 lx_47 rfl ?_
    refine ev_iconst (v := 0) dX3_copyOf_110 (by decide) ?_
    refine ev_iconst (v := 5) dX3_copyOf_111 (by decide) ?_
    obtain ⟨⟨c, c2, c3, c4, c5⟩, h⟩ := h
    refine ev_copy dX3_copyOf_112 (cpw cp_WithoutE_Notes_45) lx_114 lx_57 (by omega) rfl c c2 c3 c4 c5 ?_
    generalize eM1 : ev_cp M 114 57 (0 : Int32).toNatClampNeg (0 : Int32).toNatClampNeg (5 : Int32).toNatClampNeg = M1
    replace h := h M1 eM1.symm
    refine ev_aload_n dX3_copyOf_115 rfl ?_
    refine ev_aload_n dX3_copyOf_116 rfl ?_
    refine ev_getI dX3_copyOf_117 fl_WithoutE_Notes_57 lx_104 rfl ?_
    refine ev_putI dX3_copyOf_120 fp_WithoutE_Notes_57 lx_47 rfl rfl rfl ?_
    generalize eM2 : ev_wr M1 47 8 (M1.1 104 8) = M2
    replace h := h M2 eM2.symm
    refine ev_aload_n dX3_copyOf_123 rfl ?_
    refine ev_getA dX3_copyOf_124 fl_WithoutE_Notes_33 lx_104 rfl ?_
    refine ev_iconst (v := 0) dX3_copyOf_127 (by decide) ?_
    refine ev_aload_n dX3_copyOf_128 rfl ?_
    refine ev_getA dX3_copyOf_129 fl_WithoutE_Notes_33 lx_47 rfl ?_
    refine ev_iconst (v := 0) dX3_copyOf_132 (by decide) ?_
    refine ev_bipush (v := 8) dX3_copyOf_133 (by decide) ?_
    obtain ⟨⟨c, c2, c3, c4, c5⟩, h⟩ := h
    refine ev_copy dX3_copyOf_135 (cpw cp_WithoutE_Notes_45) lx_115 lx_58 (by omega) rfl c c2 c3 c4 c5 ?_
    generalize eM3 : ev_cp M2 115 58 (0 : Int32).toNatClampNeg (0 : Int32).toNatClampNeg (8 : Int32).toNatClampNeg = M3
    replace h := h M3 eM3.symm
    refine ev_aload_n dX3_copyOf_138 rfl ?_
    refine ev_getA dX3_copyOf_139 fl_WithoutE_Notes_36 lx_104 rfl ?_
    refine ev_iconst (v := 0) dX3_copyOf_142 (by decide) ?_
    refine ev_aload_n dX3_copyOf_143 rfl ?_
    refine ev_getA dX3_copyOf_144 fl_WithoutE_Notes_36 lx_47 rfl ?_
    refine ev_iconst (v := 0) dX3_copyOf_147 (by decide) ?_
    refine ev_bipush (v := 8) dX3_copyOf_148 (by decide) ?_
    obtain ⟨⟨c, c2, c3, c4, c5⟩, h⟩ := h
    refine ev_copy dX3_copyOf_150 (cpw cp_WithoutE_Notes_45) lx_116 lx_59 (by omega) rfl c c2 c3 c4 c5 ?_
    generalize eM4 : ev_cp M3 116 59 (0 : Int32).toNatClampNeg (0 : Int32).toNatClampNeg (8 : Int32).toNatClampNeg = M4
    replace h := h M4 eM4.symm
    refine ev_aload_n dX3_copyOf_153 rfl ?_
    refine ev_aload_n dX3_copyOf_154 rfl ?_
    refine ev_getI dX3_copyOf_155 fl_WithoutE_Notes_60 lx_104 rfl ?_
    refine ev_putI dX3_copyOf_158 fp_WithoutE_Notes_60 lx_47 rfl rfl rfl ?_
    generalize eM5 : ev_wr M4 47 11 (M4.1 104 11) = M5
    replace h := h M5 eM5.symm
    exact ev_vret dX3_copyOf_161 rfl h
  · replace h := h.2 c
    refine ev_aload_n dX3_copyOf_76 rfl ?_
    refine ev_getA dX3_copyOf_77 fl_WithoutE_Notes_27 lx_104 rfl ?_
    refine ev_iload_n dX3_copyOf_80 rfl ?_
    obtain ⟨b1, h⟩ := h
    refine ev_aald dX3_copyOf_81 lx_108 (fun _ => rfl) rfl b1 ?_
    refine ev_iconst (v := 0) dX3_copyOf_82 (by decide) ?_
    refine ev_aload_n dX3_copyOf_83 rfl ?_
    refine ev_getA dX3_copyOf_84 fl_WithoutE_Notes_27 lx_47 rfl ?_
    refine ev_iload_n dX3_copyOf_87 rfl ?_
    obtain ⟨b2, h⟩ := h
    refine ev_aald dX3_copyOf_88 lx_51 (fun _ => rfl) rfl b2 ?_
    refine ev_iconst (v := 0) dX3_copyOf_89 (by decide) ?_
    refine ev_bipush (v := 9) dX3_copyOf_90 (by decide) ?_
    obtain ⟨⟨c, c2, c3, c4, c5⟩, h⟩ := h
    refine ev_copy dX3_copyOf_92 (cpw cp_WithoutE_Notes_45) (lx_rk (ev_lt b1)) (lx_re (ev_lt b2)) (by omega) rfl c c2 c3 c4 c5 ?_
    generalize eM6 : ev_cp M (109 + x2.toNatClampNeg) (52 + x2.toNatClampNeg) (0 : Int32).toNatClampNeg (0 : Int32).toNatClampNeg (9 : Int32).toNatClampNeg = M6
    replace h := h M6 eM6.symm
    refine ev_iinc (v := x2 + 1) (ls2 := [some (.ref 47), some (.ref 104), some (.int (x2 + 1))]) dX3_copyOf_95 rfl rfl rfl ?_
    refine ev_goto (tgt := 71) dX3_copyOf_98 (by decide) ?_
    exact h
theorem dX10_typeSpoken_0 : decode cX10_typeSpoken 0 = .ok (.aload_n 0, 1) := by decide +kernel
theorem dX10_typeSpoken_1 : decode cX10_typeSpoken 1 = .ok (.getfield 98, 3) := by decide +kernel
theorem dX10_typeSpoken_4 : decode cX10_typeSpoken 4 = .ok (.aload_n 0, 1) := by decide +kernel
theorem dX10_typeSpoken_5 : decode cX10_typeSpoken 5 = .ok (.getfield 26, 3) := by decide +kernel
theorem dX10_typeSpoken_8 : decode cX10_typeSpoken 8 = .ok (.getfield 268, 3) := by decide +kernel
theorem dX10_typeSpoken_11 : decode cX10_typeSpoken 11 = .ok (.invokevirtual 271, 3) := by decide +kernel
theorem dX10_typeSpoken_14 : decode cX10_typeSpoken 14 = .ok (.aload_n 0, 1) := by decide +kernel
theorem dX10_typeSpoken_15 : decode cX10_typeSpoken 15 = .ok (.getfield 26, 3) := by decide +kernel
theorem dX10_typeSpoken_18 : decode cX10_typeSpoken 18 = .ok (.sipush 9999, 3) := by decide +kernel
theorem dX10_typeSpoken_21 : decode cX10_typeSpoken 21 = .ok (.aload_n 0, 1) := by decide +kernel
theorem dX10_typeSpoken_22 : decode cX10_typeSpoken 22 = .ok (.getfield 26, 3) := by decide +kernel
theorem dX10_typeSpoken_25 : decode cX10_typeSpoken 25 = .ok (.getfield 275, 3) := by decide +kernel
theorem dX10_typeSpoken_28 : decode cX10_typeSpoken 28 = .ok (.aload_n 0, 1) := by decide +kernel
theorem dX10_typeSpoken_29 : decode cX10_typeSpoken 29 = .ok (.getfield 98, 3) := by decide +kernel
theorem dX10_typeSpoken_32 : decode cX10_typeSpoken 32 = .ok (.getfield 278, 3) := by decide +kernel
theorem dX10_typeSpoken_35 : decode cX10_typeSpoken 35 = .ok (.iadd, 1) := by decide +kernel
theorem dX10_typeSpoken_36 : decode cX10_typeSpoken 36 = .ok (.invokestatic 279, 3) := by decide +kernel
theorem dX10_typeSpoken_39 : decode cX10_typeSpoken 39 = .ok (.putfield 275, 3) := by decide +kernel
theorem dX10_typeSpoken_42 : decode cX10_typeSpoken 42 = .ok (.aload_n 0, 1) := by decide +kernel
theorem dX10_typeSpoken_43 : decode cX10_typeSpoken 43 = .ok (.getfield 26, 3) := by decide +kernel
theorem dX10_typeSpoken_46 : decode cX10_typeSpoken 46 = .ok (.iload_n 1, 1) := by decide +kernel
theorem dX10_typeSpoken_47 : decode cX10_typeSpoken 47 = .ok (.iconst 0, 1) := by decide +kernel
theorem dX10_typeSpoken_48 : decode cX10_typeSpoken 48 = .ok (.aload_n 0, 1) := by decide +kernel
theorem dX10_typeSpoken_49 : decode cX10_typeSpoken 49 = .ok (.getfield 98, 3) := by decide +kernel
theorem dX10_typeSpoken_52 : decode cX10_typeSpoken 52 = .ok (.getfield 245, 3) := by decide +kernel
theorem dX10_typeSpoken_55 : decode cX10_typeSpoken 55 = .ok (.invokevirtual 284, 3) := by decide +kernel
theorem dX10_typeSpoken_58 : decode cX10_typeSpoken 58 = .ok (.return_, 1) := by decide +kernel
theorem gX10_typeSpoken_0 {d : Nat} {M : ev_Mem} {Q : Option Value → ev_Mem → Prop} {x1 : Int32} (h : (∃ Q2 : Option Value → ev_Mem → Prop, Cl LX d mX6_press [.ref 86, .ref 44] M Q2 ∧ ∀ (zr : Option Value) (zM : ev_Mem), Q2 zr zM → Ev LX (d + 1) mX10_typeSpoken 14 [some (.ref 0), some (.int x1)] (zr.toList ++ []) zM Q)) : Ev LX (d + 1) mX10_typeSpoken 0 [some (.ref 0), some (.int x1)] [] M Q := by
  refine ev_aload_n dX10_typeSpoken_0 rfl ?_
  refine ev_getA dX10_typeSpoken_1 fl_WithoutE_98 lx_0 rfl ?_
  refine ev_aload_n dX10_typeSpoken_4 rfl ?_
  refine ev_getA dX10_typeSpoken_5 fl_WithoutE_26 lx_0 rfl ?_
  refine ev_getA dX10_typeSpoken_8 fl_WithoutE_268 lx_43 rfl ?_
  obtain ⟨Q2, hc, h⟩ := h
  refine ev_callV [.ref 44] dX10_typeSpoken_11 ml_WithoutE_271 lx_86 rfl rfl (Nat.le_of_ble_eq_true rfl) hc (fun zr zM q => ?_)
  exact h zr zM q
theorem gX10_typeSpoken_14 {d : Nat} {M : ev_Mem} {Q : Option Value → ev_Mem → Prop} {x1 : Int32} (h : (∀ M1 : ev_Mem, M1 = ev_wr M 43 2 (imin (9999 : Int32) ((M.1 43 2) + (M.1 86 15))) → (∃ Q2 : Option Value → ev_Mem → Prop, Cl LX d mX9_note [.ref 43, .int x1, .int 0, .int (M1.1 86 14)] M1 Q2 ∧ ∀ (zr : Option Value) (zM : ev_Mem), Q2 zr zM → Ev LX (d + 1) mX10_typeSpoken 58 [none, none] (zr.toList ++ []) zM Q))) : Ev LX (d + 1) mX10_typeSpoken 14 [some (.ref 0), some (.int x1)] [] M Q := by
  refine ev_aload_n dX10_typeSpoken_14 rfl ?_
  refine ev_getA dX10_typeSpoken_15 fl_WithoutE_26 lx_0 rfl ?_
  refine ev_sipush (v := 9999) dX10_typeSpoken_18 (by decide) ?_
  refine ev_aload_n dX10_typeSpoken_21 rfl ?_
  refine ev_getA dX10_typeSpoken_22 fl_WithoutE_26 lx_0 rfl ?_
  refine ev_getI dX10_typeSpoken_25 fl_WithoutE_275 lx_43 rfl ?_
  refine ev_aload_n dX10_typeSpoken_28 rfl ?_
  refine ev_getA dX10_typeSpoken_29 fl_WithoutE_98 lx_0 rfl ?_
  refine ev_getI dX10_typeSpoken_32 fl_WithoutE_278 lx_86 rfl ?_
  refine ev_iadd dX10_typeSpoken_35 ?_
  refine ev_min dX10_typeSpoken_36 ml_WithoutE_279 (by omega) (Nat.le_of_ble_eq_true rfl) ?_
  refine ev_putI dX10_typeSpoken_39 fp_WithoutE_275 lx_43 rfl rfl rfl ?_
  generalize eM1 : ev_wr M 43 2 (imin (9999 : Int32) ((M.1 43 2) + (M.1 86 15))) = M1
  replace h := h M1 eM1.symm
  refine ev_aload_n dX10_typeSpoken_42 rfl ?_
  refine ev_getA dX10_typeSpoken_43 fl_WithoutE_26 lx_0 rfl ?_
  refine ev_iload_n dX10_typeSpoken_46 rfl ?_
  refine ev_iconst (v := 0) dX10_typeSpoken_47 (by decide) ?_
  refine ev_aload_n dX10_typeSpoken_48 rfl ?_
  refine ev_getA dX10_typeSpoken_49 fl_WithoutE_98 lx_0 rfl ?_
  refine ev_getI dX10_typeSpoken_52 fl_WithoutE_245 lx_86 rfl ?_
  obtain ⟨Q2, hc, h⟩ := h
  refine ev_callV [.int x1, .int 0, .int (M1.1 86 14)] dX10_typeSpoken_55 ml_WithoutE_284 lx_43 rfl rfl (Nat.le_of_ble_eq_true rfl) hc (fun zr zM q => ?_)
  refine Ev.weak (ls := [none, none]) trivial ?_
  exact h zr zM q
theorem gX10_typeSpoken_58 {d : Nat} {M : ev_Mem} {Q : Option Value → ev_Mem → Prop} (h : (Q none M)) : Ev LX d mX10_typeSpoken 58 [none, none] [] M Q := by
  exact ev_vret dX10_typeSpoken_58 rfl h
theorem dX10_wearSomeKey_0 : decode cX10_wearSomeKey 0 = .ok (.aload_n 0, 1) := by decide +kernel
theorem dX10_wearSomeKey_1 : decode cX10_wearSomeKey 1 = .ok (.getfield 26, 3) := by decide +kernel
theorem dX10_wearSomeKey_4 : decode cX10_wearSomeKey 4 = .ok (.bipush 26, 2) := by decide +kernel
theorem dX10_wearSomeKey_6 : decode cX10_wearSomeKey 6 = .ok (.invokevirtual 291, 3) := by decide +kernel
theorem dX10_wearSomeKey_9 : decode cX10_wearSomeKey 9 = .ok (.istore_n 1, 1) := by decide +kernel
theorem dX10_wearSomeKey_10 : decode cX10_wearSomeKey 10 = .ok (.aload_n 0, 1) := by decide +kernel
theorem dX10_wearSomeKey_11 : decode cX10_wearSomeKey 11 = .ok (.getfield 26, 3) := by decide +kernel
theorem dX10_wearSomeKey_14 : decode cX10_wearSomeKey 14 = .ok (.getfield 223, 3) := by decide +kernel
theorem dX10_wearSomeKey_17 : decode cX10_wearSomeKey 17 = .ok (.iload_n 1, 1) := by decide +kernel
theorem dX10_wearSomeKey_18 : decode cX10_wearSomeKey 18 = .ok (.invokestatic 226, 3) := by decide +kernel
theorem dX10_wearSomeKey_21 : decode cX10_wearSomeKey 21 = .ok (.ifCond .eq 4, 3) := by decide +kernel
theorem dX10_wearSomeKey_24 : decode cX10_wearSomeKey 24 = .ok (.return_, 1) := by decide +kernel
theorem dX10_wearSomeKey_25 : decode cX10_wearSomeKey 25 = .ok (.aload_n 0, 1) := by decide +kernel
theorem dX10_wearSomeKey_26 : decode cX10_wearSomeKey 26 = .ok (.getfield 26, 3) := by decide +kernel
theorem dX10_wearSomeKey_29 : decode cX10_wearSomeKey 29 = .ok (.bipush 10, 2) := by decide +kernel
theorem dX10_wearSomeKey_31 : decode cX10_wearSomeKey 31 = .ok (.invokevirtual 291, 3) := by decide +kernel
theorem dX10_wearSomeKey_34 : decode cX10_wearSomeKey 34 = .ok (.aload_n 0, 1) := by decide +kernel
theorem dX10_wearSomeKey_35 : decode cX10_wearSomeKey 35 = .ok (.getfield 89, 3) := by decide +kernel
theorem dX10_wearSomeKey_38 : decode cX10_wearSomeKey 38 = .ok (.aload_n 0, 1) := by decide +kernel
theorem dX10_wearSomeKey_39 : decode cX10_wearSomeKey 39 = .ok (.invokevirtual 294, 3) := by decide +kernel
theorem dX10_wearSomeKey_42 : decode cX10_wearSomeKey 42 = .ok (.iload_n 1, 1) := by decide +kernel
theorem dX10_wearSomeKey_43 : decode cX10_wearSomeKey 43 = .ok (.aload_n 0, 1) := by decide +kernel
theorem dX10_wearSomeKey_44 : decode cX10_wearSomeKey 44 = .ok (.getfield 26, 3) := by decide +kernel
theorem dX10_wearSomeKey_47 : decode cX10_wearSomeKey 47 = .ok (.getfield 223, 3) := by decide +kernel
theorem dX10_wearSomeKey_50 : decode cX10_wearSomeKey 50 = .ok (.invokevirtual 298, 3) := by decide +kernel
theorem dX10_wearSomeKey_53 : decode cX10_wearSomeKey 53 = .ok (.if_icmp .ge 36, 3) := by decide +kernel
theorem dX10_wearSomeKey_56 : decode cX10_wearSomeKey 56 = .ok (.aload_n 0, 1) := by decide +kernel
theorem dX10_wearSomeKey_57 : decode cX10_wearSomeKey 57 = .ok (.getfield 26, 3) := by decide +kernel
theorem dX10_wearSomeKey_60 : decode cX10_wearSomeKey 60 = .ok (.dup, 1) := by decide +kernel
theorem dX10_wearSomeKey_61 : decode cX10_wearSomeKey 61 = .ok (.getfield 223, 3) := by decide +kernel
theorem dX10_wearSomeKey_64 : decode cX10_wearSomeKey 64 = .ok (.iconst 1, 1) := by decide +kernel
theorem dX10_wearSomeKey_65 : decode cX10_wearSomeKey 65 = .ok (.iload_n 1, 1) := by decide +kernel
theorem dX10_wearSomeKey_66 : decode cX10_wearSomeKey 66 = .ok (.ishl, 1) := by decide +kernel
theorem dX10_wearSomeKey_67 : decode cX10_wearSomeKey 67 = .ok (.ior, 1) := by decide +kernel
theorem dX10_wearSomeKey_68 : decode cX10_wearSomeKey 68 = .ok (.putfield 223, 3) := by decide +kernel
theorem dX10_wearSomeKey_71 : decode cX10_wearSomeKey 71 = .ok (.aload_n 0, 1) := by decide +kernel
theorem dX10_wearSomeKey_72 : decode cX10_wearSomeKey 72 = .ok (.getfield 26, 3) := by decide +kernel
theorem dX10_wearSomeKey_75 : decode cX10_wearSomeKey 75 = .ok (.iload_n 1, 1) := by decide +kernel
theorem dX10_wearSomeKey_76 : decode cX10_wearSomeKey 76 = .ok (.iconst 2, 1) := by decide +kernel
theorem dX10_wearSomeKey_77 : decode cX10_wearSomeKey 77 = .ok (.aload_n 0, 1) := by decide +kernel
theorem dX10_wearSomeKey_78 : decode cX10_wearSomeKey 78 = .ok (.getfield 26, 3) := by decide +kernel
theorem dX10_wearSomeKey_81 : decode cX10_wearSomeKey 81 = .ok (.getfield 268, 3) := by decide +kernel
theorem dX10_wearSomeKey_84 : decode cX10_wearSomeKey 84 = .ok (.iload_n 1, 1) := by decide +kernel
theorem dX10_wearSomeKey_85 : decode cX10_wearSomeKey 85 = .ok (.iaload, 1) := by decide +kernel
theorem dX10_wearSomeKey_86 : decode cX10_wearSomeKey 86 = .ok (.invokevirtual 284, 3) := by decide +kernel
theorem dX10_wearSomeKey_89 : decode cX10_wearSomeKey 89 = .ok (.return_, 1) := by decide +kernel
theorem gX10_wearSomeKey_0 {d : Nat} {M : ev_Mem} {Q : Option Value → ev_Mem → Prop} (h : (∃ Q2 : Option Value → ev_Mem → Prop, Cl LX d mX9_draw [.ref 43, .int 26] M Q2 ∧ ∀ (zr : Option Value) (zM : ev_Mem), Q2 zr zM → Ev LX (d + 1) mX10_wearSomeKey 9 [some (.ref 0), none] (zr.toList ++ []) zM Q)) : Ev LX (d + 1) mX10_wearSomeKey 0 [some (.ref 0), none] [] M Q := by
  refine ev_aload_n dX10_wearSomeKey_0 rfl ?_
  refine ev_getA dX10_wearSomeKey_1 fl_WithoutE_26 lx_0 rfl ?_
  refine ev_bipush (v := 26) dX10_wearSomeKey_4 (by decide) ?_
  obtain ⟨Q2, hc, h⟩ := h
  refine ev_callV [.int 26] dX10_wearSomeKey_6 ml_WithoutE_291 lx_43 rfl rfl (Nat.le_of_ble_eq_true rfl) hc (fun zr zM q => ?_)
  exact h zr zM q
theorem gX10_wearSomeKey_9 {d : Nat} {M : ev_Mem} {Q : Option Value → ev_Mem → Prop} {s0 : Int32} (h : ((((hs (M.1 43 0) s0) = false) → (∃ Q2 : Option Value → ev_Mem → Prop, Cl LX d mX9_draw [.ref 43, .int 10] M Q2 ∧ ∀ (zr : Option Value) (zM : ev_Mem), Q2 zr zM → Ev LX (d + 1) mX10_wearSomeKey 34 [some (.ref 0), some (.int s0)] (zr.toList ++ []) zM Q)) ∧ (((hs (M.1 43 0) s0) = true) → (Q none M)))) : Ev LX (d + 1) mX10_wearSomeKey 9 [some (.ref 0), none] [(.int s0)] M Q := by
  refine ev_istore_n (ls2 := [some (.ref 0), some (.int s0)]) dX10_wearSomeKey_9 (Nat.le_of_ble_eq_true rfl) rfl ?_
  refine ev_aload_n dX10_wearSomeKey_10 rfl ?_
  refine ev_getA dX10_wearSomeKey_11 fl_WithoutE_26 lx_0 rfl ?_
  refine ev_getI dX10_wearSomeKey_14 fl_WithoutE_223 lx_43 rfl ?_
  refine ev_iload_n dX10_wearSomeKey_17 rfl ?_
  refine ev_callS [.int (M.1 43 0), .int s0] dX10_wearSomeKey_18 ml_WithoutE_226 rfl (Nat.le_of_ble_eq_true rfl) (kX10_has) ?_
  rintro zr zM ⟨q1, q2⟩
  rw [q1, q2]
  show Ev LX (d + 1) mX10_wearSomeKey 21 [some (.ref 0), some (.int s0)] [(.int (bi (hs (M.1 43 0) s0)))] M Q
  refine ev_if_eq (tgt := 25) dX10_wearSomeKey_21 (by decide) (fun c => ?_) (fun c => ?_)
  · replace h := h.1 ((bi_0 _).mp c)
    refine ev_aload_n dX10_wearSomeKey_25 rfl ?_
    refine ev_getA dX10_wearSomeKey_26 fl_WithoutE_26 lx_0 rfl ?_
    refine ev_bipush (v := 10) dX10_wearSomeKey_29 (by decide) ?_
    obtain ⟨Q2, hc, h⟩ := h
    refine ev_callV [.int 10] dX10_wearSomeKey_31 ml_WithoutE_291 lx_43 rfl rfl (Nat.le_of_ble_eq_true rfl) hc (fun zr zM q => ?_)
    exact h zr zM q
  · replace h := h.2 ((bi_n0 _).mp c)
    exact ev_vret dX10_wearSomeKey_24 rfl h
theorem gX10_wearSomeKey_34 {d : Nat} {M : ev_Mem} {Q : Option Value → ev_Mem → Prop} {x1 s0 : Int32} (h : ((okT M) ∧ (∃ Q2 : Option Value → ev_Mem → Prop, Cl LX (d + 1) mX1_wearOdds [.ref 83, tv (M.1 47 3), .int x1, .int (M.1 43 0)] M Q2 ∧ ∀ (zr : Option Value) (zM : ev_Mem), Q2 zr zM → Ev LX (d + 2) mX10_wearSomeKey 53 [some (.ref 0), some (.int x1)] (zr.toList ++ [(.int s0)]) zM Q))) : Ev LX (d + 2) mX10_wearSomeKey 34 [some (.ref 0), some (.int x1)] [(.int s0)] M Q := by
  refine ev_aload_n dX10_wearSomeKey_34 rfl ?_
  refine ev_getA dX10_wearSomeKey_35 fl_WithoutE_89 lx_0 rfl ?_
  refine ev_aload_n dX10_wearSomeKey_38 rfl ?_
  obtain ⟨p1, h⟩ := h
  refine ev_callV [] dX10_wearSomeKey_39 ml_WithoutE_294 lx_0 rfl rfl (Nat.le_of_ble_eq_true rfl) (kX10_ruling p1) ?_
  rintro zr zM ⟨q1, q2⟩
  rw [q1, q2]
  show Ev LX (d + 2) mX10_wearSomeKey 42 [some (.ref 0), some (.int x1)] [(tv (M.1 47 3)), (.ref 83), (.int s0)] M Q
  refine ev_iload_n dX10_wearSomeKey_42 rfl ?_
  refine ev_aload_n dX10_wearSomeKey_43 rfl ?_
  refine ev_getA dX10_wearSomeKey_44 fl_WithoutE_26 lx_0 rfl ?_
  refine ev_getI dX10_wearSomeKey_47 fl_WithoutE_223 lx_43 rfl ?_
  obtain ⟨Q2, hc, h⟩ := h
  refine ev_callV [tv (M.1 47 3), .int x1, .int (M.1 43 0)] dX10_wearSomeKey_50 ml_WithoutE_298 lx_83 rfl rfl (Nat.le_of_ble_eq_true rfl) hc (fun zr zM q => ?_)
  exact h zr zM q
theorem gX10_wearSomeKey_53 {d : Nat} {M : ev_Mem} {Q : Option Value → ev_Mem → Prop} {x1 s0 s1 : Int32} (h : (((s0 ≤ s1) → (Q none M)) ∧ ((¬ s0 ≤ s1) → (∀ M1 : ev_Mem, M1 = ev_wr M 43 0 ((M.1 43 0) ||| (1 <<< (x1 &&& 31))) → (vp_in x1 26 ∧ (∃ Q2 : Option Value → ev_Mem → Prop, Cl LX d mX9_note [.ref 43, .int x1, .int 2, .int (M1.1 44 x1.toNatClampNeg)] M1 Q2 ∧ ∀ (zr : Option Value) (zM : ev_Mem), Q2 zr zM → Ev LX (d + 1) mX10_wearSomeKey 89 [none, none] (zr.toList ++ []) zM Q)))))) : Ev LX (d + 1) mX10_wearSomeKey 53 [some (.ref 0), some (.int x1)] [(.int s0), (.int s1)] M Q := by
  refine ev_icmp_ge (tgt := 89) dX10_wearSomeKey_53 (by decide) (fun c => ?_) (fun c => ?_)
  · replace h := h.1 c
    exact ev_vret dX10_wearSomeKey_89 rfl h
  · replace h := h.2 c
    refine ev_aload_n dX10_wearSomeKey_56 rfl ?_
    refine ev_getA dX10_wearSomeKey_57 fl_WithoutE_26 lx_0 rfl ?_
    refine ev_dup dX10_wearSomeKey_60 rfl ?_
    refine ev_getI dX10_wearSomeKey_61 fl_WithoutE_223 lx_43 rfl ?_
    refine ev_iconst (v := 1) dX10_wearSomeKey_64 (by decide) ?_
    refine ev_iload_n dX10_wearSomeKey_65 rfl ?_
    refine ev_ishl dX10_wearSomeKey_66 ?_
    refine ev_ior dX10_wearSomeKey_67 ?_
    refine ev_putI dX10_wearSomeKey_68 fp_WithoutE_223 lx_43 rfl rfl rfl ?_
    generalize eM1 : ev_wr M 43 0 ((M.1 43 0) ||| (1 <<< (x1 &&& 31))) = M1
    replace h := h M1 eM1.symm
    refine ev_aload_n dX10_wearSomeKey_71 rfl ?_
    refine ev_getA dX10_wearSomeKey_72 fl_WithoutE_26 lx_0 rfl ?_
    refine ev_iload_n dX10_wearSomeKey_75 rfl ?_
    refine ev_iconst (v := 2) dX10_wearSomeKey_76 (by decide) ?_
    refine ev_aload_n dX10_wearSomeKey_77 rfl ?_
    refine ev_getA dX10_wearSomeKey_78 fl_WithoutE_26 lx_0 rfl ?_
    refine ev_getA dX10_wearSomeKey_81 fl_WithoutE_268 lx_43 rfl ?_
    refine ev_iload_n dX10_wearSomeKey_84 rfl ?_
    obtain ⟨c, h⟩ := h
    refine ev_iald dX10_wearSomeKey_85 lx_44 c ?_
    obtain ⟨Q2, hc, h⟩ := h
    refine ev_callV [.int x1, .int 2, .int (M1.1 44 x1.toNatClampNeg)] dX10_wearSomeKey_86 ml_WithoutE_284 lx_43 rfl rfl (Nat.le_of_ble_eq_true rfl) hc (fun zr zM q => ?_)
    refine Ev.weak (ls := [none, none]) trivial ?_
    exact h zr zM q
theorem gX10_wearSomeKey_89 {d : Nat} {M : ev_Mem} {Q : Option Value → ev_Mem → Prop} (h : (Q none M)) : Ev LX d mX10_wearSomeKey 89 [none, none] [] M Q := by
  exact ev_vret dX10_wearSomeKey_89 rfl h
theorem dX10_passDays_0 : decode cX10_passDays 0 = .ok (.iconst 0, 1) := by decide +kernel
theorem dX10_passDays_1 : decode cX10_passDays 1 = .ok (.istore_n 2, 1) := by decide +kernel
theorem dX10_passDays_2 : decode cX10_passDays 2 = .ok (.iload_n 2, 1) := by decide +kernel
theorem dX10_passDays_3 : decode cX10_passDays 3 = .ok (.iload_n 1, 1) := by decide +kernel
theorem dX10_passDays_4 : decode cX10_passDays 4 = .ok (.if_icmp .ge 119, 3) := by decide +kernel
theorem dX10_passDays_7 : decode cX10_passDays 7 = .ok (.iload_n 2, 1) := by decide +kernel
theorem dX10_passDays_8 : decode cX10_passDays 8 = .ok (.bipush 40, 2) := by decide +kernel
theorem dX10_passDays_10 : decode cX10_passDays 10 = .ok (.if_icmp .ge 113, 3) := by decide +kernel
theorem dX10_passDays_13 : decode cX10_passDays 13 = .ok (.aload_n 0, 1) := by decide +kernel
theorem dX10_passDays_14 : decode cX10_passDays 14 = .ok (.getfield 26, 3) := by decide +kernel
theorem dX10_passDays_17 : decode cX10_passDays 17 = .ok (.getfield 248, 3) := by decide +kernel
theorem dX10_passDays_20 : decode cX10_passDays 20 = .ok (.sipush 9999, 3) := by decide +kernel
theorem dX10_passDays_23 : decode cX10_passDays 23 = .ok (.if_icmp .lt 11, 3) := by decide +kernel
theorem dX10_passDays_26 : decode cX10_passDays 26 = .ok (.aload_n 0, 1) := by decide +kernel
theorem dX10_passDays_27 : decode cX10_passDays 27 = .ok (.iconst 2, 1) := by decide +kernel
theorem dX10_passDays_28 : decode cX10_passDays 28 = .ok (.invokevirtual 185, 3) := by decide +kernel
theorem dX10_passDays_31 : decode cX10_passDays 31 = .ok (.pop, 1) := by decide +kernel
theorem dX10_passDays_32 : decode cX10_passDays 32 = .ok (.iconst 0, 1) := by decide +kernel
theorem dX10_passDays_33 : decode cX10_passDays 33 = .ok (.ireturn, 1) := by decide +kernel
theorem dX10_passDays_34 : decode cX10_passDays 34 = .ok (.aload_n 0, 1) := by decide +kernel
theorem dX10_passDays_35 : decode cX10_passDays 35 = .ok (.getfield 26, 3) := by decide +kernel
theorem dX10_passDays_38 : decode cX10_passDays 38 = .ok (.invokevirtual 230, 3) := by decide +kernel
theorem dX10_passDays_41 : decode cX10_passDays 41 = .ok (.aload_n 0, 1) := by decide +kernel
theorem dX10_passDays_42 : decode cX10_passDays 42 = .ok (.getfield 19, 3) := by decide +kernel
theorem dX10_passDays_45 : decode cX10_passDays 45 = .ok (.getfield 262, 3) := by decide +kernel
theorem dX10_passDays_48 : decode cX10_passDays 48 = .ok (.ifCond .le 52, 3) := by decide +kernel
theorem dX10_passDays_51 : decode cX10_passDays 51 = .ok (.aload_n 0, 1) := by decide +kernel
theorem dX10_passDays_52 : decode cX10_passDays 52 = .ok (.getfield 26, 3) := by decide +kernel
theorem dX10_passDays_55 : decode cX10_passDays 55 = .ok (.getfield 248, 3) := by decide +kernel
theorem dX10_passDays_58 : decode cX10_passDays 58 = .ok (.aload_n 0, 1) := by decide +kernel
theorem dX10_passDays_59 : decode cX10_passDays 59 = .ok (.getfield 19, 3) := by decide +kernel
theorem dX10_passDays_62 : decode cX10_passDays 62 = .ok (.getfield 262, 3) := by decide +kernel
theorem dX10_passDays_65 : decode cX10_passDays 65 = .ok (.irem, 1) := by decide +kernel
theorem dX10_passDays_66 : decode cX10_passDays 66 = .ok (.istore_n 3, 1) := by decide +kernel
theorem dX10_passDays_67 : decode cX10_passDays 67 = .ok (.aload_n 0, 1) := by decide +kernel
theorem dX10_passDays_68 : decode cX10_passDays 68 = .ok (.invokevirtual 236, 3) := by decide +kernel
theorem dX10_passDays_71 : decode cX10_passDays 71 = .ok (.aload_n 0, 1) := by decide +kernel
theorem dX10_passDays_72 : decode cX10_passDays 72 = .ok (.getfield 98, 3) := by decide +kernel
theorem dX10_passDays_75 : decode cX10_passDays 75 = .ok (.iload_n 3, 1) := by decide +kernel
theorem dX10_passDays_76 : decode cX10_passDays 76 = .ok (.invokevirtual 239, 3) := by decide +kernel
theorem dX10_passDays_79 : decode cX10_passDays 79 = .ok (.ifCond .eq 11, 3) := by decide +kernel
theorem dX10_passDays_82 : decode cX10_passDays 82 = .ok (.aload_n 0, 1) := by decide +kernel
theorem dX10_passDays_83 : decode cX10_passDays 83 = .ok (.iload_n 3, 1) := by decide +kernel
theorem dX10_passDays_84 : decode cX10_passDays 84 = .ok (.invokevirtual 242, 3) := by decide +kernel
theorem dX10_passDays_87 : decode cX10_passDays 87 = .ok (.goto 13, 3) := by decide +kernel
theorem dX10_passDays_90 : decode cX10_passDays 90 = .ok (.aload_n 0, 1) := by decide +kernel
theorem dX10_passDays_91 : decode cX10_passDays 91 = .ok (.getfield 26, 3) := by decide +kernel
theorem dX10_passDays_94 : decode cX10_passDays 94 = .ok (.iload_n 3, 1) := by decide +kernel
theorem dX10_passDays_95 : decode cX10_passDays 95 = .ok (.iconst 1, 1) := by decide +kernel
theorem dX10_passDays_96 : decode cX10_passDays 96 = .ok (.iconst 0, 1) := by decide +kernel
theorem dX10_passDays_97 : decode cX10_passDays 97 = .ok (.invokevirtual 284, 3) := by decide +kernel
theorem dX10_passDays_100 : decode cX10_passDays 100 = .ok (.aload_n 0, 1) := by decide +kernel
theorem dX10_passDays_101 : decode cX10_passDays 101 = .ok (.invokevirtual 288, 3) := by decide +kernel
theorem dX10_passDays_104 : decode cX10_passDays 104 = .ok (.aload_n 0, 1) := by decide +kernel
theorem dX10_passDays_105 : decode cX10_passDays 105 = .ok (.getfield 26, 3) := by decide +kernel
theorem dX10_passDays_108 : decode cX10_passDays 108 = .ok (.dup, 1) := by decide +kernel
theorem dX10_passDays_109 : decode cX10_passDays 109 = .ok (.getfield 248, 3) := by decide +kernel
theorem dX10_passDays_112 : decode cX10_passDays 112 = .ok (.iconst 1, 1) := by decide +kernel
theorem dX10_passDays_113 : decode cX10_passDays 113 = .ok (.iadd, 1) := by decide +kernel
theorem dX10_passDays_114 : decode cX10_passDays 114 = .ok (.putfield 248, 3) := by decide +kernel
theorem dX10_passDays_117 : decode cX10_passDays 117 = .ok (.iinc 2 1, 3) := by decide +kernel
theorem dX10_passDays_120 : decode cX10_passDays 120 = .ok (.goto (-118), 3) := by decide +kernel
theorem dX10_passDays_123 : decode cX10_passDays 123 = .ok (.iconst 1, 1) := by decide +kernel
theorem dX10_passDays_124 : decode cX10_passDays 124 = .ok (.ireturn, 1) := by decide +kernel
theorem gX10_passDays_0 {d : Nat} {M : ev_Mem} {Q : Option Value → ev_Mem → Prop} {x1 : Int32} (h : (Ev LX d mX10_passDays 2 [some (.ref 0), some (.int x1), some (.int 0), none] [] M Q)) : Ev LX d mX10_passDays 0 [some (.ref 0), some (.int x1), none, none] [] M Q := by
  refine ev_iconst (v := 0) dX10_passDays_0 (by decide) ?_
  refine ev_istore_n (ls2 := [some (.ref 0), some (.int x1), some (.int 0), none]) dX10_passDays_1 (Nat.le_of_ble_eq_true rfl) rfl ?_
  exact h
theorem gX10_passDays_2 {d : Nat} {M : ev_Mem} {Q : Option Value → ev_Mem → Prop} {x1 x2 : Int32} (h : (((x1 ≤ x2) → (Q (some (.int 1)) M)) ∧ ((¬ x1 ≤ x2) → (((40 ≤ x2) → (Q (some (.int 1)) M)) ∧ ((¬ 40 ≤ x2) → ((((M.1 43 3) < 9999) → (∃ Q2 : Option Value → ev_Mem → Prop, Cl LX d mX9_markStep [.ref 43] M Q2 ∧ ∀ (zr : Option Value) (zM : ev_Mem), Q2 zr zM → Ev LX (d + 1) mX10_passDays 41 [some (.ref 0), some (.int x1), some (.int x2), none] (zr.toList ++ []) zM Q)) ∧ ((¬ (M.1 43 3) < 9999) → ((vp_in (2 : Int32) 3) ∧ (∀ M1 : ev_Mem, M1 = rfs M 117 (2 : Int32).toNatClampNeg → (Q (some (.int 0)) M1)))))))))) : Ev LX (d + 1) mX10_passDays 2 [some (.ref 0), some (.int x1), some (.int x2), none] [] M Q := by
  refine ev_iload_n dX10_passDays_2 rfl ?_
  refine ev_iload_n dX10_passDays_3 rfl ?_
  refine ev_icmp_ge (tgt := 123) dX10_passDays_4 (by decide) (fun c => ?_) (fun c => ?_)
  · replace h := h.1 c
    refine ev_iconst (v := 1) dX10_passDays_123 (by decide) ?_
    exact ev_zret dX10_passDays_124 rfl (by decide) h
  · replace h := h.2 c
    refine ev_iload_n dX10_passDays_7 rfl ?_
    refine ev_bipush (v := 40) dX10_passDays_8 (by decide) ?_
    refine ev_icmp_ge (tgt := 123) dX10_passDays_10 (by decide) (fun c => ?_) (fun c => ?_)
    · replace h := h.1 c
      refine ev_iconst (v := 1) dX10_passDays_123 (by decide) ?_
      exact ev_zret dX10_passDays_124 rfl (by decide) h
    · replace h := h.2 c
      refine ev_aload_n dX10_passDays_13 rfl ?_
      refine ev_getA dX10_passDays_14 fl_WithoutE_26 lx_0 rfl ?_
      refine ev_getI dX10_passDays_17 fl_WithoutE_248 lx_43 rfl ?_
      refine ev_sipush (v := 9999) dX10_passDays_20 (by decide) ?_
      refine ev_icmp_lt (tgt := 34) dX10_passDays_23 (by decide) (fun c => ?_) (fun c => ?_)
      · replace h := h.1 c
        refine ev_aload_n dX10_passDays_34 rfl ?_
        refine ev_getA dX10_passDays_35 fl_WithoutE_26 lx_0 rfl ?_
        obtain ⟨Q2, hc, h⟩ := h
        refine ev_callV [] dX10_passDays_38 ml_WithoutE_230 lx_43 rfl rfl (Nat.le_of_ble_eq_true rfl) hc (fun zr zM q => ?_)
        exact h zr zM q
      · replace h := h.2 c
        refine ev_aload_n dX10_passDays_26 rfl ?_
        refine ev_iconst (v := 2) dX10_passDays_27 (by decide) ?_
        obtain ⟨p1, h⟩ := h
        refine ev_callV [.int 2] dX10_passDays_28 ml_WithoutE_185 lx_0 rfl rfl (Nat.le_of_ble_eq_true rfl) (qX10_refuse p1) ?_
        rintro zr zM ⟨q1, q2⟩
        rw [q1, q2]
        generalize eM1 : rfs M 117 (2 : Int32).toNatClampNeg = M1
        replace h := h M1 eM1.symm
        show Ev LX (d + 1) mX10_passDays 31 [some (.ref 0), some (.int x1), some (.int x2), none] [(.int (-1))] M1 Q
        refine ev_pop dX10_passDays_31 rfl ?_
        refine ev_iconst (v := 0) dX10_passDays_32 (by decide) ?_
        exact ev_zret dX10_passDays_33 rfl (by decide) h
theorem gX10_passDays_41 {d : Nat} {M : ev_Mem} {Q : Option Value → ev_Mem → Prop} {x1 x2 : Int32} (h : ((((M.1 3 8) ≤ 0) → (∃ Q2 : Option Value → ev_Mem → Prop, Cl LX d mX10_wearSomeKey [.ref 0] M Q2 ∧ ∀ (zr : Option Value) (zM : ev_Mem), Q2 zr zM → Ev LX (d + 1) mX10_passDays 104 [some (.ref 0), some (.int x1), some (.int x2), none] (zr.toList ++ []) zM Q)) ∧ ((¬ (M.1 3 8) ≤ 0) → (¬ (M.1 3 8 : Int32) = 0 ∧ (∀ v1 : Int32, v1 = (M.1 43 3) - (M.1 43 3) / (M.1 3 8) * (M.1 3 8) → (∃ Q2 : Option Value → ev_Mem → Prop, Cl LX d mX10_hearNow [.ref 0] M Q2 ∧ ∀ (zr : Option Value) (zM : ev_Mem), Q2 zr zM → Ev LX (d + 1) mX10_passDays 71 [some (.ref 0), some (.int x1), some (.int x2), some (.int v1)] (zr.toList ++ []) zM Q)))))) : Ev LX (d + 1) mX10_passDays 41 [some (.ref 0), some (.int x1), some (.int x2), none] [] M Q := by
  refine ev_aload_n dX10_passDays_41 rfl ?_
  refine ev_getA dX10_passDays_42 fl_WithoutE_19 lx_0 rfl ?_
  refine ev_getI dX10_passDays_45 fl_WithoutE_262 lx_3 rfl ?_
  refine ev_if_le (tgt := 100) dX10_passDays_48 (by decide) (fun c => ?_) (fun c => ?_)
  · replace h := h.1 c
    refine ev_aload_n dX10_passDays_100 rfl ?_
    obtain ⟨Q2, hc, h⟩ := h
    refine ev_callV [] dX10_passDays_101 ml_WithoutE_288 lx_0 rfl rfl (Nat.le_of_ble_eq_true rfl) hc (fun zr zM q => ?_)
    exact h zr zM q
  · replace h := h.2 c
    refine ev_aload_n dX10_passDays_51 rfl ?_
    refine ev_getA dX10_passDays_52 fl_WithoutE_26 lx_0 rfl ?_
    refine ev_getI dX10_passDays_55 fl_WithoutE_248 lx_43 rfl ?_
    refine ev_aload_n dX10_passDays_58 rfl ?_
    refine ev_getA dX10_passDays_59 fl_WithoutE_19 lx_0 rfl ?_
    refine ev_getI dX10_passDays_62 fl_WithoutE_262 lx_3 rfl ?_
    obtain ⟨c, h⟩ := h
    refine ev_irem dX10_passDays_65 c ?_
    refine ev_istore_n (ls2 := [some (.ref 0), some (.int x1), some (.int x2), some (.int ((M.1 43 3) - (M.1 43 3) / (M.1 3 8) * (M.1 3 8)))]) dX10_passDays_66 (Nat.le_of_ble_eq_true rfl) rfl ?_
    generalize ev1 : (M.1 43 3) - (M.1 43 3) / (M.1 3 8) * (M.1 3 8) = v1
    replace h := h v1 ev1.symm
    refine ev_aload_n dX10_passDays_67 rfl ?_
    obtain ⟨Q2, hc, h⟩ := h
    refine ev_callV [] dX10_passDays_68 ml_WithoutE_236 lx_0 rfl rfl (Nat.le_of_ble_eq_true rfl) hc (fun zr zM q => ?_)
    exact h zr zM q
theorem gX10_passDays_104 {d : Nat} {M : ev_Mem} {Q : Option Value → ev_Mem → Prop} {x1 x2 : Int32} (h : (∀ M1 : ev_Mem, M1 = ev_wr M 43 3 ((M.1 43 3) + 1) → (Ev LX d mX10_passDays 2 [some (.ref 0), some (.int x1), some (.int (x2 + 1)), none] [] M1 Q))) : Ev LX d mX10_passDays 104 [some (.ref 0), some (.int x1), some (.int x2), none] [] M Q := by
  refine ev_aload_n dX10_passDays_104 rfl ?_
  refine ev_getA dX10_passDays_105 fl_WithoutE_26 lx_0 rfl ?_
  refine ev_dup dX10_passDays_108 rfl ?_
  refine ev_getI dX10_passDays_109 fl_WithoutE_248 lx_43 rfl ?_
  refine ev_iconst (v := 1) dX10_passDays_112 (by decide) ?_
  refine ev_iadd dX10_passDays_113 ?_
  refine ev_putI dX10_passDays_114 fp_WithoutE_248 lx_43 rfl rfl rfl ?_
  generalize eM1 : ev_wr M 43 3 ((M.1 43 3) + 1) = M1
  replace h := h M1 eM1.symm
  refine ev_iinc (v := x2 + 1) (ls2 := [some (.ref 0), some (.int x1), some (.int (x2 + 1)), none]) dX10_passDays_117 rfl rfl rfl ?_
  refine ev_goto (tgt := 2) dX10_passDays_120 (by decide) ?_
  exact h
theorem gX10_passDays_71 {d : Nat} {M : ev_Mem} {Q : Option Value → ev_Mem → Prop} {x1 x2 x3 : Int32} (h : (∃ Q2 : Option Value → ev_Mem → Prop, Cl LX d mX6_speak [.ref 86, .int x3] M Q2 ∧ ∀ (zr : Option Value) (zM : ev_Mem), Q2 zr zM → Ev LX (d + 1) mX10_passDays 79 [some (.ref 0), some (.int x1), some (.int x2), some (.int x3)] (zr.toList ++ []) zM Q)) : Ev LX (d + 1) mX10_passDays 71 [some (.ref 0), some (.int x1), some (.int x2), some (.int x3)] [] M Q := by
  refine ev_aload_n dX10_passDays_71 rfl ?_
  refine ev_getA dX10_passDays_72 fl_WithoutE_98 lx_0 rfl ?_
  refine ev_iload_n dX10_passDays_75 rfl ?_
  obtain ⟨Q2, hc, h⟩ := h
  refine ev_callV [.int x3] dX10_passDays_76 ml_WithoutE_239 lx_86 rfl rfl (Nat.le_of_ble_eq_true rfl) hc (fun zr zM q => ?_)
  exact h zr zM q
theorem gX10_passDays_79 {d : Nat} {M : ev_Mem} {Q : Option Value → ev_Mem → Prop} {x1 x2 x3 s0 : Int32} (h : (((s0 = 0) → (∃ Q2 : Option Value → ev_Mem → Prop, Cl LX d mX9_note [.ref 43, .int x3, .int 1, .int 0] M Q2 ∧ ∀ (zr : Option Value) (zM : ev_Mem), Q2 zr zM → Ev LX (d + 1) mX10_passDays 100 [some (.ref 0), some (.int x1), some (.int x2), none] (zr.toList ++ []) zM Q)) ∧ ((¬ s0 = 0) → (∃ Q2 : Option Value → ev_Mem → Prop, Cl LX d mX10_typeSpoken [.ref 0, .int x3] M Q2 ∧ ∀ (zr : Option Value) (zM : ev_Mem), Q2 zr zM → Ev LX (d + 1) mX10_passDays 87 [some (.ref 0), some (.int x1), some (.int x2), none] (zr.toList ++ []) zM Q)))) : Ev LX (d + 1) mX10_passDays 79 [some (.ref 0), some (.int x1), some (.int x2), some (.int x3)] [(.int s0)] M Q := by
  refine ev_if_eq (tgt := 90) dX10_passDays_79 (by decide) (fun c => ?_) (fun c => ?_)
  · replace h := h.1 c
    refine ev_aload_n dX10_passDays_90 rfl ?_
    refine ev_getA dX10_passDays_91 fl_WithoutE_26 lx_0 rfl ?_
    refine ev_iload_n dX10_passDays_94 rfl ?_
    refine ev_iconst (v := 1) dX10_passDays_95 (by decide) ?_
    refine ev_iconst (v := 0) dX10_passDays_96 (by decide) ?_
    obtain ⟨Q2, hc, h⟩ := h
    refine ev_callV [.int x3, .int 1, .int 0] dX10_passDays_97 ml_WithoutE_284 lx_43 rfl rfl (Nat.le_of_ble_eq_true rfl) hc (fun zr zM q => ?_)
    refine Ev.weak (ls := [some (.ref 0), some (.int x1), some (.int x2), none]) ⟨rfl, rfl, rfl, trivial⟩ ?_
    exact h zr zM q
  · replace h := h.2 c
    refine ev_aload_n dX10_passDays_82 rfl ?_
    refine ev_iload_n dX10_passDays_83 rfl ?_
    obtain ⟨Q2, hc, h⟩ := h
    refine ev_callV [.int x3] dX10_passDays_84 ml_WithoutE_242 lx_0 rfl rfl (Nat.le_of_ble_eq_true rfl) hc (fun zr zM q => ?_)
    refine Ev.weak (ls := [some (.ref 0), some (.int x1), some (.int x2), none]) ⟨rfl, rfl, rfl, trivial⟩ ?_
    exact h zr zM q
theorem gX10_passDays_100 {d : Nat} {M : ev_Mem} {Q : Option Value → ev_Mem → Prop} {x1 x2 : Int32} (h : (∃ Q2 : Option Value → ev_Mem → Prop, Cl LX d mX10_wearSomeKey [.ref 0] M Q2 ∧ ∀ (zr : Option Value) (zM : ev_Mem), Q2 zr zM → Ev LX (d + 1) mX10_passDays 104 [some (.ref 0), some (.int x1), some (.int x2), none] (zr.toList ++ []) zM Q)) : Ev LX (d + 1) mX10_passDays 100 [some (.ref 0), some (.int x1), some (.int x2), none] [] M Q := by
  refine ev_aload_n dX10_passDays_100 rfl ?_
  obtain ⟨Q2, hc, h⟩ := h
  refine ev_callV [] dX10_passDays_101 ml_WithoutE_288 lx_0 rfl rfl (Nat.le_of_ble_eq_true rfl) hc (fun zr zM q => ?_)
  exact h zr zM q
theorem gX10_passDays_87 {d : Nat} {M : ev_Mem} {Q : Option Value → ev_Mem → Prop} {x1 x2 : Int32} (h : (Ev LX d mX10_passDays 100 [some (.ref 0), some (.int x1), some (.int x2), none] [] M Q)) : Ev LX d mX10_passDays 87 [some (.ref 0), some (.int x1), some (.int x2), none] [] M Q := by
  refine ev_goto (tgt := 100) dX10_passDays_87 (by decide) ?_
  exact h
theorem dX10_write_0 : decode cX10_write 0 = .ok (.aload_n 0, 1) := by decide +kernel
theorem dX10_write_1 : decode cX10_write 1 = .ok (.getfield 19, 3) := by decide +kernel
theorem dX10_write_4 : decode cX10_write 4 = .ok (.iload_n 1, 1) := by decide +kernel
theorem dX10_write_5 : decode cX10_write 5 = .ok (.invokevirtual 233, 3) := by decide +kernel
theorem dX10_write_8 : decode cX10_write 8 = .ok (.ifCond .ne 9, 3) := by decide +kernel
theorem dX10_write_11 : decode cX10_write 11 = .ok (.aload_n 0, 1) := by decide +kernel
theorem dX10_write_12 : decode cX10_write 12 = .ok (.iconst 0, 1) := by decide +kernel
theorem dX10_write_13 : decode cX10_write 13 = .ok (.invokevirtual 185, 3) := by decide +kernel
theorem dX10_write_16 : decode cX10_write 16 = .ok (.ireturn, 1) := by decide +kernel
theorem dX10_write_17 : decode cX10_write 17 = .ok (.aload_n 0, 1) := by decide +kernel
theorem dX10_write_18 : decode cX10_write 18 = .ok (.invokevirtual 236, 3) := by decide +kernel
theorem dX10_write_21 : decode cX10_write 21 = .ok (.aload_n 0, 1) := by decide +kernel
theorem dX10_write_22 : decode cX10_write 22 = .ok (.getfield 98, 3) := by decide +kernel
theorem dX10_write_25 : decode cX10_write 25 = .ok (.iload_n 1, 1) := by decide +kernel
theorem dX10_write_26 : decode cX10_write 26 = .ok (.invokevirtual 239, 3) := by decide +kernel
theorem dX10_write_29 : decode cX10_write 29 = .ok (.ifCond .ne 9, 3) := by decide +kernel
theorem dX10_write_32 : decode cX10_write 32 = .ok (.aload_n 0, 1) := by decide +kernel
theorem dX10_write_33 : decode cX10_write 33 = .ok (.iconst 2, 1) := by decide +kernel
theorem dX10_write_34 : decode cX10_write 34 = .ok (.invokevirtual 185, 3) := by decide +kernel
theorem dX10_write_37 : decode cX10_write 37 = .ok (.ireturn, 1) := by decide +kernel
theorem dX10_write_38 : decode cX10_write 38 = .ok (.aload_n 0, 1) := by decide +kernel
theorem dX10_write_39 : decode cX10_write 39 = .ok (.getfield 26, 3) := by decide +kernel
theorem dX10_write_42 : decode cX10_write 42 = .ok (.invokevirtual 230, 3) := by decide +kernel
theorem dX10_write_45 : decode cX10_write 45 = .ok (.aload_n 0, 1) := by decide +kernel
theorem dX10_write_46 : decode cX10_write 46 = .ok (.iload_n 1, 1) := by decide +kernel
theorem dX10_write_47 : decode cX10_write 47 = .ok (.invokevirtual 242, 3) := by decide +kernel
theorem dX10_write_50 : decode cX10_write 50 = .ok (.aload_n 0, 1) := by decide +kernel
theorem dX10_write_51 : decode cX10_write 51 = .ok (.getfield 98, 3) := by decide +kernel
theorem dX10_write_54 : decode cX10_write 54 = .ok (.getfield 245, 3) := by decide +kernel
theorem dX10_write_57 : decode cX10_write 57 = .ok (.ireturn, 1) := by decide +kernel
theorem gX10_write_0 {d : Nat} {M : ev_Mem} {Q : Option Value → ev_Mem → Prop} {x1 : Int32} (h : ((okS M) ∧ ((((iin x1 0 (M.1 3 8 - 1)) = true) → (∃ Q2 : Option Value → ev_Mem → Prop, Cl LX d mX10_hearNow [.ref 0] M Q2 ∧ ∀ (zr : Option Value) (zM : ev_Mem), Q2 zr zM → Ev LX (d + 1) mX10_write 21 [some (.ref 0), some (.int x1)] (zr.toList ++ []) zM Q)) ∧ (((iin x1 0 (M.1 3 8 - 1)) = false) → ((vp_in (0 : Int32) 3) ∧ (∀ M1 : ev_Mem, M1 = rfs M 117 (0 : Int32).toNatClampNeg → (Q (some (.int (-1))) M1))))))) : Ev LX (d + 1) mX10_write 0 [some (.ref 0), some (.int x1)] [] M Q := by
  refine ev_aload_n dX10_write_0 rfl ?_
  refine ev_getA dX10_write_1 fl_WithoutE_19 lx_0 rfl ?_
  refine ev_iload_n dX10_write_4 rfl ?_
  obtain ⟨p1, h⟩ := h
  refine ev_callV [.int x1] dX10_write_5 ml_WithoutE_233 lx_3 rfl rfl (Nat.le_of_ble_eq_true rfl) (kX0_hasSentence p1) ?_
  rintro zr zM ⟨q1, q2⟩
  rw [q1, q2]
  show Ev LX (d + 1) mX10_write 8 [some (.ref 0), some (.int x1)] [(.int (bi (iin x1 0 (M.1 3 8 - 1))))] M Q
  refine ev_if_ne (tgt := 17) dX10_write_8 (by decide) (fun c => ?_) (fun c => ?_)
  · replace h := h.1 ((bi_n0 _).mp c)
    refine ev_aload_n dX10_write_17 rfl ?_
    obtain ⟨Q2, hc, h⟩ := h
    refine ev_callV [] dX10_write_18 ml_WithoutE_236 lx_0 rfl rfl (Nat.le_of_ble_eq_true rfl) hc (fun zr zM q => ?_)
    exact h zr zM q
  · replace h := h.2 ((bi_0 _).mp c)
    refine ev_aload_n dX10_write_11 rfl ?_
    refine ev_iconst (v := 0) dX10_write_12 (by decide) ?_
    obtain ⟨p1, h⟩ := h
    refine ev_callV [.int 0] dX10_write_13 ml_WithoutE_185 lx_0 rfl rfl (Nat.le_of_ble_eq_true rfl) (qX10_refuse p1) ?_
    rintro zr zM ⟨q1, q2⟩
    rw [q1, q2]
    generalize eM1 : rfs M 117 (0 : Int32).toNatClampNeg = M1
    replace h := h M1 eM1.symm
    show Ev LX (d + 1) mX10_write 16 [some (.ref 0), some (.int x1)] [(.int (-1))] M1 Q
    exact ev_iret dX10_write_16 rfl h
theorem gX10_write_21 {d : Nat} {M : ev_Mem} {Q : Option Value → ev_Mem → Prop} {x1 : Int32} (h : (∃ Q2 : Option Value → ev_Mem → Prop, Cl LX d mX6_speak [.ref 86, .int x1] M Q2 ∧ ∀ (zr : Option Value) (zM : ev_Mem), Q2 zr zM → Ev LX (d + 1) mX10_write 29 [some (.ref 0), some (.int x1)] (zr.toList ++ []) zM Q)) : Ev LX (d + 1) mX10_write 21 [some (.ref 0), some (.int x1)] [] M Q := by
  refine ev_aload_n dX10_write_21 rfl ?_
  refine ev_getA dX10_write_22 fl_WithoutE_98 lx_0 rfl ?_
  refine ev_iload_n dX10_write_25 rfl ?_
  obtain ⟨Q2, hc, h⟩ := h
  refine ev_callV [.int x1] dX10_write_26 ml_WithoutE_239 lx_86 rfl rfl (Nat.le_of_ble_eq_true rfl) hc (fun zr zM q => ?_)
  exact h zr zM q
theorem gX10_write_29 {d : Nat} {M : ev_Mem} {Q : Option Value → ev_Mem → Prop} {x1 s0 : Int32} (h : (((¬ s0 = 0) → (∃ Q2 : Option Value → ev_Mem → Prop, Cl LX d mX9_markStep [.ref 43] M Q2 ∧ ∀ (zr : Option Value) (zM : ev_Mem), Q2 zr zM → Ev LX (d + 1) mX10_write 45 [some (.ref 0), some (.int x1)] (zr.toList ++ []) zM Q)) ∧ ((s0 = 0) → ((vp_in (2 : Int32) 3) ∧ (∀ M1 : ev_Mem, M1 = rfs M 117 (2 : Int32).toNatClampNeg → (Q (some (.int (-1))) M1)))))) : Ev LX (d + 1) mX10_write 29 [some (.ref 0), some (.int x1)] [(.int s0)] M Q := by
  refine ev_if_ne (tgt := 38) dX10_write_29 (by decide) (fun c => ?_) (fun c => ?_)
  · replace h := h.1 c
    refine ev_aload_n dX10_write_38 rfl ?_
    refine ev_getA dX10_write_39 fl_WithoutE_26 lx_0 rfl ?_
    obtain ⟨Q2, hc, h⟩ := h
    refine ev_callV [] dX10_write_42 ml_WithoutE_230 lx_43 rfl rfl (Nat.le_of_ble_eq_true rfl) hc (fun zr zM q => ?_)
    exact h zr zM q
  · replace h := h.2 c
    refine ev_aload_n dX10_write_32 rfl ?_
    refine ev_iconst (v := 2) dX10_write_33 (by decide) ?_
    obtain ⟨p1, h⟩ := h
    refine ev_callV [.int 2] dX10_write_34 ml_WithoutE_185 lx_0 rfl rfl (Nat.le_of_ble_eq_true rfl) (qX10_refuse p1) ?_
    rintro zr zM ⟨q1, q2⟩
    rw [q1, q2]
    generalize eM1 : rfs M 117 (2 : Int32).toNatClampNeg = M1
    replace h := h M1 eM1.symm
    show Ev LX (d + 1) mX10_write 37 [some (.ref 0), some (.int x1)] [(.int (-1))] M1 Q
    exact ev_iret dX10_write_37 rfl h
theorem gX10_write_45 {d : Nat} {M : ev_Mem} {Q : Option Value → ev_Mem → Prop} {x1 : Int32} (h : (∃ Q2 : Option Value → ev_Mem → Prop, Cl LX d mX10_typeSpoken [.ref 0, .int x1] M Q2 ∧ ∀ (zr : Option Value) (zM : ev_Mem), Q2 zr zM → Ev LX (d + 1) mX10_write 50 [some (.ref 0), none] (zr.toList ++ []) zM Q)) : Ev LX (d + 1) mX10_write 45 [some (.ref 0), some (.int x1)] [] M Q := by
  refine ev_aload_n dX10_write_45 rfl ?_
  refine ev_iload_n dX10_write_46 rfl ?_
  obtain ⟨Q2, hc, h⟩ := h
  refine ev_callV [.int x1] dX10_write_47 ml_WithoutE_242 lx_0 rfl rfl (Nat.le_of_ble_eq_true rfl) hc (fun zr zM q => ?_)
  refine Ev.weak (ls := [some (.ref 0), none]) ⟨rfl, trivial⟩ ?_
  exact h zr zM q
theorem gX10_write_50 {d : Nat} {M : ev_Mem} {Q : Option Value → ev_Mem → Prop} (h : (Q (some (.int (M.1 86 14))) M)) : Ev LX d mX10_write 50 [some (.ref 0), none] [] M Q := by
  refine ev_aload_n dX10_write_50 rfl ?_
  refine ev_getA dX10_write_51 fl_WithoutE_98 lx_0 rfl ?_
  refine ev_getI dX10_write_54 fl_WithoutE_245 lx_86 rfl ?_
  exact ev_iret dX10_write_57 rfl h
theorem dX10_week_0 : decode cX10_week 0 = .ok (.iload_n 1, 1) := by decide +kernel
theorem dX10_week_1 : decode cX10_week 1 = .ok (.iconst 1, 1) := by decide +kernel
theorem dX10_week_2 : decode cX10_week 2 = .ok (.if_icmp .lt 9, 3) := by decide +kernel
theorem dX10_week_5 : decode cX10_week 5 = .ok (.iload_n 1, 1) := by decide +kernel
theorem dX10_week_6 : decode cX10_week 6 = .ok (.bipush 40, 2) := by decide +kernel
theorem dX10_week_8 : decode cX10_week 8 = .ok (.if_icmp .le 9, 3) := by decide +kernel
theorem dX10_week_11 : decode cX10_week 11 = .ok (.aload_n 0, 1) := by decide +kernel
theorem dX10_week_12 : decode cX10_week 12 = .ok (.iconst 0, 1) := by decide +kernel
theorem dX10_week_13 : decode cX10_week 13 = .ok (.invokevirtual 185, 3) := by decide +kernel
theorem dX10_week_16 : decode cX10_week 16 = .ok (.ireturn, 1) := by decide +kernel
theorem dX10_week_17 : decode cX10_week 17 = .ok (.aload_n 0, 1) := by decide +kernel
theorem dX10_week_18 : decode cX10_week 18 = .ok (.getfield 26, 3) := by decide +kernel
theorem dX10_week_21 : decode cX10_week 21 = .ok (.getfield 248, 3) := by decide +kernel
theorem dX10_week_24 : decode cX10_week 24 = .ok (.iload_n 1, 1) := by decide +kernel
theorem dX10_week_25 : decode cX10_week 25 = .ok (.iadd, 1) := by decide +kernel
theorem dX10_week_26 : decode cX10_week 26 = .ok (.sipush 9999, 3) := by decide +kernel
theorem dX10_week_29 : decode cX10_week 29 = .ok (.if_icmp .le 9, 3) := by decide +kernel
theorem dX10_week_32 : decode cX10_week 32 = .ok (.aload_n 0, 1) := by decide +kernel
theorem dX10_week_33 : decode cX10_week 33 = .ok (.iconst 2, 1) := by decide +kernel
theorem dX10_week_34 : decode cX10_week 34 = .ok (.invokevirtual 185, 3) := by decide +kernel
theorem dX10_week_37 : decode cX10_week 37 = .ok (.ireturn, 1) := by decide +kernel
theorem dX10_week_38 : decode cX10_week 38 = .ok (.aload_n 0, 1) := by decide +kernel
theorem dX10_week_39 : decode cX10_week 39 = .ok (.iload_n 1, 1) := by decide +kernel
theorem dX10_week_40 : decode cX10_week 40 = .ok (.invokevirtual 175, 3) := by decide +kernel
theorem dX10_week_43 : decode cX10_week 43 = .ok (.pop, 1) := by decide +kernel
theorem dX10_week_44 : decode cX10_week 44 = .ok (.aload_n 0, 1) := by decide +kernel
theorem dX10_week_45 : decode cX10_week 45 = .ok (.getfield 26, 3) := by decide +kernel
theorem dX10_week_48 : decode cX10_week 48 = .ok (.getfield 223, 3) := by decide +kernel
theorem dX10_week_51 : decode cX10_week 51 = .ok (.invokestatic 251, 3) := by decide +kernel
theorem dX10_week_54 : decode cX10_week 54 = .ok (.ireturn, 1) := by decide +kernel
theorem gX10_week_0 {d : Nat} {M : ev_Mem} {Q : Option Value → ev_Mem → Prop} {x1 : Int32} (h : (((x1 < 1) → ((vp_in (0 : Int32) 3) ∧ (∀ M1 : ev_Mem, M1 = rfs M 117 (0 : Int32).toNatClampNeg → (Q (some (.int (-1))) M1)))) ∧ ((¬ x1 < 1) → (((x1 ≤ 40) → (((((M.1 43 3) + x1) ≤ 9999) → (∃ Q2 : Option Value → ev_Mem → Prop, Cl LX d mX10_passDays [.ref 0, .int x1] M Q2 ∧ ∀ (zr : Option Value) (zM : ev_Mem), Q2 zr zM → Ev LX (d + 1) mX10_week 43 [some (.ref 0), none] (zr.toList ++ []) zM Q)) ∧ ((¬ ((M.1 43 3) + x1) ≤ 9999) → ((vp_in (2 : Int32) 3) ∧ (∀ M2 : ev_Mem, M2 = rfs M 117 (2 : Int32).toNatClampNeg → (Q (some (.int (-1))) M2)))))) ∧ ((¬ x1 ≤ 40) → ((vp_in (0 : Int32) 3) ∧ (∀ M3 : ev_Mem, M3 = rfs M 117 (0 : Int32).toNatClampNeg → (Q (some (.int (-1))) M3)))))))) : Ev LX (d + 1) mX10_week 0 [some (.ref 0), some (.int x1)] [] M Q := by
  refine ev_iload_n dX10_week_0 rfl ?_
  refine ev_iconst (v := 1) dX10_week_1 (by decide) ?_
  refine ev_icmp_lt (tgt := 11) dX10_week_2 (by decide) (fun c => ?_) (fun c => ?_)
  · replace h := h.1 c
    refine ev_aload_n dX10_week_11 rfl ?_
    refine ev_iconst (v := 0) dX10_week_12 (by decide) ?_
    obtain ⟨p1, h⟩ := h
    refine ev_callV [.int 0] dX10_week_13 ml_WithoutE_185 lx_0 rfl rfl (Nat.le_of_ble_eq_true rfl) (qX10_refuse p1) ?_
    rintro zr zM ⟨q1, q2⟩
    rw [q1, q2]
    generalize eM1 : rfs M 117 (0 : Int32).toNatClampNeg = M1
    replace h := h M1 eM1.symm
    show Ev LX (d + 1) mX10_week 16 [some (.ref 0), some (.int x1)] [(.int (-1))] M1 Q
    exact ev_iret dX10_week_16 rfl h
  · replace h := h.2 c
    refine ev_iload_n dX10_week_5 rfl ?_
    refine ev_bipush (v := 40) dX10_week_6 (by decide) ?_
    refine ev_icmp_le (tgt := 17) dX10_week_8 (by decide) (fun c => ?_) (fun c => ?_)
    · replace h := h.1 c
      refine ev_aload_n dX10_week_17 rfl ?_
      refine ev_getA dX10_week_18 fl_WithoutE_26 lx_0 rfl ?_
      refine ev_getI dX10_week_21 fl_WithoutE_248 lx_43 rfl ?_
      refine ev_iload_n dX10_week_24 rfl ?_
      refine ev_iadd dX10_week_25 ?_
      refine ev_sipush (v := 9999) dX10_week_26 (by decide) ?_
      refine ev_icmp_le (tgt := 38) dX10_week_29 (by decide) (fun c => ?_) (fun c => ?_)
      · replace h := h.1 c
        refine ev_aload_n dX10_week_38 rfl ?_
        refine ev_iload_n dX10_week_39 rfl ?_
        obtain ⟨Q2, hc, h⟩ := h
        refine ev_callV [.int x1] dX10_week_40 ml_WithoutE_175 lx_0 rfl rfl (Nat.le_of_ble_eq_true rfl) hc (fun zr zM q => ?_)
        refine Ev.weak (ls := [some (.ref 0), none]) ⟨rfl, trivial⟩ ?_
        exact h zr zM q
      · replace h := h.2 c
        refine ev_aload_n dX10_week_32 rfl ?_
        refine ev_iconst (v := 2) dX10_week_33 (by decide) ?_
        obtain ⟨p1, h⟩ := h
        refine ev_callV [.int 2] dX10_week_34 ml_WithoutE_185 lx_0 rfl rfl (Nat.le_of_ble_eq_true rfl) (qX10_refuse p1) ?_
        rintro zr zM ⟨q1, q2⟩
        rw [q1, q2]
        generalize eM2 : rfs M 117 (2 : Int32).toNatClampNeg = M2
        replace h := h M2 eM2.symm
        show Ev LX (d + 1) mX10_week 37 [some (.ref 0), some (.int x1)] [(.int (-1))] M2 Q
        exact ev_iret dX10_week_37 rfl h
    · replace h := h.2 c
      refine ev_aload_n dX10_week_11 rfl ?_
      refine ev_iconst (v := 0) dX10_week_12 (by decide) ?_
      obtain ⟨p1, h⟩ := h
      refine ev_callV [.int 0] dX10_week_13 ml_WithoutE_185 lx_0 rfl rfl (Nat.le_of_ble_eq_true rfl) (qX10_refuse p1) ?_
      rintro zr zM ⟨q1, q2⟩
      rw [q1, q2]
      generalize eM3 : rfs M 117 (0 : Int32).toNatClampNeg = M3
      replace h := h M3 eM3.symm
      show Ev LX (d + 1) mX10_week 16 [some (.ref 0), some (.int x1)] [(.int (-1))] M3 Q
      exact ev_iret dX10_week_16 rfl h
theorem gX10_week_43 {d : Nat} {M : ev_Mem} {Q : Option Value → ev_Mem → Prop} {s0 : Int32} (h : (Q (some (.int (bc (M.1 43 0)))) M)) : Ev LX (d + 1) mX10_week 43 [some (.ref 0), none] [(.int s0)] M Q := by
  refine ev_pop dX10_week_43 rfl ?_
  refine ev_aload_n dX10_week_44 rfl ?_
  refine ev_getA dX10_week_45 fl_WithoutE_26 lx_0 rfl ?_
  refine ev_getI dX10_week_48 fl_WithoutE_223 lx_43 rfl ?_
  refine ev_callS [.int (M.1 43 0)] dX10_week_51 ml_WithoutE_251 rfl (Nat.le_of_ble_eq_true rfl) (kJ6_bitCount) ?_
  rintro zr zM ⟨q1, q2⟩
  rw [q1, q2]
  show Ev LX (d + 1) mX10_week 54 [some (.ref 0), none] [(.int (bc (M.1 43 0)))] M Q
  exact ev_iret dX10_week_54 rfl h
theorem dX10_image_0 : decode cX10_image 0 = .ok (.aload_n 0, 1) := by decide +kernel
theorem dX10_image_1 : decode cX10_image 1 = .ok (.getfield 52, 3) := by decide +kernel
theorem dX10_image_4 : decode cX10_image 4 = .ok (.aload_n 0, 1) := by decide +kernel
theorem dX10_image_5 : decode cX10_image 5 = .ok (.getfield 26, 3) := by decide +kernel
theorem dX10_image_8 : decode cX10_image 8 = .ok (.invokevirtual 468, 3) := by decide +kernel
theorem dX10_image_11 : decode cX10_image 11 = .ok (.aload_n 0, 1) := by decide +kernel
theorem dX10_image_12 : decode cX10_image 12 = .ok (.getfield 55, 3) := by decide +kernel
theorem dX10_image_15 : decode cX10_image 15 = .ok (.aload_n 0, 1) := by decide +kernel
theorem dX10_image_16 : decode cX10_image 16 = .ok (.getfield 33, 3) := by decide +kernel
theorem dX10_image_19 : decode cX10_image 19 = .ok (.invokevirtual 472, 3) := by decide +kernel
theorem dX10_image_22 : decode cX10_image 22 = .ok (.aload_n 0, 1) := by decide +kernel
theorem dX10_image_23 : decode cX10_image 23 = .ok (.aload_n 0, 1) := by decide +kernel
theorem dX10_image_24 : decode cX10_image 24 = .ok (.getfield 19, 3) := by decide +kernel
theorem dX10_image_27 : decode cX10_image 27 = .ok (.getfield 194, 3) := by decide +kernel
theorem dX10_image_30 : decode cX10_image 30 = .ok (.putfield 475, 3) := by decide +kernel
theorem dX10_image_33 : decode cX10_image 33 = .ok (.aload_n 0, 1) := by decide +kernel
theorem dX10_image_34 : decode cX10_image 34 = .ok (.aload_n 0, 1) := by decide +kernel
theorem dX10_image_35 : decode cX10_image 35 = .ok (.getfield 19, 3) := by decide +kernel
theorem dX10_image_38 : decode cX10_image 38 = .ok (.getfield 262, 3) := by decide +kernel
theorem dX10_image_41 : decode cX10_image 41 = .ok (.putfield 478, 3) := by decide +kernel
theorem dX10_image_44 : decode cX10_image 44 = .ok (.aload_n 0, 1) := by decide +kernel
theorem dX10_image_45 : decode cX10_image 45 = .ok (.getfield 26, 3) := by decide +kernel
theorem dX10_image_48 : decode cX10_image 48 = .ok (.getfield 248, 3) := by decide +kernel
theorem dX10_image_51 : decode cX10_image 51 = .ok (.ireturn, 1) := by decide +kernel
theorem gX10_image_0 {d : Nat} {M : ev_Mem} {Q : Option Value → ev_Mem → Prop} (h : (∃ Q2 : Option Value → ev_Mem → Prop, Cl LX d mX9_copyOf [.ref 100, .ref 43] M Q2 ∧ ∀ (zr : Option Value) (zM : ev_Mem), Q2 zr zM → Ev LX (d + 1) mX10_image 11 [some (.ref 0)] (zr.toList ++ []) zM Q)) : Ev LX (d + 1) mX10_image 0 [some (.ref 0)] [] M Q := by
  refine ev_aload_n dX10_image_0 rfl ?_
  refine ev_getA dX10_image_1 fl_WithoutE_52 lx_0 rfl ?_
  refine ev_aload_n dX10_image_4 rfl ?_
  refine ev_getA dX10_image_5 fl_WithoutE_26 lx_0 rfl ?_
  obtain ⟨Q2, hc, h⟩ := h
  refine ev_callV [.ref 43] dX10_image_8 ml_WithoutE_468 lx_100 rfl rfl (Nat.le_of_ble_eq_true rfl) hc (fun zr zM q => ?_)
  exact h zr zM q
theorem gX10_image_11 {d : Nat} {M : ev_Mem} {Q : Option Value → ev_Mem → Prop} (h : (∃ Q2 : Option Value → ev_Mem → Prop, Cl LX d mX3_copyOf [.ref 104, .ref 47] M Q2 ∧ ∀ (zr : Option Value) (zM : ev_Mem), Q2 zr zM → Ev LX (d + 1) mX10_image 22 [some (.ref 0)] (zr.toList ++ []) zM Q)) : Ev LX (d + 1) mX10_image 11 [some (.ref 0)] [] M Q := by
  refine ev_aload_n dX10_image_11 rfl ?_
  refine ev_getA dX10_image_12 fl_WithoutE_55 lx_0 rfl ?_
  refine ev_aload_n dX10_image_15 rfl ?_
  refine ev_getA dX10_image_16 fl_WithoutE_33 lx_0 rfl ?_
  obtain ⟨Q2, hc, h⟩ := h
  refine ev_callV [.ref 47] dX10_image_19 ml_WithoutE_472 lx_104 rfl rfl (Nat.le_of_ble_eq_true rfl) hc (fun zr zM q => ?_)
  exact h zr zM q
theorem gX10_image_22 {d : Nat} {M : ev_Mem} {Q : Option Value → ev_Mem → Prop} (h : (∀ M1 : ev_Mem, M1 = ev_wr M 0 16 (M.1 3 5) → (∀ M2 : ev_Mem, M2 = ev_wr M1 0 17 (M1.1 3 8) → (Q (some (.int (M2.1 43 3))) M2)))) : Ev LX d mX10_image 22 [some (.ref 0)] [] M Q := by
  refine ev_aload_n dX10_image_22 rfl ?_
  refine ev_aload_n dX10_image_23 rfl ?_
  refine ev_getA dX10_image_24 fl_WithoutE_19 lx_0 rfl ?_
  refine ev_getI dX10_image_27 fl_WithoutE_194 lx_3 rfl ?_
  refine ev_putI dX10_image_30 fp_WithoutE_475 lx_0 rfl rfl rfl ?_
  generalize eM1 : ev_wr M 0 16 (M.1 3 5) = M1
  replace h := h M1 eM1.symm
  refine ev_aload_n dX10_image_33 rfl ?_
  refine ev_aload_n dX10_image_34 rfl ?_
  refine ev_getA dX10_image_35 fl_WithoutE_19 lx_0 rfl ?_
  refine ev_getI dX10_image_38 fl_WithoutE_262 lx_3 rfl ?_
  refine ev_putI dX10_image_41 fp_WithoutE_478 lx_0 rfl rfl rfl ?_
  generalize eM2 : ev_wr M1 0 17 (M1.1 3 8) = M2
  replace h := h M2 eM2.symm
  refine ev_aload_n dX10_image_44 rfl ?_
  refine ev_getA dX10_image_45 fl_WithoutE_26 lx_0 rfl ?_
  refine ev_getI dX10_image_48 fl_WithoutE_248 lx_43 rfl ?_
  exact ev_iret dX10_image_51 rfl h
theorem dX10_restore_0 : decode cX10_restore 0 = .ok (.aload_n 0, 1) := by decide +kernel
theorem dX10_restore_1 : decode cX10_restore 1 = .ok (.getfield 26, 3) := by decide +kernel
theorem dX10_restore_4 : decode cX10_restore 4 = .ok (.aload_n 0, 1) := by decide +kernel
theorem dX10_restore_5 : decode cX10_restore 5 = .ok (.getfield 52, 3) := by decide +kernel
theorem dX10_restore_8 : decode cX10_restore 8 = .ok (.invokevirtual 468, 3) := by decide +kernel
theorem dX10_restore_11 : decode cX10_restore 11 = .ok (.aload_n 0, 1) := by decide +kernel
theorem dX10_restore_12 : decode cX10_restore 12 = .ok (.getfield 33, 3) := by decide +kernel
theorem dX10_restore_15 : decode cX10_restore 15 = .ok (.aload_n 0, 1) := by decide +kernel
theorem dX10_restore_16 : decode cX10_restore 16 = .ok (.getfield 55, 3) := by decide +kernel
theorem dX10_restore_19 : decode cX10_restore 19 = .ok (.invokevirtual 472, 3) := by decide +kernel
theorem dX10_restore_22 : decode cX10_restore 22 = .ok (.aload_n 0, 1) := by decide +kernel
theorem dX10_restore_23 : decode cX10_restore 23 = .ok (.getfield 19, 3) := by decide +kernel
theorem dX10_restore_26 : decode cX10_restore 26 = .ok (.aload_n 0, 1) := by decide +kernel
theorem dX10_restore_27 : decode cX10_restore 27 = .ok (.getfield 475, 3) := by decide +kernel
theorem dX10_restore_30 : decode cX10_restore 30 = .ok (.putfield 194, 3) := by decide +kernel
theorem dX10_restore_33 : decode cX10_restore 33 = .ok (.aload_n 0, 1) := by decide +kernel
theorem dX10_restore_34 : decode cX10_restore 34 = .ok (.getfield 19, 3) := by decide +kernel
theorem dX10_restore_37 : decode cX10_restore 37 = .ok (.aload_n 0, 1) := by decide +kernel
theorem dX10_restore_38 : decode cX10_restore 38 = .ok (.getfield 478, 3) := by decide +kernel
theorem dX10_restore_41 : decode cX10_restore 41 = .ok (.putfield 262, 3) := by decide +kernel
theorem dX10_restore_44 : decode cX10_restore 44 = .ok (.aload_n 0, 1) := by decide +kernel
theorem dX10_restore_45 : decode cX10_restore 45 = .ok (.getfield 26, 3) := by decide +kernel
theorem dX10_restore_48 : decode cX10_restore 48 = .ok (.getfield 248, 3) := by decide +kernel
theorem dX10_restore_51 : decode cX10_restore 51 = .ok (.ireturn, 1) := by decide +kernel
theorem gX10_restore_0 {d : Nat} {M : ev_Mem} {Q : Option Value → ev_Mem → Prop} (h : (∃ Q2 : Option Value → ev_Mem → Prop, Cl LX d mX9_copyOf [.ref 43, .ref 100] M Q2 ∧ ∀ (zr : Option Value) (zM : ev_Mem), Q2 zr zM → Ev LX (d + 1) mX10_restore 11 [some (.ref 0)] (zr.toList ++ []) zM Q)) : Ev LX (d + 1) mX10_restore 0 [some (.ref 0)] [] M Q := by
  refine ev_aload_n dX10_restore_0 rfl ?_
  refine ev_getA dX10_restore_1 fl_WithoutE_26 lx_0 rfl ?_
  refine ev_aload_n dX10_restore_4 rfl ?_
  refine ev_getA dX10_restore_5 fl_WithoutE_52 lx_0 rfl ?_
  obtain ⟨Q2, hc, h⟩ := h
  refine ev_callV [.ref 100] dX10_restore_8 ml_WithoutE_468 lx_43 rfl rfl (Nat.le_of_ble_eq_true rfl) hc (fun zr zM q => ?_)
  exact h zr zM q
theorem gX10_restore_11 {d : Nat} {M : ev_Mem} {Q : Option Value → ev_Mem → Prop} (h : (∃ Q2 : Option Value → ev_Mem → Prop, Cl LX d mX3_copyOf [.ref 47, .ref 104] M Q2 ∧ ∀ (zr : Option Value) (zM : ev_Mem), Q2 zr zM → Ev LX (d + 1) mX10_restore 22 [some (.ref 0)] (zr.toList ++ []) zM Q)) : Ev LX (d + 1) mX10_restore 11 [some (.ref 0)] [] M Q := by
  refine ev_aload_n dX10_restore_11 rfl ?_
  refine ev_getA dX10_restore_12 fl_WithoutE_33 lx_0 rfl ?_
  refine ev_aload_n dX10_restore_15 rfl ?_
  refine ev_getA dX10_restore_16 fl_WithoutE_55 lx_0 rfl ?_
  obtain ⟨Q2, hc, h⟩ := h
  refine ev_callV [.ref 104] dX10_restore_19 ml_WithoutE_472 lx_47 rfl rfl (Nat.le_of_ble_eq_true rfl) hc (fun zr zM q => ?_)
  exact h zr zM q
theorem gX10_restore_22 {d : Nat} {M : ev_Mem} {Q : Option Value → ev_Mem → Prop} (h : (∀ M1 : ev_Mem, M1 = ev_wr M 3 5 (M.1 0 16) → (∀ M2 : ev_Mem, M2 = ev_wr M1 3 8 (M1.1 0 17) → (Q (some (.int (M2.1 43 3))) M2)))) : Ev LX d mX10_restore 22 [some (.ref 0)] [] M Q := by
  refine ev_aload_n dX10_restore_22 rfl ?_
  refine ev_getA dX10_restore_23 fl_WithoutE_19 lx_0 rfl ?_
  refine ev_aload_n dX10_restore_26 rfl ?_
  refine ev_getI dX10_restore_27 fl_WithoutE_475 lx_0 rfl ?_
  refine ev_putI dX10_restore_30 fp_WithoutE_194 lx_3 rfl rfl rfl ?_
  generalize eM1 : ev_wr M 3 5 (M.1 0 16) = M1
  replace h := h M1 eM1.symm
  refine ev_aload_n dX10_restore_33 rfl ?_
  refine ev_getA dX10_restore_34 fl_WithoutE_19 lx_0 rfl ?_
  refine ev_aload_n dX10_restore_37 rfl ?_
  refine ev_getI dX10_restore_38 fl_WithoutE_478 lx_0 rfl ?_
  refine ev_putI dX10_restore_41 fp_WithoutE_262 lx_3 rfl rfl rfl ?_
  generalize eM2 : ev_wr M1 3 8 (M1.1 0 17) = M2
  replace h := h M2 eM2.symm
  refine ev_aload_n dX10_restore_44 rfl ?_
  refine ev_getA dX10_restore_45 fl_WithoutE_26 lx_0 rfl ?_
  refine ev_getI dX10_restore_48 fl_WithoutE_248 lx_43 rfl ?_
  exact ev_iret dX10_restore_51 rfl h
theorem gX11_copyi_0 {d : Nat} {M : ev_Mem} {Q : Option Value → ev_Mem → Prop} (h : (Ev LM d mX11_copy 2 [some (.ref 1), some (.ref 2), some (.int 0)] [] M Q)) : Ev LM d mX11_copy 0 [some (.ref 1), some (.ref 2), none] [] M Q := by
  refine ev_iconst (v := 0) dX11_copy_0 (by decide) ?_
  refine ev_istore_n (ls2 := [some (.ref 1), some (.ref 2), some (.int 0)]) dX11_copy_1 (Nat.le_of_ble_eq_true rfl) rfl ?_
  exact h
theorem gX11_copyi_2 {d : Nat} {M : ev_Mem} {Q : Option Value → ev_Mem → Prop} {x2 : Int32} (h : (((3315 ≤ x2) → (Q none M)) ∧ ((¬ 3315 ≤ x2) → (vp_in x2 3315 ∧ (vp_in x2 3315 ∧ (∀ M1 : ev_Mem, M1 = ev_wr M 2 x2.toNatClampNeg (M.1 1 x2.toNatClampNeg) → (Ev LM d mX11_copy 2 [some (.ref 1), some (.ref 2), some (.int (x2 + 1))] [] M1 Q))))))) : Ev LM d mX11_copy 2 [some (.ref 1), some (.ref 2), some (.int x2)] [] M Q := by
  refine ev_iload_n dX11_copy_2 rfl ?_
  refine ev_sipush (v := 3315) dX11_copy_3 (by decide) ?_
  refine ev_icmp_ge (tgt := 21) dX11_copy_6 (by decide) (fun c => ?_) (fun c => ?_)
  · replace h := h.1 c
    exact ev_vret dX11_copy_21 rfl h
  · replace h := h.2 c
    refine ev_aload_n dX11_copy_9 rfl ?_
    refine ev_iload_n dX11_copy_10 rfl ?_
    refine ev_aload_n dX11_copy_11 rfl ?_
    refine ev_iload_n dX11_copy_12 rfl ?_
    obtain ⟨c, h⟩ := h
    refine ev_iald dX11_copy_13 lm_1 c ?_
    obtain ⟨c, h⟩ := h
    refine ev_iast dX11_copy_14 lm_2 c ?_
    generalize eM1 : ev_wr M 2 x2.toNatClampNeg (M.1 1 x2.toNatClampNeg) = M1
    replace h := h M1 eM1.symm
    refine ev_iinc (v := x2 + 1) (ls2 := [some (.ref 1), some (.ref 2), some (.int (x2 + 1))]) dX11_copy_15 rfl rfl rfl ?_
    refine ev_goto (tgt := 2) dX11_copy_18 (by decide) ?_
    exact h
theorem gX11_copyr_0 {d : Nat} {M : ev_Mem} {Q : Option Value → ev_Mem → Prop} (h : (Ev LM d mX11_copy 2 [some (.ref 2), some (.ref 1), some (.int 0)] [] M Q)) : Ev LM d mX11_copy 0 [some (.ref 2), some (.ref 1), none] [] M Q := by
  refine ev_iconst (v := 0) dX11_copy_0 (by decide) ?_
  refine ev_istore_n (ls2 := [some (.ref 2), some (.ref 1), some (.int 0)]) dX11_copy_1 (Nat.le_of_ble_eq_true rfl) rfl ?_
  exact h
theorem gX11_copyr_2 {d : Nat} {M : ev_Mem} {Q : Option Value → ev_Mem → Prop} {x2 : Int32} (h : (((3315 ≤ x2) → (Q none M)) ∧ ((¬ 3315 ≤ x2) → (vp_in x2 3315 ∧ (vp_in x2 3315 ∧ (∀ M1 : ev_Mem, M1 = ev_wr M 1 x2.toNatClampNeg (M.1 2 x2.toNatClampNeg) → (Ev LM d mX11_copy 2 [some (.ref 2), some (.ref 1), some (.int (x2 + 1))] [] M1 Q))))))) : Ev LM d mX11_copy 2 [some (.ref 2), some (.ref 1), some (.int x2)] [] M Q := by
  refine ev_iload_n dX11_copy_2 rfl ?_
  refine ev_sipush (v := 3315) dX11_copy_3 (by decide) ?_
  refine ev_icmp_ge (tgt := 21) dX11_copy_6 (by decide) (fun c => ?_) (fun c => ?_)
  · replace h := h.1 c
    exact ev_vret dX11_copy_21 rfl h
  · replace h := h.2 c
    refine ev_aload_n dX11_copy_9 rfl ?_
    refine ev_iload_n dX11_copy_10 rfl ?_
    refine ev_aload_n dX11_copy_11 rfl ?_
    refine ev_iload_n dX11_copy_12 rfl ?_
    obtain ⟨c, h⟩ := h
    refine ev_iald dX11_copy_13 lm_2 c ?_
    obtain ⟨c, h⟩ := h
    refine ev_iast dX11_copy_14 lm_1 c ?_
    generalize eM1 : ev_wr M 1 x2.toNatClampNeg (M.1 2 x2.toNatClampNeg) = M1
    replace h := h M1 eM1.symm
    refine ev_iinc (v := x2 + 1) (ls2 := [some (.ref 2), some (.ref 1), some (.int (x2 + 1))]) dX11_copy_15 rfl rfl rfl ?_
    refine ev_goto (tgt := 2) dX11_copy_18 (by decide) ?_
    exact h
theorem dX11_writeNow_0 : decode cX11_writeNow 0 = .ok (.iconst 0, 1) := by decide +kernel
theorem dX11_writeNow_1 : decode cX11_writeNow 1 = .ok (.istore_n 3, 1) := by decide +kernel
theorem dX11_writeNow_2 : decode cX11_writeNow 2 = .ok (.iload_n 3, 1) := by decide +kernel
theorem dX11_writeNow_3 : decode cX11_writeNow 3 = .ok (.aload_n 0, 1) := by decide +kernel
theorem dX11_writeNow_4 : decode cX11_writeNow 4 = .ok (.iload_n 1, 1) := by decide +kernel
theorem dX11_writeNow_5 : decode cX11_writeNow 5 = .ok (.invokevirtual 359, 3) := by decide +kernel
theorem dX11_writeNow_8 : decode cX11_writeNow 8 = .ok (.if_icmp .ge 96, 3) := by decide +kernel
theorem dX11_writeNow_11 : decode cX11_writeNow 11 = .ok (.iconst 0, 1) := by decide +kernel
theorem dX11_writeNow_12 : decode cX11_writeNow 12 = .ok (.istore 4, 2) := by decide +kernel
theorem dX11_writeNow_14 : decode cX11_writeNow 14 = .ok (.iload 4, 2) := by decide +kernel
theorem dX11_writeNow_16 : decode cX11_writeNow 16 = .ok (.aload_n 0, 1) := by decide +kernel
theorem dX11_writeNow_17 : decode cX11_writeNow 17 = .ok (.aload_n 0, 1) := by decide +kernel
theorem dX11_writeNow_18 : decode cX11_writeNow 18 = .ok (.getfield 55, 3) := by decide +kernel
theorem dX11_writeNow_21 : decode cX11_writeNow 21 = .ok (.iload_n 3, 1) := by decide +kernel
theorem dX11_writeNow_22 : decode cX11_writeNow 22 = .ok (.iaload, 1) := by decide +kernel
theorem dX11_writeNow_23 : decode cX11_writeNow 23 = .ok (.iconst 3, 1) := by decide +kernel
theorem dX11_writeNow_24 : decode cX11_writeNow 24 = .ok (.invokevirtual 92, 3) := by decide +kernel
theorem dX11_writeNow_27 : decode cX11_writeNow 27 = .ok (.if_icmp .ge 71, 3) := by decide +kernel
theorem dX11_writeNow_30 : decode cX11_writeNow 30 = .ok (.aload_n 0, 1) := by decide +kernel
theorem dX11_writeNow_31 : decode cX11_writeNow 31 = .ok (.aload_n 0, 1) := by decide +kernel
theorem dX11_writeNow_32 : decode cX11_writeNow 32 = .ok (.getfield 55, 3) := by decide +kernel
theorem dX11_writeNow_35 : decode cX11_writeNow 35 = .ok (.iload_n 3, 1) := by decide +kernel
theorem dX11_writeNow_36 : decode cX11_writeNow 36 = .ok (.iaload, 1) := by decide +kernel
theorem dX11_writeNow_37 : decode cX11_writeNow 37 = .ok (.aload_n 0, 1) := by decide +kernel
theorem dX11_writeNow_38 : decode cX11_writeNow 38 = .ok (.aload_n 0, 1) := by decide +kernel
theorem dX11_writeNow_39 : decode cX11_writeNow 39 = .ok (.getfield 55, 3) := by decide +kernel
theorem dX11_writeNow_42 : decode cX11_writeNow 42 = .ok (.iload_n 3, 1) := by decide +kernel
theorem dX11_writeNow_43 : decode cX11_writeNow 43 = .ok (.iaload, 1) := by decide +kernel
theorem dX11_writeNow_44 : decode cX11_writeNow 44 = .ok (.iconst 4, 1) := by decide +kernel
theorem dX11_writeNow_45 : decode cX11_writeNow 45 = .ok (.iload 4, 2) := by decide +kernel
theorem dX11_writeNow_47 : decode cX11_writeNow 47 = .ok (.iadd, 1) := by decide +kernel
theorem dX11_writeNow_48 : decode cX11_writeNow 48 = .ok (.invokevirtual 92, 3) := by decide +kernel
theorem dX11_writeNow_51 : decode cX11_writeNow 51 = .ok (.invokevirtual 377, 3) := by decide +kernel
theorem dX11_writeNow_54 : decode cX11_writeNow 54 = .ok (.istore 5, 2) := by decide +kernel
theorem dX11_writeNow_56 : decode cX11_writeNow 56 = .ok (.iload 5, 2) := by decide +kernel
theorem dX11_writeNow_58 : decode cX11_writeNow 58 = .ok (.iconst (-1), 1) := by decide +kernel
theorem dX11_writeNow_59 : decode cX11_writeNow 59 = .ok (.if_icmp .eq 33, 3) := by decide +kernel
theorem dX11_writeNow_62 : decode cX11_writeNow 62 = .ok (.aload_n 0, 1) := by decide +kernel
theorem dX11_writeNow_63 : decode cX11_writeNow 63 = .ok (.getfield 7, 3) := by decide +kernel
theorem dX11_writeNow_66 : decode cX11_writeNow 66 = .ok (.bipush 13, 2) := by decide +kernel
theorem dX11_writeNow_68 : decode cX11_writeNow 68 = .ok (.iload 5, 2) := by decide +kernel
theorem dX11_writeNow_70 : decode cX11_writeNow 70 = .ok (.iadd, 1) := by decide +kernel
theorem dX11_writeNow_71 : decode cX11_writeNow 71 = .ok (.aload_n 0, 1) := by decide +kernel
theorem dX11_writeNow_72 : decode cX11_writeNow 72 = .ok (.getfield 7, 3) := by decide +kernel
theorem dX11_writeNow_75 : decode cX11_writeNow 75 = .ok (.bipush 13, 2) := by decide +kernel
theorem dX11_writeNow_77 : decode cX11_writeNow 77 = .ok (.iload 5, 2) := by decide +kernel
theorem dX11_writeNow_79 : decode cX11_writeNow 79 = .ok (.iadd, 1) := by decide +kernel
theorem dX11_writeNow_80 : decode cX11_writeNow 80 = .ok (.iaload, 1) := by decide +kernel
theorem dX11_writeNow_81 : decode cX11_writeNow 81 = .ok (.iconst 1, 1) := by decide +kernel
theorem dX11_writeNow_82 : decode cX11_writeNow 82 = .ok (.iadd, 1) := by decide +kernel
theorem dX11_writeNow_83 : decode cX11_writeNow 83 = .ok (.i2l, 1) := by decide +kernel
theorem dX11_writeNow_84 : decode cX11_writeNow 84 = .ok (.iconst 0, 1) := by decide +kernel
theorem dX11_writeNow_85 : decode cX11_writeNow 85 = .ok (.sipush 9999, 3) := by decide +kernel
theorem dX11_writeNow_88 : decode cX11_writeNow 88 = .ok (.invokestatic 308, 3) := by decide +kernel
theorem dX11_writeNow_91 : decode cX11_writeNow 91 = .ok (.iastore, 1) := by decide +kernel
theorem dX11_writeNow_92 : decode cX11_writeNow 92 = .ok (.iinc 4 1, 3) := by decide +kernel
theorem dX11_writeNow_95 : decode cX11_writeNow 95 = .ok (.goto (-81), 3) := by decide +kernel
theorem dX11_writeNow_98 : decode cX11_writeNow 98 = .ok (.iinc 3 1, 3) := by decide +kernel
theorem dX11_writeNow_101 : decode cX11_writeNow 101 = .ok (.goto (-99), 3) := by decide +kernel
theorem dX11_writeNow_104 : decode cX11_writeNow 104 = .ok (.aload_n 0, 1) := by decide +kernel
theorem dX11_writeNow_105 : decode cX11_writeNow 105 = .ok (.getfield 7, 3) := by decide +kernel
theorem dX11_writeNow_108 : decode cX11_writeNow 108 = .ok (.bipush 10, 2) := by decide +kernel
theorem dX11_writeNow_110 : decode cX11_writeNow 110 = .ok (.aload_n 0, 1) := by decide +kernel
theorem dX11_writeNow_111 : decode cX11_writeNow 111 = .ok (.getfield 7, 3) := by decide +kernel
theorem dX11_writeNow_114 : decode cX11_writeNow 114 = .ok (.bipush 10, 2) := by decide +kernel
theorem dX11_writeNow_116 : decode cX11_writeNow 116 = .ok (.iaload, 1) := by decide +kernel
theorem dX11_writeNow_117 : decode cX11_writeNow 117 = .ok (.aload_n 0, 1) := by decide +kernel
theorem dX11_writeNow_118 : decode cX11_writeNow 118 = .ok (.iload_n 1, 1) := by decide +kernel
theorem dX11_writeNow_119 : decode cX11_writeNow 119 = .ok (.invokevirtual 380, 3) := by decide +kernel
theorem dX11_writeNow_122 : decode cX11_writeNow 122 = .ok (.iadd, 1) := by decide +kernel
theorem dX11_writeNow_123 : decode cX11_writeNow 123 = .ok (.i2l, 1) := by decide +kernel
theorem dX11_writeNow_124 : decode cX11_writeNow 124 = .ok (.iconst 0, 1) := by decide +kernel
theorem dX11_writeNow_125 : decode cX11_writeNow 125 = .ok (.sipush 9999, 3) := by decide +kernel
theorem dX11_writeNow_128 : decode cX11_writeNow 128 = .ok (.invokestatic 308, 3) := by decide +kernel
theorem dX11_writeNow_131 : decode cX11_writeNow 131 = .ok (.iastore, 1) := by decide +kernel
theorem dX11_writeNow_132 : decode cX11_writeNow 132 = .ok (.aload_n 0, 1) := by decide +kernel
theorem dX11_writeNow_133 : decode cX11_writeNow 133 = .ok (.iload_n 1, 1) := by decide +kernel
theorem dX11_writeNow_134 : decode cX11_writeNow 134 = .ok (.iconst 0, 1) := by decide +kernel
theorem dX11_writeNow_135 : decode cX11_writeNow 135 = .ok (.iload_n 2, 1) := by decide +kernel
theorem dX11_writeNow_136 : decode cX11_writeNow 136 = .ok (.invokevirtual 383, 3) := by decide +kernel
theorem dX11_writeNow_139 : decode cX11_writeNow 139 = .ok (.return_, 1) := by decide +kernel
theorem gX11_writeNow_0 {d : Nat} {M : ev_Mem} {Q : Option Value → ev_Mem → Prop} {x1 x2 : Int32} (h : (Ev LM d mX11_writeNow 2 [some (.ref 0), some (.int x1), some (.int x2), some (.int 0), none, none] [] M Q)) : Ev LM d mX11_writeNow 0 [some (.ref 0), some (.int x1), some (.int x2), none, none, none] [] M Q := by
  refine ev_iconst (v := 0) dX11_writeNow_0 (by decide) ?_
  refine ev_istore_n (ls2 := [some (.ref 0), some (.int x1), some (.int x2), some (.int 0), none, none]) dX11_writeNow_1 (Nat.le_of_ble_eq_true rfl) rfl ?_
  exact h
theorem gX11_writeNow_2 {d : Nat} {M : ev_Mem} {Q : Option Value → ev_Mem → Prop} {x1 x2 x3 : Int32} (h : ((vp_in (351 + 6 * x1) 3315) ∧ ((((M.1 1 (351 + 6 * x1).toNatClampNeg) ≤ x3) → (∃ Q2 : Option Value → ev_Mem → Prop, Cl LM d mX11_secondsIn [.ref 0, .int x1] M Q2 ∧ ∀ (zr : Option Value) (zM : ev_Mem), Q2 zr zM → Ev LM (d + 1) mX11_writeNow 122 [some (.ref 0), some (.int x1), some (.int x2), none, none, none] (zr.toList ++ [(.int (M.1 1 10)), (.int 10), (.ref 1)]) zM Q)) ∧ ((¬ (M.1 1 (351 + 6 * x1).toNatClampNeg) ≤ x3) → (Ev LM (d + 1) mX11_writeNow 14 [some (.ref 0), some (.int x1), some (.int x2), some (.int x3), some (.int 0), none] [] M Q))))) : Ev LM (d + 1) mX11_writeNow 2 [some (.ref 0), some (.int x1), some (.int x2), some (.int x3), none, none] [] M Q := by
  refine ev_iload_n dX11_writeNow_2 rfl ?_
  refine ev_aload_n dX11_writeNow_3 rfl ?_
  refine ev_iload_n dX11_writeNow_4 rfl ?_
  obtain ⟨p1, h⟩ := h
  refine ev_callV [.int x1] dX11_writeNow_5 ml_WithoutEModel_359 lm_0 rfl rfl (Nat.le_of_ble_eq_true rfl) (kX11_lengthOf p1) ?_
  rintro zr zM ⟨q1, q2⟩
  rw [q1, q2]
  show Ev LM (d + 1) mX11_writeNow 8 [some (.ref 0), some (.int x1), some (.int x2), some (.int x3), none, none] [(.int (M.1 1 (351 + 6 * x1).toNatClampNeg)), (.int x3)] M Q
  refine ev_icmp_ge (tgt := 104) dX11_writeNow_8 (by decide) (fun c => ?_) (fun c => ?_)
  · replace h := h.1 c
    refine ev_aload_n dX11_writeNow_104 rfl ?_
    refine ev_getA dX11_writeNow_105 fl_WithoutEModel_7 lm_0 rfl ?_
    refine ev_bipush (v := 10) dX11_writeNow_108 (by decide) ?_
    refine ev_aload_n dX11_writeNow_110 rfl ?_
    refine ev_getA dX11_writeNow_111 fl_WithoutEModel_7 lm_0 rfl ?_
    refine ev_bipush (v := 10) dX11_writeNow_114 (by decide) ?_
    refine ev_iaN (j := 10) dX11_writeNow_116 lm_1 (by decide) (by decide) ?_
    refine ev_aload_n dX11_writeNow_117 rfl ?_
    refine ev_iload_n dX11_writeNow_118 rfl ?_
    obtain ⟨Q2, hc, h⟩ := h
    refine ev_callV [.int x1] dX11_writeNow_119 ml_WithoutEModel_380 lm_0 rfl rfl (Nat.le_of_ble_eq_true rfl) hc (fun zr zM q => ?_)
    refine Ev.weak (ls := [some (.ref 0), some (.int x1), some (.int x2), none, none, none]) ⟨rfl, rfl, rfl, trivial⟩ ?_
    exact h zr zM q
  · replace h := h.2 c
    refine ev_iconst (v := 0) dX11_writeNow_11 (by decide) ?_
    refine ev_istore (ls2 := [some (.ref 0), some (.int x1), some (.int x2), some (.int x3), some (.int 0), none]) dX11_writeNow_12 (Nat.le_of_ble_eq_true rfl) rfl ?_
    exact h
theorem gX11_writeNow_122 {d : Nat} {M : ev_Mem} {Q : Option Value → ev_Mem → Prop} {x1 x2 s0 s1 s2 : Int32} (h : (vp_in s2 3315 ∧ (∀ M1 : ev_Mem, M1 = ev_wr M 1 s2.toNatClampNeg (bnd ((s1 + s0 : Int32).toInt64) (0 : Int32) (9999 : Int32)) → (∃ Q2 : Option Value → ev_Mem → Prop, Cl LM d mX11_note [.ref 0, .int x1, .int 0, .int x2] M1 Q2 ∧ ∀ (zr : Option Value) (zM : ev_Mem), Q2 zr zM → Ev LM (d + 1) mX11_writeNow 139 [none, none, none, none, none, none] (zr.toList ++ []) zM Q)))) : Ev LM (d + 1) mX11_writeNow 122 [some (.ref 0), some (.int x1), some (.int x2), none, none, none] [(.int s0), (.int s1), (.int s2), (.ref 1)] M Q := by
  refine ev_iadd dX11_writeNow_122 ?_
  refine ev_i2l dX11_writeNow_123 ?_
  refine ev_iconst (v := 0) dX11_writeNow_124 (by decide) ?_
  refine ev_sipush (v := 9999) dX11_writeNow_125 (by decide) ?_
  refine ev_callS [.long ((s1 + s0 : Int32).toInt64), .int 0, .int 9999] dX11_writeNow_128 ml_WithoutEModel_308 rfl (Nat.le_of_ble_eq_true rfl) (kX11_bound) ?_
  rintro zr zM ⟨q1, q2⟩
  rw [q1, q2]
  show Ev LM (d + 1) mX11_writeNow 131 [some (.ref 0), some (.int x1), some (.int x2), none, none, none] [(.int (bnd ((s1 + s0 : Int32).toInt64) (0 : Int32) (9999 : Int32))), (.int s2), (.ref 1)] M Q
  obtain ⟨c, h⟩ := h
  refine ev_iast dX11_writeNow_131 lm_1 c ?_
  generalize eM1 : ev_wr M 1 s2.toNatClampNeg (bnd ((s1 + s0 : Int32).toInt64) (0 : Int32) (9999 : Int32)) = M1
  replace h := h M1 eM1.symm
  refine ev_aload_n dX11_writeNow_132 rfl ?_
  refine ev_iload_n dX11_writeNow_133 rfl ?_
  refine ev_iconst (v := 0) dX11_writeNow_134 (by decide) ?_
  refine ev_iload_n dX11_writeNow_135 rfl ?_
  obtain ⟨Q2, hc, h⟩ := h
  refine ev_callV [.int x1, .int 0, .int x2] dX11_writeNow_136 ml_WithoutEModel_383 lm_0 rfl rfl (Nat.le_of_ble_eq_true rfl) hc (fun zr zM q => ?_)
  refine Ev.weak (ls := [none, none, none, none, none, none]) trivial ?_
  exact h zr zM q
theorem gX11_writeNow_14 {d : Nat} {M : ev_Mem} {Q : Option Value → ev_Mem → Prop} {x1 x2 x3 x4 : Int32} (h : (vp_in x3 5 ∧ ((vp_in (39 + 13 * (M.1 13 x3.toNatClampNeg) + (3 : Int32)) 3315) ∧ ((((M.1 1 (39 + 13 * (M.1 13 x3.toNatClampNeg) + (3 : Int32)).toNatClampNeg) ≤ x4) → (Ev LM (d + 1) mX11_writeNow 2 [some (.ref 0), some (.int x1), some (.int x2), some (.int (x3 + 1)), none, none] [] M Q)) ∧ ((¬ (M.1 1 (39 + 13 * (M.1 13 x3.toNatClampNeg) + (3 : Int32)).toNatClampNeg) ≤ x4) → (vp_in x3 5 ∧ (vp_in x3 5 ∧ ((vp_in (39 + 13 * (M.1 13 x3.toNatClampNeg) + (4 + x4)) 3315) ∧ (∃ Q2 : Option Value → ev_Mem → Prop, Cl LM d mX11_keyFor [.ref 0, .int (M.1 13 x3.toNatClampNeg), .int (M.1 1 (39 + 13 * (M.1 13 x3.toNatClampNeg) + (4 + x4)).toNatClampNeg)] M Q2 ∧ ∀ (zr : Option Value) (zM : ev_Mem), Q2 zr zM → Ev LM (d + 1) mX11_writeNow 54 [some (.ref 0), some (.int x1), some (.int x2), some (.int x3), some (.int x4), none] (zr.toList ++ []) zM Q))))))))) : Ev LM (d + 1) mX11_writeNow 14 [some (.ref 0), some (.int x1), some (.int x2), some (.int x3), some (.int x4), none] [] M Q := by
  refine ev_iload dX11_writeNow_14 rfl ?_
  refine ev_aload_n dX11_writeNow_16 rfl ?_
  refine ev_aload_n dX11_writeNow_17 rfl ?_
  refine ev_getA dX11_writeNow_18 fl_WithoutEModel_55 lm_0 rfl ?_
  refine ev_iload_n dX11_writeNow_21 rfl ?_
  obtain ⟨c, h⟩ := h
  refine ev_iald dX11_writeNow_22 lm_13 c ?_
  refine ev_iconst (v := 3) dX11_writeNow_23 (by decide) ?_
  obtain ⟨p1, h⟩ := h
  refine ev_callV [.int (M.1 13 x3.toNatClampNeg), .int 3] dX11_writeNow_24 ml_WithoutEModel_92 lm_0 rfl rfl (Nat.le_of_ble_eq_true rfl) (kX11_get p1) ?_
  rintro zr zM ⟨q1, q2⟩
  rw [q1, q2]
  show Ev LM (d + 1) mX11_writeNow 27 [some (.ref 0), some (.int x1), some (.int x2), some (.int x3), some (.int x4), none] [(.int (M.1 1 (39 + 13 * (M.1 13 x3.toNatClampNeg) + (3 : Int32)).toNatClampNeg)), (.int x4)] M Q
  refine ev_icmp_ge (tgt := 98) dX11_writeNow_27 (by decide) (fun c => ?_) (fun c => ?_)
  · replace h := h.1 c
    refine ev_iinc (v := x3 + 1) (ls2 := [some (.ref 0), some (.int x1), some (.int x2), some (.int (x3 + 1)), some (.int x4), none]) dX11_writeNow_98 rfl rfl rfl ?_
    refine ev_goto (tgt := 2) dX11_writeNow_101 (by decide) ?_
    refine Ev.weak (ls := [some (.ref 0), some (.int x1), some (.int x2), some (.int (x3 + 1)), none, none]) ⟨rfl, rfl, rfl, rfl, trivial⟩ ?_
    exact h
  · replace h := h.2 c
    refine ev_aload_n dX11_writeNow_30 rfl ?_
    refine ev_aload_n dX11_writeNow_31 rfl ?_
    refine ev_getA dX11_writeNow_32 fl_WithoutEModel_55 lm_0 rfl ?_
    refine ev_iload_n dX11_writeNow_35 rfl ?_
    obtain ⟨c, h⟩ := h
    refine ev_iald dX11_writeNow_36 lm_13 c ?_
    refine ev_aload_n dX11_writeNow_37 rfl ?_
    refine ev_aload_n dX11_writeNow_38 rfl ?_
    refine ev_getA dX11_writeNow_39 fl_WithoutEModel_55 lm_0 rfl ?_
    refine ev_iload_n dX11_writeNow_42 rfl ?_
    obtain ⟨c, h⟩ := h
    refine ev_iald dX11_writeNow_43 lm_13 c ?_
    refine ev_iconst (v := 4) dX11_writeNow_44 (by decide) ?_
    refine ev_iload dX11_writeNow_45 rfl ?_
    refine ev_iadd dX11_writeNow_47 ?_
    obtain ⟨p1, h⟩ := h
    refine ev_callV [.int (M.1 13 x3.toNatClampNeg), .int (4 + x4)] dX11_writeNow_48 ml_WithoutEModel_92 lm_0 rfl rfl (Nat.le_of_ble_eq_true rfl) (kX11_get p1) ?_
    rintro zr zM ⟨q1, q2⟩
    rw [q1, q2]
    show Ev LM (d + 1) mX11_writeNow 51 [some (.ref 0), some (.int x1), some (.int x2), some (.int x3), some (.int x4), none] [(.int (M.1 1 (39 + 13 * (M.1 13 x3.toNatClampNeg) + (4 + x4)).toNatClampNeg)), (.int (M.1 13 x3.toNatClampNeg)), (.ref 0)] M Q
    obtain ⟨Q2, hc, h⟩ := h
    refine ev_callV [.int (M.1 13 x3.toNatClampNeg), .int (M.1 1 (39 + 13 * (M.1 13 x3.toNatClampNeg) + (4 + x4)).toNatClampNeg)] dX11_writeNow_51 ml_WithoutEModel_377 lm_0 rfl rfl (Nat.le_of_ble_eq_true rfl) hc (fun zr zM q => ?_)
    exact h zr zM q
theorem gX11_writeNow_139 {d : Nat} {M : ev_Mem} {Q : Option Value → ev_Mem → Prop} (h : (Q none M)) : Ev LM d mX11_writeNow 139 [none, none, none, none, none, none] [] M Q := by
  exact ev_vret dX11_writeNow_139 rfl h
theorem gX11_writeNow_54 {d : Nat} {M : ev_Mem} {Q : Option Value → ev_Mem → Prop} {x1 x2 x3 x4 s0 : Int32} (h : (((s0 = (-1)) → (Ev LM (d + 1) mX11_writeNow 14 [some (.ref 0), some (.int x1), some (.int x2), some (.int x3), some (.int (x4 + 1)), none] [] M Q)) ∧ ((¬ s0 = (-1)) → (vp_in (13 + s0) 3315 ∧ (vp_in (13 + s0) 3315 ∧ (∀ M1 : ev_Mem, M1 = ev_wr M 1 (13 + s0).toNatClampNeg (bnd (((M.1 1 (13 + s0).toNatClampNeg) + 1 : Int32).toInt64) (0 : Int32) (9999 : Int32)) → (Ev LM (d + 1) mX11_writeNow 14 [some (.ref 0), some (.int x1), some (.int x2), some (.int x3), some (.int (x4 + 1)), none] [] M1 Q))))))) : Ev LM (d + 1) mX11_writeNow 54 [some (.ref 0), some (.int x1), some (.int x2), some (.int x3), some (.int x4), none] [(.int s0)] M Q := by
  refine ev_istore (ls2 := [some (.ref 0), some (.int x1), some (.int x2), some (.int x3), some (.int x4), some (.int s0)]) dX11_writeNow_54 (Nat.le_of_ble_eq_true rfl) rfl ?_
  refine ev_iload dX11_writeNow_56 rfl ?_
  refine ev_iconst (v := -1) dX11_writeNow_58 (by decide) ?_
  refine ev_icmp_eq (tgt := 92) dX11_writeNow_59 (by decide) (fun c => ?_) (fun c => ?_)
  · replace h := h.1 c
    refine ev_iinc (v := x4 + 1) (ls2 := [some (.ref 0), some (.int x1), some (.int x2), some (.int x3), some (.int (x4 + 1)), some (.int s0)]) dX11_writeNow_92 rfl rfl rfl ?_
    refine ev_goto (tgt := 14) dX11_writeNow_95 (by decide) ?_
    refine Ev.weak (ls := [some (.ref 0), some (.int x1), some (.int x2), some (.int x3), some (.int (x4 + 1)), none]) ⟨rfl, rfl, rfl, rfl, rfl, trivial⟩ ?_
    exact h
  · replace h := h.2 c
    refine ev_aload_n dX11_writeNow_62 rfl ?_
    refine ev_getA dX11_writeNow_63 fl_WithoutEModel_7 lm_0 rfl ?_
    refine ev_bipush (v := 13) dX11_writeNow_66 (by decide) ?_
    refine ev_iload dX11_writeNow_68 rfl ?_
    refine ev_iadd dX11_writeNow_70 ?_
    refine ev_aload_n dX11_writeNow_71 rfl ?_
    refine ev_getA dX11_writeNow_72 fl_WithoutEModel_7 lm_0 rfl ?_
    refine ev_bipush (v := 13) dX11_writeNow_75 (by decide) ?_
    refine ev_iload dX11_writeNow_77 rfl ?_
    refine ev_iadd dX11_writeNow_79 ?_
    obtain ⟨c, h⟩ := h
    refine ev_iald dX11_writeNow_80 lm_1 c ?_
    refine ev_iconst (v := 1) dX11_writeNow_81 (by decide) ?_
    refine ev_iadd dX11_writeNow_82 ?_
    refine ev_i2l dX11_writeNow_83 ?_
    refine ev_iconst (v := 0) dX11_writeNow_84 (by decide) ?_
    refine ev_sipush (v := 9999) dX11_writeNow_85 (by decide) ?_
    refine ev_callS [.long (((M.1 1 (13 + s0).toNatClampNeg) + 1 : Int32).toInt64), .int 0, .int 9999] dX11_writeNow_88 ml_WithoutEModel_308 rfl (Nat.le_of_ble_eq_true rfl) (kX11_bound) ?_
    rintro zr zM ⟨q1, q2⟩
    rw [q1, q2]
    show Ev LM (d + 1) mX11_writeNow 91 [some (.ref 0), some (.int x1), some (.int x2), some (.int x3), some (.int x4), some (.int s0)] [(.int (bnd (((M.1 1 (13 + s0).toNatClampNeg) + 1 : Int32).toInt64) (0 : Int32) (9999 : Int32))), (.int (13 + s0)), (.ref 1)] M Q
    obtain ⟨c, h⟩ := h
    refine ev_iast dX11_writeNow_91 lm_1 c ?_
    generalize eM1 : ev_wr M 1 (13 + s0).toNatClampNeg (bnd (((M.1 1 (13 + s0).toNatClampNeg) + 1 : Int32).toInt64) (0 : Int32) (9999 : Int32)) = M1
    replace h := h M1 eM1.symm
    refine ev_iinc (v := x4 + 1) (ls2 := [some (.ref 0), some (.int x1), some (.int x2), some (.int x3), some (.int (x4 + 1)), some (.int s0)]) dX11_writeNow_92 rfl rfl rfl ?_
    refine ev_goto (tgt := 14) dX11_writeNow_95 (by decide) ?_
    refine Ev.weak (ls := [some (.ref 0), some (.int x1), some (.int x2), some (.int x3), some (.int (x4 + 1)), none]) ⟨rfl, rfl, rfl, rfl, rfl, trivial⟩ ?_
    exact h
theorem dX11_anew_0 : decode cX11_anew 0 = .ok (.aload_n 0, 1) := by decide +kernel
theorem dX11_anew_1 : decode cX11_anew 1 = .ok (.getfield 7, 3) := by decide +kernel
theorem dX11_anew_4 : decode cX11_anew 4 = .ok (.bipush 11, 2) := by decide +kernel
theorem dX11_anew_6 : decode cX11_anew 6 = .ok (.aload_n 0, 1) := by decide +kernel
theorem dX11_anew_7 : decode cX11_anew 7 = .ok (.getfield 7, 3) := by decide +kernel
theorem dX11_anew_10 : decode cX11_anew 10 = .ok (.bipush 11, 2) := by decide +kernel
theorem dX11_anew_12 : decode cX11_anew 12 = .ok (.iaload, 1) := by decide +kernel
theorem dX11_anew_13 : decode cX11_anew 13 = .ok (.i2l, 1) := by decide +kernel
theorem dX11_anew_14 : decode cX11_anew 14 = .ok (.ldc2_w 387, 3) := by decide +kernel
theorem dX11_anew_17 : decode cX11_anew 17 = .ok (.lmul, 1) := by decide +kernel
theorem dX11_anew_18 : decode cX11_anew 18 = .ok (.ldc2_w 389, 3) := by decide +kernel
theorem dX11_anew_21 : decode cX11_anew 21 = .ok (.ladd, 1) := by decide +kernel
theorem dX11_anew_22 : decode cX11_anew 22 = .ok (.ldc2_w 391, 3) := by decide +kernel
theorem dX11_anew_25 : decode cX11_anew 25 = .ok (.lrem, 1) := by decide +kernel
theorem dX11_anew_26 : decode cX11_anew 26 = .ok (.l2i, 1) := by decide +kernel
theorem dX11_anew_27 : decode cX11_anew 27 = .ok (.iastore, 1) := by decide +kernel
theorem dX11_anew_28 : decode cX11_anew 28 = .ok (.return_, 1) := by decide +kernel
theorem gX11_anew_0 {d : Nat} {M : ev_Mem} {Q : Option Value → ev_Mem → Prop} (h : (¬ (30517 : Int64) = 0 ∧ (∀ M1 : ev_Mem, M1 = ev_wr M 1 11 ((((((M.1 1 11 : Int32).toInt64) * 409) + 283) - ((((M.1 1 11 : Int32).toInt64) * 409) + 283) / 30517 * 30517 : Int64).toInt32) → (Q none M1)))) : Ev LM d mX11_anew 0 [some (.ref 0)] [] M Q := by
  refine ev_aload_n dX11_anew_0 rfl ?_
  refine ev_getA dX11_anew_1 fl_WithoutEModel_7 lm_0 rfl ?_
  refine ev_bipush (v := 11) dX11_anew_4 (by decide) ?_
  refine ev_aload_n dX11_anew_6 rfl ?_
  refine ev_getA dX11_anew_7 fl_WithoutEModel_7 lm_0 rfl ?_
  refine ev_bipush (v := 11) dX11_anew_10 (by decide) ?_
  refine ev_iaN (j := 11) dX11_anew_12 lm_1 (by decide) (by decide) ?_
  refine ev_i2l dX11_anew_13 ?_
  refine ev_ldc2 (v := 409) dX11_anew_14 cw_WithoutEModel_387 ?_
  refine ev_lmul dX11_anew_17 ?_
  refine ev_ldc2 (v := 283) dX11_anew_18 cw_WithoutEModel_389 ?_
  refine ev_ladd dX11_anew_21 ?_
  refine ev_ldc2 (v := 30517) dX11_anew_22 cw_WithoutEModel_391 ?_
  obtain ⟨c, h⟩ := h
  refine ev_lrem dX11_anew_25 c ?_
  refine ev_l2i dX11_anew_26 ?_
  refine ev_isN (j := 11) dX11_anew_27 lm_1 (by decide) (by decide) ?_
  generalize eM1 : ev_wr M 1 11 ((((((M.1 1 11 : Int32).toInt64) * 409) + 283) - ((((M.1 1 11 : Int32).toInt64) * 409) + 283) / 30517 * 30517 : Int64).toInt32) = M1
  replace h := h M1 eM1.symm
  exact ev_vret dX11_anew_28 rfl h
theorem dX11_goes_0 : decode cX11_goes 0 = .ok (.aload_n 0, 1) := by decide +kernel
theorem dX11_goes_1 : decode cX11_goes 1 = .ok (.getfield 7, 3) := by decide +kernel
theorem dX11_goes_4 : decode cX11_goes 4 = .ok (.bipush 9, 2) := by decide +kernel
theorem dX11_goes_6 : decode cX11_goes 6 = .ok (.dup2, 1) := by decide +kernel
theorem dX11_goes_7 : decode cX11_goes 7 = .ok (.iaload, 1) := by decide +kernel
theorem dX11_goes_8 : decode cX11_goes 8 = .ok (.iconst 1, 1) := by decide +kernel
theorem dX11_goes_9 : decode cX11_goes 9 = .ok (.iload_n 1, 1) := by decide +kernel
theorem dX11_goes_10 : decode cX11_goes 10 = .ok (.ishl, 1) := by decide +kernel
theorem dX11_goes_11 : decode cX11_goes 11 = .ok (.ior, 1) := by decide +kernel
theorem dX11_goes_12 : decode cX11_goes 12 = .ok (.iastore, 1) := by decide +kernel
theorem dX11_goes_13 : decode cX11_goes 13 = .ok (.aload_n 0, 1) := by decide +kernel
theorem dX11_goes_14 : decode cX11_goes 14 = .ok (.iload_n 1, 1) := by decide +kernel
theorem dX11_goes_15 : decode cX11_goes 15 = .ok (.iconst 2, 1) := by decide +kernel
theorem dX11_goes_16 : decode cX11_goes 16 = .ok (.aload_n 0, 1) := by decide +kernel
theorem dX11_goes_17 : decode cX11_goes 17 = .ok (.getfield 7, 3) := by decide +kernel
theorem dX11_goes_20 : decode cX11_goes 20 = .ok (.bipush 13, 2) := by decide +kernel
theorem dX11_goes_22 : decode cX11_goes 22 = .ok (.iload_n 1, 1) := by decide +kernel
theorem dX11_goes_23 : decode cX11_goes 23 = .ok (.iadd, 1) := by decide +kernel
theorem dX11_goes_24 : decode cX11_goes 24 = .ok (.iaload, 1) := by decide +kernel
theorem dX11_goes_25 : decode cX11_goes 25 = .ok (.invokevirtual 383, 3) := by decide +kernel
theorem dX11_goes_28 : decode cX11_goes 28 = .ok (.return_, 1) := by decide +kernel
theorem gX11_goes_0 {d : Nat} {M : ev_Mem} {Q : Option Value → ev_Mem → Prop} {x1 : Int32} (h : (∀ M1 : ev_Mem, M1 = ev_wr M 1 9 ((M.1 1 9) ||| (1 <<< (x1 &&& 31))) → (vp_in (13 + x1) 3315 ∧ (∃ Q2 : Option Value → ev_Mem → Prop, Cl LM d mX11_note [.ref 0, .int x1, .int 2, .int (M1.1 1 (13 + x1).toNatClampNeg)] M1 Q2 ∧ ∀ (zr : Option Value) (zM : ev_Mem), Q2 zr zM → Ev LM (d + 1) mX11_goes 28 [none, none] (zr.toList ++ []) zM Q)))) : Ev LM (d + 1) mX11_goes 0 [some (.ref 0), some (.int x1)] [] M Q := by
  refine ev_aload_n dX11_goes_0 rfl ?_
  refine ev_getA dX11_goes_1 fl_WithoutEModel_7 lm_0 rfl ?_
  refine ev_bipush (v := 9) dX11_goes_4 (by decide) ?_
  refine ev_dup2 dX11_goes_6 rfl rfl ?_
  refine ev_iaN (j := 9) dX11_goes_7 lm_1 (by decide) (by decide) ?_
  refine ev_iconst (v := 1) dX11_goes_8 (by decide) ?_
  refine ev_iload_n dX11_goes_9 rfl ?_
  refine ev_ishl dX11_goes_10 ?_
  refine ev_ior dX11_goes_11 ?_
  refine ev_isN (j := 9) dX11_goes_12 lm_1 (by decide) (by decide) ?_
  generalize eM1 : ev_wr M 1 9 ((M.1 1 9) ||| (1 <<< (x1 &&& 31))) = M1
  replace h := h M1 eM1.symm
  refine ev_aload_n dX11_goes_13 rfl ?_
  refine ev_iload_n dX11_goes_14 rfl ?_
  refine ev_iconst (v := 2) dX11_goes_15 (by decide) ?_
  refine ev_aload_n dX11_goes_16 rfl ?_
  refine ev_getA dX11_goes_17 fl_WithoutEModel_7 lm_0 rfl ?_
  refine ev_bipush (v := 13) dX11_goes_20 (by decide) ?_
  refine ev_iload_n dX11_goes_22 rfl ?_
  refine ev_iadd dX11_goes_23 ?_
  obtain ⟨c, h⟩ := h
  refine ev_iald dX11_goes_24 lm_1 c ?_
  obtain ⟨Q2, hc, h⟩ := h
  refine ev_callV [.int x1, .int 2, .int (M1.1 1 (13 + x1).toNatClampNeg)] dX11_goes_25 ml_WithoutEModel_383 lm_0 rfl rfl (Nat.le_of_ble_eq_true rfl) hc (fun zr zM q => ?_)
  refine Ev.weak (ls := [none, none]) trivial ?_
  exact h zr zM q
theorem gX11_goes_28 {d : Nat} {M : ev_Mem} {Q : Option Value → ev_Mem → Prop} (h : (Q none M)) : Ev LM d mX11_goes 28 [none, none] [] M Q := by
  exact ev_vret dX11_goes_28 rfl h
theorem dX11_pass_0 : decode cX11_pass 0 = .ok (.aload_n 0, 1) := by decide +kernel
theorem dX11_pass_1 : decode cX11_pass 1 = .ok (.getfield 7, 3) := by decide +kernel
theorem dX11_pass_4 : decode cX11_pass 4 = .ok (.iconst 1, 1) := by decide +kernel
theorem dX11_pass_5 : decode cX11_pass 5 = .ok (.iaload, 1) := by decide +kernel
theorem dX11_pass_6 : decode cX11_pass 6 = .ok (.ifCond .le 45, 3) := by decide +kernel
theorem dX11_pass_9 : decode cX11_pass 9 = .ok (.aload_n 0, 1) := by decide +kernel
theorem dX11_pass_10 : decode cX11_pass 10 = .ok (.getfield 7, 3) := by decide +kernel
theorem dX11_pass_13 : decode cX11_pass 13 = .ok (.bipush 8, 2) := by decide +kernel
theorem dX11_pass_15 : decode cX11_pass 15 = .ok (.iaload, 1) := by decide +kernel
theorem dX11_pass_16 : decode cX11_pass 16 = .ok (.aload_n 0, 1) := by decide +kernel
theorem dX11_pass_17 : decode cX11_pass 17 = .ok (.getfield 7, 3) := by decide +kernel
theorem dX11_pass_20 : decode cX11_pass 20 = .ok (.iconst 1, 1) := by decide +kernel
theorem dX11_pass_21 : decode cX11_pass 21 = .ok (.iaload, 1) := by decide +kernel
theorem dX11_pass_22 : decode cX11_pass 22 = .ok (.irem, 1) := by decide +kernel
theorem dX11_pass_23 : decode cX11_pass 23 = .ok (.istore_n 1, 1) := by decide +kernel
theorem dX11_pass_24 : decode cX11_pass 24 = .ok (.aload_n 0, 1) := by decide +kernel
theorem dX11_pass_25 : decode cX11_pass 25 = .ok (.iload_n 1, 1) := by decide +kernel
theorem dX11_pass_26 : decode cX11_pass 26 = .ok (.invokevirtual 393, 3) := by decide +kernel
theorem dX11_pass_29 : decode cX11_pass 29 = .ok (.istore_n 2, 1) := by decide +kernel
theorem dX11_pass_30 : decode cX11_pass 30 = .ok (.iload_n 2, 1) := by decide +kernel
theorem dX11_pass_31 : decode cX11_pass 31 = .ok (.iconst (-1), 1) := by decide +kernel
theorem dX11_pass_32 : decode cX11_pass 32 = .ok (.if_icmp .ne 13, 3) := by decide +kernel
theorem dX11_pass_35 : decode cX11_pass 35 = .ok (.aload_n 0, 1) := by decide +kernel
theorem dX11_pass_36 : decode cX11_pass 36 = .ok (.iload_n 1, 1) := by decide +kernel
theorem dX11_pass_37 : decode cX11_pass 37 = .ok (.iconst 1, 1) := by decide +kernel
theorem dX11_pass_38 : decode cX11_pass 38 = .ok (.iconst 0, 1) := by decide +kernel
theorem dX11_pass_39 : decode cX11_pass 39 = .ok (.invokevirtual 383, 3) := by decide +kernel
theorem dX11_pass_42 : decode cX11_pass 42 = .ok (.goto 9, 3) := by decide +kernel
theorem dX11_pass_45 : decode cX11_pass 45 = .ok (.aload_n 0, 1) := by decide +kernel
theorem dX11_pass_46 : decode cX11_pass 46 = .ok (.iload_n 1, 1) := by decide +kernel
theorem dX11_pass_47 : decode cX11_pass 47 = .ok (.iload_n 2, 1) := by decide +kernel
theorem dX11_pass_48 : decode cX11_pass 48 = .ok (.invokevirtual 396, 3) := by decide +kernel
theorem dX11_pass_51 : decode cX11_pass 51 = .ok (.aload_n 0, 1) := by decide +kernel
theorem dX11_pass_52 : decode cX11_pass 52 = .ok (.getfield 7, 3) := by decide +kernel
theorem dX11_pass_55 : decode cX11_pass 55 = .ok (.bipush 11, 2) := by decide +kernel
theorem dX11_pass_57 : decode cX11_pass 57 = .ok (.iaload, 1) := by decide +kernel
theorem dX11_pass_58 : decode cX11_pass 58 = .ok (.bipush 26, 2) := by decide +kernel
theorem dX11_pass_60 : decode cX11_pass 60 = .ok (.irem, 1) := by decide +kernel
theorem dX11_pass_61 : decode cX11_pass 61 = .ok (.istore_n 1, 1) := by decide +kernel
theorem dX11_pass_62 : decode cX11_pass 62 = .ok (.aload_n 0, 1) := by decide +kernel
theorem dX11_pass_63 : decode cX11_pass 63 = .ok (.invokevirtual 399, 3) := by decide +kernel
theorem dX11_pass_66 : decode cX11_pass 66 = .ok (.aload_n 0, 1) := by decide +kernel
theorem dX11_pass_67 : decode cX11_pass 67 = .ok (.iload_n 1, 1) := by decide +kernel
theorem dX11_pass_68 : decode cX11_pass 68 = .ok (.invokevirtual 88, 3) := by decide +kernel
theorem dX11_pass_71 : decode cX11_pass 71 = .ok (.ifCond .ne 42, 3) := by decide +kernel
theorem dX11_pass_74 : decode cX11_pass 74 = .ok (.aload_n 0, 1) := by decide +kernel
theorem dX11_pass_75 : decode cX11_pass 75 = .ok (.iload_n 1, 1) := by decide +kernel
theorem dX11_pass_76 : decode cX11_pass 76 = .ok (.invokevirtual 402, 3) := by decide +kernel
theorem dX11_pass_79 : decode cX11_pass 79 = .ok (.istore_n 2, 1) := by decide +kernel
theorem dX11_pass_80 : decode cX11_pass 80 = .ok (.aload_n 0, 1) := by decide +kernel
theorem dX11_pass_81 : decode cX11_pass 81 = .ok (.getfield 7, 3) := by decide +kernel
theorem dX11_pass_84 : decode cX11_pass 84 = .ok (.bipush 11, 2) := by decide +kernel
theorem dX11_pass_86 : decode cX11_pass 86 = .ok (.iaload, 1) := by decide +kernel
theorem dX11_pass_87 : decode cX11_pass 87 = .ok (.bipush 10, 2) := by decide +kernel
theorem dX11_pass_89 : decode cX11_pass 89 = .ok (.irem, 1) := by decide +kernel
theorem dX11_pass_90 : decode cX11_pass 90 = .ok (.iload_n 2, 1) := by decide +kernel
theorem dX11_pass_91 : decode cX11_pass 91 = .ok (.if_icmp .ge 7, 3) := by decide +kernel
theorem dX11_pass_94 : decode cX11_pass 94 = .ok (.iconst 1, 1) := by decide +kernel
theorem dX11_pass_95 : decode cX11_pass 95 = .ok (.goto 4, 3) := by decide +kernel
theorem dX11_pass_98 : decode cX11_pass 98 = .ok (.iconst 0, 1) := by decide +kernel
theorem dX11_pass_99 : decode cX11_pass 99 = .ok (.istore_n 3, 1) := by decide +kernel
theorem dX11_pass_100 : decode cX11_pass 100 = .ok (.aload_n 0, 1) := by decide +kernel
theorem dX11_pass_101 : decode cX11_pass 101 = .ok (.invokevirtual 399, 3) := by decide +kernel
theorem dX11_pass_104 : decode cX11_pass 104 = .ok (.iload_n 3, 1) := by decide +kernel
theorem dX11_pass_105 : decode cX11_pass 105 = .ok (.ifCond .eq 8, 3) := by decide +kernel
theorem dX11_pass_108 : decode cX11_pass 108 = .ok (.aload_n 0, 1) := by decide +kernel
theorem dX11_pass_109 : decode cX11_pass 109 = .ok (.iload_n 1, 1) := by decide +kernel
theorem dX11_pass_110 : decode cX11_pass 110 = .ok (.invokevirtual 405, 3) := by decide +kernel
theorem dX11_pass_113 : decode cX11_pass 113 = .ok (.aload_n 0, 1) := by decide +kernel
theorem dX11_pass_114 : decode cX11_pass 114 = .ok (.getfield 7, 3) := by decide +kernel
theorem dX11_pass_117 : decode cX11_pass 117 = .ok (.bipush 8, 2) := by decide +kernel
theorem dX11_pass_119 : decode cX11_pass 119 = .ok (.dup2, 1) := by decide +kernel
theorem dX11_pass_120 : decode cX11_pass 120 = .ok (.iaload, 1) := by decide +kernel
theorem dX11_pass_121 : decode cX11_pass 121 = .ok (.iconst 1, 1) := by decide +kernel
theorem dX11_pass_122 : decode cX11_pass 122 = .ok (.iadd, 1) := by decide +kernel
theorem dX11_pass_123 : decode cX11_pass 123 = .ok (.iastore, 1) := by decide +kernel
theorem dX11_pass_124 : decode cX11_pass 124 = .ok (.return_, 1) := by decide +kernel
theorem gX11_pass_0 {d : Nat} {M : ev_Mem} {Q : Option Value → ev_Mem → Prop} (h : ((((M.1 1 1) ≤ 0) → (∀ v1 : Int32, v1 = (M.1 1 11) - (M.1 1 11) / 26 * 26 → (∃ Q2 : Option Value → ev_Mem → Prop, Cl LM d mX11_anew [.ref 0] M Q2 ∧ ∀ (zr : Option Value) (zM : ev_Mem), Q2 zr zM → Ev LM (d + 1) mX11_pass 66 [some (.ref 0), some (.int v1), none, none] (zr.toList ++ []) zM Q))) ∧ ((¬ (M.1 1 1) ≤ 0) → (¬ (M.1 1 1 : Int32) = 0 ∧ (∀ v2 : Int32, v2 = (M.1 1 8) - (M.1 1 8) / (M.1 1 1) * (M.1 1 1) → (∃ Q2 : Option Value → ev_Mem → Prop, Cl LM d mX11_saidOf [.ref 0, .int v2] M Q2 ∧ ∀ (zr : Option Value) (zM : ev_Mem), Q2 zr zM → Ev LM (d + 1) mX11_pass 29 [some (.ref 0), some (.int v2), none, none] (zr.toList ++ []) zM Q)))))) : Ev LM (d + 1) mX11_pass 0 [some (.ref 0), none, none, none] [] M Q := by
  refine ev_aload_n dX11_pass_0 rfl ?_
  refine ev_getA dX11_pass_1 fl_WithoutEModel_7 lm_0 rfl ?_
  refine ev_iconst (v := 1) dX11_pass_4 (by decide) ?_
  refine ev_iaN (j := 1) dX11_pass_5 lm_1 (by decide) (by decide) ?_
  refine ev_if_le (tgt := 51) dX11_pass_6 (by decide) (fun c => ?_) (fun c => ?_)
  · replace h := h.1 c
    refine ev_aload_n dX11_pass_51 rfl ?_
    refine ev_getA dX11_pass_52 fl_WithoutEModel_7 lm_0 rfl ?_
    refine ev_bipush (v := 11) dX11_pass_55 (by decide) ?_
    refine ev_iaN (j := 11) dX11_pass_57 lm_1 (by decide) (by decide) ?_
    refine ev_bipush (v := 26) dX11_pass_58 (by decide) ?_
    refine ev_irem dX11_pass_60 (by decide) ?_
    refine ev_istore_n (ls2 := [some (.ref 0), some (.int ((M.1 1 11) - (M.1 1 11) / 26 * 26)), none, none]) dX11_pass_61 (Nat.le_of_ble_eq_true rfl) rfl ?_
    generalize ev1 : (M.1 1 11) - (M.1 1 11) / 26 * 26 = v1
    replace h := h v1 ev1.symm
    refine ev_aload_n dX11_pass_62 rfl ?_
    obtain ⟨Q2, hc, h⟩ := h
    refine ev_callV [] dX11_pass_63 ml_WithoutEModel_399 lm_0 rfl rfl (Nat.le_of_ble_eq_true rfl) hc (fun zr zM q => ?_)
    exact h zr zM q
  · replace h := h.2 c
    refine ev_aload_n dX11_pass_9 rfl ?_
    refine ev_getA dX11_pass_10 fl_WithoutEModel_7 lm_0 rfl ?_
    refine ev_bipush (v := 8) dX11_pass_13 (by decide) ?_
    refine ev_iaN (j := 8) dX11_pass_15 lm_1 (by decide) (by decide) ?_
    refine ev_aload_n dX11_pass_16 rfl ?_
    refine ev_getA dX11_pass_17 fl_WithoutEModel_7 lm_0 rfl ?_
    refine ev_iconst (v := 1) dX11_pass_20 (by decide) ?_
    refine ev_iaN (j := 1) dX11_pass_21 lm_1 (by decide) (by decide) ?_
    obtain ⟨c, h⟩ := h
    refine ev_irem dX11_pass_22 c ?_
    refine ev_istore_n (ls2 := [some (.ref 0), some (.int ((M.1 1 8) - (M.1 1 8) / (M.1 1 1) * (M.1 1 1))), none, none]) dX11_pass_23 (Nat.le_of_ble_eq_true rfl) rfl ?_
    generalize ev2 : (M.1 1 8) - (M.1 1 8) / (M.1 1 1) * (M.1 1 1) = v2
    replace h := h v2 ev2.symm
    refine ev_aload_n dX11_pass_24 rfl ?_
    refine ev_iload_n dX11_pass_25 rfl ?_
    obtain ⟨Q2, hc, h⟩ := h
    refine ev_callV [.int v2] dX11_pass_26 ml_WithoutEModel_393 lm_0 rfl rfl (Nat.le_of_ble_eq_true rfl) hc (fun zr zM q => ?_)
    exact h zr zM q
theorem gX11_pass_66 {d : Nat} {M : ev_Mem} {Q : Option Value → ev_Mem → Prop} {x1 : Int32} (h : ((((hs (M.1 1 9) x1) = true) → (∀ M1 : ev_Mem, M1 = ev_wr M 1 8 ((M.1 1 8) + 1) → (Q none M1))) ∧ (((hs (M.1 1 9) x1) = false) → (∃ Q2 : Option Value → ev_Mem → Prop, Cl LM (d + 1) mX11_wearsOf [.ref 0, .int x1] M Q2 ∧ ∀ (zr : Option Value) (zM : ev_Mem), Q2 zr zM → Ev LM (d + 2) mX11_pass 79 [some (.ref 0), some (.int x1), none, none] (zr.toList ++ []) zM Q)))) : Ev LM (d + 2) mX11_pass 66 [some (.ref 0), some (.int x1), none, none] [] M Q := by
  refine ev_aload_n dX11_pass_66 rfl ?_
  refine ev_iload_n dX11_pass_67 rfl ?_
  refine ev_callV [.int x1] dX11_pass_68 ml_WithoutEModel_88 lm_0 rfl rfl (Nat.le_of_ble_eq_true rfl) (kX11_isLost) ?_
  rintro zr zM ⟨q1, q2⟩
  rw [q1, q2]
  show Ev LM (d + 2) mX11_pass 71 [some (.ref 0), some (.int x1), none, none] [(.int (bi (hs (M.1 1 9) x1)))] M Q
  refine ev_if_ne (tgt := 113) dX11_pass_71 (by decide) (fun c => ?_) (fun c => ?_)
  · replace h := h.1 ((bi_n0 _).mp c)
    refine ev_aload_n dX11_pass_113 rfl ?_
    refine ev_getA dX11_pass_114 fl_WithoutEModel_7 lm_0 rfl ?_
    refine ev_bipush (v := 8) dX11_pass_117 (by decide) ?_
    refine ev_dup2 dX11_pass_119 rfl rfl ?_
    refine ev_iaN (j := 8) dX11_pass_120 lm_1 (by decide) (by decide) ?_
    refine ev_iconst (v := 1) dX11_pass_121 (by decide) ?_
    refine ev_iadd dX11_pass_122 ?_
    refine ev_isN (j := 8) dX11_pass_123 lm_1 (by decide) (by decide) ?_
    generalize eM1 : ev_wr M 1 8 ((M.1 1 8) + 1) = M1
    replace h := h M1 eM1.symm
    exact ev_vret dX11_pass_124 rfl h
  · replace h := h.2 ((bi_0 _).mp c)
    refine ev_aload_n dX11_pass_74 rfl ?_
    refine ev_iload_n dX11_pass_75 rfl ?_
    obtain ⟨Q2, hc, h⟩ := h
    refine ev_callV [.int x1] dX11_pass_76 ml_WithoutEModel_402 lm_0 rfl rfl (Nat.le_of_ble_eq_true rfl) hc (fun zr zM q => ?_)
    exact h zr zM q
theorem gX11_pass_29 {d : Nat} {M : ev_Mem} {Q : Option Value → ev_Mem → Prop} {x1 s0 : Int32} (h : (((¬ s0 = (-1)) → (∃ Q2 : Option Value → ev_Mem → Prop, Cl LM d mX11_writeNow [.ref 0, .int x1, .int s0] M Q2 ∧ ∀ (zr : Option Value) (zM : ev_Mem), Q2 zr zM → Ev LM (d + 1) mX11_pass 51 [some (.ref 0), none, none, none] (zr.toList ++ []) zM Q)) ∧ ((s0 = (-1)) → (∃ Q2 : Option Value → ev_Mem → Prop, Cl LM d mX11_note [.ref 0, .int x1, .int 1, .int 0] M Q2 ∧ ∀ (zr : Option Value) (zM : ev_Mem), Q2 zr zM → Ev LM (d + 1) mX11_pass 42 [some (.ref 0), none, none, none] (zr.toList ++ []) zM Q)))) : Ev LM (d + 1) mX11_pass 29 [some (.ref 0), some (.int x1), none, none] [(.int s0)] M Q := by
  refine ev_istore_n (ls2 := [some (.ref 0), some (.int x1), some (.int s0), none]) dX11_pass_29 (Nat.le_of_ble_eq_true rfl) rfl ?_
  refine ev_iload_n dX11_pass_30 rfl ?_
  refine ev_iconst (v := -1) dX11_pass_31 (by decide) ?_
  refine ev_icmp_ne (tgt := 45) dX11_pass_32 (by decide) (fun c => ?_) (fun c => ?_)
  · replace h := h.1 c
    refine ev_aload_n dX11_pass_45 rfl ?_
    refine ev_iload_n dX11_pass_46 rfl ?_
    refine ev_iload_n dX11_pass_47 rfl ?_
    obtain ⟨Q2, hc, h⟩ := h
    refine ev_callV [.int x1, .int s0] dX11_pass_48 ml_WithoutEModel_396 lm_0 rfl rfl (Nat.le_of_ble_eq_true rfl) hc (fun zr zM q => ?_)
    refine Ev.weak (ls := [some (.ref 0), none, none, none]) ⟨rfl, trivial⟩ ?_
    exact h zr zM q
  · replace h := h.2 c
    refine ev_aload_n dX11_pass_35 rfl ?_
    refine ev_iload_n dX11_pass_36 rfl ?_
    refine ev_iconst (v := 1) dX11_pass_37 (by decide) ?_
    refine ev_iconst (v := 0) dX11_pass_38 (by decide) ?_
    obtain ⟨Q2, hc, h⟩ := h
    refine ev_callV [.int x1, .int 1, .int 0] dX11_pass_39 ml_WithoutEModel_383 lm_0 rfl rfl (Nat.le_of_ble_eq_true rfl) hc (fun zr zM q => ?_)
    refine Ev.weak (ls := [some (.ref 0), none, none, none]) ⟨rfl, trivial⟩ ?_
    exact h zr zM q
theorem gX11_pass_79 {d : Nat} {M : ev_Mem} {Q : Option Value → ev_Mem → Prop} {x1 s0 : Int32} (h : (((s0 ≤ ((M.1 1 11) - (M.1 1 11) / 10 * 10)) → (∃ Q2 : Option Value → ev_Mem → Prop, Cl LM d mX11_anew [.ref 0] M Q2 ∧ ∀ (zr : Option Value) (zM : ev_Mem), Q2 zr zM → Ev LM (d + 1) mX11_pass 104 [some (.ref 0), some (.int x1), none, some (.int 0)] (zr.toList ++ []) zM Q)) ∧ ((¬ s0 ≤ ((M.1 1 11) - (M.1 1 11) / 10 * 10)) → (∃ Q2 : Option Value → ev_Mem → Prop, Cl LM d mX11_anew [.ref 0] M Q2 ∧ ∀ (zr : Option Value) (zM : ev_Mem), Q2 zr zM → Ev LM (d + 1) mX11_pass 104 [some (.ref 0), some (.int x1), none, some (.int 1)] (zr.toList ++ []) zM Q)))) : Ev LM (d + 1) mX11_pass 79 [some (.ref 0), some (.int x1), none, none] [(.int s0)] M Q := by
  refine ev_istore_n (ls2 := [some (.ref 0), some (.int x1), some (.int s0), none]) dX11_pass_79 (Nat.le_of_ble_eq_true rfl) rfl ?_
  refine ev_aload_n dX11_pass_80 rfl ?_
  refine ev_getA dX11_pass_81 fl_WithoutEModel_7 lm_0 rfl ?_
  refine ev_bipush (v := 11) dX11_pass_84 (by decide) ?_
  refine ev_iaN (j := 11) dX11_pass_86 lm_1 (by decide) (by decide) ?_
  refine ev_bipush (v := 10) dX11_pass_87 (by decide) ?_
  refine ev_irem dX11_pass_89 (by decide) ?_
  refine ev_iload_n dX11_pass_90 rfl ?_
  refine ev_icmp_ge (tgt := 98) dX11_pass_91 (by decide) (fun c => ?_) (fun c => ?_)
  · replace h := h.1 c
    refine ev_iconst (v := 0) dX11_pass_98 (by decide) ?_
    refine ev_istore_n (ls2 := [some (.ref 0), some (.int x1), some (.int s0), some (.int 0)]) dX11_pass_99 (Nat.le_of_ble_eq_true rfl) rfl ?_
    refine ev_aload_n dX11_pass_100 rfl ?_
    obtain ⟨Q2, hc, h⟩ := h
    refine ev_callV [] dX11_pass_101 ml_WithoutEModel_399 lm_0 rfl rfl (Nat.le_of_ble_eq_true rfl) hc (fun zr zM q => ?_)
    refine Ev.weak (ls := [some (.ref 0), some (.int x1), none, some (.int 0)]) ⟨rfl, rfl, rfl, trivial⟩ ?_
    exact h zr zM q
  · replace h := h.2 c
    refine ev_iconst (v := 1) dX11_pass_94 (by decide) ?_
    refine ev_goto (tgt := 99) dX11_pass_95 (by decide) ?_
    refine ev_istore_n (ls2 := [some (.ref 0), some (.int x1), some (.int s0), some (.int 1)]) dX11_pass_99 (Nat.le_of_ble_eq_true rfl) rfl ?_
    refine ev_aload_n dX11_pass_100 rfl ?_
    obtain ⟨Q2, hc, h⟩ := h
    refine ev_callV [] dX11_pass_101 ml_WithoutEModel_399 lm_0 rfl rfl (Nat.le_of_ble_eq_true rfl) hc (fun zr zM q => ?_)
    refine Ev.weak (ls := [some (.ref 0), some (.int x1), none, some (.int 1)]) ⟨rfl, rfl, rfl, trivial⟩ ?_
    exact h zr zM q
theorem gX11_pass_51 {d : Nat} {M : ev_Mem} {Q : Option Value → ev_Mem → Prop} (h : (∀ v1 : Int32, v1 = (M.1 1 11) - (M.1 1 11) / 26 * 26 → (∃ Q2 : Option Value → ev_Mem → Prop, Cl LM d mX11_anew [.ref 0] M Q2 ∧ ∀ (zr : Option Value) (zM : ev_Mem), Q2 zr zM → Ev LM (d + 1) mX11_pass 66 [some (.ref 0), some (.int v1), none, none] (zr.toList ++ []) zM Q))) : Ev LM (d + 1) mX11_pass 51 [some (.ref 0), none, none, none] [] M Q := by
  refine ev_aload_n dX11_pass_51 rfl ?_
  refine ev_getA dX11_pass_52 fl_WithoutEModel_7 lm_0 rfl ?_
  refine ev_bipush (v := 11) dX11_pass_55 (by decide) ?_
  refine ev_iaN (j := 11) dX11_pass_57 lm_1 (by decide) (by decide) ?_
  refine ev_bipush (v := 26) dX11_pass_58 (by decide) ?_
  refine ev_irem dX11_pass_60 (by decide) ?_
  refine ev_istore_n (ls2 := [some (.ref 0), some (.int ((M.1 1 11) - (M.1 1 11) / 26 * 26)), none, none]) dX11_pass_61 (Nat.le_of_ble_eq_true rfl) rfl ?_
  generalize ev1 : (M.1 1 11) - (M.1 1 11) / 26 * 26 = v1
  replace h := h v1 ev1.symm
  refine ev_aload_n dX11_pass_62 rfl ?_
  obtain ⟨Q2, hc, h⟩ := h
  refine ev_callV [] dX11_pass_63 ml_WithoutEModel_399 lm_0 rfl rfl (Nat.le_of_ble_eq_true rfl) hc (fun zr zM q => ?_)
  exact h zr zM q
theorem gX11_pass_42 {d : Nat} {M : ev_Mem} {Q : Option Value → ev_Mem → Prop} (h : (Ev LM d mX11_pass 51 [some (.ref 0), none, none, none] [] M Q)) : Ev LM d mX11_pass 42 [some (.ref 0), none, none, none] [] M Q := by
  refine ev_goto (tgt := 51) dX11_pass_42 (by decide) ?_
  exact h
theorem gX11_pass_104 {d : Nat} {M : ev_Mem} {Q : Option Value → ev_Mem → Prop} {x1 x3 : Int32} (h : (((x3 = 0) → (∀ M1 : ev_Mem, M1 = ev_wr M 1 8 ((M.1 1 8) + 1) → (Q none M1))) ∧ ((¬ x3 = 0) → (∃ Q2 : Option Value → ev_Mem → Prop, Cl LM d mX11_goes [.ref 0, .int x1] M Q2 ∧ ∀ (zr : Option Value) (zM : ev_Mem), Q2 zr zM → Ev LM (d + 1) mX11_pass 113 [some (.ref 0), none, none, none] (zr.toList ++ []) zM Q)))) : Ev LM (d + 1) mX11_pass 104 [some (.ref 0), some (.int x1), none, some (.int x3)] [] M Q := by
  refine ev_iload_n dX11_pass_104 rfl ?_
  refine ev_if_eq (tgt := 113) dX11_pass_105 (by decide) (fun c => ?_) (fun c => ?_)
  · replace h := h.1 c
    refine ev_aload_n dX11_pass_113 rfl ?_
    refine ev_getA dX11_pass_114 fl_WithoutEModel_7 lm_0 rfl ?_
    refine ev_bipush (v := 8) dX11_pass_117 (by decide) ?_
    refine ev_dup2 dX11_pass_119 rfl rfl ?_
    refine ev_iaN (j := 8) dX11_pass_120 lm_1 (by decide) (by decide) ?_
    refine ev_iconst (v := 1) dX11_pass_121 (by decide) ?_
    refine ev_iadd dX11_pass_122 ?_
    refine ev_isN (j := 8) dX11_pass_123 lm_1 (by decide) (by decide) ?_
    generalize eM1 : ev_wr M 1 8 ((M.1 1 8) + 1) = M1
    replace h := h M1 eM1.symm
    exact ev_vret dX11_pass_124 rfl h
  · replace h := h.2 c
    refine ev_aload_n dX11_pass_108 rfl ?_
    refine ev_iload_n dX11_pass_109 rfl ?_
    obtain ⟨Q2, hc, h⟩ := h
    refine ev_callV [.int x1] dX11_pass_110 ml_WithoutEModel_405 lm_0 rfl rfl (Nat.le_of_ble_eq_true rfl) hc (fun zr zM q => ?_)
    refine Ev.weak (ls := [some (.ref 0), none, none, none]) ⟨rfl, trivial⟩ ?_
    exact h zr zM q
theorem gX11_pass_113 {d : Nat} {M : ev_Mem} {Q : Option Value → ev_Mem → Prop} (h : (∀ M1 : ev_Mem, M1 = ev_wr M 1 8 ((M.1 1 8) + 1) → (Q none M1))) : Ev LM d mX11_pass 113 [some (.ref 0), none, none, none] [] M Q := by
  refine ev_aload_n dX11_pass_113 rfl ?_
  refine ev_getA dX11_pass_114 fl_WithoutEModel_7 lm_0 rfl ?_
  refine ev_bipush (v := 8) dX11_pass_117 (by decide) ?_
  refine ev_dup2 dX11_pass_119 rfl rfl ?_
  refine ev_iaN (j := 8) dX11_pass_120 lm_1 (by decide) (by decide) ?_
  refine ev_iconst (v := 1) dX11_pass_121 (by decide) ?_
  refine ev_iadd dX11_pass_122 ?_
  refine ev_isN (j := 8) dX11_pass_123 lm_1 (by decide) (by decide) ?_
  generalize eM1 : ev_wr M 1 8 ((M.1 1 8) + 1) = M1
  replace h := h M1 eM1.symm
  exact ev_vret dX11_pass_124 rfl h
theorem dX11_write_0 : decode cX11_write 0 = .ok (.aload_n 0, 1) := by decide +kernel
theorem dX11_write_1 : decode cX11_write 1 = .ok (.iload_n 1, 1) := by decide +kernel
theorem dX11_write_2 : decode cX11_write 2 = .ok (.invokevirtual 411, 3) := by decide +kernel
theorem dX11_write_5 : decode cX11_write 5 = .ok (.ifCond .ne 9, 3) := by decide +kernel
theorem dX11_write_8 : decode cX11_write 8 = .ok (.aload_n 0, 1) := by decide +kernel
theorem dX11_write_9 : decode cX11_write 9 = .ok (.iconst 0, 1) := by decide +kernel
theorem dX11_write_10 : decode cX11_write 10 = .ok (.invokevirtual 331, 3) := by decide +kernel
theorem dX11_write_13 : decode cX11_write 13 = .ok (.ireturn, 1) := by decide +kernel
theorem dX11_write_14 : decode cX11_write 14 = .ok (.aload_n 0, 1) := by decide +kernel
theorem dX11_write_15 : decode cX11_write 15 = .ok (.iload_n 1, 1) := by decide +kernel
theorem dX11_write_16 : decode cX11_write 16 = .ok (.invokevirtual 393, 3) := by decide +kernel
theorem dX11_write_19 : decode cX11_write 19 = .ok (.istore_n 2, 1) := by decide +kernel
theorem dX11_write_20 : decode cX11_write 20 = .ok (.iload_n 2, 1) := by decide +kernel
theorem dX11_write_21 : decode cX11_write 21 = .ok (.iconst (-1), 1) := by decide +kernel
theorem dX11_write_22 : decode cX11_write 22 = .ok (.if_icmp .ne 9, 3) := by decide +kernel
theorem dX11_write_25 : decode cX11_write 25 = .ok (.aload_n 0, 1) := by decide +kernel
theorem dX11_write_26 : decode cX11_write 26 = .ok (.iconst 2, 1) := by decide +kernel
theorem dX11_write_27 : decode cX11_write 27 = .ok (.invokevirtual 331, 3) := by decide +kernel
theorem dX11_write_30 : decode cX11_write 30 = .ok (.ireturn, 1) := by decide +kernel
theorem dX11_write_31 : decode cX11_write 31 = .ok (.aload_n 0, 1) := by decide +kernel
theorem dX11_write_32 : decode cX11_write 32 = .ok (.invokevirtual 408, 3) := by decide +kernel
theorem dX11_write_35 : decode cX11_write 35 = .ok (.aload_n 0, 1) := by decide +kernel
theorem dX11_write_36 : decode cX11_write 36 = .ok (.iload_n 1, 1) := by decide +kernel
theorem dX11_write_37 : decode cX11_write 37 = .ok (.iload_n 2, 1) := by decide +kernel
theorem dX11_write_38 : decode cX11_write 38 = .ok (.invokevirtual 396, 3) := by decide +kernel
theorem dX11_write_41 : decode cX11_write 41 = .ok (.iload_n 2, 1) := by decide +kernel
theorem dX11_write_42 : decode cX11_write 42 = .ok (.ireturn, 1) := by decide +kernel
theorem gX11_write_0 {d : Nat} {M : ev_Mem} {Q : Option Value → ev_Mem → Prop} {x1 : Int32} (h : ((((iin x1 0 (M.1 1 1 - 1)) = true) → (∃ Q2 : Option Value → ev_Mem → Prop, Cl LM (d + 1) mX11_saidOf [.ref 0, .int x1] M Q2 ∧ ∀ (zr : Option Value) (zM : ev_Mem), Q2 zr zM → Ev LM (d + 2) mX11_write 19 [some (.ref 0), some (.int x1), none] (zr.toList ++ []) zM Q)) ∧ (((iin x1 0 (M.1 1 1 - 1)) = false) → ((vp_in (0 : Int32) 3) ∧ (∀ M1 : ev_Mem, M1 = rfs M 3 (0 : Int32).toNatClampNeg → (Q (some (.int (-1))) M1)))))) : Ev LM (d + 2) mX11_write 0 [some (.ref 0), some (.int x1), none] [] M Q := by
  refine ev_aload_n dX11_write_0 rfl ?_
  refine ev_iload_n dX11_write_1 rfl ?_
  refine ev_callV [.int x1] dX11_write_2 ml_WithoutEModel_411 lm_0 rfl rfl (Nat.le_of_ble_eq_true rfl) (kX11_isSentence) ?_
  rintro zr zM ⟨q1, q2⟩
  rw [q1, q2]
  show Ev LM (d + 2) mX11_write 5 [some (.ref 0), some (.int x1), none] [(.int (bi (iin x1 0 (M.1 1 1 - 1))))] M Q
  refine ev_if_ne (tgt := 14) dX11_write_5 (by decide) (fun c => ?_) (fun c => ?_)
  · replace h := h.1 ((bi_n0 _).mp c)
    refine ev_aload_n dX11_write_14 rfl ?_
    refine ev_iload_n dX11_write_15 rfl ?_
    obtain ⟨Q2, hc, h⟩ := h
    refine ev_callV [.int x1] dX11_write_16 ml_WithoutEModel_393 lm_0 rfl rfl (Nat.le_of_ble_eq_true rfl) hc (fun zr zM q => ?_)
    exact h zr zM q
  · replace h := h.2 ((bi_0 _).mp c)
    refine ev_aload_n dX11_write_8 rfl ?_
    refine ev_iconst (v := 0) dX11_write_9 (by decide) ?_
    obtain ⟨p1, h⟩ := h
    refine ev_callV [.int 0] dX11_write_10 ml_WithoutEModel_331 lm_0 rfl rfl (Nat.le_of_ble_eq_true rfl) (qX11_refused p1) ?_
    rintro zr zM ⟨q1, q2⟩
    rw [q1, q2]
    generalize eM1 : rfs M 3 (0 : Int32).toNatClampNeg = M1
    replace h := h M1 eM1.symm
    show Ev LM (d + 2) mX11_write 13 [some (.ref 0), some (.int x1), none] [(.int (-1))] M1 Q
    exact ev_iret dX11_write_13 rfl h
theorem gX11_write_19 {d : Nat} {M : ev_Mem} {Q : Option Value → ev_Mem → Prop} {x1 s0 : Int32} (h : (((¬ s0 = (-1)) → (∃ Q2 : Option Value → ev_Mem → Prop, Cl LM d mX11_keep [.ref 0] M Q2 ∧ ∀ (zr : Option Value) (zM : ev_Mem), Q2 zr zM → Ev LM (d + 1) mX11_write 35 [some (.ref 0), some (.int x1), some (.int s0)] (zr.toList ++ []) zM Q)) ∧ ((s0 = (-1)) → ((vp_in (2 : Int32) 3) ∧ (∀ M1 : ev_Mem, M1 = rfs M 3 (2 : Int32).toNatClampNeg → (Q (some (.int (-1))) M1)))))) : Ev LM (d + 1) mX11_write 19 [some (.ref 0), some (.int x1), none] [(.int s0)] M Q := by
  refine ev_istore_n (ls2 := [some (.ref 0), some (.int x1), some (.int s0)]) dX11_write_19 (Nat.le_of_ble_eq_true rfl) rfl ?_
  refine ev_iload_n dX11_write_20 rfl ?_
  refine ev_iconst (v := -1) dX11_write_21 (by decide) ?_
  refine ev_icmp_ne (tgt := 31) dX11_write_22 (by decide) (fun c => ?_) (fun c => ?_)
  · replace h := h.1 c
    refine ev_aload_n dX11_write_31 rfl ?_
    obtain ⟨Q2, hc, h⟩ := h
    refine ev_callV [] dX11_write_32 ml_WithoutEModel_408 lm_0 rfl rfl (Nat.le_of_ble_eq_true rfl) hc (fun zr zM q => ?_)
    exact h zr zM q
  · replace h := h.2 c
    refine ev_aload_n dX11_write_25 rfl ?_
    refine ev_iconst (v := 2) dX11_write_26 (by decide) ?_
    obtain ⟨p1, h⟩ := h
    refine ev_callV [.int 2] dX11_write_27 ml_WithoutEModel_331 lm_0 rfl rfl (Nat.le_of_ble_eq_true rfl) (qX11_refused p1) ?_
    rintro zr zM ⟨q1, q2⟩
    rw [q1, q2]
    generalize eM1 : rfs M 3 (2 : Int32).toNatClampNeg = M1
    replace h := h M1 eM1.symm
    show Ev LM (d + 1) mX11_write 30 [some (.ref 0), some (.int x1), some (.int s0)] [(.int (-1))] M1 Q
    exact ev_iret dX11_write_30 rfl h
theorem gX11_write_35 {d : Nat} {M : ev_Mem} {Q : Option Value → ev_Mem → Prop} {x1 x2 : Int32} (h : (∃ Q2 : Option Value → ev_Mem → Prop, Cl LM d mX11_writeNow [.ref 0, .int x1, .int x2] M Q2 ∧ ∀ (zr : Option Value) (zM : ev_Mem), Q2 zr zM → Ev LM (d + 1) mX11_write 41 [none, none, some (.int x2)] (zr.toList ++ []) zM Q)) : Ev LM (d + 1) mX11_write 35 [some (.ref 0), some (.int x1), some (.int x2)] [] M Q := by
  refine ev_aload_n dX11_write_35 rfl ?_
  refine ev_iload_n dX11_write_36 rfl ?_
  refine ev_iload_n dX11_write_37 rfl ?_
  obtain ⟨Q2, hc, h⟩ := h
  refine ev_callV [.int x1, .int x2] dX11_write_38 ml_WithoutEModel_396 lm_0 rfl rfl (Nat.le_of_ble_eq_true rfl) hc (fun zr zM q => ?_)
  refine Ev.weak (ls := [none, none, some (.int x2)]) ⟨rfl, trivial⟩ ?_
  exact h zr zM q
theorem gX11_write_41 {d : Nat} {M : ev_Mem} {Q : Option Value → ev_Mem → Prop} {x2 : Int32} (h : (Q (some (.int x2)) M)) : Ev LM d mX11_write 41 [none, none, some (.int x2)] [] M Q := by
  refine ev_iload_n dX11_write_41 rfl ?_
  exact ev_iret dX11_write_42 rfl h
theorem dX11_arePassed_0 : decode cX11_arePassed 0 = .ok (.iconst 0, 1) := by decide +kernel
theorem dX11_arePassed_1 : decode cX11_arePassed 1 = .ok (.istore_n 2, 1) := by decide +kernel
theorem dX11_arePassed_2 : decode cX11_arePassed 2 = .ok (.iload_n 2, 1) := by decide +kernel
theorem dX11_arePassed_3 : decode cX11_arePassed 3 = .ok (.iload_n 1, 1) := by decide +kernel
theorem dX11_arePassed_4 : decode cX11_arePassed 4 = .ok (.if_icmp .ge 32, 3) := by decide +kernel
theorem dX11_arePassed_7 : decode cX11_arePassed 7 = .ok (.aload_n 0, 1) := by decide +kernel
theorem dX11_arePassed_8 : decode cX11_arePassed 8 = .ok (.getfield 7, 3) := by decide +kernel
theorem dX11_arePassed_11 : decode cX11_arePassed 11 = .ok (.bipush 8, 2) := by decide +kernel
theorem dX11_arePassed_13 : decode cX11_arePassed 13 = .ok (.iaload, 1) := by decide +kernel
theorem dX11_arePassed_14 : decode cX11_arePassed 14 = .ok (.sipush 9999, 3) := by decide +kernel
theorem dX11_arePassed_17 : decode cX11_arePassed 17 = .ok (.if_icmp .ne 5, 3) := by decide +kernel
theorem dX11_arePassed_20 : decode cX11_arePassed 20 = .ok (.iconst 0, 1) := by decide +kernel
theorem dX11_arePassed_21 : decode cX11_arePassed 21 = .ok (.ireturn, 1) := by decide +kernel
theorem dX11_arePassed_22 : decode cX11_arePassed 22 = .ok (.aload_n 0, 1) := by decide +kernel
theorem dX11_arePassed_23 : decode cX11_arePassed 23 = .ok (.invokevirtual 408, 3) := by decide +kernel
theorem dX11_arePassed_26 : decode cX11_arePassed 26 = .ok (.aload_n 0, 1) := by decide +kernel
theorem dX11_arePassed_27 : decode cX11_arePassed 27 = .ok (.invokevirtual 414, 3) := by decide +kernel
theorem dX11_arePassed_30 : decode cX11_arePassed 30 = .ok (.iinc 2 1, 3) := by decide +kernel
theorem dX11_arePassed_33 : decode cX11_arePassed 33 = .ok (.goto (-31), 3) := by decide +kernel
theorem dX11_arePassed_36 : decode cX11_arePassed 36 = .ok (.iconst 1, 1) := by decide +kernel
theorem dX11_arePassed_37 : decode cX11_arePassed 37 = .ok (.ireturn, 1) := by decide +kernel
theorem gX11_arePassed_0 {d : Nat} {M : ev_Mem} {Q : Option Value → ev_Mem → Prop} {x1 : Int32} (h : (Ev LM d mX11_arePassed 2 [some (.ref 0), some (.int x1), some (.int 0)] [] M Q)) : Ev LM d mX11_arePassed 0 [some (.ref 0), some (.int x1), none] [] M Q := by
  refine ev_iconst (v := 0) dX11_arePassed_0 (by decide) ?_
  refine ev_istore_n (ls2 := [some (.ref 0), some (.int x1), some (.int 0)]) dX11_arePassed_1 (Nat.le_of_ble_eq_true rfl) rfl ?_
  exact h
theorem gX11_arePassed_2 {d : Nat} {M : ev_Mem} {Q : Option Value → ev_Mem → Prop} {x1 x2 : Int32} (h : (((x1 ≤ x2) → (Q (some (.int 1)) M)) ∧ ((¬ x1 ≤ x2) → (((¬ (M.1 1 8) = 9999) → (∃ Q2 : Option Value → ev_Mem → Prop, Cl LM d mX11_keep [.ref 0] M Q2 ∧ ∀ (zr : Option Value) (zM : ev_Mem), Q2 zr zM → Ev LM (d + 1) mX11_arePassed 26 [some (.ref 0), some (.int x1), some (.int x2)] (zr.toList ++ []) zM Q)) ∧ (((M.1 1 8) = 9999) → (Q (some (.int 0)) M)))))) : Ev LM (d + 1) mX11_arePassed 2 [some (.ref 0), some (.int x1), some (.int x2)] [] M Q := by
  refine ev_iload_n dX11_arePassed_2 rfl ?_
  refine ev_iload_n dX11_arePassed_3 rfl ?_
  refine ev_icmp_ge (tgt := 36) dX11_arePassed_4 (by decide) (fun c => ?_) (fun c => ?_)
  · replace h := h.1 c
    refine ev_iconst (v := 1) dX11_arePassed_36 (by decide) ?_
    exact ev_zret dX11_arePassed_37 rfl (by decide) h
  · replace h := h.2 c
    refine ev_aload_n dX11_arePassed_7 rfl ?_
    refine ev_getA dX11_arePassed_8 fl_WithoutEModel_7 lm_0 rfl ?_
    refine ev_bipush (v := 8) dX11_arePassed_11 (by decide) ?_
    refine ev_iaN (j := 8) dX11_arePassed_13 lm_1 (by decide) (by decide) ?_
    refine ev_sipush (v := 9999) dX11_arePassed_14 (by decide) ?_
    refine ev_icmp_ne (tgt := 22) dX11_arePassed_17 (by decide) (fun c => ?_) (fun c => ?_)
    · replace h := h.1 c
      refine ev_aload_n dX11_arePassed_22 rfl ?_
      obtain ⟨Q2, hc, h⟩ := h
      refine ev_callV [] dX11_arePassed_23 ml_WithoutEModel_408 lm_0 rfl rfl (Nat.le_of_ble_eq_true rfl) hc (fun zr zM q => ?_)
      exact h zr zM q
    · replace h := h.2 c
      refine ev_iconst (v := 0) dX11_arePassed_20 (by decide) ?_
      exact ev_zret dX11_arePassed_21 rfl (by decide) h
theorem gX11_arePassed_26 {d : Nat} {M : ev_Mem} {Q : Option Value → ev_Mem → Prop} {x1 x2 : Int32} (h : (∃ Q2 : Option Value → ev_Mem → Prop, Cl LM d mX11_pass [.ref 0] M Q2 ∧ ∀ (zr : Option Value) (zM : ev_Mem), Q2 zr zM → Ev LM (d + 1) mX11_arePassed 30 [some (.ref 0), some (.int x1), some (.int x2)] (zr.toList ++ []) zM Q)) : Ev LM (d + 1) mX11_arePassed 26 [some (.ref 0), some (.int x1), some (.int x2)] [] M Q := by
  refine ev_aload_n dX11_arePassed_26 rfl ?_
  obtain ⟨Q2, hc, h⟩ := h
  refine ev_callV [] dX11_arePassed_27 ml_WithoutEModel_414 lm_0 rfl rfl (Nat.le_of_ble_eq_true rfl) hc (fun zr zM q => ?_)
  exact h zr zM q
theorem gX11_arePassed_30 {d : Nat} {M : ev_Mem} {Q : Option Value → ev_Mem → Prop} {x1 x2 : Int32} (h : (Ev LM d mX11_arePassed 2 [some (.ref 0), some (.int x1), some (.int (x2 + 1))] [] M Q)) : Ev LM d mX11_arePassed 30 [some (.ref 0), some (.int x1), some (.int x2)] [] M Q := by
  refine ev_iinc (v := x2 + 1) (ls2 := [some (.ref 0), some (.int x1), some (.int (x2 + 1))]) dX11_arePassed_30 rfl rfl rfl ?_
  refine ev_goto (tgt := 2) dX11_arePassed_33 (by decide) ?_
  exact h
theorem dX11_week_0 : decode cX11_week 0 = .ok (.iload_n 1, 1) := by decide +kernel
theorem dX11_week_1 : decode cX11_week 1 = .ok (.iconst 1, 1) := by decide +kernel
theorem dX11_week_2 : decode cX11_week 2 = .ok (.bipush 40, 2) := by decide +kernel
theorem dX11_week_4 : decode cX11_week 4 = .ok (.invokestatic 80, 3) := by decide +kernel
theorem dX11_week_7 : decode cX11_week 7 = .ok (.ifCond .ne 9, 3) := by decide +kernel
theorem dX11_week_10 : decode cX11_week 10 = .ok (.aload_n 0, 1) := by decide +kernel
theorem dX11_week_11 : decode cX11_week 11 = .ok (.iconst 0, 1) := by decide +kernel
theorem dX11_week_12 : decode cX11_week 12 = .ok (.invokevirtual 331, 3) := by decide +kernel
theorem dX11_week_15 : decode cX11_week 15 = .ok (.ireturn, 1) := by decide +kernel
theorem dX11_week_16 : decode cX11_week 16 = .ok (.aload_n 0, 1) := by decide +kernel
theorem dX11_week_17 : decode cX11_week 17 = .ok (.getfield 7, 3) := by decide +kernel
theorem dX11_week_20 : decode cX11_week 20 = .ok (.bipush 8, 2) := by decide +kernel
theorem dX11_week_22 : decode cX11_week 22 = .ok (.iaload, 1) := by decide +kernel
theorem dX11_week_23 : decode cX11_week 23 = .ok (.iload_n 1, 1) := by decide +kernel
theorem dX11_week_24 : decode cX11_week 24 = .ok (.iadd, 1) := by decide +kernel
theorem dX11_week_25 : decode cX11_week 25 = .ok (.sipush 9999, 3) := by decide +kernel
theorem dX11_week_28 : decode cX11_week 28 = .ok (.if_icmp .le 9, 3) := by decide +kernel
theorem dX11_week_31 : decode cX11_week 31 = .ok (.aload_n 0, 1) := by decide +kernel
theorem dX11_week_32 : decode cX11_week 32 = .ok (.iconst 2, 1) := by decide +kernel
theorem dX11_week_33 : decode cX11_week 33 = .ok (.invokevirtual 331, 3) := by decide +kernel
theorem dX11_week_36 : decode cX11_week 36 = .ok (.ireturn, 1) := by decide +kernel
theorem dX11_week_37 : decode cX11_week 37 = .ok (.aload_n 0, 1) := by decide +kernel
theorem dX11_week_38 : decode cX11_week 38 = .ok (.iload_n 1, 1) := by decide +kernel
theorem dX11_week_39 : decode cX11_week 39 = .ok (.invokevirtual 417, 3) := by decide +kernel
theorem dX11_week_42 : decode cX11_week 42 = .ok (.pop, 1) := by decide +kernel
theorem dX11_week_43 : decode cX11_week 43 = .ok (.aload_n 0, 1) := by decide +kernel
theorem dX11_week_44 : decode cX11_week 44 = .ok (.getfield 7, 3) := by decide +kernel
theorem dX11_week_47 : decode cX11_week 47 = .ok (.bipush 9, 2) := by decide +kernel
theorem dX11_week_49 : decode cX11_week 49 = .ok (.iaload, 1) := by decide +kernel
theorem dX11_week_50 : decode cX11_week 50 = .ok (.invokestatic 312, 3) := by decide +kernel
theorem dX11_week_53 : decode cX11_week 53 = .ok (.ireturn, 1) := by decide +kernel
theorem gX11_week_0 {d : Nat} {M : ev_Mem} {Q : Option Value → ev_Mem → Prop} {x1 : Int32} (h : ((((iin x1 (1 : Int32) (40 : Int32)) = true) → (((((M.1 1 8) + x1) ≤ 9999) → (∃ Q2 : Option Value → ev_Mem → Prop, Cl LM d mX11_arePassed [.ref 0, .int x1] M Q2 ∧ ∀ (zr : Option Value) (zM : ev_Mem), Q2 zr zM → Ev LM (d + 1) mX11_week 42 [some (.ref 0), none] (zr.toList ++ []) zM Q)) ∧ ((¬ ((M.1 1 8) + x1) ≤ 9999) → ((vp_in (2 : Int32) 3) ∧ (∀ M1 : ev_Mem, M1 = rfs M 3 (2 : Int32).toNatClampNeg → (Q (some (.int (-1))) M1)))))) ∧ (((iin x1 (1 : Int32) (40 : Int32)) = false) → ((vp_in (0 : Int32) 3) ∧ (∀ M2 : ev_Mem, M2 = rfs M 3 (0 : Int32).toNatClampNeg → (Q (some (.int (-1))) M2)))))) : Ev LM (d + 1) mX11_week 0 [some (.ref 0), some (.int x1)] [] M Q := by
  refine ev_iload_n dX11_week_0 rfl ?_
  refine ev_iconst (v := 1) dX11_week_1 (by decide) ?_
  refine ev_bipush (v := 40) dX11_week_2 (by decide) ?_
  refine ev_callS [.int x1, .int 1, .int 40] dX11_week_4 ml_WithoutEModel_80 rfl (Nat.le_of_ble_eq_true rfl) (kX11_isIn) ?_
  rintro zr zM ⟨q1, q2⟩
  rw [q1, q2]
  show Ev LM (d + 1) mX11_week 7 [some (.ref 0), some (.int x1)] [(.int (bi (iin x1 (1 : Int32) (40 : Int32))))] M Q
  refine ev_if_ne (tgt := 16) dX11_week_7 (by decide) (fun c => ?_) (fun c => ?_)
  · replace h := h.1 ((bi_n0 _).mp c)
    refine ev_aload_n dX11_week_16 rfl ?_
    refine ev_getA dX11_week_17 fl_WithoutEModel_7 lm_0 rfl ?_
    refine ev_bipush (v := 8) dX11_week_20 (by decide) ?_
    refine ev_iaN (j := 8) dX11_week_22 lm_1 (by decide) (by decide) ?_
    refine ev_iload_n dX11_week_23 rfl ?_
    refine ev_iadd dX11_week_24 ?_
    refine ev_sipush (v := 9999) dX11_week_25 (by decide) ?_
    refine ev_icmp_le (tgt := 37) dX11_week_28 (by decide) (fun c => ?_) (fun c => ?_)
    · replace h := h.1 c
      refine ev_aload_n dX11_week_37 rfl ?_
      refine ev_iload_n dX11_week_38 rfl ?_
      obtain ⟨Q2, hc, h⟩ := h
      refine ev_callV [.int x1] dX11_week_39 ml_WithoutEModel_417 lm_0 rfl rfl (Nat.le_of_ble_eq_true rfl) hc (fun zr zM q => ?_)
      refine Ev.weak (ls := [some (.ref 0), none]) ⟨rfl, trivial⟩ ?_
      exact h zr zM q
    · replace h := h.2 c
      refine ev_aload_n dX11_week_31 rfl ?_
      refine ev_iconst (v := 2) dX11_week_32 (by decide) ?_
      obtain ⟨p1, h⟩ := h
      refine ev_callV [.int 2] dX11_week_33 ml_WithoutEModel_331 lm_0 rfl rfl (Nat.le_of_ble_eq_true rfl) (qX11_refused p1) ?_
      rintro zr zM ⟨q1, q2⟩
      rw [q1, q2]
      generalize eM1 : rfs M 3 (2 : Int32).toNatClampNeg = M1
      replace h := h M1 eM1.symm
      show Ev LM (d + 1) mX11_week 36 [some (.ref 0), some (.int x1)] [(.int (-1))] M1 Q
      exact ev_iret dX11_week_36 rfl h
  · replace h := h.2 ((bi_0 _).mp c)
    refine ev_aload_n dX11_week_10 rfl ?_
    refine ev_iconst (v := 0) dX11_week_11 (by decide) ?_
    obtain ⟨p1, h⟩ := h
    refine ev_callV [.int 0] dX11_week_12 ml_WithoutEModel_331 lm_0 rfl rfl (Nat.le_of_ble_eq_true rfl) (qX11_refused p1) ?_
    rintro zr zM ⟨q1, q2⟩
    rw [q1, q2]
    generalize eM2 : rfs M 3 (0 : Int32).toNatClampNeg = M2
    replace h := h M2 eM2.symm
    show Ev LM (d + 1) mX11_week 15 [some (.ref 0), some (.int x1)] [(.int (-1))] M2 Q
    exact ev_iret dX11_week_15 rfl h
theorem gX11_week_42 {d : Nat} {M : ev_Mem} {Q : Option Value → ev_Mem → Prop} {s0 : Int32} (h : (Q (some (.int (bc (M.1 1 9)))) M)) : Ev LM (d + 1) mX11_week 42 [some (.ref 0), none] [(.int s0)] M Q := by
  refine ev_pop dX11_week_42 rfl ?_
  refine ev_aload_n dX11_week_43 rfl ?_
  refine ev_getA dX11_week_44 fl_WithoutEModel_7 lm_0 rfl ?_
  refine ev_bipush (v := 9) dX11_week_47 (by decide) ?_
  refine ev_iaN (j := 9) dX11_week_49 lm_1 (by decide) (by decide) ?_
  refine ev_callS [.int (M.1 1 9)] dX11_week_50 ml_WithoutEModel_312 rfl (Nat.le_of_ble_eq_true rfl) (kX11_bits) ?_
  rintro zr zM ⟨q1, q2⟩
  rw [q1, q2]
  show Ev LM (d + 1) mX11_week 53 [some (.ref 0), none] [(.int (bc (M.1 1 9)))] M Q
  exact ev_iret dX11_week_53 rfl h
theorem dX11_weekOf_0 : decode cX11_weekOf 0 = .ok (.aload_n 0, 1) := by decide +kernel
theorem dX11_weekOf_1 : decode cX11_weekOf 1 = .ok (.iload_n 1, 1) := by decide +kernel
theorem dX11_weekOf_2 : decode cX11_weekOf 2 = .ok (.invokevirtual 417, 3) := by decide +kernel
theorem dX11_weekOf_5 : decode cX11_weekOf 5 = .ok (.ifCond .eq 7, 3) := by decide +kernel
theorem dX11_weekOf_8 : decode cX11_weekOf 8 = .ok (.iconst 0, 1) := by decide +kernel
theorem dX11_weekOf_9 : decode cX11_weekOf 9 = .ok (.goto 8, 3) := by decide +kernel
theorem dX11_weekOf_12 : decode cX11_weekOf 12 = .ok (.aload_n 0, 1) := by decide +kernel
theorem dX11_weekOf_13 : decode cX11_weekOf 13 = .ok (.iconst 2, 1) := by decide +kernel
theorem dX11_weekOf_14 : decode cX11_weekOf 14 = .ok (.invokevirtual 331, 3) := by decide +kernel
theorem dX11_weekOf_17 : decode cX11_weekOf 17 = .ok (.ireturn, 1) := by decide +kernel
theorem gX11_weekOf_0 {d : Nat} {M : ev_Mem} {Q : Option Value → ev_Mem → Prop} {x1 : Int32} (h : (∃ Q2 : Option Value → ev_Mem → Prop, Cl LM d mX11_arePassed [.ref 0, .int x1] M Q2 ∧ ∀ (zr : Option Value) (zM : ev_Mem), Q2 zr zM → Ev LM (d + 1) mX11_weekOf 5 [some (.ref 0), none] (zr.toList ++ []) zM Q)) : Ev LM (d + 1) mX11_weekOf 0 [some (.ref 0), some (.int x1)] [] M Q := by
  refine ev_aload_n dX11_weekOf_0 rfl ?_
  refine ev_iload_n dX11_weekOf_1 rfl ?_
  obtain ⟨Q2, hc, h⟩ := h
  refine ev_callV [.int x1] dX11_weekOf_2 ml_WithoutEModel_417 lm_0 rfl rfl (Nat.le_of_ble_eq_true rfl) hc (fun zr zM q => ?_)
  refine Ev.weak (ls := [some (.ref 0), none]) ⟨rfl, trivial⟩ ?_
  exact h zr zM q
theorem gX11_weekOf_5 {d : Nat} {M : ev_Mem} {Q : Option Value → ev_Mem → Prop} {s0 : Int32} (h : (((s0 = 0) → ((vp_in (2 : Int32) 3) ∧ (∀ M1 : ev_Mem, M1 = rfs M 3 (2 : Int32).toNatClampNeg → (Q (some (.int (-1))) M1)))) ∧ ((¬ s0 = 0) → (Q (some (.int 0)) M)))) : Ev LM (d + 1) mX11_weekOf 5 [some (.ref 0), none] [(.int s0)] M Q := by
  refine ev_if_eq (tgt := 12) dX11_weekOf_5 (by decide) (fun c => ?_) (fun c => ?_)
  · replace h := h.1 c
    refine ev_aload_n dX11_weekOf_12 rfl ?_
    refine ev_iconst (v := 2) dX11_weekOf_13 (by decide) ?_
    obtain ⟨p1, h⟩ := h
    refine ev_callV [.int 2] dX11_weekOf_14 ml_WithoutEModel_331 lm_0 rfl rfl (Nat.le_of_ble_eq_true rfl) (qX11_refused p1) ?_
    rintro zr zM ⟨q1, q2⟩
    rw [q1, q2]
    generalize eM1 : rfs M 3 (2 : Int32).toNatClampNeg = M1
    replace h := h M1 eM1.symm
    show Ev LM (d + 1) mX11_weekOf 17 [some (.ref 0), none] [(.int (-1))] M1 Q
    exact ev_iret dX11_weekOf_17 rfl h
  · replace h := h.2 c
    refine ev_iconst (v := 0) dX11_weekOf_8 (by decide) ?_
    refine ev_goto (tgt := 17) dX11_weekOf_9 (by decide) ?_
    exact ev_iret dX11_weekOf_17 rfl h
theorem dX11_image_0 : decode cX11_image 0 = .ok (.aload_n 0, 1) := by decide +kernel
theorem dX11_image_1 : decode cX11_image 1 = .ok (.getfield 7, 3) := by decide +kernel
theorem dX11_image_4 : decode cX11_image 4 = .ok (.aload_n 0, 1) := by decide +kernel
theorem dX11_image_5 : decode cX11_image 5 = .ok (.getfield 13, 3) := by decide +kernel
theorem dX11_image_8 : decode cX11_image 8 = .ok (.invokestatic 76, 3) := by decide +kernel
theorem dX11_image_11 : decode cX11_image 11 = .ok (.aload_n 0, 1) := by decide +kernel
theorem dX11_image_12 : decode cX11_image 12 = .ok (.getfield 7, 3) := by decide +kernel
theorem dX11_image_15 : decode cX11_image 15 = .ok (.bipush 8, 2) := by decide +kernel
theorem dX11_image_17 : decode cX11_image 17 = .ok (.iaload, 1) := by decide +kernel
theorem dX11_image_18 : decode cX11_image 18 = .ok (.ireturn, 1) := by decide +kernel
theorem gX11_image_0 {d : Nat} {M : ev_Mem} {Q : Option Value → ev_Mem → Prop} (h : (∃ Q2 : Option Value → ev_Mem → Prop, Cl LM d mX11_copy [.ref 1, .ref 2] M Q2 ∧ ∀ (zr : Option Value) (zM : ev_Mem), Q2 zr zM → Ev LM (d + 1) mX11_image 11 [some (.ref 0)] (zr.toList ++ []) zM Q)) : Ev LM (d + 1) mX11_image 0 [some (.ref 0)] [] M Q := by
  refine ev_aload_n dX11_image_0 rfl ?_
  refine ev_getA dX11_image_1 fl_WithoutEModel_7 lm_0 rfl ?_
  refine ev_aload_n dX11_image_4 rfl ?_
  refine ev_getA dX11_image_5 fl_WithoutEModel_13 lm_0 rfl ?_
  obtain ⟨Q2, hc, h⟩ := h
  refine ev_callS [.ref 1, .ref 2] dX11_image_8 ml_WithoutEModel_76 rfl (Nat.le_of_ble_eq_true rfl) hc (fun zr zM q => ?_)
  exact h zr zM q
theorem gX11_image_11 {d : Nat} {M : ev_Mem} {Q : Option Value → ev_Mem → Prop} (h : (Q (some (.int (M.1 1 8))) M)) : Ev LM d mX11_image 11 [some (.ref 0)] [] M Q := by
  refine ev_aload_n dX11_image_11 rfl ?_
  refine ev_getA dX11_image_12 fl_WithoutEModel_7 lm_0 rfl ?_
  refine ev_bipush (v := 8) dX11_image_15 (by decide) ?_
  refine ev_iaN (j := 8) dX11_image_17 lm_1 (by decide) (by decide) ?_
  exact ev_iret dX11_image_18 rfl h
theorem dX11_restore_0 : decode cX11_restore 0 = .ok (.aload_n 0, 1) := by decide +kernel
theorem dX11_restore_1 : decode cX11_restore 1 = .ok (.getfield 13, 3) := by decide +kernel
theorem dX11_restore_4 : decode cX11_restore 4 = .ok (.aload_n 0, 1) := by decide +kernel
theorem dX11_restore_5 : decode cX11_restore 5 = .ok (.getfield 7, 3) := by decide +kernel
theorem dX11_restore_8 : decode cX11_restore 8 = .ok (.invokestatic 76, 3) := by decide +kernel
theorem dX11_restore_11 : decode cX11_restore 11 = .ok (.aload_n 0, 1) := by decide +kernel
theorem dX11_restore_12 : decode cX11_restore 12 = .ok (.getfield 7, 3) := by decide +kernel
theorem dX11_restore_15 : decode cX11_restore 15 = .ok (.bipush 8, 2) := by decide +kernel
theorem dX11_restore_17 : decode cX11_restore 17 = .ok (.iaload, 1) := by decide +kernel
theorem dX11_restore_18 : decode cX11_restore 18 = .ok (.ireturn, 1) := by decide +kernel
theorem gX11_restore_0 {d : Nat} {M : ev_Mem} {Q : Option Value → ev_Mem → Prop} (h : (∃ Q2 : Option Value → ev_Mem → Prop, Cl LM d mX11_copy [.ref 2, .ref 1] M Q2 ∧ ∀ (zr : Option Value) (zM : ev_Mem), Q2 zr zM → Ev LM (d + 1) mX11_restore 11 [some (.ref 0)] (zr.toList ++ []) zM Q)) : Ev LM (d + 1) mX11_restore 0 [some (.ref 0)] [] M Q := by
  refine ev_aload_n dX11_restore_0 rfl ?_
  refine ev_getA dX11_restore_1 fl_WithoutEModel_13 lm_0 rfl ?_
  refine ev_aload_n dX11_restore_4 rfl ?_
  refine ev_getA dX11_restore_5 fl_WithoutEModel_7 lm_0 rfl ?_
  obtain ⟨Q2, hc, h⟩ := h
  refine ev_callS [.ref 2, .ref 1] dX11_restore_8 ml_WithoutEModel_76 rfl (Nat.le_of_ble_eq_true rfl) hc (fun zr zM q => ?_)
  exact h zr zM q
theorem gX11_restore_11 {d : Nat} {M : ev_Mem} {Q : Option Value → ev_Mem → Prop} (h : (Q (some (.int (M.1 1 8))) M)) : Ev LM d mX11_restore 11 [some (.ref 0)] [] M Q := by
  refine ev_aload_n dX11_restore_11 rfl ?_
  refine ev_getA dX11_restore_12 fl_WithoutEModel_7 lm_0 rfl ?_
  refine ev_bipush (v := 8) dX11_restore_15 (by decide) ?_
  refine ev_iaN (j := 8) dX11_restore_17 lm_1 (by decide) (by decide) ?_
  exact ev_iret dX11_restore_18 rfl h
