theorem dX1_stiffness_0 : decode cX1_stiffness 0 = .ok (.aload_n 1, 1) := by decide +kernel
theorem dX1_stiffness_1 : decode cX1_stiffness 1 = .ok (.ifnull 13, 3) := by decide +kernel
theorem dX1_stiffness_4 : decode cX1_stiffness 4 = .ok (.aload_n 1, 1) := by decide +kernel
theorem dX1_stiffness_5 : decode cX1_stiffness 5 = .ok (.getfield 26, 3) := by decide +kernel
theorem dX1_stiffness_8 : decode cX1_stiffness 8 = .ok (.iconst 0, 1) := by decide +kernel
theorem dX1_stiffness_9 : decode cX1_stiffness 9 = .ok (.iaload, 1) := by decide +kernel
theorem dX1_stiffness_10 : decode cX1_stiffness 10 = .ok (.iconst (-1), 1) := by decide +kernel
theorem dX1_stiffness_11 : decode cX1_stiffness 11 = .ok (.if_icmp .ne 16, 3) := by decide +kernel
theorem dX1_stiffness_14 : decode cX1_stiffness 14 = .ok (.aload_n 0, 1) := by decide +kernel
theorem dX1_stiffness_15 : decode cX1_stiffness 15 = .ok (.getfield 18, 3) := by decide +kernel
theorem dX1_stiffness_18 : decode cX1_stiffness 18 = .ok (.getfield 31, 3) := by decide +kernel
theorem dX1_stiffness_21 : decode cX1_stiffness 21 = .ok (.iload_n 2, 1) := by decide +kernel
theorem dX1_stiffness_22 : decode cX1_stiffness 22 = .ok (.iaload, 1) := by decide +kernel
theorem dX1_stiffness_23 : decode cX1_stiffness 23 = .ok (.iload 4, 2) := by decide +kernel
theorem dX1_stiffness_25 : decode cX1_stiffness 25 = .ok (.iadd, 1) := by decide +kernel
theorem dX1_stiffness_26 : decode cX1_stiffness 26 = .ok (.ireturn, 1) := by decide +kernel
theorem dX1_stiffness_27 : decode cX1_stiffness 27 = .ok (.aload_n 0, 1) := by decide +kernel
theorem dX1_stiffness_28 : decode cX1_stiffness 28 = .ok (.getfield 9, 3) := by decide +kernel
theorem dX1_stiffness_31 : decode cX1_stiffness 31 = .ok (.iconst 1, 1) := by decide +kernel
theorem dX1_stiffness_32 : decode cX1_stiffness 32 = .ok (.iload 5, 2) := by decide +kernel
theorem dX1_stiffness_34 : decode cX1_stiffness 34 = .ok (.iastore, 1) := by decide +kernel
theorem dX1_stiffness_35 : decode cX1_stiffness 35 = .ok (.aload_n 0, 1) := by decide +kernel
theorem dX1_stiffness_36 : decode cX1_stiffness 36 = .ok (.getfield 9, 3) := by decide +kernel
theorem dX1_stiffness_39 : decode cX1_stiffness 39 = .ok (.iconst 2, 1) := by decide +kernel
theorem dX1_stiffness_40 : decode cX1_stiffness 40 = .ok (.aload_n 0, 1) := by decide +kernel
theorem dX1_stiffness_41 : decode cX1_stiffness 41 = .ok (.getfield 18, 3) := by decide +kernel
theorem dX1_stiffness_44 : decode cX1_stiffness 44 = .ok (.getfield 36, 3) := by decide +kernel
theorem dX1_stiffness_47 : decode cX1_stiffness 47 = .ok (.iload_n 2, 1) := by decide +kernel
theorem dX1_stiffness_48 : decode cX1_stiffness 48 = .ok (.iaload, 1) := by decide +kernel
theorem dX1_stiffness_49 : decode cX1_stiffness 49 = .ok (.iastore, 1) := by decide +kernel
theorem dX1_stiffness_50 : decode cX1_stiffness 50 = .ok (.aload_n 0, 1) := by decide +kernel
theorem dX1_stiffness_51 : decode cX1_stiffness 51 = .ok (.getfield 9, 3) := by decide +kernel
theorem dX1_stiffness_54 : decode cX1_stiffness 54 = .ok (.iconst 3, 1) := by decide +kernel
theorem dX1_stiffness_55 : decode cX1_stiffness 55 = .ok (.aload_n 0, 1) := by decide +kernel
theorem dX1_stiffness_56 : decode cX1_stiffness 56 = .ok (.getfield 18, 3) := by decide +kernel
theorem dX1_stiffness_59 : decode cX1_stiffness 59 = .ok (.getfield 31, 3) := by decide +kernel
theorem dX1_stiffness_62 : decode cX1_stiffness 62 = .ok (.iload_n 2, 1) := by decide +kernel
theorem dX1_stiffness_63 : decode cX1_stiffness 63 = .ok (.iaload, 1) := by decide +kernel
theorem dX1_stiffness_64 : decode cX1_stiffness 64 = .ok (.iastore, 1) := by decide +kernel
theorem dX1_stiffness_65 : decode cX1_stiffness 65 = .ok (.aload_n 0, 1) := by decide +kernel
theorem dX1_stiffness_66 : decode cX1_stiffness 66 = .ok (.getfield 9, 3) := by decide +kernel
theorem dX1_stiffness_69 : decode cX1_stiffness 69 = .ok (.iconst 4, 1) := by decide +kernel
theorem dX1_stiffness_70 : decode cX1_stiffness 70 = .ok (.aload_n 0, 1) := by decide +kernel
theorem dX1_stiffness_71 : decode cX1_stiffness 71 = .ok (.getfield 18, 3) := by decide +kernel
theorem dX1_stiffness_74 : decode cX1_stiffness 74 = .ok (.getfield 39, 3) := by decide +kernel
theorem dX1_stiffness_77 : decode cX1_stiffness 77 = .ok (.iload_n 2, 1) := by decide +kernel
theorem dX1_stiffness_78 : decode cX1_stiffness 78 = .ok (.iaload, 1) := by decide +kernel
theorem dX1_stiffness_79 : decode cX1_stiffness 79 = .ok (.iastore, 1) := by decide +kernel
theorem dX1_stiffness_80 : decode cX1_stiffness 80 = .ok (.aload_n 0, 1) := by decide +kernel
theorem dX1_stiffness_81 : decode cX1_stiffness 81 = .ok (.getfield 9, 3) := by decide +kernel
theorem dX1_stiffness_84 : decode cX1_stiffness 84 = .ok (.iconst 5, 1) := by decide +kernel
theorem dX1_stiffness_85 : decode cX1_stiffness 85 = .ok (.iload_n 3, 1) := by decide +kernel
theorem dX1_stiffness_86 : decode cX1_stiffness 86 = .ok (.iastore, 1) := by decide +kernel
theorem dX1_stiffness_87 : decode cX1_stiffness 87 = .ok (.aload_n 0, 1) := by decide +kernel
theorem dX1_stiffness_88 : decode cX1_stiffness 88 = .ok (.getfield 9, 3) := by decide +kernel
theorem dX1_stiffness_91 : decode cX1_stiffness 91 = .ok (.bipush 6, 2) := by decide +kernel
theorem dX1_stiffness_93 : decode cX1_stiffness 93 = .ok (.iload 4, 2) := by decide +kernel
theorem dX1_stiffness_95 : decode cX1_stiffness 95 = .ok (.iastore, 1) := by decide +kernel
theorem dX1_stiffness_96 : decode cX1_stiffness 96 = .ok (.aload_n 0, 1) := by decide +kernel
theorem dX1_stiffness_97 : decode cX1_stiffness 97 = .ok (.aload_n 1, 1) := by decide +kernel
theorem dX1_stiffness_98 : decode cX1_stiffness 98 = .ok (.aload_n 1, 1) := by decide +kernel
theorem dX1_stiffness_99 : decode cX1_stiffness 99 = .ok (.getfield 26, 3) := by decide +kernel
theorem dX1_stiffness_102 : decode cX1_stiffness 102 = .ok (.iconst 0, 1) := by decide +kernel
theorem dX1_stiffness_103 : decode cX1_stiffness 103 = .ok (.iaload, 1) := by decide +kernel
theorem dX1_stiffness_104 : decode cX1_stiffness 104 = .ok (.invokevirtual 42, 3) := by decide +kernel
theorem dX1_stiffness_107 : decode cX1_stiffness 107 = .ok (.bipush 99, 2) := by decide +kernel
theorem dX1_stiffness_109 : decode cX1_stiffness 109 = .ok (.invokestatic 46, 3) := by decide +kernel
theorem dX1_stiffness_112 : decode cX1_stiffness 112 = .ok (.ireturn, 1) := by decide +kernel
theorem gX1_stiffnessN_0 {d : Nat} {M : ev_Mem} {Q : Option Value → ev_Mem → Prop} {x2 x3 x4 x5 : Int32} (h : (vp_in x2 24 ∧ (Q (some (.int ((M.1 32 x2.toNatClampNeg) + x4))) M))) : Ev LX d mX1_stiffness 0 [some (.ref 83), some (.null), some (.int x2), some (.int x3), some (.int x4), some (.int x5)] [] M Q := by
  refine ev_aload_nN dX1_stiffness_0 rfl ?_
  refine ev_ifnullN (tgt := 14) dX1_stiffness_1 (by decide) ?_
  refine ev_aload_n dX1_stiffness_14 rfl ?_
  refine ev_getA dX1_stiffness_15 fl_WithoutE_Laws_18 lx_83 rfl ?_
  refine ev_getA dX1_stiffness_18 fl_WithoutE_Laws_31 lx_3 rfl ?_
  refine ev_iload_n dX1_stiffness_21 rfl ?_
  obtain ⟨c, h⟩ := h
  refine ev_iald dX1_stiffness_22 lx_32 c ?_
  refine ev_iload dX1_stiffness_23 rfl ?_
  refine ev_iadd dX1_stiffness_25 ?_
  exact ev_iret dX1_stiffness_26 rfl h
theorem gX1_stiffness_0 {d : Nat} {M : ev_Mem} {Q : Option Value → ev_Mem → Prop} {x2 x3 x4 x5 : Int32} {k : Nat} (hk : ev_isT k) (h : (((¬ (M.1 (k + 4) 0) = (-1)) → (∀ M1 : ev_Mem, M1 = ev_wr M 84 1 x5 → (vp_in x2 24 ∧ (∀ M2 : ev_Mem, M2 = ev_wr M1 84 2 (M1.1 30 x2.toNatClampNeg) → (vp_in x2 24 ∧ (∀ M3 : ev_Mem, M3 = ev_wr M2 84 3 (M2.1 32 x2.toNatClampNeg) → (vp_in x2 24 ∧ (∀ M4 : ev_Mem, M4 = ev_wr M3 84 4 (M3.1 29 x2.toNatClampNeg) → (∀ M5 : ev_Mem, M5 = ev_wr M4 84 5 x3 → (∀ M6 : ev_Mem, M6 = ev_wr M5 84 6 x4 → (∃ Q2 : Option Value → ev_Mem → Prop, Cl LX d mX1_run [.ref 83, .ref k, .int (M6.1 (k + 4) 0)] M6 Q2 ∧ ∀ (zr : Option Value) (zM : ev_Mem), Q2 zr zM → Ev LX (d + 1) mX1_stiffness 107 [none, none, none, none, none, none] (zr.toList ++ []) zM Q))))))))))) ∧ (((M.1 (k + 4) 0) = (-1)) → (vp_in x2 24 ∧ (Q (some (.int ((M.1 32 x2.toNatClampNeg) + x4))) M))))) : Ev LX (d + 1) mX1_stiffness 0 [some (.ref 83), some (.ref k), some (.int x2), some (.int x3), some (.int x4), some (.int x5)] [] M Q := by
  refine ev_aload_n dX1_stiffness_0 rfl ?_
  refine ev_ifnull dX1_stiffness_1 ?_
  refine ev_aload_n dX1_stiffness_4 rfl ?_
  refine ev_getA dX1_stiffness_5 fl_WithoutE_Laws_26 (lx_T hk) rfl ?_
  refine ev_iconst (v := 0) dX1_stiffness_8 (by decide) ?_
  refine ev_iaN (j := 0) dX1_stiffness_9 (lx_T4 hk) (by decide) (by decide) ?_
  refine ev_iconst (v := -1) dX1_stiffness_10 (by decide) ?_
  refine ev_icmp_ne (tgt := 27) dX1_stiffness_11 (by decide) (fun c => ?_) (fun c => ?_)
  · replace h := h.1 c
    refine ev_aload_n dX1_stiffness_27 rfl ?_
    refine ev_getA dX1_stiffness_28 fl_WithoutE_Laws_9 lx_83 rfl ?_
    refine ev_iconst (v := 1) dX1_stiffness_31 (by decide) ?_
    refine ev_iload dX1_stiffness_32 rfl ?_
    refine ev_isN (j := 1) dX1_stiffness_34 lx_84 (by decide) (by decide) ?_
    generalize eM1 : ev_wr M 84 1 x5 = M1
    replace h := h M1 eM1.symm
    refine ev_aload_n dX1_stiffness_35 rfl ?_
    refine ev_getA dX1_stiffness_36 fl_WithoutE_Laws_9 lx_83 rfl ?_
    refine ev_iconst (v := 2) dX1_stiffness_39 (by decide) ?_
    refine ev_aload_n dX1_stiffness_40 rfl ?_
    refine ev_getA dX1_stiffness_41 fl_WithoutE_Laws_18 lx_83 rfl ?_
    refine ev_getA dX1_stiffness_44 fl_WithoutE_Laws_36 lx_3 rfl ?_
    refine ev_iload_n dX1_stiffness_47 rfl ?_
    obtain ⟨c, h⟩ := h
    refine ev_iald dX1_stiffness_48 lx_30 c ?_
    refine ev_isN (j := 2) dX1_stiffness_49 lx_84 (by decide) (by decide) ?_
    generalize eM2 : ev_wr M1 84 2 (M1.1 30 x2.toNatClampNeg) = M2
    replace h := h M2 eM2.symm
    refine ev_aload_n dX1_stiffness_50 rfl ?_
    refine ev_getA dX1_stiffness_51 fl_WithoutE_Laws_9 lx_83 rfl ?_
    refine ev_iconst (v := 3) dX1_stiffness_54 (by decide) ?_
    refine ev_aload_n dX1_stiffness_55 rfl ?_
    refine ev_getA dX1_stiffness_56 fl_WithoutE_Laws_18 lx_83 rfl ?_
    refine ev_getA dX1_stiffness_59 fl_WithoutE_Laws_31 lx_3 rfl ?_
    refine ev_iload_n dX1_stiffness_62 rfl ?_
    obtain ⟨c, h⟩ := h
    refine ev_iald dX1_stiffness_63 lx_32 c ?_
    refine ev_isN (j := 3) dX1_stiffness_64 lx_84 (by decide) (by decide) ?_
    generalize eM3 : ev_wr M2 84 3 (M2.1 32 x2.toNatClampNeg) = M3
    replace h := h M3 eM3.symm
    refine ev_aload_n dX1_stiffness_65 rfl ?_
    refine ev_getA dX1_stiffness_66 fl_WithoutE_Laws_9 lx_83 rfl ?_
    refine ev_iconst (v := 4) dX1_stiffness_69 (by decide) ?_
    refine ev_aload_n dX1_stiffness_70 rfl ?_
    refine ev_getA dX1_stiffness_71 fl_WithoutE_Laws_18 lx_83 rfl ?_
    refine ev_getA dX1_stiffness_74 fl_WithoutE_Laws_39 lx_3 rfl ?_
    refine ev_iload_n dX1_stiffness_77 rfl ?_
    obtain ⟨c, h⟩ := h
    refine ev_iald dX1_stiffness_78 lx_29 c ?_
    refine ev_isN (j := 4) dX1_stiffness_79 lx_84 (by decide) (by decide) ?_
    generalize eM4 : ev_wr M3 84 4 (M3.1 29 x2.toNatClampNeg) = M4
    replace h := h M4 eM4.symm
    refine ev_aload_n dX1_stiffness_80 rfl ?_
    refine ev_getA dX1_stiffness_81 fl_WithoutE_Laws_9 lx_83 rfl ?_
    refine ev_iconst (v := 5) dX1_stiffness_84 (by decide) ?_
    refine ev_iload_n dX1_stiffness_85 rfl ?_
    refine ev_isN (j := 5) dX1_stiffness_86 lx_84 (by decide) (by decide) ?_
    generalize eM5 : ev_wr M4 84 5 x3 = M5
    replace h := h M5 eM5.symm
    refine ev_aload_n dX1_stiffness_87 rfl ?_
    refine ev_getA dX1_stiffness_88 fl_WithoutE_Laws_9 lx_83 rfl ?_
    refine ev_bipush (v := 6) dX1_stiffness_91 (by decide) ?_
    refine ev_iload dX1_stiffness_93 rfl ?_
    refine ev_isN (j := 6) dX1_stiffness_95 lx_84 (by decide) (by decide) ?_
    generalize eM6 : ev_wr M5 84 6 x4 = M6
    replace h := h M6 eM6.symm
    refine ev_aload_n dX1_stiffness_96 rfl ?_
    refine ev_aload_n dX1_stiffness_97 rfl ?_
    refine ev_aload_n dX1_stiffness_98 rfl ?_
    refine ev_getA dX1_stiffness_99 fl_WithoutE_Laws_26 (lx_T hk) rfl ?_
    refine ev_iconst (v := 0) dX1_stiffness_102 (by decide) ?_
    refine ev_iaN (j := 0) dX1_stiffness_103 (lx_T4 hk) (by decide) (by decide) ?_
    obtain ⟨Q2, hc, h⟩ := h
    refine ev_callV [.ref k, .int (M6.1 (k + 4) 0)] dX1_stiffness_104 ml_WithoutE_Laws_42 lx_83 rfl rfl (Nat.le_of_ble_eq_true rfl) hc (fun zr zM q => ?_)
    refine Ev.weak (ls := [none, none, none, none, none, none]) trivial ?_
    exact h zr zM q
  · replace h := h.2 c
    refine ev_aload_n dX1_stiffness_14 rfl ?_
    refine ev_getA dX1_stiffness_15 fl_WithoutE_Laws_18 lx_83 rfl ?_
    refine ev_getA dX1_stiffness_18 fl_WithoutE_Laws_31 lx_3 rfl ?_
    refine ev_iload_n dX1_stiffness_21 rfl ?_
    obtain ⟨c, h⟩ := h
    refine ev_iald dX1_stiffness_22 lx_32 c ?_
    refine ev_iload dX1_stiffness_23 rfl ?_
    refine ev_iadd dX1_stiffness_25 ?_
    exact ev_iret dX1_stiffness_26 rfl h
theorem gX1_stiffness_107 {d : Nat} {M : ev_Mem} {Q : Option Value → ev_Mem → Prop} {s0 : Int32} {k : Nat} (hk : ev_isT k) (h : (Q (some (.int (wth s0 (99 : Int32)))) M)) : Ev LX (d + 1) mX1_stiffness 107 [none, none, none, none, none, none] [(.int s0)] M Q := by
  refine ev_bipush (v := 99) dX1_stiffness_107 (by decide) ?_
  refine ev_callS [.int s0, .int 99] dX1_stiffness_109 ml_WithoutE_Laws_46 rfl (Nat.le_of_ble_eq_true rfl) (kX1_within) ?_
  rintro zr zM ⟨q1, q2⟩
  rw [q1, q2]
  show Ev LX (d + 1) mX1_stiffness 112 [none, none, none, none, none, none] [(.int (wth s0 (99 : Int32)))] M Q
  exact ev_iret dX1_stiffness_112 rfl h
theorem dX1_wearOdds_0 : decode cX1_wearOdds 0 = .ok (.aload_n 1, 1) := by decide +kernel
theorem dX1_wearOdds_1 : decode cX1_wearOdds 1 = .ok (.ifnull 13, 3) := by decide +kernel
theorem dX1_wearOdds_4 : decode cX1_wearOdds 4 = .ok (.aload_n 1, 1) := by decide +kernel
theorem dX1_wearOdds_5 : decode cX1_wearOdds 5 = .ok (.getfield 26, 3) := by decide +kernel
theorem dX1_wearOdds_8 : decode cX1_wearOdds 8 = .ok (.iconst 1, 1) := by decide +kernel
theorem dX1_wearOdds_9 : decode cX1_wearOdds 9 = .ok (.iaload, 1) := by decide +kernel
theorem dX1_wearOdds_10 : decode cX1_wearOdds 10 = .ok (.iconst (-1), 1) := by decide +kernel
theorem dX1_wearOdds_11 : decode cX1_wearOdds 11 = .ok (.if_icmp .ne 21, 3) := by decide +kernel
theorem dX1_wearOdds_14 : decode cX1_wearOdds 14 = .ok (.aload_n 0, 1) := by decide +kernel
theorem dX1_wearOdds_15 : decode cX1_wearOdds 15 = .ok (.getfield 22, 3) := by decide +kernel
theorem dX1_wearOdds_18 : decode cX1_wearOdds 18 = .ok (.getfield 50, 3) := by decide +kernel
theorem dX1_wearOdds_21 : decode cX1_wearOdds 21 = .ok (.iload_n 2, 1) := by decide +kernel
theorem dX1_wearOdds_22 : decode cX1_wearOdds 22 = .ok (.iaload, 1) := by decide +kernel
theorem dX1_wearOdds_23 : decode cX1_wearOdds 23 = .ok (.bipush 10, 2) := by decide +kernel
theorem dX1_wearOdds_25 : decode cX1_wearOdds 25 = .ok (.idiv, 1) := by decide +kernel
theorem dX1_wearOdds_26 : decode cX1_wearOdds 26 = .ok (.bipush 10, 2) := by decide +kernel
theorem dX1_wearOdds_28 : decode cX1_wearOdds 28 = .ok (.invokestatic 46, 3) := by decide +kernel
theorem dX1_wearOdds_31 : decode cX1_wearOdds 31 = .ok (.ireturn, 1) := by decide +kernel
theorem dX1_wearOdds_32 : decode cX1_wearOdds 32 = .ok (.aload_n 0, 1) := by decide +kernel
theorem dX1_wearOdds_33 : decode cX1_wearOdds 33 = .ok (.getfield 9, 3) := by decide +kernel
theorem dX1_wearOdds_36 : decode cX1_wearOdds 36 = .ok (.iconst 1, 1) := by decide +kernel
theorem dX1_wearOdds_37 : decode cX1_wearOdds 37 = .ok (.iload_n 3, 1) := by decide +kernel
theorem dX1_wearOdds_38 : decode cX1_wearOdds 38 = .ok (.invokestatic 55, 3) := by decide +kernel
theorem dX1_wearOdds_41 : decode cX1_wearOdds 41 = .ok (.iastore, 1) := by decide +kernel
theorem dX1_wearOdds_42 : decode cX1_wearOdds 42 = .ok (.aload_n 0, 1) := by decide +kernel
theorem dX1_wearOdds_43 : decode cX1_wearOdds 43 = .ok (.getfield 9, 3) := by decide +kernel
theorem dX1_wearOdds_46 : decode cX1_wearOdds 46 = .ok (.bipush 7, 2) := by decide +kernel
theorem dX1_wearOdds_48 : decode cX1_wearOdds 48 = .ok (.iload_n 2, 1) := by decide +kernel
theorem dX1_wearOdds_49 : decode cX1_wearOdds 49 = .ok (.iastore, 1) := by decide +kernel
theorem dX1_wearOdds_50 : decode cX1_wearOdds 50 = .ok (.aload_n 0, 1) := by decide +kernel
theorem dX1_wearOdds_51 : decode cX1_wearOdds 51 = .ok (.getfield 9, 3) := by decide +kernel
theorem dX1_wearOdds_54 : decode cX1_wearOdds 54 = .ok (.bipush 8, 2) := by decide +kernel
theorem dX1_wearOdds_56 : decode cX1_wearOdds 56 = .ok (.aload_n 0, 1) := by decide +kernel
theorem dX1_wearOdds_57 : decode cX1_wearOdds 57 = .ok (.getfield 22, 3) := by decide +kernel
theorem dX1_wearOdds_60 : decode cX1_wearOdds 60 = .ok (.getfield 50, 3) := by decide +kernel
theorem dX1_wearOdds_63 : decode cX1_wearOdds 63 = .ok (.iload_n 2, 1) := by decide +kernel
theorem dX1_wearOdds_64 : decode cX1_wearOdds 64 = .ok (.iaload, 1) := by decide +kernel
theorem dX1_wearOdds_65 : decode cX1_wearOdds 65 = .ok (.iastore, 1) := by decide +kernel
theorem dX1_wearOdds_66 : decode cX1_wearOdds 66 = .ok (.aload_n 0, 1) := by decide +kernel
theorem dX1_wearOdds_67 : decode cX1_wearOdds 67 = .ok (.aload_n 1, 1) := by decide +kernel
theorem dX1_wearOdds_68 : decode cX1_wearOdds 68 = .ok (.aload_n 1, 1) := by decide +kernel
theorem dX1_wearOdds_69 : decode cX1_wearOdds 69 = .ok (.getfield 26, 3) := by decide +kernel
theorem dX1_wearOdds_72 : decode cX1_wearOdds 72 = .ok (.iconst 1, 1) := by decide +kernel
theorem dX1_wearOdds_73 : decode cX1_wearOdds 73 = .ok (.iaload, 1) := by decide +kernel
theorem dX1_wearOdds_74 : decode cX1_wearOdds 74 = .ok (.invokevirtual 42, 3) := by decide +kernel
theorem dX1_wearOdds_77 : decode cX1_wearOdds 77 = .ok (.bipush 10, 2) := by decide +kernel
theorem dX1_wearOdds_79 : decode cX1_wearOdds 79 = .ok (.invokestatic 46, 3) := by decide +kernel
theorem dX1_wearOdds_82 : decode cX1_wearOdds 82 = .ok (.ireturn, 1) := by decide +kernel
theorem gX1_wearOddsN_0 {d : Nat} {M : ev_Mem} {Q : Option Value → ev_Mem → Prop} {x2 x3 : Int32} (h : (vp_in x2 26 ∧ (Q (some (.int (wth ((M.1 44 x2.toNatClampNeg) / 10) (10 : Int32)))) M))) : Ev LX (d + 1) mX1_wearOdds 0 [some (.ref 83), some (.null), some (.int x2), some (.int x3)] [] M Q := by
  refine ev_aload_nN dX1_wearOdds_0 rfl ?_
  refine ev_ifnullN (tgt := 14) dX1_wearOdds_1 (by decide) ?_
  refine ev_aload_n dX1_wearOdds_14 rfl ?_
  refine ev_getA dX1_wearOdds_15 fl_WithoutE_Laws_22 lx_83 rfl ?_
  refine ev_getA dX1_wearOdds_18 fl_WithoutE_Laws_50 lx_43 rfl ?_
  refine ev_iload_n dX1_wearOdds_21 rfl ?_
  obtain ⟨c, h⟩ := h
  refine ev_iald dX1_wearOdds_22 lx_44 c ?_
  refine ev_bipush (v := 10) dX1_wearOdds_23 (by decide) ?_
  refine ev_idiv dX1_wearOdds_25 (by decide) ?_
  refine ev_bipush (v := 10) dX1_wearOdds_26 (by decide) ?_
  refine ev_callS [.int ((M.1 44 x2.toNatClampNeg) / 10), .int 10] dX1_wearOdds_28 ml_WithoutE_Laws_46 rfl (Nat.le_of_ble_eq_true rfl) (kX1_within) ?_
  rintro zr zM ⟨q1, q2⟩
  rw [q1, q2]
  show Ev LX (d + 1) mX1_wearOdds 31 [some (.ref 83), some (.null), some (.int x2), some (.int x3)] [(.int (wth ((M.1 44 x2.toNatClampNeg) / 10) (10 : Int32)))] M Q
  exact ev_iret dX1_wearOdds_31 rfl h
theorem gX1_wearOdds_0 {d : Nat} {M : ev_Mem} {Q : Option Value → ev_Mem → Prop} {x2 x3 : Int32} {k : Nat} (hk : ev_isT k) (h : (((¬ (M.1 (k + 4) 1) = (-1)) → (∀ M1 : ev_Mem, M1 = ev_wr M 84 1 (bc x3) → (∀ M2 : ev_Mem, M2 = ev_wr M1 84 7 x2 → (vp_in x2 26 ∧ (∀ M3 : ev_Mem, M3 = ev_wr M2 84 8 (M2.1 44 x2.toNatClampNeg) → (∃ Q2 : Option Value → ev_Mem → Prop, Cl LX d mX1_run [.ref 83, .ref k, .int (M3.1 (k + 4) 1)] M3 Q2 ∧ ∀ (zr : Option Value) (zM : ev_Mem), Q2 zr zM → Ev LX (d + 1) mX1_wearOdds 77 [none, none, none, none] (zr.toList ++ []) zM Q)))))) ∧ (((M.1 (k + 4) 1) = (-1)) → (vp_in x2 26 ∧ (Q (some (.int (wth ((M.1 44 x2.toNatClampNeg) / 10) (10 : Int32)))) M))))) : Ev LX (d + 1) mX1_wearOdds 0 [some (.ref 83), some (.ref k), some (.int x2), some (.int x3)] [] M Q := by
  refine ev_aload_n dX1_wearOdds_0 rfl ?_
  refine ev_ifnull dX1_wearOdds_1 ?_
  refine ev_aload_n dX1_wearOdds_4 rfl ?_
  refine ev_getA dX1_wearOdds_5 fl_WithoutE_Laws_26 (lx_T hk) rfl ?_
  refine ev_iconst (v := 1) dX1_wearOdds_8 (by decide) ?_
  refine ev_iaN (j := 1) dX1_wearOdds_9 (lx_T4 hk) (by decide) (by decide) ?_
  refine ev_iconst (v := -1) dX1_wearOdds_10 (by decide) ?_
  refine ev_icmp_ne (tgt := 32) dX1_wearOdds_11 (by decide) (fun c => ?_) (fun c => ?_)
  · replace h := h.1 c
    refine ev_aload_n dX1_wearOdds_32 rfl ?_
    refine ev_getA dX1_wearOdds_33 fl_WithoutE_Laws_9 lx_83 rfl ?_
    refine ev_iconst (v := 1) dX1_wearOdds_36 (by decide) ?_
    refine ev_iload_n dX1_wearOdds_37 rfl ?_
    refine ev_callS [.int x3] dX1_wearOdds_38 ml_WithoutE_Laws_55 rfl (Nat.le_of_ble_eq_true rfl) (kJ6_bitCount) ?_
    rintro zr zM ⟨q1, q2⟩
    rw [q1, q2]
    show Ev LX (d + 1) mX1_wearOdds 41 [some (.ref 83), some (.ref k), some (.int x2), some (.int x3)] [(.int (bc x3)), (.int 1), (.ref 84)] M Q
    refine ev_isN (j := 1) dX1_wearOdds_41 lx_84 (by decide) (by decide) ?_
    generalize eM1 : ev_wr M 84 1 (bc x3) = M1
    replace h := h M1 eM1.symm
    refine ev_aload_n dX1_wearOdds_42 rfl ?_
    refine ev_getA dX1_wearOdds_43 fl_WithoutE_Laws_9 lx_83 rfl ?_
    refine ev_bipush (v := 7) dX1_wearOdds_46 (by decide) ?_
    refine ev_iload_n dX1_wearOdds_48 rfl ?_
    refine ev_isN (j := 7) dX1_wearOdds_49 lx_84 (by decide) (by decide) ?_
    generalize eM2 : ev_wr M1 84 7 x2 = M2
    replace h := h M2 eM2.symm
    refine ev_aload_n dX1_wearOdds_50 rfl ?_
    refine ev_getA dX1_wearOdds_51 fl_WithoutE_Laws_9 lx_83 rfl ?_
    refine ev_bipush (v := 8) dX1_wearOdds_54 (by decide) ?_
    refine ev_aload_n dX1_wearOdds_56 rfl ?_
    refine ev_getA dX1_wearOdds_57 fl_WithoutE_Laws_22 lx_83 rfl ?_
    refine ev_getA dX1_wearOdds_60 fl_WithoutE_Laws_50 lx_43 rfl ?_
    refine ev_iload_n dX1_wearOdds_63 rfl ?_
    obtain ⟨c, h⟩ := h
    refine ev_iald dX1_wearOdds_64 lx_44 c ?_
    refine ev_isN (j := 8) dX1_wearOdds_65 lx_84 (by decide) (by decide) ?_
    generalize eM3 : ev_wr M2 84 8 (M2.1 44 x2.toNatClampNeg) = M3
    replace h := h M3 eM3.symm
    refine ev_aload_n dX1_wearOdds_66 rfl ?_
    refine ev_aload_n dX1_wearOdds_67 rfl ?_
    refine ev_aload_n dX1_wearOdds_68 rfl ?_
    refine ev_getA dX1_wearOdds_69 fl_WithoutE_Laws_26 (lx_T hk) rfl ?_
    refine ev_iconst (v := 1) dX1_wearOdds_72 (by decide) ?_
    refine ev_iaN (j := 1) dX1_wearOdds_73 (lx_T4 hk) (by decide) (by decide) ?_
    obtain ⟨Q2, hc, h⟩ := h
    refine ev_callV [.ref k, .int (M3.1 (k + 4) 1)] dX1_wearOdds_74 ml_WithoutE_Laws_42 lx_83 rfl rfl (Nat.le_of_ble_eq_true rfl) hc (fun zr zM q => ?_)
    refine Ev.weak (ls := [none, none, none, none]) trivial ?_
    exact h zr zM q
  · replace h := h.2 c
    refine ev_aload_n dX1_wearOdds_14 rfl ?_
    refine ev_getA dX1_wearOdds_15 fl_WithoutE_Laws_22 lx_83 rfl ?_
    refine ev_getA dX1_wearOdds_18 fl_WithoutE_Laws_50 lx_43 rfl ?_
    refine ev_iload_n dX1_wearOdds_21 rfl ?_
    obtain ⟨c, h⟩ := h
    refine ev_iald dX1_wearOdds_22 lx_44 c ?_
    refine ev_bipush (v := 10) dX1_wearOdds_23 (by decide) ?_
    refine ev_idiv dX1_wearOdds_25 (by decide) ?_
    refine ev_bipush (v := 10) dX1_wearOdds_26 (by decide) ?_
    refine ev_callS [.int ((M.1 44 x2.toNatClampNeg) / 10), .int 10] dX1_wearOdds_28 ml_WithoutE_Laws_46 rfl (Nat.le_of_ble_eq_true rfl) (kX1_within) ?_
    rintro zr zM ⟨q1, q2⟩
    rw [q1, q2]
    show Ev LX (d + 1) mX1_wearOdds 31 [some (.ref 83), some (.ref k), some (.int x2), some (.int x3)] [(.int (wth ((M.1 44 x2.toNatClampNeg) / 10) (10 : Int32)))] M Q
    exact ev_iret dX1_wearOdds_31 rfl h
theorem gX1_wearOdds_77 {d : Nat} {M : ev_Mem} {Q : Option Value → ev_Mem → Prop} {s0 : Int32} {k : Nat} (hk : ev_isT k) (h : (Q (some (.int (wth s0 (10 : Int32)))) M)) : Ev LX (d + 1) mX1_wearOdds 77 [none, none, none, none] [(.int s0)] M Q := by
  refine ev_bipush (v := 10) dX1_wearOdds_77 (by decide) ?_
  refine ev_callS [.int s0, .int 10] dX1_wearOdds_79 ml_WithoutE_Laws_46 rfl (Nat.le_of_ble_eq_true rfl) (kX1_within) ?_
  rintro zr zM ⟨q1, q2⟩
  rw [q1, q2]
  show Ev LX (d + 1) mX1_wearOdds 82 [none, none, none, none] [(.int (wth s0 (10 : Int32)))] M Q
  exact ev_iret dX1_wearOdds_82 rfl h
theorem dX1_noticeOdds_0 : decode cX1_noticeOdds 0 = .ok (.aload_n 1, 1) := by decide +kernel
theorem dX1_noticeOdds_1 : decode cX1_noticeOdds 1 = .ok (.ifnull 13, 3) := by decide +kernel
theorem dX1_noticeOdds_4 : decode cX1_noticeOdds 4 = .ok (.aload_n 1, 1) := by decide +kernel
theorem dX1_noticeOdds_5 : decode cX1_noticeOdds 5 = .ok (.getfield 26, 3) := by decide +kernel
theorem dX1_noticeOdds_8 : decode cX1_noticeOdds 8 = .ok (.iconst 2, 1) := by decide +kernel
theorem dX1_noticeOdds_9 : decode cX1_noticeOdds 9 = .ok (.iaload, 1) := by decide +kernel
theorem dX1_noticeOdds_10 : decode cX1_noticeOdds 10 = .ok (.iconst (-1), 1) := by decide +kernel
theorem dX1_noticeOdds_11 : decode cX1_noticeOdds 11 = .ok (.if_icmp .ne 12, 3) := by decide +kernel
theorem dX1_noticeOdds_14 : decode cX1_noticeOdds 14 = .ok (.iload_n 3, 1) := by decide +kernel
theorem dX1_noticeOdds_15 : decode cX1_noticeOdds 15 = .ok (.iconst 4, 1) := by decide +kernel
theorem dX1_noticeOdds_16 : decode cX1_noticeOdds 16 = .ok (.idiv, 1) := by decide +kernel
theorem dX1_noticeOdds_17 : decode cX1_noticeOdds 17 = .ok (.bipush 10, 2) := by decide +kernel
theorem dX1_noticeOdds_19 : decode cX1_noticeOdds 19 = .ok (.invokestatic 46, 3) := by decide +kernel
theorem dX1_noticeOdds_22 : decode cX1_noticeOdds 22 = .ok (.ireturn, 1) := by decide +kernel
theorem dX1_noticeOdds_23 : decode cX1_noticeOdds 23 = .ok (.aload_n 0, 1) := by decide +kernel
theorem dX1_noticeOdds_24 : decode cX1_noticeOdds 24 = .ok (.getfield 9, 3) := by decide +kernel
theorem dX1_noticeOdds_27 : decode cX1_noticeOdds 27 = .ok (.iconst 1, 1) := by decide +kernel
theorem dX1_noticeOdds_28 : decode cX1_noticeOdds 28 = .ok (.iload 5, 2) := by decide +kernel
theorem dX1_noticeOdds_30 : decode cX1_noticeOdds 30 = .ok (.invokestatic 55, 3) := by decide +kernel
theorem dX1_noticeOdds_33 : decode cX1_noticeOdds 33 = .ok (.iastore, 1) := by decide +kernel
theorem dX1_noticeOdds_34 : decode cX1_noticeOdds 34 = .ok (.aload_n 0, 1) := by decide +kernel
theorem dX1_noticeOdds_35 : decode cX1_noticeOdds 35 = .ok (.getfield 9, 3) := by decide +kernel
theorem dX1_noticeOdds_38 : decode cX1_noticeOdds 38 = .ok (.bipush 9, 2) := by decide +kernel
theorem dX1_noticeOdds_40 : decode cX1_noticeOdds 40 = .ok (.iload_n 2, 1) := by decide +kernel
theorem dX1_noticeOdds_41 : decode cX1_noticeOdds 41 = .ok (.iastore, 1) := by decide +kernel
theorem dX1_noticeOdds_42 : decode cX1_noticeOdds 42 = .ok (.aload_n 0, 1) := by decide +kernel
theorem dX1_noticeOdds_43 : decode cX1_noticeOdds 43 = .ok (.getfield 9, 3) := by decide +kernel
theorem dX1_noticeOdds_46 : decode cX1_noticeOdds 46 = .ok (.bipush 10, 2) := by decide +kernel
theorem dX1_noticeOdds_48 : decode cX1_noticeOdds 48 = .ok (.iload_n 3, 1) := by decide +kernel
theorem dX1_noticeOdds_49 : decode cX1_noticeOdds 49 = .ok (.iastore, 1) := by decide +kernel
theorem dX1_noticeOdds_50 : decode cX1_noticeOdds 50 = .ok (.aload_n 0, 1) := by decide +kernel
theorem dX1_noticeOdds_51 : decode cX1_noticeOdds 51 = .ok (.getfield 9, 3) := by decide +kernel
theorem dX1_noticeOdds_54 : decode cX1_noticeOdds 54 = .ok (.bipush 11, 2) := by decide +kernel
theorem dX1_noticeOdds_56 : decode cX1_noticeOdds 56 = .ok (.iload 4, 2) := by decide +kernel
theorem dX1_noticeOdds_58 : decode cX1_noticeOdds 58 = .ok (.iastore, 1) := by decide +kernel
theorem dX1_noticeOdds_59 : decode cX1_noticeOdds 59 = .ok (.aload_n 0, 1) := by decide +kernel
theorem dX1_noticeOdds_60 : decode cX1_noticeOdds 60 = .ok (.aload_n 1, 1) := by decide +kernel
theorem dX1_noticeOdds_61 : decode cX1_noticeOdds 61 = .ok (.aload_n 1, 1) := by decide +kernel
theorem dX1_noticeOdds_62 : decode cX1_noticeOdds 62 = .ok (.getfield 26, 3) := by decide +kernel
theorem dX1_noticeOdds_65 : decode cX1_noticeOdds 65 = .ok (.iconst 2, 1) := by decide +kernel
theorem dX1_noticeOdds_66 : decode cX1_noticeOdds 66 = .ok (.iaload, 1) := by decide +kernel
theorem dX1_noticeOdds_67 : decode cX1_noticeOdds 67 = .ok (.invokevirtual 42, 3) := by decide +kernel
theorem dX1_noticeOdds_70 : decode cX1_noticeOdds 70 = .ok (.bipush 10, 2) := by decide +kernel
theorem dX1_noticeOdds_72 : decode cX1_noticeOdds 72 = .ok (.invokestatic 46, 3) := by decide +kernel
theorem dX1_noticeOdds_75 : decode cX1_noticeOdds 75 = .ok (.ireturn, 1) := by decide +kernel
theorem gX1_noticeOddsN_0 {d : Nat} {M : ev_Mem} {Q : Option Value → ev_Mem → Prop} {x2 x3 x4 x5 : Int32} (h : (Q (some (.int (wth (x3 / 4) (10 : Int32)))) M)) : Ev LX (d + 1) mX1_noticeOdds 0 [some (.ref 83), some (.null), some (.int x2), some (.int x3), some (.int x4), some (.int x5)] [] M Q := by
  refine ev_aload_nN dX1_noticeOdds_0 rfl ?_
  refine ev_ifnullN (tgt := 14) dX1_noticeOdds_1 (by decide) ?_
  refine ev_iload_n dX1_noticeOdds_14 rfl ?_
  refine ev_iconst (v := 4) dX1_noticeOdds_15 (by decide) ?_
  refine ev_idiv dX1_noticeOdds_16 (by decide) ?_
  refine ev_bipush (v := 10) dX1_noticeOdds_17 (by decide) ?_
  refine ev_callS [.int (x3 / 4), .int 10] dX1_noticeOdds_19 ml_WithoutE_Laws_46 rfl (Nat.le_of_ble_eq_true rfl) (kX1_within) ?_
  rintro zr zM ⟨q1, q2⟩
  rw [q1, q2]
  show Ev LX (d + 1) mX1_noticeOdds 22 [some (.ref 83), some (.null), some (.int x2), some (.int x3), some (.int x4), some (.int x5)] [(.int (wth (x3 / 4) (10 : Int32)))] M Q
  exact ev_iret dX1_noticeOdds_22 rfl h
theorem gX1_noticeOdds_0 {d : Nat} {M : ev_Mem} {Q : Option Value → ev_Mem → Prop} {x2 x3 x4 x5 : Int32} {k : Nat} (hk : ev_isT k) (h : (((¬ (M.1 (k + 4) 2) = (-1)) → (∀ M1 : ev_Mem, M1 = ev_wr M 84 1 (bc x5) → (∀ M2 : ev_Mem, M2 = ev_wr M1 84 9 x2 → (∀ M3 : ev_Mem, M3 = ev_wr M2 84 10 x3 → (∀ M4 : ev_Mem, M4 = ev_wr M3 84 11 x4 → (∃ Q2 : Option Value → ev_Mem → Prop, Cl LX d mX1_run [.ref 83, .ref k, .int (M4.1 (k + 4) 2)] M4 Q2 ∧ ∀ (zr : Option Value) (zM : ev_Mem), Q2 zr zM → Ev LX (d + 1) mX1_noticeOdds 70 [none, none, none, none, none, none] (zr.toList ++ []) zM Q)))))) ∧ (((M.1 (k + 4) 2) = (-1)) → (Q (some (.int (wth (x3 / 4) (10 : Int32)))) M)))) : Ev LX (d + 1) mX1_noticeOdds 0 [some (.ref 83), some (.ref k), some (.int x2), some (.int x3), some (.int x4), some (.int x5)] [] M Q := by
  refine ev_aload_n dX1_noticeOdds_0 rfl ?_
  refine ev_ifnull dX1_noticeOdds_1 ?_
  refine ev_aload_n dX1_noticeOdds_4 rfl ?_
  refine ev_getA dX1_noticeOdds_5 fl_WithoutE_Laws_26 (lx_T hk) rfl ?_
  refine ev_iconst (v := 2) dX1_noticeOdds_8 (by decide) ?_
  refine ev_iaN (j := 2) dX1_noticeOdds_9 (lx_T4 hk) (by decide) (by decide) ?_
  refine ev_iconst (v := -1) dX1_noticeOdds_10 (by decide) ?_
  refine ev_icmp_ne (tgt := 23) dX1_noticeOdds_11 (by decide) (fun c => ?_) (fun c => ?_)
  · replace h := h.1 c
    refine ev_aload_n dX1_noticeOdds_23 rfl ?_
    refine ev_getA dX1_noticeOdds_24 fl_WithoutE_Laws_9 lx_83 rfl ?_
    refine ev_iconst (v := 1) dX1_noticeOdds_27 (by decide) ?_
    refine ev_iload dX1_noticeOdds_28 rfl ?_
    refine ev_callS [.int x5] dX1_noticeOdds_30 ml_WithoutE_Laws_55 rfl (Nat.le_of_ble_eq_true rfl) (kJ6_bitCount) ?_
    rintro zr zM ⟨q1, q2⟩
    rw [q1, q2]
    show Ev LX (d + 1) mX1_noticeOdds 33 [some (.ref 83), some (.ref k), some (.int x2), some (.int x3), some (.int x4), some (.int x5)] [(.int (bc x5)), (.int 1), (.ref 84)] M Q
    refine ev_isN (j := 1) dX1_noticeOdds_33 lx_84 (by decide) (by decide) ?_
    generalize eM1 : ev_wr M 84 1 (bc x5) = M1
    replace h := h M1 eM1.symm
    refine ev_aload_n dX1_noticeOdds_34 rfl ?_
    refine ev_getA dX1_noticeOdds_35 fl_WithoutE_Laws_9 lx_83 rfl ?_
    refine ev_bipush (v := 9) dX1_noticeOdds_38 (by decide) ?_
    refine ev_iload_n dX1_noticeOdds_40 rfl ?_
    refine ev_isN (j := 9) dX1_noticeOdds_41 lx_84 (by decide) (by decide) ?_
    generalize eM2 : ev_wr M1 84 9 x2 = M2
    replace h := h M2 eM2.symm
    refine ev_aload_n dX1_noticeOdds_42 rfl ?_
    refine ev_getA dX1_noticeOdds_43 fl_WithoutE_Laws_9 lx_83 rfl ?_
    refine ev_bipush (v := 10) dX1_noticeOdds_46 (by decide) ?_
    refine ev_iload_n dX1_noticeOdds_48 rfl ?_
    refine ev_isN (j := 10) dX1_noticeOdds_49 lx_84 (by decide) (by decide) ?_
    generalize eM3 : ev_wr M2 84 10 x3 = M3
    replace h := h M3 eM3.symm
    refine ev_aload_n dX1_noticeOdds_50 rfl ?_
    refine ev_getA dX1_noticeOdds_51 fl_WithoutE_Laws_9 lx_83 rfl ?_
    refine ev_bipush (v := 11) dX1_noticeOdds_54 (by decide) ?_
    refine ev_iload dX1_noticeOdds_56 rfl ?_
    refine ev_isN (j := 11) dX1_noticeOdds_58 lx_84 (by decide) (by decide) ?_
    generalize eM4 : ev_wr M3 84 11 x4 = M4
    replace h := h M4 eM4.symm
    refine ev_aload_n dX1_noticeOdds_59 rfl ?_
    refine ev_aload_n dX1_noticeOdds_60 rfl ?_
    refine ev_aload_n dX1_noticeOdds_61 rfl ?_
    refine ev_getA dX1_noticeOdds_62 fl_WithoutE_Laws_26 (lx_T hk) rfl ?_
    refine ev_iconst (v := 2) dX1_noticeOdds_65 (by decide) ?_
    refine ev_iaN (j := 2) dX1_noticeOdds_66 (lx_T4 hk) (by decide) (by decide) ?_
    obtain ⟨Q2, hc, h⟩ := h
    refine ev_callV [.ref k, .int (M4.1 (k + 4) 2)] dX1_noticeOdds_67 ml_WithoutE_Laws_42 lx_83 rfl rfl (Nat.le_of_ble_eq_true rfl) hc (fun zr zM q => ?_)
    refine Ev.weak (ls := [none, none, none, none, none, none]) trivial ?_
    exact h zr zM q
  · replace h := h.2 c
    refine ev_iload_n dX1_noticeOdds_14 rfl ?_
    refine ev_iconst (v := 4) dX1_noticeOdds_15 (by decide) ?_
    refine ev_idiv dX1_noticeOdds_16 (by decide) ?_
    refine ev_bipush (v := 10) dX1_noticeOdds_17 (by decide) ?_
    refine ev_callS [.int (x3 / 4), .int 10] dX1_noticeOdds_19 ml_WithoutE_Laws_46 rfl (Nat.le_of_ble_eq_true rfl) (kX1_within) ?_
    rintro zr zM ⟨q1, q2⟩
    rw [q1, q2]
    show Ev LX (d + 1) mX1_noticeOdds 22 [some (.ref 83), some (.ref k), some (.int x2), some (.int x3), some (.int x4), some (.int x5)] [(.int (wth (x3 / 4) (10 : Int32)))] M Q
    exact ev_iret dX1_noticeOdds_22 rfl h
theorem gX1_noticeOdds_70 {d : Nat} {M : ev_Mem} {Q : Option Value → ev_Mem → Prop} {s0 : Int32} {k : Nat} (hk : ev_isT k) (h : (Q (some (.int (wth s0 (10 : Int32)))) M)) : Ev LX (d + 1) mX1_noticeOdds 70 [none, none, none, none, none, none] [(.int s0)] M Q := by
  refine ev_bipush (v := 10) dX1_noticeOdds_70 (by decide) ?_
  refine ev_callS [.int s0, .int 10] dX1_noticeOdds_72 ml_WithoutE_Laws_46 rfl (Nat.le_of_ble_eq_true rfl) (kX1_within) ?_
  rintro zr zM ⟨q1, q2⟩
  rw [q1, q2]
  show Ev LX (d + 1) mX1_noticeOdds 75 [none, none, none, none, none, none] [(.int (wth s0 (10 : Int32)))] M Q
  exact ev_iret dX1_noticeOdds_75 rfl h
