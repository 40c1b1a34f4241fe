theorem dX11_settle_0 : decode cX11_settle 0 = .ok (.aload_n 0, 1) := by decide +kernel
theorem dX11_settle_1 : decode cX11_settle 1 = .ok (.getfield 174, 3) := by decide +kernel
theorem dX11_settle_4 : decode cX11_settle 4 = .ok (.ifCond .le 89, 3) := by decide +kernel
theorem dX11_settle_7 : decode cX11_settle 7 = .ok (.aload_n 0, 1) := by decide +kernel
theorem dX11_settle_8 : decode cX11_settle 8 = .ok (.getfield 32, 3) := by decide +kernel
theorem dX11_settle_11 : decode cX11_settle 11 = .ok (.aload_n 0, 1) := by decide +kernel
theorem dX11_settle_12 : decode cX11_settle 12 = .ok (.getfield 174, 3) := by decide +kernel
theorem dX11_settle_15 : decode cX11_settle 15 = .ok (.iconst 1, 1) := by decide +kernel
theorem dX11_settle_16 : decode cX11_settle 16 = .ok (.isub, 1) := by decide +kernel
theorem dX11_settle_17 : decode cX11_settle 17 = .ok (.iaload, 1) := by decide +kernel
theorem dX11_settle_18 : decode cX11_settle 18 = .ok (.invokestatic 177, 3) := by decide +kernel
theorem dX11_settle_21 : decode cX11_settle 21 = .ok (.iload_n 1, 1) := by decide +kernel
theorem dX11_settle_22 : decode cX11_settle 22 = .ok (.if_icmp .lt 71, 3) := by decide +kernel
theorem dX11_settle_25 : decode cX11_settle 25 = .ok (.aload_n 0, 1) := by decide +kernel
theorem dX11_settle_26 : decode cX11_settle 26 = .ok (.dup, 1) := by decide +kernel
theorem dX11_settle_27 : decode cX11_settle 27 = .ok (.getfield 174, 3) := by decide +kernel
theorem dX11_settle_30 : decode cX11_settle 30 = .ok (.iconst 1, 1) := by decide +kernel
theorem dX11_settle_31 : decode cX11_settle 31 = .ok (.isub, 1) := by decide +kernel
theorem dX11_settle_32 : decode cX11_settle 32 = .ok (.putfield 174, 3) := by decide +kernel
theorem dX11_settle_35 : decode cX11_settle 35 = .ok (.aload_n 0, 1) := by decide +kernel
theorem dX11_settle_36 : decode cX11_settle 36 = .ok (.aload_n 0, 1) := by decide +kernel
theorem dX11_settle_37 : decode cX11_settle 37 = .ok (.getfield 32, 3) := by decide +kernel
theorem dX11_settle_40 : decode cX11_settle 40 = .ok (.aload_n 0, 1) := by decide +kernel
theorem dX11_settle_41 : decode cX11_settle 41 = .ok (.getfield 174, 3) := by decide +kernel
theorem dX11_settle_44 : decode cX11_settle 44 = .ok (.iaload, 1) := by decide +kernel
theorem dX11_settle_45 : decode cX11_settle 45 = .ok (.iconst 0, 1) := by decide +kernel
theorem dX11_settle_46 : decode cX11_settle 46 = .ok (.invokevirtual 180, 3) := by decide +kernel
theorem dX11_settle_49 : decode cX11_settle 49 = .ok (.aload_n 0, 1) := by decide +kernel
theorem dX11_settle_50 : decode cX11_settle 50 = .ok (.getfield 32, 3) := by decide +kernel
theorem dX11_settle_53 : decode cX11_settle 53 = .ok (.aload_n 0, 1) := by decide +kernel
theorem dX11_settle_54 : decode cX11_settle 54 = .ok (.getfield 174, 3) := by decide +kernel
theorem dX11_settle_57 : decode cX11_settle 57 = .ok (.iaload, 1) := by decide +kernel
theorem dX11_settle_58 : decode cX11_settle 58 = .ok (.invokestatic 177, 3) := by decide +kernel
theorem dX11_settle_61 : decode cX11_settle 61 = .ok (.bipush 7, 2) := by decide +kernel
theorem dX11_settle_63 : decode cX11_settle 63 = .ok (.if_icmp .eq 17, 3) := by decide +kernel
theorem dX11_settle_66 : decode cX11_settle 66 = .ok (.aload_n 0, 1) := by decide +kernel
theorem dX11_settle_67 : decode cX11_settle 67 = .ok (.getfield 32, 3) := by decide +kernel
theorem dX11_settle_70 : decode cX11_settle 70 = .ok (.aload_n 0, 1) := by decide +kernel
theorem dX11_settle_71 : decode cX11_settle 71 = .ok (.getfield 174, 3) := by decide +kernel
theorem dX11_settle_74 : decode cX11_settle 74 = .ok (.iaload, 1) := by decide +kernel
theorem dX11_settle_75 : decode cX11_settle 75 = .ok (.bipush 20, 2) := by decide +kernel
theorem dX11_settle_77 : decode cX11_settle 77 = .ok (.if_icmp .ne (-77), 3) := by decide +kernel
theorem dX11_settle_80 : decode cX11_settle 80 = .ok (.aload_n 0, 1) := by decide +kernel
theorem dX11_settle_81 : decode cX11_settle 81 = .ok (.dup, 1) := by decide +kernel
theorem dX11_settle_82 : decode cX11_settle 82 = .ok (.getfield 184, 3) := by decide +kernel
theorem dX11_settle_85 : decode cX11_settle 85 = .ok (.iconst 1, 1) := by decide +kernel
theorem dX11_settle_86 : decode cX11_settle 86 = .ok (.isub, 1) := by decide +kernel
theorem dX11_settle_87 : decode cX11_settle 87 = .ok (.putfield 184, 3) := by decide +kernel
theorem dX11_settle_90 : decode cX11_settle 90 = .ok (.goto (-90), 3) := by decide +kernel
theorem dX11_settle_93 : decode cX11_settle 93 = .ok (.return_, 1) := by decide +kernel
theorem gX11_settle_0 {d : Nat} {M : ev_Mem} {Q : Option Value → ev_Mem → Prop} {x1 : Int32} (h : ((((M.1 0 17) ≤ 0) → (Q none M)) ∧ ((¬ (M.1 0 17) ≤ 0) → (vp_in ((M.1 0 17) - 1) 160 ∧ ((((rkI (M.1 6 ((M.1 0 17) - 1).toNatClampNeg)) < x1) → (Q none M)) ∧ ((¬ (rkI (M.1 6 ((M.1 0 17) - 1).toNatClampNeg)) < x1) → (∀ M1 : ev_Mem, M1 = ev_wr M 0 17 ((M.1 0 17) - 1) → (vp_in (M1.1 0 17) 160 ∧ (∃ Q2 : Option Value → ev_Mem → Prop, Cl LM d mX11_emit [.ref 0, .int (M1.1 6 (M1.1 0 17).toNatClampNeg), .int 0] M1 Q2 ∧ ∀ (zr : Option Value) (zM : ev_Mem), Q2 zr zM → Ev LM (d + 1) mX11_settle 49 [some (.ref 0), some (.int x1)] (zr.toList ++ []) zM Q))))))))) : Ev LM (d + 1) mX11_settle 0 [some (.ref 0), some (.int x1)] [] M Q := by
  refine ev_aload_n dX11_settle_0 rfl ?_
  refine ev_getI dX11_settle_1 fl_WithoutEModel_174 lm_0 rfl ?_
  refine ev_if_le (tgt := 93) dX11_settle_4 (by decide) (fun c => ?_) (fun c => ?_)
  · replace h := h.1 c
    exact ev_vret dX11_settle_93 rfl h
  · replace h := h.2 c
    refine ev_aload_n dX11_settle_7 rfl ?_
    refine ev_getA dX11_settle_8 fl_WithoutEModel_32 lm_0 rfl ?_
    refine ev_aload_n dX11_settle_11 rfl ?_
    refine ev_getI dX11_settle_12 fl_WithoutEModel_174 lm_0 rfl ?_
    refine ev_iconst (v := 1) dX11_settle_15 (by decide) ?_
    refine ev_isub dX11_settle_16 ?_
    obtain ⟨c, h⟩ := h
    refine ev_iald dX11_settle_17 lm_6 c ?_
    refine ev_callS [.int (M.1 6 ((M.1 0 17) - 1).toNatClampNeg)] dX11_settle_18 ml_WithoutEModel_177 rfl (Nat.le_of_ble_eq_true rfl) (kX11_rank) ?_
    rintro zr zM ⟨q1, q2⟩
    rw [q1, q2]
    show Ev LM (d + 1) mX11_settle 21 [some (.ref 0), some (.int x1)] [(.int (rkI (M.1 6 ((M.1 0 17) - 1).toNatClampNeg)))] M Q
    refine ev_iload_n dX11_settle_21 rfl ?_
    refine ev_icmp_lt (tgt := 93) dX11_settle_22 (by decide) (fun c => ?_) (fun c => ?_)
    · replace h := h.1 c
      exact ev_vret dX11_settle_93 rfl h
    · replace h := h.2 c
      refine ev_aload_n dX11_settle_25 rfl ?_
      refine ev_dup dX11_settle_26 rfl ?_
      refine ev_getI dX11_settle_27 fl_WithoutEModel_174 lm_0 rfl ?_
      refine ev_iconst (v := 1) dX11_settle_30 (by decide) ?_
      refine ev_isub dX11_settle_31 ?_
      refine ev_putI dX11_settle_32 fp_WithoutEModel_174 lm_0 rfl rfl rfl ?_
      generalize eM1 : ev_wr M 0 17 ((M.1 0 17) - 1) = M1
      replace h := h M1 eM1.symm
      refine ev_aload_n dX11_settle_35 rfl ?_
      refine ev_aload_n dX11_settle_36 rfl ?_
      refine ev_getA dX11_settle_37 fl_WithoutEModel_32 lm_0 rfl ?_
      refine ev_aload_n dX11_settle_40 rfl ?_
      refine ev_getI dX11_settle_41 fl_WithoutEModel_174 lm_0 rfl ?_
      obtain ⟨c, h⟩ := h
      refine ev_iald dX11_settle_44 lm_6 c ?_
      refine ev_iconst (v := 0) dX11_settle_45 (by decide) ?_
      obtain ⟨Q2, hc, h⟩ := h
      refine ev_callV [.int (M1.1 6 (M1.1 0 17).toNatClampNeg), .int 0] dX11_settle_46 ml_WithoutEModel_180 lm_0 rfl rfl (Nat.le_of_ble_eq_true rfl) hc (fun zr zM q => ?_)
      exact h zr zM q
theorem gX11_settle_49 {d : Nat} {M : ev_Mem} {Q : Option Value → ev_Mem → Prop} {x1 : Int32} (h : (vp_in (M.1 0 17) 160 ∧ ((((rkI (M.1 6 (M.1 0 17).toNatClampNeg)) = 7) → (∀ M1 : ev_Mem, M1 = ev_wr M 0 18 ((M.1 0 18) - 1) → (Ev LM (d + 1) mX11_settle 0 [some (.ref 0), some (.int x1)] [] M1 Q))) ∧ ((¬ (rkI (M.1 6 (M.1 0 17).toNatClampNeg)) = 7) → (vp_in (M.1 0 17) 160 ∧ (((¬ (M.1 6 (M.1 0 17).toNatClampNeg) = 20) → (Ev LM (d + 1) mX11_settle 0 [some (.ref 0), some (.int x1)] [] M Q)) ∧ (((M.1 6 (M.1 0 17).toNatClampNeg) = 20) → (∀ M2 : ev_Mem, M2 = ev_wr M 0 18 ((M.1 0 18) - 1) → (Ev LM (d + 1) mX11_settle 0 [some (.ref 0), some (.int x1)] [] M2 Q))))))))) : Ev LM (d + 1) mX11_settle 49 [some (.ref 0), some (.int x1)] [] M Q := by
  refine ev_aload_n dX11_settle_49 rfl ?_
  refine ev_getA dX11_settle_50 fl_WithoutEModel_32 lm_0 rfl ?_
  refine ev_aload_n dX11_settle_53 rfl ?_
  refine ev_getI dX11_settle_54 fl_WithoutEModel_174 lm_0 rfl ?_
  obtain ⟨c, h⟩ := h
  refine ev_iald dX11_settle_57 lm_6 c ?_
  refine ev_callS [.int (M.1 6 (M.1 0 17).toNatClampNeg)] dX11_settle_58 ml_WithoutEModel_177 rfl (Nat.le_of_ble_eq_true rfl) (kX11_rank) ?_
  rintro zr zM ⟨q1, q2⟩
  rw [q1, q2]
  show Ev LM (d + 1) mX11_settle 61 [some (.ref 0), some (.int x1)] [(.int (rkI (M.1 6 (M.1 0 17).toNatClampNeg)))] M Q
  refine ev_bipush (v := 7) dX11_settle_61 (by decide) ?_
  refine ev_icmp_eq (tgt := 80) dX11_settle_63 (by decide) (fun c => ?_) (fun c => ?_)
  · replace h := h.1 c
    refine ev_aload_n dX11_settle_80 rfl ?_
    refine ev_dup dX11_settle_81 rfl ?_
    refine ev_getI dX11_settle_82 fl_WithoutEModel_184 lm_0 rfl ?_
    refine ev_iconst (v := 1) dX11_settle_85 (by decide) ?_
    refine ev_isub dX11_settle_86 ?_
    refine ev_putI dX11_settle_87 fp_WithoutEModel_184 lm_0 rfl rfl rfl ?_
    generalize eM1 : ev_wr M 0 18 ((M.1 0 18) - 1) = M1
    replace h := h M1 eM1.symm
    refine ev_goto (tgt := 0) dX11_settle_90 (by decide) ?_
    exact h
  · replace h := h.2 c
    refine ev_aload_n dX11_settle_66 rfl ?_
    refine ev_getA dX11_settle_67 fl_WithoutEModel_32 lm_0 rfl ?_
    refine ev_aload_n dX11_settle_70 rfl ?_
    refine ev_getI dX11_settle_71 fl_WithoutEModel_174 lm_0 rfl ?_
    obtain ⟨c, h⟩ := h
    refine ev_iald dX11_settle_74 lm_6 c ?_
    refine ev_bipush (v := 20) dX11_settle_75 (by decide) ?_
    refine ev_icmp_ne (tgt := 0) dX11_settle_77 (by decide) (fun c => ?_) (fun c => ?_)
    · replace h := h.1 c
      exact h
    · replace h := h.2 c
      refine ev_aload_n dX11_settle_80 rfl ?_
      refine ev_dup dX11_settle_81 rfl ?_
      refine ev_getI dX11_settle_82 fl_WithoutEModel_184 lm_0 rfl ?_
      refine ev_iconst (v := 1) dX11_settle_85 (by decide) ?_
      refine ev_isub dX11_settle_86 ?_
      refine ev_putI dX11_settle_87 fp_WithoutEModel_184 lm_0 rfl rfl rfl ?_
      generalize eM2 : ev_wr M 0 18 ((M.1 0 18) - 1) = M2
      replace h := h M2 eM2.symm
      refine ev_goto (tgt := 0) dX11_settle_90 (by decide) ?_
      exact h
theorem dX11_opened_0 : decode cX11_opened 0 = .ok (.aload_n 0, 1) := by decide +kernel
theorem dX11_opened_1 : decode cX11_opened 1 = .ok (.getfield 184, 3) := by decide +kernel
theorem dX11_opened_4 : decode cX11_opened 4 = .ok (.bipush 8, 2) := by decide +kernel
theorem dX11_opened_6 : decode cX11_opened 6 = .ok (.if_icmp .ne 5, 3) := by decide +kernel
theorem dX11_opened_9 : decode cX11_opened 9 = .ok (.iconst 3, 1) := by decide +kernel
theorem dX11_opened_10 : decode cX11_opened 10 = .ok (.ireturn, 1) := by decide +kernel
theorem dX11_opened_11 : decode cX11_opened 11 = .ok (.aload_n 0, 1) := by decide +kernel
theorem dX11_opened_12 : decode cX11_opened 12 = .ok (.dup, 1) := by decide +kernel
theorem dX11_opened_13 : decode cX11_opened 13 = .ok (.getfield 184, 3) := by decide +kernel
theorem dX11_opened_16 : decode cX11_opened 16 = .ok (.iconst 1, 1) := by decide +kernel
theorem dX11_opened_17 : decode cX11_opened 17 = .ok (.iadd, 1) := by decide +kernel
theorem dX11_opened_18 : decode cX11_opened 18 = .ok (.putfield 184, 3) := by decide +kernel
theorem dX11_opened_21 : decode cX11_opened 21 = .ok (.aload_n 0, 1) := by decide +kernel
theorem dX11_opened_22 : decode cX11_opened 22 = .ok (.getfield 32, 3) := by decide +kernel
theorem dX11_opened_25 : decode cX11_opened 25 = .ok (.aload_n 0, 1) := by decide +kernel
theorem dX11_opened_26 : decode cX11_opened 26 = .ok (.getfield 174, 3) := by decide +kernel
theorem dX11_opened_29 : decode cX11_opened 29 = .ok (.iload_n 1, 1) := by decide +kernel
theorem dX11_opened_30 : decode cX11_opened 30 = .ok (.iastore, 1) := by decide +kernel
theorem dX11_opened_31 : decode cX11_opened 31 = .ok (.aload_n 0, 1) := by decide +kernel
theorem dX11_opened_32 : decode cX11_opened 32 = .ok (.dup, 1) := by decide +kernel
theorem dX11_opened_33 : decode cX11_opened 33 = .ok (.getfield 174, 3) := by decide +kernel
theorem dX11_opened_36 : decode cX11_opened 36 = .ok (.iconst 1, 1) := by decide +kernel
theorem dX11_opened_37 : decode cX11_opened 37 = .ok (.iadd, 1) := by decide +kernel
theorem dX11_opened_38 : decode cX11_opened 38 = .ok (.putfield 174, 3) := by decide +kernel
theorem dX11_opened_41 : decode cX11_opened 41 = .ok (.aload_n 0, 1) := by decide +kernel
theorem dX11_opened_42 : decode cX11_opened 42 = .ok (.invokevirtual 194, 3) := by decide +kernel
theorem dX11_opened_45 : decode cX11_opened 45 = .ok (.iconst 0, 1) := by decide +kernel
theorem dX11_opened_46 : decode cX11_opened 46 = .ok (.ireturn, 1) := by decide +kernel
theorem gX11_opened_0 {d : Nat} {M : ev_Mem} {Q : Option Value → ev_Mem → Prop} {x1 : Int32} (h : (((¬ (M.1 0 18) = 8) → (∀ M1 : ev_Mem, M1 = ev_wr M 0 18 ((M.1 0 18) + 1) → (vp_in (M1.1 0 17) 160 ∧ (∀ M2 : ev_Mem, M2 = ev_wr M1 6 (M1.1 0 17).toNatClampNeg x1 → (∀ M3 : ev_Mem, M3 = ev_wr M2 0 17 ((M2.1 0 17) + 1) → (∃ Q2 : Option Value → ev_Mem → Prop, Cl LM d mX11_nextToken [.ref 0] M3 Q2 ∧ ∀ (zr : Option Value) (zM : ev_Mem), Q2 zr zM → Ev LM (d + 1) mX11_opened 45 [none, none] (zr.toList ++ []) zM Q)))))) ∧ (((M.1 0 18) = 8) → (Q (some (.int 3)) M)))) : Ev LM (d + 1) mX11_opened 0 [some (.ref 0), some (.int x1)] [] M Q := by
  refine ev_aload_n dX11_opened_0 rfl ?_
  refine ev_getI dX11_opened_1 fl_WithoutEModel_184 lm_0 rfl ?_
  refine ev_bipush (v := 8) dX11_opened_4 (by decide) ?_
  refine ev_icmp_ne (tgt := 11) dX11_opened_6 (by decide) (fun c => ?_) (fun c => ?_)
  · replace h := h.1 c
    refine ev_aload_n dX11_opened_11 rfl ?_
    refine ev_dup dX11_opened_12 rfl ?_
    refine ev_getI dX11_opened_13 fl_WithoutEModel_184 lm_0 rfl ?_
    refine ev_iconst (v := 1) dX11_opened_16 (by decide) ?_
    refine ev_iadd dX11_opened_17 ?_
    refine ev_putI dX11_opened_18 fp_WithoutEModel_184 lm_0 rfl rfl rfl ?_
    generalize eM1 : ev_wr M 0 18 ((M.1 0 18) + 1) = M1
    replace h := h M1 eM1.symm
    refine ev_aload_n dX11_opened_21 rfl ?_
    refine ev_getA dX11_opened_22 fl_WithoutEModel_32 lm_0 rfl ?_
    refine ev_aload_n dX11_opened_25 rfl ?_
    refine ev_getI dX11_opened_26 fl_WithoutEModel_174 lm_0 rfl ?_
    refine ev_iload_n dX11_opened_29 rfl ?_
    obtain ⟨c, h⟩ := h
    refine ev_iast dX11_opened_30 lm_6 c ?_
    generalize eM2 : ev_wr M1 6 (M1.1 0 17).toNatClampNeg x1 = M2
    replace h := h M2 eM2.symm
    refine ev_aload_n dX11_opened_31 rfl ?_
    refine ev_dup dX11_opened_32 rfl ?_
    refine ev_getI dX11_opened_33 fl_WithoutEModel_174 lm_0 rfl ?_
    refine ev_iconst (v := 1) dX11_opened_36 (by decide) ?_
    refine ev_iadd dX11_opened_37 ?_
    refine ev_putI dX11_opened_38 fp_WithoutEModel_174 lm_0 rfl rfl rfl ?_
    generalize eM3 : ev_wr M2 0 17 ((M2.1 0 17) + 1) = M3
    replace h := h M3 eM3.symm
    refine ev_aload_n dX11_opened_41 rfl ?_
    obtain ⟨Q2, hc, h⟩ := h
    refine ev_callV [] dX11_opened_42 ml_WithoutEModel_194 lm_0 rfl rfl (Nat.le_of_ble_eq_true rfl) hc (fun zr zM q => ?_)
    refine Ev.weak (ls := [none, none]) trivial ?_
    exact h zr zM q
  · replace h := h.2 c
    refine ev_iconst (v := 3) dX11_opened_9 (by decide) ?_
    exact ev_iret dX11_opened_10 rfl h
theorem gX11_opened_45 {d : Nat} {M : ev_Mem} {Q : Option Value → ev_Mem → Prop} (h : (Q (some (.int 0)) M)) : Ev LM d mX11_opened 45 [none, none] [] M Q := by
  refine ev_iconst (v := 0) dX11_opened_45 (by decide) ?_
  exact ev_iret dX11_opened_46 rfl h
theorem dX11_betweenOf_0 : decode cX11_betweenOf 0 = .ok (.aload_n 0, 1) := by decide +kernel
theorem dX11_betweenOf_1 : decode cX11_betweenOf 1 = .ok (.getfield 119, 3) := by decide +kernel
theorem dX11_betweenOf_4 : decode cX11_betweenOf 4 = .ok (.bipush 43, 2) := by decide +kernel
theorem dX11_betweenOf_6 : decode cX11_betweenOf 6 = .ok (.if_icmp .ne 5, 3) := by decide +kernel
theorem dX11_betweenOf_9 : decode cX11_betweenOf 9 = .ok (.iconst 5, 1) := by decide +kernel
theorem dX11_betweenOf_10 : decode cX11_betweenOf 10 = .ok (.ireturn, 1) := by decide +kernel
theorem dX11_betweenOf_11 : decode cX11_betweenOf 11 = .ok (.aload_n 0, 1) := by decide +kernel
theorem dX11_betweenOf_12 : decode cX11_betweenOf 12 = .ok (.getfield 119, 3) := by decide +kernel
theorem dX11_betweenOf_15 : decode cX11_betweenOf 15 = .ok (.bipush 45, 2) := by decide +kernel
theorem dX11_betweenOf_17 : decode cX11_betweenOf 17 = .ok (.if_icmp .ne 6, 3) := by decide +kernel
theorem dX11_betweenOf_20 : decode cX11_betweenOf 20 = .ok (.bipush 6, 2) := by decide +kernel
theorem dX11_betweenOf_22 : decode cX11_betweenOf 22 = .ok (.ireturn, 1) := by decide +kernel
theorem dX11_betweenOf_23 : decode cX11_betweenOf 23 = .ok (.aload_n 0, 1) := by decide +kernel
theorem dX11_betweenOf_24 : decode cX11_betweenOf 24 = .ok (.getfield 119, 3) := by decide +kernel
theorem dX11_betweenOf_27 : decode cX11_betweenOf 27 = .ok (.bipush 42, 2) := by decide +kernel
theorem dX11_betweenOf_29 : decode cX11_betweenOf 29 = .ok (.if_icmp .ne 6, 3) := by decide +kernel
theorem dX11_betweenOf_32 : decode cX11_betweenOf 32 = .ok (.bipush 7, 2) := by decide +kernel
theorem dX11_betweenOf_34 : decode cX11_betweenOf 34 = .ok (.ireturn, 1) := by decide +kernel
theorem dX11_betweenOf_35 : decode cX11_betweenOf 35 = .ok (.aload_n 0, 1) := by decide +kernel
theorem dX11_betweenOf_36 : decode cX11_betweenOf 36 = .ok (.getfield 119, 3) := by decide +kernel
theorem dX11_betweenOf_39 : decode cX11_betweenOf 39 = .ok (.bipush 47, 2) := by decide +kernel
theorem dX11_betweenOf_41 : decode cX11_betweenOf 41 = .ok (.if_icmp .ne 6, 3) := by decide +kernel
theorem dX11_betweenOf_44 : decode cX11_betweenOf 44 = .ok (.bipush 8, 2) := by decide +kernel
theorem dX11_betweenOf_46 : decode cX11_betweenOf 46 = .ok (.ireturn, 1) := by decide +kernel
theorem dX11_betweenOf_47 : decode cX11_betweenOf 47 = .ok (.aload_n 0, 1) := by decide +kernel
theorem dX11_betweenOf_48 : decode cX11_betweenOf 48 = .ok (.invokevirtual 191, 3) := by decide +kernel
theorem dX11_betweenOf_51 : decode cX11_betweenOf 51 = .ok (.bipush 41, 2) := by decide +kernel
theorem dX11_betweenOf_53 : decode cX11_betweenOf 53 = .ok (.if_icmp .eq 5, 3) := by decide +kernel
theorem dX11_betweenOf_56 : decode cX11_betweenOf 56 = .ok (.iconst (-1), 1) := by decide +kernel
theorem dX11_betweenOf_57 : decode cX11_betweenOf 57 = .ok (.ireturn, 1) := by decide +kernel
theorem dX11_betweenOf_58 : decode cX11_betweenOf 58 = .ok (.aload_n 0, 1) := by decide +kernel
theorem dX11_betweenOf_59 : decode cX11_betweenOf 59 = .ok (.invokevirtual 221, 3) := by decide +kernel
theorem dX11_betweenOf_62 : decode cX11_betweenOf 62 = .ok (.ifCond .ne 8, 3) := by decide +kernel
theorem dX11_betweenOf_65 : decode cX11_betweenOf 65 = .ok (.aload_n 0, 1) := by decide +kernel
theorem dX11_betweenOf_66 : decode cX11_betweenOf 66 = .ok (.invokevirtual 224, 3) := by decide +kernel
theorem dX11_betweenOf_69 : decode cX11_betweenOf 69 = .ok (.ireturn, 1) := by decide +kernel
theorem dX11_betweenOf_70 : decode cX11_betweenOf 70 = .ok (.aload_n 0, 1) := by decide +kernel
theorem dX11_betweenOf_71 : decode cX11_betweenOf 71 = .ok (.bipush 97, 2) := by decide +kernel
theorem dX11_betweenOf_73 : decode cX11_betweenOf 73 = .ok (.bipush 110, 2) := by decide +kernel
theorem dX11_betweenOf_75 : decode cX11_betweenOf 75 = .ok (.bipush 100, 2) := by decide +kernel
theorem dX11_betweenOf_77 : decode cX11_betweenOf 77 = .ok (.invokestatic 145, 3) := by decide +kernel
theorem dX11_betweenOf_80 : decode cX11_betweenOf 80 = .ok (.invokevirtual 213, 3) := by decide +kernel
theorem dX11_betweenOf_83 : decode cX11_betweenOf 83 = .ok (.ifCond .eq 8, 3) := by decide +kernel
theorem dX11_betweenOf_86 : decode cX11_betweenOf 86 = .ok (.bipush 21, 2) := by decide +kernel
theorem dX11_betweenOf_88 : decode cX11_betweenOf 88 = .ok (.goto 23, 3) := by decide +kernel
theorem dX11_betweenOf_91 : decode cX11_betweenOf 91 = .ok (.aload_n 0, 1) := by decide +kernel
theorem dX11_betweenOf_92 : decode cX11_betweenOf 92 = .ok (.bipush 111, 2) := by decide +kernel
theorem dX11_betweenOf_94 : decode cX11_betweenOf 94 = .ok (.bipush 114, 2) := by decide +kernel
theorem dX11_betweenOf_96 : decode cX11_betweenOf 96 = .ok (.invokestatic 141, 3) := by decide +kernel
theorem dX11_betweenOf_99 : decode cX11_betweenOf 99 = .ok (.invokevirtual 213, 3) := by decide +kernel
theorem dX11_betweenOf_102 : decode cX11_betweenOf 102 = .ok (.ifCond .eq 8, 3) := by decide +kernel
theorem dX11_betweenOf_105 : decode cX11_betweenOf 105 = .ok (.bipush 22, 2) := by decide +kernel
theorem dX11_betweenOf_107 : decode cX11_betweenOf 107 = .ok (.goto 4, 3) := by decide +kernel
theorem dX11_betweenOf_110 : decode cX11_betweenOf 110 = .ok (.iconst (-1), 1) := by decide +kernel
theorem dX11_betweenOf_111 : decode cX11_betweenOf 111 = .ok (.ireturn, 1) := by decide +kernel
theorem gX11_betweenOf_0 {d : Nat} {M : ev_Mem} {Q : Option Value → ev_Mem → Prop} (h : (((¬ (M.1 0 10) = 43) → (((¬ (M.1 0 10) = 45) → (((¬ (M.1 0 10) = 42) → (((¬ (M.1 0 10) = 47) → ((plOK M) ∧ ((((opwI M) = 41) → ((plOK M) ∧ ((((icI M) = true) → ((((isw M (w3f (97 : Int32) (110 : Int32) (100 : Int32))) = false) → ((((isw M (w2f (111 : Int32) (114 : Int32))) = false) → (Q (some (.int (-1))) M)) ∧ (((isw M (w2f (111 : Int32) (114 : Int32))) = true) → (Q (some (.int 22)) M)))) ∧ (((isw M (w3f (97 : Int32) (110 : Int32) (100 : Int32))) = true) → (Q (some (.int 21)) M)))) ∧ (((icI M) = false) → (Q (some (.int (cpI (M.1 0 10)))) M))))) ∧ ((¬ (opwI M) = 41) → (Q (some (.int (-1))) M))))) ∧ (((M.1 0 10) = 47) → (Q (some (.int 8)) M)))) ∧ (((M.1 0 10) = 42) → (Q (some (.int 7)) M)))) ∧ (((M.1 0 10) = 45) → (Q (some (.int 6)) M)))) ∧ (((M.1 0 10) = 43) → (Q (some (.int 5)) M)))) : Ev LM (d + 2) mX11_betweenOf 0 [some (.ref 0)] [] M Q := by
  refine ev_aload_n dX11_betweenOf_0 rfl ?_
  refine ev_getI dX11_betweenOf_1 fl_WithoutEModel_119 lm_0 rfl ?_
  refine ev_bipush (v := 43) dX11_betweenOf_4 (by decide) ?_
  refine ev_icmp_ne (tgt := 11) dX11_betweenOf_6 (by decide) (fun c => ?_) (fun c => ?_)
  · replace h := h.1 c
    refine ev_aload_n dX11_betweenOf_11 rfl ?_
    refine ev_getI dX11_betweenOf_12 fl_WithoutEModel_119 lm_0 rfl ?_
    refine ev_bipush (v := 45) dX11_betweenOf_15 (by decide) ?_
    refine ev_icmp_ne (tgt := 23) dX11_betweenOf_17 (by decide) (fun c => ?_) (fun c => ?_)
    · replace h := h.1 c
      refine ev_aload_n dX11_betweenOf_23 rfl ?_
      refine ev_getI dX11_betweenOf_24 fl_WithoutEModel_119 lm_0 rfl ?_
      refine ev_bipush (v := 42) dX11_betweenOf_27 (by decide) ?_
      refine ev_icmp_ne (tgt := 35) dX11_betweenOf_29 (by decide) (fun c => ?_) (fun c => ?_)
      · replace h := h.1 c
        refine ev_aload_n dX11_betweenOf_35 rfl ?_
        refine ev_getI dX11_betweenOf_36 fl_WithoutEModel_119 lm_0 rfl ?_
        refine ev_bipush (v := 47) dX11_betweenOf_39 (by decide) ?_
        refine ev_icmp_ne (tgt := 47) dX11_betweenOf_41 (by decide) (fun c => ?_) (fun c => ?_)
        · replace h := h.1 c
          refine ev_aload_n dX11_betweenOf_47 rfl ?_
          obtain ⟨p1, h⟩ := h
          refine ev_callV [] dX11_betweenOf_48 ml_WithoutEModel_191 lm_0 rfl rfl (Nat.le_of_ble_eq_true rfl) (kX11_openNow p1) ?_
          rintro zr zM ⟨q1, q2⟩
          rw [q1, q2]
          show Ev LM (d + 2) mX11_betweenOf 51 [some (.ref 0)] [(.int (opwI M))] M Q
          refine ev_bipush (v := 41) dX11_betweenOf_51 (by decide) ?_
          refine ev_icmp_eq (tgt := 58) dX11_betweenOf_53 (by decide) (fun c => ?_) (fun c => ?_)
          · replace h := h.1 c
            refine ev_aload_n dX11_betweenOf_58 rfl ?_
            obtain ⟨p1, h⟩ := h
            refine ev_callV [] dX11_betweenOf_59 ml_WithoutEModel_221 lm_0 rfl rfl (Nat.le_of_ble_eq_true rfl) (kX11_isCompared p1) ?_
            rintro zr zM ⟨q1, q2⟩
            rw [q1, q2]
            show Ev LM (d + 2) mX11_betweenOf 62 [some (.ref 0)] [(.int (bi (icI M)))] M Q
            refine ev_if_ne (tgt := 70) dX11_betweenOf_62 (by decide) (fun c => ?_) (fun c => ?_)
            · replace h := h.1 ((bi_n0 _).mp c)
              refine ev_aload_n dX11_betweenOf_70 rfl ?_
              refine ev_bipush (v := 97) dX11_betweenOf_71 (by decide) ?_
              refine ev_bipush (v := 110) dX11_betweenOf_73 (by decide) ?_
              refine ev_bipush (v := 100) dX11_betweenOf_75 (by decide) ?_
              refine ev_callS [.int 97, .int 110, .int 100] dX11_betweenOf_77 ml_WithoutEModel_145 rfl (Nat.le_of_ble_eq_true rfl) (kX11_w3) ?_
              rintro zr zM ⟨q1, q2⟩
              rw [q1, q2]
              show Ev LM (d + 2) mX11_betweenOf 80 [some (.ref 0)] [(.long (w3f (97 : Int32) (110 : Int32) (100 : Int32))), (.ref 0)] M Q
              refine ev_callV [.long (w3f (97 : Int32) (110 : Int32) (100 : Int32))] dX11_betweenOf_80 ml_WithoutEModel_213 lm_0 rfl rfl (Nat.le_of_ble_eq_true rfl) (kX11_isWord) ?_
              rintro zr zM ⟨q1, q2⟩
              rw [q1, q2]
              show Ev LM (d + 2) mX11_betweenOf 83 [some (.ref 0)] [(.int (bi (isw M (w3f (97 : Int32) (110 : Int32) (100 : Int32)))))] M Q
              refine ev_if_eq (tgt := 91) dX11_betweenOf_83 (by decide) (fun c => ?_) (fun c => ?_)
              · replace h := h.1 ((bi_0 _).mp c)
                refine ev_aload_n dX11_betweenOf_91 rfl ?_
                refine ev_bipush (v := 111) dX11_betweenOf_92 (by decide) ?_
                refine ev_bipush (v := 114) dX11_betweenOf_94 (by decide) ?_
                refine ev_callS [.int 111, .int 114] dX11_betweenOf_96 ml_WithoutEModel_141 rfl (Nat.le_of_ble_eq_true rfl) (kX11_w2) ?_
                rintro zr zM ⟨q1, q2⟩
                rw [q1, q2]
                show Ev LM (d + 2) mX11_betweenOf 99 [some (.ref 0)] [(.long (w2f (111 : Int32) (114 : Int32))), (.ref 0)] M Q
                refine ev_callV [.long (w2f (111 : Int32) (114 : Int32))] dX11_betweenOf_99 ml_WithoutEModel_213 lm_0 rfl rfl (Nat.le_of_ble_eq_true rfl) (kX11_isWord) ?_
                rintro zr zM ⟨q1, q2⟩
                rw [q1, q2]
                show Ev LM (d + 2) mX11_betweenOf 102 [some (.ref 0)] [(.int (bi (isw M (w2f (111 : Int32) (114 : Int32)))))] M Q
                refine ev_if_eq (tgt := 110) dX11_betweenOf_102 (by decide) (fun c => ?_) (fun c => ?_)
                · replace h := h.1 ((bi_0 _).mp c)
                  refine ev_iconst (v := -1) dX11_betweenOf_110 (by decide) ?_
                  exact ev_iret dX11_betweenOf_111 rfl h
                · replace h := h.2 ((bi_n0 _).mp c)
                  refine ev_bipush (v := 22) dX11_betweenOf_105 (by decide) ?_
                  refine ev_goto (tgt := 111) dX11_betweenOf_107 (by decide) ?_
                  exact ev_iret dX11_betweenOf_111 rfl h
              · replace h := h.2 ((bi_n0 _).mp c)
                refine ev_bipush (v := 21) dX11_betweenOf_86 (by decide) ?_
                refine ev_goto (tgt := 111) dX11_betweenOf_88 (by decide) ?_
                exact ev_iret dX11_betweenOf_111 rfl h
            · replace h := h.2 ((bi_0 _).mp c)
              refine ev_aload_n dX11_betweenOf_65 rfl ?_
              refine ev_callV [] dX11_betweenOf_66 ml_WithoutEModel_224 lm_0 rfl rfl (Nat.le_of_ble_eq_true rfl) (kX11_compareOf) ?_
              rintro zr zM ⟨q1, q2⟩
              rw [q1, q2]
              show Ev LM (d + 2) mX11_betweenOf 69 [some (.ref 0)] [(.int (cpI (M.1 0 10)))] M Q
              exact ev_iret dX11_betweenOf_69 rfl h
          · replace h := h.2 c
            refine ev_iconst (v := -1) dX11_betweenOf_56 (by decide) ?_
            exact ev_iret dX11_betweenOf_57 rfl h
        · replace h := h.2 c
          refine ev_bipush (v := 8) dX11_betweenOf_44 (by decide) ?_
          exact ev_iret dX11_betweenOf_46 rfl h
      · replace h := h.2 c
        refine ev_bipush (v := 7) dX11_betweenOf_32 (by decide) ?_
        exact ev_iret dX11_betweenOf_34 rfl h
    · replace h := h.2 c
      refine ev_bipush (v := 6) dX11_betweenOf_20 (by decide) ?_
      exact ev_iret dX11_betweenOf_22 rfl h
  · replace h := h.2 c
    refine ev_iconst (v := 5) dX11_betweenOf_9 (by decide) ?_
    exact ev_iret dX11_betweenOf_10 rfl h
theorem dX11_partOf_0 : decode cX11_partOf 0 = .ok (.iload_n 1, 1) := by decide +kernel
theorem dX11_partOf_1 : decode cX11_partOf 1 = .ok (.tableswitch 125 40 43 #[31, 46, 78, 103], 31) := by decide +kernel
theorem dX11_partOf_32 : decode cX11_partOf 32 = .ok (.aload_n 0, 1) := by decide +kernel
theorem dX11_partOf_33 : decode cX11_partOf 33 = .ok (.getfield 119, 3) := by decide +kernel
theorem dX11_partOf_36 : decode cX11_partOf 36 = .ok (.bipush 41, 2) := by decide +kernel
theorem dX11_partOf_38 : decode cX11_partOf 38 = .ok (.if_icmp .ne 7, 3) := by decide +kernel
theorem dX11_partOf_41 : decode cX11_partOf 41 = .ok (.iconst 0, 1) := by decide +kernel
theorem dX11_partOf_42 : decode cX11_partOf 42 = .ok (.goto 4, 3) := by decide +kernel
theorem dX11_partOf_45 : decode cX11_partOf 45 = .ok (.iconst (-1), 1) := by decide +kernel
theorem dX11_partOf_46 : decode cX11_partOf 46 = .ok (.ireturn, 1) := by decide +kernel
theorem dX11_partOf_47 : decode cX11_partOf 47 = .ok (.aload_n 0, 1) := by decide +kernel
theorem dX11_partOf_48 : decode cX11_partOf 48 = .ok (.bipush 116, 2) := by decide +kernel
theorem dX11_partOf_50 : decode cX11_partOf 50 = .ok (.bipush 104, 2) := by decide +kernel
theorem dX11_partOf_52 : decode cX11_partOf 52 = .ok (.bipush 101, 2) := by decide +kernel
theorem dX11_partOf_54 : decode cX11_partOf 54 = .ok (.bipush 110, 2) := by decide +kernel
theorem dX11_partOf_56 : decode cX11_partOf 56 = .ok (.invokestatic 149, 3) := by decide +kernel
theorem dX11_partOf_59 : decode cX11_partOf 59 = .ok (.invokevirtual 213, 3) := by decide +kernel
theorem dX11_partOf_62 : decode cX11_partOf 62 = .ok (.ifCond .eq 15, 3) := by decide +kernel
theorem dX11_partOf_65 : decode cX11_partOf 65 = .ok (.aload_n 0, 1) := by decide +kernel
theorem dX11_partOf_66 : decode cX11_partOf 66 = .ok (.invokevirtual 221, 3) := by decide +kernel
theorem dX11_partOf_69 : decode cX11_partOf 69 = .ok (.ifCond .eq 8, 3) := by decide +kernel
theorem dX11_partOf_72 : decode cX11_partOf 72 = .ok (.bipush 42, 2) := by decide +kernel
theorem dX11_partOf_74 : decode cX11_partOf 74 = .ok (.goto 4, 3) := by decide +kernel
theorem dX11_partOf_77 : decode cX11_partOf 77 = .ok (.iconst (-1), 1) := by decide +kernel
theorem dX11_partOf_78 : decode cX11_partOf 78 = .ok (.ireturn, 1) := by decide +kernel
theorem dX11_partOf_79 : decode cX11_partOf 79 = .ok (.aload_n 0, 1) := by decide +kernel
theorem dX11_partOf_80 : decode cX11_partOf 80 = .ok (.bipush 101, 2) := by decide +kernel
theorem dX11_partOf_82 : decode cX11_partOf 82 = .ok (.bipush 108, 2) := by decide +kernel
theorem dX11_partOf_84 : decode cX11_partOf 84 = .ok (.bipush 115, 2) := by decide +kernel
theorem dX11_partOf_86 : decode cX11_partOf 86 = .ok (.bipush 101, 2) := by decide +kernel
theorem dX11_partOf_88 : decode cX11_partOf 88 = .ok (.invokestatic 149, 3) := by decide +kernel
theorem dX11_partOf_91 : decode cX11_partOf 91 = .ok (.invokevirtual 213, 3) := by decide +kernel
theorem dX11_partOf_94 : decode cX11_partOf 94 = .ok (.ifCond .eq 8, 3) := by decide +kernel
theorem dX11_partOf_97 : decode cX11_partOf 97 = .ok (.bipush 43, 2) := by decide +kernel
theorem dX11_partOf_99 : decode cX11_partOf 99 = .ok (.goto 4, 3) := by decide +kernel
theorem dX11_partOf_102 : decode cX11_partOf 102 = .ok (.iconst (-1), 1) := by decide +kernel
theorem dX11_partOf_103 : decode cX11_partOf 103 = .ok (.ireturn, 1) := by decide +kernel
theorem dX11_partOf_104 : decode cX11_partOf 104 = .ok (.aload_n 0, 1) := by decide +kernel
theorem dX11_partOf_105 : decode cX11_partOf 105 = .ok (.bipush 101, 2) := by decide +kernel
theorem dX11_partOf_107 : decode cX11_partOf 107 = .ok (.bipush 110, 2) := by decide +kernel
theorem dX11_partOf_109 : decode cX11_partOf 109 = .ok (.bipush 100, 2) := by decide +kernel
theorem dX11_partOf_111 : decode cX11_partOf 111 = .ok (.invokestatic 145, 3) := by decide +kernel
theorem dX11_partOf_114 : decode cX11_partOf 114 = .ok (.invokevirtual 213, 3) := by decide +kernel
theorem dX11_partOf_117 : decode cX11_partOf 117 = .ok (.ifCond .eq 7, 3) := by decide +kernel
theorem dX11_partOf_120 : decode cX11_partOf 120 = .ok (.iconst 0, 1) := by decide +kernel
theorem dX11_partOf_121 : decode cX11_partOf 121 = .ok (.goto 4, 3) := by decide +kernel
theorem dX11_partOf_124 : decode cX11_partOf 124 = .ok (.iconst (-1), 1) := by decide +kernel
theorem dX11_partOf_125 : decode cX11_partOf 125 = .ok (.ireturn, 1) := by decide +kernel
theorem dX11_partOf_126 : decode cX11_partOf 126 = .ok (.iconst (-1), 1) := by decide +kernel
theorem dX11_partOf_127 : decode cX11_partOf 127 = .ok (.ireturn, 1) := by decide +kernel
theorem gX11_partOf_0 {d : Nat} {M : ev_Mem} {Q : Option Value → ev_Mem → Prop} {x1 : Int32} (h : (((x1 = 40) → (((¬ (M.1 0 10) = 41) → (Q (some (.int (-1))) M)) ∧ (((M.1 0 10) = 41) → (Q (some (.int 0)) M)))) ∧ ((x1 = 41) → ((((isw M (w4f (116 : Int32) (104 : Int32) (101 : Int32) (110 : Int32))) = false) → (Q (some (.int (-1))) M)) ∧ (((isw M (w4f (116 : Int32) (104 : Int32) (101 : Int32) (110 : Int32))) = true) → ((plOK M) ∧ ((((icI M) = false) → (Q (some (.int (-1))) M)) ∧ (((icI M) = true) → (Q (some (.int 42)) M))))))) ∧ ((x1 = 42) → ((((isw M (w4f (101 : Int32) (108 : Int32) (115 : Int32) (101 : Int32))) = false) → (Q (some (.int (-1))) M)) ∧ (((isw M (w4f (101 : Int32) (108 : Int32) (115 : Int32) (101 : Int32))) = true) → (Q (some (.int 43)) M)))) ∧ ((x1 = 43) → ((((isw M (w3f (101 : Int32) (110 : Int32) (100 : Int32))) = false) → (Q (some (.int (-1))) M)) ∧ (((isw M (w3f (101 : Int32) (110 : Int32) (100 : Int32))) = true) → (Q (some (.int 0)) M)))) ∧ ((¬ x1 = 40 ∧ ¬ x1 = 41 ∧ ¬ x1 = 42 ∧ ¬ x1 = 43) → (Q (some (.int (-1))) M)))) : Ev LM (d + 3) mX11_partOf 0 [some (.ref 0), some (.int x1)] [] M Q := by
  refine ev_iload_n dX11_partOf_0 rfl ?_
  obtain ⟨h0, h1, h2, h3, h4⟩ := h
  by_cases e0 : x1 = 40
  · replace h := h0 e0
    have hk : ∃ off : Int, ¬ (x1 : Int32).toInt < 40 ∧ ¬ 43 < (x1 : Int32).toInt ∧ #[31, 46, 78, 103][((x1 : Int32).toInt - 40).toNat]? = some off ∧ ((1 : Nat) : Int) + off = ((32 : Nat) : Int) := by
      have e := e0
      · rw [e]; exact ⟨31, by decide, by decide, by decide, by decide⟩
    obtain ⟨off, k1, k2, k3, k4⟩ := hk
    refine ev_tableIn (tgt := 32) dX11_partOf_1 k1 k2 k3 k4 ?_
    refine ev_aload_n dX11_partOf_32 rfl ?_
    refine ev_getI dX11_partOf_33 fl_WithoutEModel_119 lm_0 rfl ?_
    refine ev_bipush (v := 41) dX11_partOf_36 (by decide) ?_
    refine ev_icmp_ne (tgt := 45) dX11_partOf_38 (by decide) (fun c => ?_) (fun c => ?_)
    · replace h := h.1 c
      refine ev_iconst (v := -1) dX11_partOf_45 (by decide) ?_
      exact ev_iret dX11_partOf_46 rfl h
    · replace h := h.2 c
      refine ev_iconst (v := 0) dX11_partOf_41 (by decide) ?_
      refine ev_goto (tgt := 46) dX11_partOf_42 (by decide) ?_
      exact ev_iret dX11_partOf_46 rfl h
  by_cases e1 : x1 = 41
  · replace h := h1 e1
    have hk : ∃ off : Int, ¬ (x1 : Int32).toInt < 40 ∧ ¬ 43 < (x1 : Int32).toInt ∧ #[31, 46, 78, 103][((x1 : Int32).toInt - 40).toNat]? = some off ∧ ((1 : Nat) : Int) + off = ((47 : Nat) : Int) := by
      have e := e1
      · rw [e]; exact ⟨46, by decide, by decide, by decide, by decide⟩
    obtain ⟨off, k1, k2, k3, k4⟩ := hk
    refine ev_tableIn (tgt := 47) dX11_partOf_1 k1 k2 k3 k4 ?_
    refine ev_aload_n dX11_partOf_47 rfl ?_
    refine ev_bipush (v := 116) dX11_partOf_48 (by decide) ?_
    refine ev_bipush (v := 104) dX11_partOf_50 (by decide) ?_
    refine ev_bipush (v := 101) dX11_partOf_52 (by decide) ?_
    refine ev_bipush (v := 110) dX11_partOf_54 (by decide) ?_
    refine ev_callS [.int 116, .int 104, .int 101, .int 110] dX11_partOf_56 ml_WithoutEModel_149 rfl (Nat.le_of_ble_eq_true rfl) (kX11_w4) ?_
    rintro zr zM ⟨q1, q2⟩
    rw [q1, q2]
    show Ev LM (d + 3) mX11_partOf 59 [some (.ref 0), some (.int x1)] [(.long (w4f (116 : Int32) (104 : Int32) (101 : Int32) (110 : Int32))), (.ref 0)] M Q
    refine ev_callV [.long (w4f (116 : Int32) (104 : Int32) (101 : Int32) (110 : Int32))] dX11_partOf_59 ml_WithoutEModel_213 lm_0 rfl rfl (Nat.le_of_ble_eq_true rfl) (kX11_isWord) ?_
    rintro zr zM ⟨q1, q2⟩
    rw [q1, q2]
    show Ev LM (d + 3) mX11_partOf 62 [some (.ref 0), some (.int x1)] [(.int (bi (isw M (w4f (116 : Int32) (104 : Int32) (101 : Int32) (110 : Int32)))))] M Q
    refine ev_if_eq (tgt := 77) dX11_partOf_62 (by decide) (fun c => ?_) (fun c => ?_)
    · replace h := h.1 ((bi_0 _).mp c)
      refine ev_iconst (v := -1) dX11_partOf_77 (by decide) ?_
      exact ev_iret dX11_partOf_78 rfl h
    · replace h := h.2 ((bi_n0 _).mp c)
      refine ev_aload_n dX11_partOf_65 rfl ?_
      obtain ⟨p1, h⟩ := h
      refine ev_callV [] dX11_partOf_66 ml_WithoutEModel_221 lm_0 rfl rfl (Nat.le_of_ble_eq_true rfl) (kX11_isCompared p1) ?_
      rintro zr zM ⟨q1, q2⟩
      rw [q1, q2]
      show Ev LM (d + 3) mX11_partOf 69 [some (.ref 0), some (.int x1)] [(.int (bi (icI M)))] M Q
      refine ev_if_eq (tgt := 77) dX11_partOf_69 (by decide) (fun c => ?_) (fun c => ?_)
      · replace h := h.1 ((bi_0 _).mp c)
        refine ev_iconst (v := -1) dX11_partOf_77 (by decide) ?_
        exact ev_iret dX11_partOf_78 rfl h
      · replace h := h.2 ((bi_n0 _).mp c)
        refine ev_bipush (v := 42) dX11_partOf_72 (by decide) ?_
        refine ev_goto (tgt := 78) dX11_partOf_74 (by decide) ?_
        exact ev_iret dX11_partOf_78 rfl h
  by_cases e2 : x1 = 42
  · replace h := h2 e2
    have hk : ∃ off : Int, ¬ (x1 : Int32).toInt < 40 ∧ ¬ 43 < (x1 : Int32).toInt ∧ #[31, 46, 78, 103][((x1 : Int32).toInt - 40).toNat]? = some off ∧ ((1 : Nat) : Int) + off = ((79 : Nat) : Int) := by
      have e := e2
      · rw [e]; exact ⟨78, by decide, by decide, by decide, by decide⟩
    obtain ⟨off, k1, k2, k3, k4⟩ := hk
    refine ev_tableIn (tgt := 79) dX11_partOf_1 k1 k2 k3 k4 ?_
    refine ev_aload_n dX11_partOf_79 rfl ?_
    refine ev_bipush (v := 101) dX11_partOf_80 (by decide) ?_
    refine ev_bipush (v := 108) dX11_partOf_82 (by decide) ?_
    refine ev_bipush (v := 115) dX11_partOf_84 (by decide) ?_
    refine ev_bipush (v := 101) dX11_partOf_86 (by decide) ?_
    refine ev_callS [.int 101, .int 108, .int 115, .int 101] dX11_partOf_88 ml_WithoutEModel_149 rfl (Nat.le_of_ble_eq_true rfl) (kX11_w4) ?_
    rintro zr zM ⟨q1, q2⟩
    rw [q1, q2]
    show Ev LM (d + 3) mX11_partOf 91 [some (.ref 0), some (.int x1)] [(.long (w4f (101 : Int32) (108 : Int32) (115 : Int32) (101 : Int32))), (.ref 0)] M Q
    refine ev_callV [.long (w4f (101 : Int32) (108 : Int32) (115 : Int32) (101 : Int32))] dX11_partOf_91 ml_WithoutEModel_213 lm_0 rfl rfl (Nat.le_of_ble_eq_true rfl) (kX11_isWord) ?_
    rintro zr zM ⟨q1, q2⟩
    rw [q1, q2]
    show Ev LM (d + 3) mX11_partOf 94 [some (.ref 0), some (.int x1)] [(.int (bi (isw M (w4f (101 : Int32) (108 : Int32) (115 : Int32) (101 : Int32)))))] M Q
    refine ev_if_eq (tgt := 102) dX11_partOf_94 (by decide) (fun c => ?_) (fun c => ?_)
    · replace h := h.1 ((bi_0 _).mp c)
      refine ev_iconst (v := -1) dX11_partOf_102 (by decide) ?_
      exact ev_iret dX11_partOf_103 rfl h
    · replace h := h.2 ((bi_n0 _).mp c)
      refine ev_bipush (v := 43) dX11_partOf_97 (by decide) ?_
      refine ev_goto (tgt := 103) dX11_partOf_99 (by decide) ?_
      exact ev_iret dX11_partOf_103 rfl h
  by_cases e3 : x1 = 43
  · replace h := h3 e3
    have hk : ∃ off : Int, ¬ (x1 : Int32).toInt < 40 ∧ ¬ 43 < (x1 : Int32).toInt ∧ #[31, 46, 78, 103][((x1 : Int32).toInt - 40).toNat]? = some off ∧ ((1 : Nat) : Int) + off = ((104 : Nat) : Int) := by
      have e := e3
      · rw [e]; exact ⟨103, by decide, by decide, by decide, by decide⟩
    obtain ⟨off, k1, k2, k3, k4⟩ := hk
    refine ev_tableIn (tgt := 104) dX11_partOf_1 k1 k2 k3 k4 ?_
    refine ev_aload_n dX11_partOf_104 rfl ?_
    refine ev_bipush (v := 101) dX11_partOf_105 (by decide) ?_
    refine ev_bipush (v := 110) dX11_partOf_107 (by decide) ?_
    refine ev_bipush (v := 100) dX11_partOf_109 (by decide) ?_
    refine ev_callS [.int 101, .int 110, .int 100] dX11_partOf_111 ml_WithoutEModel_145 rfl (Nat.le_of_ble_eq_true rfl) (kX11_w3) ?_
    rintro zr zM ⟨q1, q2⟩
    rw [q1, q2]
    show Ev LM (d + 3) mX11_partOf 114 [some (.ref 0), some (.int x1)] [(.long (w3f (101 : Int32) (110 : Int32) (100 : Int32))), (.ref 0)] M Q
    refine ev_callV [.long (w3f (101 : Int32) (110 : Int32) (100 : Int32))] dX11_partOf_114 ml_WithoutEModel_213 lm_0 rfl rfl (Nat.le_of_ble_eq_true rfl) (kX11_isWord) ?_
    rintro zr zM ⟨q1, q2⟩
    rw [q1, q2]
    show Ev LM (d + 3) mX11_partOf 117 [some (.ref 0), some (.int x1)] [(.int (bi (isw M (w3f (101 : Int32) (110 : Int32) (100 : Int32)))))] M Q
    refine ev_if_eq (tgt := 124) dX11_partOf_117 (by decide) (fun c => ?_) (fun c => ?_)
    · replace h := h.1 ((bi_0 _).mp c)
      refine ev_iconst (v := -1) dX11_partOf_124 (by decide) ?_
      exact ev_iret dX11_partOf_125 rfl h
    · replace h := h.2 ((bi_n0 _).mp c)
      refine ev_iconst (v := 0) dX11_partOf_120 (by decide) ?_
      refine ev_goto (tgt := 125) dX11_partOf_121 (by decide) ?_
      exact ev_iret dX11_partOf_125 rfl h
  replace h := h4 ⟨fun e => e0 (e), fun e => e1 (e), fun e => e2 (e), fun e => e3 (e)⟩
  have hk : ((x1 : Int32).toInt < 40 ∨ 43 < (x1 : Int32).toInt) ∨ (False) := by
    have t : ∀ k : Int32, ¬ (x1 : Int32) = k → (x1 : Int32).toInt ≠ k.toInt := fun k hne e => hne (Int32.toInt_inj.mp e)
    have z40 : (x1 : Int32).toInt ≠ 40 := t 40 (fun e => by simp_all)
    have z41 : (x1 : Int32).toInt ≠ 41 := t 41 (fun e => by simp_all)
    have z42 : (x1 : Int32).toInt ≠ 42 := t 42 (fun e => by simp_all)
    have z43 : (x1 : Int32).toInt ≠ 43 := t 43 (fun e => by simp_all)
    omega
  replace hk := hk.elim id False.elim
  refine ev_tableOut (tgt := 126) dX11_partOf_1 hk (by decide) ?_
  refine ev_iconst (v := -1) dX11_partOf_126 (by decide) ?_
  exact ev_iret dX11_partOf_127 rfl h
theorem dX11_behindOne_0 : decode cX11_behindOne 0 = .ok (.aload_n 0, 1) := by decide +kernel
theorem dX11_behindOne_1 : decode cX11_behindOne 1 = .ok (.invokevirtual 227, 3) := by decide +kernel
theorem dX11_behindOne_4 : decode cX11_behindOne 4 = .ok (.istore_n 1, 1) := by decide +kernel
theorem dX11_behindOne_5 : decode cX11_behindOne 5 = .ok (.iload_n 1, 1) := by decide +kernel
theorem dX11_behindOne_6 : decode cX11_behindOne 6 = .ok (.ifCond .lt 54, 3) := by decide +kernel
theorem dX11_behindOne_9 : decode cX11_behindOne 9 = .ok (.aload_n 0, 1) := by decide +kernel
theorem dX11_behindOne_10 : decode cX11_behindOne 10 = .ok (.iload_n 1, 1) := by decide +kernel
theorem dX11_behindOne_11 : decode cX11_behindOne 11 = .ok (.invokestatic 177, 3) := by decide +kernel
theorem dX11_behindOne_14 : decode cX11_behindOne 14 = .ok (.iconst 4, 1) := by decide +kernel
theorem dX11_behindOne_15 : decode cX11_behindOne 15 = .ok (.if_icmp .ne 7, 3) := by decide +kernel
theorem dX11_behindOne_18 : decode cX11_behindOne 18 = .ok (.iconst 5, 1) := by decide +kernel
theorem dX11_behindOne_19 : decode cX11_behindOne 19 = .ok (.goto 7, 3) := by decide +kernel
theorem dX11_behindOne_22 : decode cX11_behindOne 22 = .ok (.iload_n 1, 1) := by decide +kernel
theorem dX11_behindOne_23 : decode cX11_behindOne 23 = .ok (.invokestatic 177, 3) := by decide +kernel
theorem dX11_behindOne_26 : decode cX11_behindOne 26 = .ok (.invokevirtual 207, 3) := by decide +kernel
theorem dX11_behindOne_29 : decode cX11_behindOne 29 = .ok (.aload_n 0, 1) := by decide +kernel
theorem dX11_behindOne_30 : decode cX11_behindOne 30 = .ok (.getfield 32, 3) := by decide +kernel
theorem dX11_behindOne_33 : decode cX11_behindOne 33 = .ok (.aload_n 0, 1) := by decide +kernel
theorem dX11_behindOne_34 : decode cX11_behindOne 34 = .ok (.getfield 174, 3) := by decide +kernel
theorem dX11_behindOne_37 : decode cX11_behindOne 37 = .ok (.iload_n 1, 1) := by decide +kernel
theorem dX11_behindOne_38 : decode cX11_behindOne 38 = .ok (.iastore, 1) := by decide +kernel
theorem dX11_behindOne_39 : decode cX11_behindOne 39 = .ok (.aload_n 0, 1) := by decide +kernel
theorem dX11_behindOne_40 : decode cX11_behindOne 40 = .ok (.dup, 1) := by decide +kernel
theorem dX11_behindOne_41 : decode cX11_behindOne 41 = .ok (.getfield 174, 3) := by decide +kernel
theorem dX11_behindOne_44 : decode cX11_behindOne 44 = .ok (.iconst 1, 1) := by decide +kernel
theorem dX11_behindOne_45 : decode cX11_behindOne 45 = .ok (.iadd, 1) := by decide +kernel
theorem dX11_behindOne_46 : decode cX11_behindOne 46 = .ok (.putfield 174, 3) := by decide +kernel
theorem dX11_behindOne_49 : decode cX11_behindOne 49 = .ok (.aload_n 0, 1) := by decide +kernel
theorem dX11_behindOne_50 : decode cX11_behindOne 50 = .ok (.iconst 0, 1) := by decide +kernel
theorem dX11_behindOne_51 : decode cX11_behindOne 51 = .ok (.putfield 203, 3) := by decide +kernel
theorem dX11_behindOne_54 : decode cX11_behindOne 54 = .ok (.aload_n 0, 1) := by decide +kernel
theorem dX11_behindOne_55 : decode cX11_behindOne 55 = .ok (.invokevirtual 194, 3) := by decide +kernel
theorem dX11_behindOne_58 : decode cX11_behindOne 58 = .ok (.iconst 1, 1) := by decide +kernel
theorem dX11_behindOne_59 : decode cX11_behindOne 59 = .ok (.ireturn, 1) := by decide +kernel
theorem dX11_behindOne_60 : decode cX11_behindOne 60 = .ok (.aload_n 0, 1) := by decide +kernel
theorem dX11_behindOne_61 : decode cX11_behindOne 61 = .ok (.invokevirtual 191, 3) := by decide +kernel
theorem dX11_behindOne_64 : decode cX11_behindOne 64 = .ok (.istore_n 2, 1) := by decide +kernel
theorem dX11_behindOne_65 : decode cX11_behindOne 65 = .ok (.aload_n 0, 1) := by decide +kernel
theorem dX11_behindOne_66 : decode cX11_behindOne 66 = .ok (.iload_n 2, 1) := by decide +kernel
theorem dX11_behindOne_67 : decode cX11_behindOne 67 = .ok (.invokevirtual 230, 3) := by decide +kernel
theorem dX11_behindOne_70 : decode cX11_behindOne 70 = .ok (.istore_n 3, 1) := by decide +kernel
theorem dX11_behindOne_71 : decode cX11_behindOne 71 = .ok (.iload_n 3, 1) := by decide +kernel
theorem dX11_behindOne_72 : decode cX11_behindOne 72 = .ok (.ifCond .ge 5, 3) := by decide +kernel
theorem dX11_behindOne_75 : decode cX11_behindOne 75 = .ok (.iconst 0, 1) := by decide +kernel
theorem dX11_behindOne_76 : decode cX11_behindOne 76 = .ok (.ireturn, 1) := by decide +kernel
theorem dX11_behindOne_77 : decode cX11_behindOne 77 = .ok (.aload_n 0, 1) := by decide +kernel
theorem dX11_behindOne_78 : decode cX11_behindOne 78 = .ok (.iconst 1, 1) := by decide +kernel
theorem dX11_behindOne_79 : decode cX11_behindOne 79 = .ok (.invokevirtual 207, 3) := by decide +kernel
theorem dX11_behindOne_82 : decode cX11_behindOne 82 = .ok (.aload_n 0, 1) := by decide +kernel
theorem dX11_behindOne_83 : decode cX11_behindOne 83 = .ok (.invokevirtual 194, 3) := by decide +kernel
theorem dX11_behindOne_86 : decode cX11_behindOne 86 = .ok (.iload_n 3, 1) := by decide +kernel
theorem dX11_behindOne_87 : decode cX11_behindOne 87 = .ok (.ifCond .le 20, 3) := by decide +kernel
theorem dX11_behindOne_90 : decode cX11_behindOne 90 = .ok (.aload_n 0, 1) := by decide +kernel
theorem dX11_behindOne_91 : decode cX11_behindOne 91 = .ok (.getfield 32, 3) := by decide +kernel
theorem dX11_behindOne_94 : decode cX11_behindOne 94 = .ok (.aload_n 0, 1) := by decide +kernel
theorem dX11_behindOne_95 : decode cX11_behindOne 95 = .ok (.invokevirtual 187, 3) := by decide +kernel
theorem dX11_behindOne_98 : decode cX11_behindOne 98 = .ok (.iload_n 3, 1) := by decide +kernel
theorem dX11_behindOne_99 : decode cX11_behindOne 99 = .ok (.iastore, 1) := by decide +kernel
theorem dX11_behindOne_100 : decode cX11_behindOne 100 = .ok (.aload_n 0, 1) := by decide +kernel
theorem dX11_behindOne_101 : decode cX11_behindOne 101 = .ok (.iconst 0, 1) := by decide +kernel
theorem dX11_behindOne_102 : decode cX11_behindOne 102 = .ok (.putfield 203, 3) := by decide +kernel
theorem dX11_behindOne_105 : decode cX11_behindOne 105 = .ok (.iconst 1, 1) := by decide +kernel
theorem dX11_behindOne_106 : decode cX11_behindOne 106 = .ok (.ireturn, 1) := by decide +kernel
theorem dX11_behindOne_107 : decode cX11_behindOne 107 = .ok (.aload_n 0, 1) := by decide +kernel
theorem dX11_behindOne_108 : decode cX11_behindOne 108 = .ok (.dup, 1) := by decide +kernel
theorem dX11_behindOne_109 : decode cX11_behindOne 109 = .ok (.getfield 184, 3) := by decide +kernel
theorem dX11_behindOne_112 : decode cX11_behindOne 112 = .ok (.iconst 1, 1) := by decide +kernel
theorem dX11_behindOne_113 : decode cX11_behindOne 113 = .ok (.isub, 1) := by decide +kernel
theorem dX11_behindOne_114 : decode cX11_behindOne 114 = .ok (.putfield 184, 3) := by decide +kernel
theorem dX11_behindOne_117 : decode cX11_behindOne 117 = .ok (.aload_n 0, 1) := by decide +kernel
theorem dX11_behindOne_118 : decode cX11_behindOne 118 = .ok (.dup, 1) := by decide +kernel
theorem dX11_behindOne_119 : decode cX11_behindOne 119 = .ok (.getfield 174, 3) := by decide +kernel
theorem dX11_behindOne_122 : decode cX11_behindOne 122 = .ok (.iconst 1, 1) := by decide +kernel
theorem dX11_behindOne_123 : decode cX11_behindOne 123 = .ok (.isub, 1) := by decide +kernel
theorem dX11_behindOne_124 : decode cX11_behindOne 124 = .ok (.putfield 174, 3) := by decide +kernel
theorem dX11_behindOne_127 : decode cX11_behindOne 127 = .ok (.iload_n 2, 1) := by decide +kernel
theorem dX11_behindOne_128 : decode cX11_behindOne 128 = .ok (.bipush 43, 2) := by decide +kernel
theorem dX11_behindOne_130 : decode cX11_behindOne 130 = .ok (.if_icmp .ne 9, 3) := by decide +kernel
theorem dX11_behindOne_133 : decode cX11_behindOne 133 = .ok (.aload_n 0, 1) := by decide +kernel
theorem dX11_behindOne_134 : decode cX11_behindOne 134 = .ok (.iconst 3, 1) := by decide +kernel
theorem dX11_behindOne_135 : decode cX11_behindOne 135 = .ok (.iconst 0, 1) := by decide +kernel
theorem dX11_behindOne_136 : decode cX11_behindOne 136 = .ok (.invokevirtual 180, 3) := by decide +kernel
theorem dX11_behindOne_139 : decode cX11_behindOne 139 = .ok (.aload_n 0, 1) := by decide +kernel
theorem dX11_behindOne_140 : decode cX11_behindOne 140 = .ok (.bipush 7, 2) := by decide +kernel
theorem dX11_behindOne_142 : decode cX11_behindOne 142 = .ok (.invokevirtual 207, 3) := by decide +kernel
theorem dX11_behindOne_145 : decode cX11_behindOne 145 = .ok (.iconst 1, 1) := by decide +kernel
theorem dX11_behindOne_146 : decode cX11_behindOne 146 = .ok (.ireturn, 1) := by decide +kernel
theorem gX11_behindOne_0 {d : Nat} {M : ev_Mem} {Q : Option Value → ev_Mem → Prop} (h : (∃ Q2 : Option Value → ev_Mem → Prop, Cl LM d mX11_betweenOf [.ref 0] M Q2 ∧ ∀ (zr : Option Value) (zM : ev_Mem), Q2 zr zM → Ev LM (d + 1) mX11_behindOne 4 [some (.ref 0), none, none, none] (zr.toList ++ []) zM Q)) : Ev LM (d + 1) mX11_behindOne 0 [some (.ref 0), none, none, none] [] M Q := by
  refine ev_aload_n dX11_behindOne_0 rfl ?_
  obtain ⟨Q2, hc, h⟩ := h
  refine ev_callV [] dX11_behindOne_1 ml_WithoutEModel_227 lm_0 rfl rfl (Nat.le_of_ble_eq_true rfl) hc (fun zr zM q => ?_)
  exact h zr zM q
theorem gX11_behindOne_4 {d : Nat} {M : ev_Mem} {Q : Option Value → ev_Mem → Prop} {s0 : Int32} (h : (((s0 < 0) → ((plOK M) ∧ (∃ Q2 : Option Value → ev_Mem → Prop, Cl LM (d + 1) mX11_partOf [.ref 0, .int (opwI M)] M Q2 ∧ ∀ (zr : Option Value) (zM : ev_Mem), Q2 zr zM → Ev LM (d + 2) mX11_behindOne 70 [some (.ref 0), none, some (.int (opwI M)), none] (zr.toList ++ []) zM Q))) ∧ ((¬ s0 < 0) → (((¬ (rkI s0) = 4) → (∃ Q2 : Option Value → ev_Mem → Prop, Cl LM (d + 1) mX11_settle [.ref 0, .int (rkI s0)] M Q2 ∧ ∀ (zr : Option Value) (zM : ev_Mem), Q2 zr zM → Ev LM (d + 2) mX11_behindOne 29 [some (.ref 0), some (.int s0), none, none] (zr.toList ++ []) zM Q)) ∧ (((rkI s0) = 4) → (∃ Q2 : Option Value → ev_Mem → Prop, Cl LM (d + 1) mX11_settle [.ref 0, .int 5] M Q2 ∧ ∀ (zr : Option Value) (zM : ev_Mem), Q2 zr zM → Ev LM (d + 2) mX11_behindOne 29 [some (.ref 0), some (.int s0), none, none] (zr.toList ++ []) zM Q)))))) : Ev LM (d + 2) mX11_behindOne 4 [some (.ref 0), none, none, none] [(.int s0)] M Q := by
  refine ev_istore_n (ls2 := [some (.ref 0), some (.int s0), none, none]) dX11_behindOne_4 (Nat.le_of_ble_eq_true rfl) rfl ?_
  refine ev_iload_n dX11_behindOne_5 rfl ?_
  refine ev_if_lt (tgt := 60) dX11_behindOne_6 (by decide) (fun c => ?_) (fun c => ?_)
  · replace h := h.1 c
    refine ev_aload_n dX11_behindOne_60 rfl ?_
    obtain ⟨p1, h⟩ := h
    refine ev_callV [] dX11_behindOne_61 ml_WithoutEModel_191 lm_0 rfl rfl (Nat.le_of_ble_eq_true rfl) (kX11_openNow p1) ?_
    rintro zr zM ⟨q1, q2⟩
    rw [q1, q2]
    show Ev LM (d + 2) mX11_behindOne 64 [some (.ref 0), some (.int s0), none, none] [(.int (opwI M))] M Q
    refine ev_istore_n (ls2 := [some (.ref 0), some (.int s0), some (.int (opwI M)), none]) dX11_behindOne_64 (Nat.le_of_ble_eq_true rfl) rfl ?_
    refine ev_aload_n dX11_behindOne_65 rfl ?_
    refine ev_iload_n dX11_behindOne_66 rfl ?_
    obtain ⟨Q2, hc, h⟩ := h
    refine ev_callV [.int (opwI M)] dX11_behindOne_67 ml_WithoutEModel_230 lm_0 rfl rfl (Nat.le_of_ble_eq_true rfl) hc (fun zr zM q => ?_)
    refine Ev.weak (ls := [some (.ref 0), none, some (.int (opwI M)), none]) ⟨rfl, rfl, trivial⟩ ?_
    exact h zr zM q
  · replace h := h.2 c
    refine ev_aload_n dX11_behindOne_9 rfl ?_
    refine ev_iload_n dX11_behindOne_10 rfl ?_
    refine ev_callS [.int s0] dX11_behindOne_11 ml_WithoutEModel_177 rfl (Nat.le_of_ble_eq_true rfl) (kX11_rank) ?_
    rintro zr zM ⟨q1, q2⟩
    rw [q1, q2]
    show Ev LM (d + 2) mX11_behindOne 14 [some (.ref 0), some (.int s0), none, none] [(.int (rkI s0)), (.ref 0)] M Q
    refine ev_iconst (v := 4) dX11_behindOne_14 (by decide) ?_
    refine ev_icmp_ne (tgt := 22) dX11_behindOne_15 (by decide) (fun c => ?_) (fun c => ?_)
    · replace h := h.1 c
      refine ev_iload_n dX11_behindOne_22 rfl ?_
      refine ev_callS [.int s0] dX11_behindOne_23 ml_WithoutEModel_177 rfl (Nat.le_of_ble_eq_true rfl) (kX11_rank) ?_
      rintro zr zM ⟨q1, q2⟩
      rw [q1, q2]
      show Ev LM (d + 2) mX11_behindOne 26 [some (.ref 0), some (.int s0), none, none] [(.int (rkI s0)), (.ref 0)] M Q
      obtain ⟨Q2, hc, h⟩ := h
      refine ev_callV [.int (rkI s0)] dX11_behindOne_26 ml_WithoutEModel_207 lm_0 rfl rfl (Nat.le_of_ble_eq_true rfl) hc (fun zr zM q => ?_)
      exact h zr zM q
    · replace h := h.2 c
      refine ev_iconst (v := 5) dX11_behindOne_18 (by decide) ?_
      refine ev_goto (tgt := 26) dX11_behindOne_19 (by decide) ?_
      obtain ⟨Q2, hc, h⟩ := h
      refine ev_callV [.int 5] dX11_behindOne_26 ml_WithoutEModel_207 lm_0 rfl rfl (Nat.le_of_ble_eq_true rfl) hc (fun zr zM q => ?_)
      exact h zr zM q
theorem gX11_behindOne_70 {d : Nat} {M : ev_Mem} {Q : Option Value → ev_Mem → Prop} {x2 s0 : Int32} (h : (((0 ≤ s0) → (∃ Q2 : Option Value → ev_Mem → Prop, Cl LM d mX11_settle [.ref 0, .int 1] M Q2 ∧ ∀ (zr : Option Value) (zM : ev_Mem), Q2 zr zM → Ev LM (d + 1) mX11_behindOne 82 [some (.ref 0), none, some (.int x2), some (.int s0)] (zr.toList ++ []) zM Q)) ∧ ((¬ 0 ≤ s0) → (Q (some (.int 0)) M)))) : Ev LM (d + 1) mX11_behindOne 70 [some (.ref 0), none, some (.int x2), none] [(.int s0)] M Q := by
  refine ev_istore_n (ls2 := [some (.ref 0), none, some (.int x2), some (.int s0)]) dX11_behindOne_70 (Nat.le_of_ble_eq_true rfl) rfl ?_
  refine ev_iload_n dX11_behindOne_71 rfl ?_
  refine ev_if_ge (tgt := 77) dX11_behindOne_72 (by decide) (fun c => ?_) (fun c => ?_)
  · replace h := h.1 c
    refine ev_aload_n dX11_behindOne_77 rfl ?_
    refine ev_iconst (v := 1) dX11_behindOne_78 (by decide) ?_
    obtain ⟨Q2, hc, h⟩ := h
    refine ev_callV [.int 1] dX11_behindOne_79 ml_WithoutEModel_207 lm_0 rfl rfl (Nat.le_of_ble_eq_true rfl) hc (fun zr zM q => ?_)
    exact h zr zM q
  · replace h := h.2 c
    refine ev_iconst (v := 0) dX11_behindOne_75 (by decide) ?_
    exact ev_zret dX11_behindOne_76 rfl (by decide) h
theorem gX11_behindOne_29 {d : Nat} {M : ev_Mem} {Q : Option Value → ev_Mem → Prop} {x1 : Int32} (h : (vp_in (M.1 0 17) 160 ∧ (∀ M1 : ev_Mem, M1 = ev_wr M 6 (M.1 0 17).toNatClampNeg x1 → (∀ M2 : ev_Mem, M2 = ev_wr M1 0 17 ((M1.1 0 17) + 1) → (∀ M3 : ev_Mem, M3 = ev_wr M2 0 19 0 → (∃ Q2 : Option Value → ev_Mem → Prop, Cl LM d mX11_nextToken [.ref 0] M3 Q2 ∧ ∀ (zr : Option Value) (zM : ev_Mem), Q2 zr zM → Ev LM (d + 1) mX11_behindOne 58 [none, none, none, none] (zr.toList ++ []) zM Q)))))) : Ev LM (d + 1) mX11_behindOne 29 [some (.ref 0), some (.int x1), none, none] [] M Q := by
  refine ev_aload_n dX11_behindOne_29 rfl ?_
  refine ev_getA dX11_behindOne_30 fl_WithoutEModel_32 lm_0 rfl ?_
  refine ev_aload_n dX11_behindOne_33 rfl ?_
  refine ev_getI dX11_behindOne_34 fl_WithoutEModel_174 lm_0 rfl ?_
  refine ev_iload_n dX11_behindOne_37 rfl ?_
  obtain ⟨c, h⟩ := h
  refine ev_iast dX11_behindOne_38 lm_6 c ?_
  generalize eM1 : ev_wr M 6 (M.1 0 17).toNatClampNeg x1 = M1
  replace h := h M1 eM1.symm
  refine ev_aload_n dX11_behindOne_39 rfl ?_
  refine ev_dup dX11_behindOne_40 rfl ?_
  refine ev_getI dX11_behindOne_41 fl_WithoutEModel_174 lm_0 rfl ?_
  refine ev_iconst (v := 1) dX11_behindOne_44 (by decide) ?_
  refine ev_iadd dX11_behindOne_45 ?_
  refine ev_putI dX11_behindOne_46 fp_WithoutEModel_174 lm_0 rfl rfl rfl ?_
  generalize eM2 : ev_wr M1 0 17 ((M1.1 0 17) + 1) = M2
  replace h := h M2 eM2.symm
  refine ev_aload_n dX11_behindOne_49 rfl ?_
  refine ev_iconst (v := 0) dX11_behindOne_50 (by decide) ?_
  refine ev_putI dX11_behindOne_51 fp_WithoutEModel_203 lm_0 rfl (by decide) (by decide) ?_
  generalize eM3 : ev_wr M2 0 19 0 = M3
  replace h := h M3 eM3.symm
  refine ev_aload_n dX11_behindOne_54 rfl ?_
  obtain ⟨Q2, hc, h⟩ := h
  refine ev_callV [] dX11_behindOne_55 ml_WithoutEModel_194 lm_0 rfl rfl (Nat.le_of_ble_eq_true rfl) hc (fun zr zM q => ?_)
  refine Ev.weak (ls := [none, none, none, none]) trivial ?_
  exact h zr zM q
theorem gX11_behindOne_82 {d : Nat} {M : ev_Mem} {Q : Option Value → ev_Mem → Prop} {x2 x3 : Int32} (h : (∃ Q2 : Option Value → ev_Mem → Prop, Cl LM d mX11_nextToken [.ref 0] M Q2 ∧ ∀ (zr : Option Value) (zM : ev_Mem), Q2 zr zM → Ev LM (d + 1) mX11_behindOne 86 [some (.ref 0), none, some (.int x2), some (.int x3)] (zr.toList ++ []) zM Q)) : Ev LM (d + 1) mX11_behindOne 82 [some (.ref 0), none, some (.int x2), some (.int x3)] [] M Q := by
  refine ev_aload_n dX11_behindOne_82 rfl ?_
  obtain ⟨Q2, hc, h⟩ := h
  refine ev_callV [] dX11_behindOne_83 ml_WithoutEModel_194 lm_0 rfl rfl (Nat.le_of_ble_eq_true rfl) hc (fun zr zM q => ?_)
  exact h zr zM q
theorem gX11_behindOne_58 {d : Nat} {M : ev_Mem} {Q : Option Value → ev_Mem → Prop} (h : (Q (some (.int 1)) M)) : Ev LM d mX11_behindOne 58 [none, none, none, none] [] M Q := by
  refine ev_iconst (v := 1) dX11_behindOne_58 (by decide) ?_
  exact ev_zret dX11_behindOne_59 rfl (by decide) h
theorem gX11_behindOne_86 {d : Nat} {M : ev_Mem} {Q : Option Value → ev_Mem → Prop} {x2 x3 : Int32} (h : (((x3 ≤ 0) → (∀ M1 : ev_Mem, M1 = ev_wr M 0 18 ((M.1 0 18) - 1) → (∀ M2 : ev_Mem, M2 = ev_wr M1 0 17 ((M1.1 0 17) - 1) → (((¬ x2 = 43) → (∃ Q2 : Option Value → ev_Mem → Prop, Cl LM d mX11_settle [.ref 0, .int 7] M2 Q2 ∧ ∀ (zr : Option Value) (zM : ev_Mem), Q2 zr zM → Ev LM (d + 1) mX11_behindOne 145 [none, none, none, none] (zr.toList ++ []) zM Q)) ∧ ((x2 = 43) → (∃ Q2 : Option Value → ev_Mem → Prop, Cl LM d mX11_emit [.ref 0, .int 3, .int 0] M2 Q2 ∧ ∀ (zr : Option Value) (zM : ev_Mem), Q2 zr zM → Ev LM (d + 1) mX11_behindOne 139 [some (.ref 0), none, none, none] (zr.toList ++ []) zM Q)))))) ∧ ((¬ x3 ≤ 0) → ((plOK M) ∧ (vp_in (oaI M) 160 ∧ (∀ M3 : ev_Mem, M3 = ev_wr M 6 (oaI M).toNatClampNeg x3 → (∀ M4 : ev_Mem, M4 = ev_wr M3 0 19 0 → (Q (some (.int 1)) M4)))))))) : Ev LM (d + 1) mX11_behindOne 86 [some (.ref 0), none, some (.int x2), some (.int x3)] [] M Q := by
  refine ev_iload_n dX11_behindOne_86 rfl ?_
  refine ev_if_le (tgt := 107) dX11_behindOne_87 (by decide) (fun c => ?_) (fun c => ?_)
  · replace h := h.1 c
    refine ev_aload_n dX11_behindOne_107 rfl ?_
    refine ev_dup dX11_behindOne_108 rfl ?_
    refine ev_getI dX11_behindOne_109 fl_WithoutEModel_184 lm_0 rfl ?_
    refine ev_iconst (v := 1) dX11_behindOne_112 (by decide) ?_
    refine ev_isub dX11_behindOne_113 ?_
    refine ev_putI dX11_behindOne_114 fp_WithoutEModel_184 lm_0 rfl rfl rfl ?_
    generalize eM1 : ev_wr M 0 18 ((M.1 0 18) - 1) = M1
    replace h := h M1 eM1.symm
    refine ev_aload_n dX11_behindOne_117 rfl ?_
    refine ev_dup dX11_behindOne_118 rfl ?_
    refine ev_getI dX11_behindOne_119 fl_WithoutEModel_174 lm_0 rfl ?_
    refine ev_iconst (v := 1) dX11_behindOne_122 (by decide) ?_
    refine ev_isub dX11_behindOne_123 ?_
    refine ev_putI dX11_behindOne_124 fp_WithoutEModel_174 lm_0 rfl rfl rfl ?_
    generalize eM2 : ev_wr M1 0 17 ((M1.1 0 17) - 1) = M2
    replace h := h M2 eM2.symm
    refine ev_iload_n dX11_behindOne_127 rfl ?_
    refine ev_bipush (v := 43) dX11_behindOne_128 (by decide) ?_
    refine ev_icmp_ne (tgt := 139) dX11_behindOne_130 (by decide) (fun c => ?_) (fun c => ?_)
    · replace h := h.1 c
      refine ev_aload_n dX11_behindOne_139 rfl ?_
      refine ev_bipush (v := 7) dX11_behindOne_140 (by decide) ?_
      obtain ⟨Q2, hc, h⟩ := h
      refine ev_callV [.int 7] dX11_behindOne_142 ml_WithoutEModel_207 lm_0 rfl rfl (Nat.le_of_ble_eq_true rfl) hc (fun zr zM q => ?_)
      refine Ev.weak (ls := [none, none, none, none]) trivial ?_
      exact h zr zM q
    · replace h := h.2 c
      refine ev_aload_n dX11_behindOne_133 rfl ?_
      refine ev_iconst (v := 3) dX11_behindOne_134 (by decide) ?_
      refine ev_iconst (v := 0) dX11_behindOne_135 (by decide) ?_
      obtain ⟨Q2, hc, h⟩ := h
      refine ev_callV [.int 3, .int 0] dX11_behindOne_136 ml_WithoutEModel_180 lm_0 rfl rfl (Nat.le_of_ble_eq_true rfl) hc (fun zr zM q => ?_)
      refine Ev.weak (ls := [some (.ref 0), none, none, none]) ⟨rfl, trivial⟩ ?_
      exact h zr zM q
  · replace h := h.2 c
    refine ev_aload_n dX11_behindOne_90 rfl ?_
    refine ev_getA dX11_behindOne_91 fl_WithoutEModel_32 lm_0 rfl ?_
    refine ev_aload_n dX11_behindOne_94 rfl ?_
    obtain ⟨p1, h⟩ := h
    refine ev_callV [] dX11_behindOne_95 ml_WithoutEModel_187 lm_0 rfl rfl (Nat.le_of_ble_eq_true rfl) (kX11_openAt p1) ?_
    rintro zr zM ⟨q1, q2⟩
    rw [q1, q2]
    show Ev LM (d + 1) mX11_behindOne 98 [some (.ref 0), none, some (.int x2), some (.int x3)] [(.int (oaI M)), (.ref 6)] M Q
    refine ev_iload_n dX11_behindOne_98 rfl ?_
    obtain ⟨c, h⟩ := h
    refine ev_iast dX11_behindOne_99 lm_6 c ?_
    generalize eM3 : ev_wr M 6 (oaI M).toNatClampNeg x3 = M3
    replace h := h M3 eM3.symm
    refine ev_aload_n dX11_behindOne_100 rfl ?_
    refine ev_iconst (v := 0) dX11_behindOne_101 (by decide) ?_
    refine ev_putI dX11_behindOne_102 fp_WithoutEModel_203 lm_0 rfl (by decide) (by decide) ?_
    generalize eM4 : ev_wr M3 0 19 0 = M4
    replace h := h M4 eM4.symm
    refine ev_iconst (v := 1) dX11_behindOne_105 (by decide) ?_
    exact ev_zret dX11_behindOne_106 rfl (by decide) h
theorem gX11_behindOne_145 {d : Nat} {M : ev_Mem} {Q : Option Value → ev_Mem → Prop} (h : (Q (some (.int 1)) M)) : Ev LM d mX11_behindOne 145 [none, none, none, none] [] M Q := by
  refine ev_iconst (v := 1) dX11_behindOne_145 (by decide) ?_
  exact ev_zret dX11_behindOne_146 rfl (by decide) h
theorem gX11_behindOne_139 {d : Nat} {M : ev_Mem} {Q : Option Value → ev_Mem → Prop} (h : (∃ Q2 : Option Value → ev_Mem → Prop, Cl LM d mX11_settle [.ref 0, .int 7] M Q2 ∧ ∀ (zr : Option Value) (zM : ev_Mem), Q2 zr zM → Ev LM (d + 1) mX11_behindOne 145 [none, none, none, none] (zr.toList ++ []) zM Q)) : Ev LM (d + 1) mX11_behindOne 139 [some (.ref 0), none, none, none] [] M Q := by
  refine ev_aload_n dX11_behindOne_139 rfl ?_
  refine ev_bipush (v := 7) dX11_behindOne_140 (by decide) ?_
  obtain ⟨Q2, hc, h⟩ := h
  refine ev_callV [.int 7] dX11_behindOne_142 ml_WithoutEModel_207 lm_0 rfl rfl (Nat.le_of_ble_eq_true rfl) hc (fun zr zM q => ?_)
  refine Ev.weak (ls := [none, none, none, none]) trivial ?_
  exact h zr zM q
theorem dX11_summed_0 : decode cX11_summed 0 = .ok (.aload_n 0, 1) := by decide +kernel
theorem dX11_summed_1 : decode cX11_summed 1 = .ok (.iconst 0, 1) := by decide +kernel
theorem dX11_summed_2 : decode cX11_summed 2 = .ok (.putfield 174, 3) := by decide +kernel
theorem dX11_summed_5 : decode cX11_summed 5 = .ok (.aload_n 0, 1) := by decide +kernel
theorem dX11_summed_6 : decode cX11_summed 6 = .ok (.iconst 0, 1) := by decide +kernel
theorem dX11_summed_7 : decode cX11_summed 7 = .ok (.putfield 184, 3) := by decide +kernel
theorem dX11_summed_10 : decode cX11_summed 10 = .ok (.aload_n 0, 1) := by decide +kernel
theorem dX11_summed_11 : decode cX11_summed 11 = .ok (.iconst 0, 1) := by decide +kernel
theorem dX11_summed_12 : decode cX11_summed 12 = .ok (.putfield 203, 3) := by decide +kernel
theorem dX11_summed_15 : decode cX11_summed 15 = .ok (.aload_n 0, 1) := by decide +kernel
theorem dX11_summed_16 : decode cX11_summed 16 = .ok (.getfield 203, 3) := by decide +kernel
theorem dX11_summed_19 : decode cX11_summed 19 = .ok (.ifCond .eq 29, 3) := by decide +kernel
theorem dX11_summed_22 : decode cX11_summed 22 = .ok (.aload_n 0, 1) := by decide +kernel
theorem dX11_summed_23 : decode cX11_summed 23 = .ok (.invokevirtual 233, 3) := by decide +kernel
theorem dX11_summed_26 : decode cX11_summed 26 = .ok (.ifCond .eq 6, 3) := by decide +kernel
theorem dX11_summed_29 : decode cX11_summed 29 = .ok (.goto (-14), 3) := by decide +kernel
theorem dX11_summed_32 : decode cX11_summed 32 = .ok (.aload_n 0, 1) := by decide +kernel
theorem dX11_summed_33 : decode cX11_summed 33 = .ok (.invokevirtual 191, 3) := by decide +kernel
theorem dX11_summed_36 : decode cX11_summed 36 = .ok (.ifCond .lt 5, 3) := by decide +kernel
theorem dX11_summed_39 : decode cX11_summed 39 = .ok (.iconst 1, 1) := by decide +kernel
theorem dX11_summed_40 : decode cX11_summed 40 = .ok (.ireturn, 1) := by decide +kernel
theorem dX11_summed_41 : decode cX11_summed 41 = .ok (.aload_n 0, 1) := by decide +kernel
theorem dX11_summed_42 : decode cX11_summed 42 = .ok (.iconst 1, 1) := by decide +kernel
theorem dX11_summed_43 : decode cX11_summed 43 = .ok (.invokevirtual 207, 3) := by decide +kernel
theorem dX11_summed_46 : decode cX11_summed 46 = .ok (.iconst 0, 1) := by decide +kernel
theorem dX11_summed_47 : decode cX11_summed 47 = .ok (.ireturn, 1) := by decide +kernel
theorem dX11_summed_48 : decode cX11_summed 48 = .ok (.aload_n 0, 1) := by decide +kernel
theorem dX11_summed_49 : decode cX11_summed 49 = .ok (.invokevirtual 236, 3) := by decide +kernel
theorem dX11_summed_52 : decode cX11_summed 52 = .ok (.istore_n 1, 1) := by decide +kernel
theorem dX11_summed_53 : decode cX11_summed 53 = .ok (.iload_n 1, 1) := by decide +kernel
theorem dX11_summed_54 : decode cX11_summed 54 = .ok (.ifCond .eq 5, 3) := by decide +kernel
theorem dX11_summed_57 : decode cX11_summed 57 = .ok (.iload_n 1, 1) := by decide +kernel
theorem dX11_summed_58 : decode cX11_summed 58 = .ok (.ireturn, 1) := by decide +kernel
theorem dX11_summed_59 : decode cX11_summed 59 = .ok (.goto (-44), 3) := by decide +kernel
theorem gX11_summed_0 {d : Nat} {M : ev_Mem} {Q : Option Value → ev_Mem → Prop} (h : (∀ M1 : ev_Mem, M1 = ev_wr M 0 17 0 → (∀ M2 : ev_Mem, M2 = ev_wr M1 0 18 0 → (∀ M3 : ev_Mem, M3 = ev_wr M2 0 19 0 → (Ev LM d mX11_summed 15 [some (.ref 0), none] [] M3 Q))))) : Ev LM d mX11_summed 0 [some (.ref 0), none] [] M Q := by
  refine ev_aload_n dX11_summed_0 rfl ?_
  refine ev_iconst (v := 0) dX11_summed_1 (by decide) ?_
  refine ev_putI dX11_summed_2 fp_WithoutEModel_174 lm_0 rfl rfl rfl ?_
  generalize eM1 : ev_wr M 0 17 0 = M1
  replace h := h M1 eM1.symm
  refine ev_aload_n dX11_summed_5 rfl ?_
  refine ev_iconst (v := 0) dX11_summed_6 (by decide) ?_
  refine ev_putI dX11_summed_7 fp_WithoutEModel_184 lm_0 rfl rfl rfl ?_
  generalize eM2 : ev_wr M1 0 18 0 = M2
  replace h := h M2 eM2.symm
  refine ev_aload_n dX11_summed_10 rfl ?_
  refine ev_iconst (v := 0) dX11_summed_11 (by decide) ?_
  refine ev_putI dX11_summed_12 fp_WithoutEModel_203 lm_0 rfl (by decide) (by decide) ?_
  generalize eM3 : ev_wr M2 0 19 0 = M3
  replace h := h M3 eM3.symm
  exact h
theorem gX11_summed_15 {d : Nat} {M : ev_Mem} {Q : Option Value → ev_Mem → Prop} (h : ((((M.1 0 19) = 0) → (∃ Q2 : Option Value → ev_Mem → Prop, Cl LM d mX11_beginOne [.ref 0] M Q2 ∧ ∀ (zr : Option Value) (zM : ev_Mem), Q2 zr zM → Ev LM (d + 1) mX11_summed 52 [some (.ref 0), none] (zr.toList ++ []) zM Q)) ∧ ((¬ (M.1 0 19) = 0) → (∃ Q2 : Option Value → ev_Mem → Prop, Cl LM d mX11_behindOne [.ref 0] M Q2 ∧ ∀ (zr : Option Value) (zM : ev_Mem), Q2 zr zM → Ev LM (d + 1) mX11_summed 26 [some (.ref 0), none] (zr.toList ++ []) zM Q)))) : Ev LM (d + 1) mX11_summed 15 [some (.ref 0), none] [] M Q := by
  refine ev_aload_n dX11_summed_15 rfl ?_
  refine ev_getI dX11_summed_16 fl_WithoutEModel_203 lm_0 rfl ?_
  refine ev_if_eq (tgt := 48) dX11_summed_19 (by decide) (fun c => ?_) (fun c => ?_)
  · replace h := h.1 c
    refine ev_aload_n dX11_summed_48 rfl ?_
    obtain ⟨Q2, hc, h⟩ := h
    refine ev_callV [] dX11_summed_49 ml_WithoutEModel_236 lm_0 rfl rfl (Nat.le_of_ble_eq_true rfl) hc (fun zr zM q => ?_)
    exact h zr zM q
  · replace h := h.2 c
    refine ev_aload_n dX11_summed_22 rfl ?_
    obtain ⟨Q2, hc, h⟩ := h
    refine ev_callV [] dX11_summed_23 ml_WithoutEModel_233 lm_0 rfl rfl (Nat.le_of_ble_eq_true rfl) hc (fun zr zM q => ?_)
    exact h zr zM q
theorem gX11_summed_52 {d : Nat} {M : ev_Mem} {Q : Option Value → ev_Mem → Prop} {s0 : Int32} (h : (((s0 = 0) → (Ev LM d mX11_summed 15 [some (.ref 0), none] [] M Q)) ∧ ((¬ s0 = 0) → (Q (some (.int s0)) M)))) : Ev LM d mX11_summed 52 [some (.ref 0), none] [(.int s0)] M Q := by
  refine ev_istore_n (ls2 := [some (.ref 0), some (.int s0)]) dX11_summed_52 (Nat.le_of_ble_eq_true rfl) rfl ?_
  refine ev_iload_n dX11_summed_53 rfl ?_
  refine ev_if_eq (tgt := 59) dX11_summed_54 (by decide) (fun c => ?_) (fun c => ?_)
  · replace h := h.1 c
    refine ev_goto (tgt := 15) dX11_summed_59 (by decide) ?_
    refine Ev.weak (ls := [some (.ref 0), none]) ⟨rfl, trivial⟩ ?_
    exact h
  · replace h := h.2 c
    refine ev_iload_n dX11_summed_57 rfl ?_
    exact ev_iret dX11_summed_58 rfl h
theorem gX11_summed_26 {d : Nat} {M : ev_Mem} {Q : Option Value → ev_Mem → Prop} {s0 : Int32} (h : (((s0 = 0) → ((plOK M) ∧ ((((opwI M) < 0) → (∃ Q2 : Option Value → ev_Mem → Prop, Cl LM (d + 1) mX11_settle [.ref 0, .int 1] M Q2 ∧ ∀ (zr : Option Value) (zM : ev_Mem), Q2 zr zM → Ev LM (d + 2) mX11_summed 46 [none, none] (zr.toList ++ []) zM Q)) ∧ ((¬ (opwI M) < 0) → (Q (some (.int 1)) M))))) ∧ ((¬ s0 = 0) → (Ev LM (d + 2) mX11_summed 15 [some (.ref 0), none] [] M Q)))) : Ev LM (d + 2) mX11_summed 26 [some (.ref 0), none] [(.int s0)] M Q := by
  refine ev_if_eq (tgt := 32) dX11_summed_26 (by decide) (fun c => ?_) (fun c => ?_)
  · replace h := h.1 c
    refine ev_aload_n dX11_summed_32 rfl ?_
    obtain ⟨p1, h⟩ := h
    refine ev_callV [] dX11_summed_33 ml_WithoutEModel_191 lm_0 rfl rfl (Nat.le_of_ble_eq_true rfl) (kX11_openNow p1) ?_
    rintro zr zM ⟨q1, q2⟩
    rw [q1, q2]
    show Ev LM (d + 2) mX11_summed 36 [some (.ref 0), none] [(.int (opwI M))] M Q
    refine ev_if_lt (tgt := 41) dX11_summed_36 (by decide) (fun c => ?_) (fun c => ?_)
    · replace h := h.1 c
      refine ev_aload_n dX11_summed_41 rfl ?_
      refine ev_iconst (v := 1) dX11_summed_42 (by decide) ?_
      obtain ⟨Q2, hc, h⟩ := h
      refine ev_callV [.int 1] dX11_summed_43 ml_WithoutEModel_207 lm_0 rfl rfl (Nat.le_of_ble_eq_true rfl) hc (fun zr zM q => ?_)
      refine Ev.weak (ls := [none, none]) trivial ?_
      exact h zr zM q
    · replace h := h.2 c
      refine ev_iconst (v := 1) dX11_summed_39 (by decide) ?_
      exact ev_iret dX11_summed_40 rfl h
  · replace h := h.2 c
    refine ev_goto (tgt := 15) dX11_summed_29 (by decide) ?_
    exact h
theorem gX11_summed_46 {d : Nat} {M : ev_Mem} {Q : Option Value → ev_Mem → Prop} (h : (Q (some (.int 0)) M)) : Ev LM d mX11_summed 46 [none, none] [] M Q := by
  refine ev_iconst (v := 0) dX11_summed_46 (by decide) ?_
  exact ev_iret dX11_summed_47 rfl h
theorem dX11_beginOne_0 : decode cX11_beginOne 0 = .ok (.aload_n 0, 1) := by decide +kernel
theorem dX11_beginOne_1 : decode cX11_beginOne 1 = .ok (.getfield 119, 3) := by decide +kernel
theorem dX11_beginOne_4 : decode cX11_beginOne 4 = .ok (.iconst 1, 1) := by decide +kernel
theorem dX11_beginOne_5 : decode cX11_beginOne 5 = .ok (.if_icmp .ne 15, 3) := by decide +kernel
theorem dX11_beginOne_8 : decode cX11_beginOne 8 = .ok (.aload_n 0, 1) := by decide +kernel
theorem dX11_beginOne_9 : decode cX11_beginOne 9 = .ok (.getfield 125, 3) := by decide +kernel
theorem dX11_beginOne_12 : decode cX11_beginOne 12 = .ok (.sipush 9999, 3) := by decide +kernel
theorem dX11_beginOne_15 : decode cX11_beginOne 15 = .ok (.if_icmp .le 5, 3) := by decide +kernel
theorem dX11_beginOne_18 : decode cX11_beginOne 18 = .ok (.iconst 2, 1) := by decide +kernel
theorem dX11_beginOne_19 : decode cX11_beginOne 19 = .ok (.ireturn, 1) := by decide +kernel
theorem dX11_beginOne_20 : decode cX11_beginOne 20 = .ok (.aload_n 0, 1) := by decide +kernel
theorem dX11_beginOne_21 : decode cX11_beginOne 21 = .ok (.invokevirtual 197, 3) := by decide +kernel
theorem dX11_beginOne_24 : decode cX11_beginOne 24 = .ok (.istore_n 1, 1) := by decide +kernel
theorem dX11_beginOne_25 : decode cX11_beginOne 25 = .ok (.iload_n 1, 1) := by decide +kernel
theorem dX11_beginOne_26 : decode cX11_beginOne 26 = .ok (.ifCond .lt 13, 3) := by decide +kernel
theorem dX11_beginOne_29 : decode cX11_beginOne 29 = .ok (.aload_n 0, 1) := by decide +kernel
theorem dX11_beginOne_30 : decode cX11_beginOne 30 = .ok (.iload_n 1, 1) := by decide +kernel
theorem dX11_beginOne_31 : decode cX11_beginOne 31 = .ok (.invokevirtual 200, 3) := by decide +kernel
theorem dX11_beginOne_34 : decode cX11_beginOne 34 = .ok (.ifCond .ne 5, 3) := by decide +kernel
theorem dX11_beginOne_37 : decode cX11_beginOne 37 = .ok (.iconst 5, 1) := by decide +kernel
theorem dX11_beginOne_38 : decode cX11_beginOne 38 = .ok (.ireturn, 1) := by decide +kernel
theorem dX11_beginOne_39 : decode cX11_beginOne 39 = .ok (.aload_n 0, 1) := by decide +kernel
theorem dX11_beginOne_40 : decode cX11_beginOne 40 = .ok (.getfield 119, 3) := by decide +kernel
theorem dX11_beginOne_43 : decode cX11_beginOne 43 = .ok (.iconst 1, 1) := by decide +kernel
theorem dX11_beginOne_44 : decode cX11_beginOne 44 = .ok (.if_icmp .eq 7, 3) := by decide +kernel
theorem dX11_beginOne_47 : decode cX11_beginOne 47 = .ok (.iload_n 1, 1) := by decide +kernel
theorem dX11_beginOne_48 : decode cX11_beginOne 48 = .ok (.ifCond .lt 53, 3) := by decide +kernel
theorem dX11_beginOne_51 : decode cX11_beginOne 51 = .ok (.aload_n 0, 1) := by decide +kernel
theorem dX11_beginOne_52 : decode cX11_beginOne 52 = .ok (.aload_n 0, 1) := by decide +kernel
theorem dX11_beginOne_53 : decode cX11_beginOne 53 = .ok (.getfield 119, 3) := by decide +kernel
theorem dX11_beginOne_56 : decode cX11_beginOne 56 = .ok (.iconst 1, 1) := by decide +kernel
theorem dX11_beginOne_57 : decode cX11_beginOne 57 = .ok (.if_icmp .ne 7, 3) := by decide +kernel
theorem dX11_beginOne_60 : decode cX11_beginOne 60 = .ok (.iconst 0, 1) := by decide +kernel
theorem dX11_beginOne_61 : decode cX11_beginOne 61 = .ok (.goto 4, 3) := by decide +kernel
theorem dX11_beginOne_64 : decode cX11_beginOne 64 = .ok (.iconst 1, 1) := by decide +kernel
theorem dX11_beginOne_65 : decode cX11_beginOne 65 = .ok (.aload_n 0, 1) := by decide +kernel
theorem dX11_beginOne_66 : decode cX11_beginOne 66 = .ok (.getfield 119, 3) := by decide +kernel
theorem dX11_beginOne_69 : decode cX11_beginOne 69 = .ok (.iconst 1, 1) := by decide +kernel
theorem dX11_beginOne_70 : decode cX11_beginOne 70 = .ok (.if_icmp .ne 10, 3) := by decide +kernel
theorem dX11_beginOne_73 : decode cX11_beginOne 73 = .ok (.aload_n 0, 1) := by decide +kernel
theorem dX11_beginOne_74 : decode cX11_beginOne 74 = .ok (.getfield 125, 3) := by decide +kernel
theorem dX11_beginOne_77 : decode cX11_beginOne 77 = .ok (.goto 4, 3) := by decide +kernel
theorem dX11_beginOne_80 : decode cX11_beginOne 80 = .ok (.iload_n 1, 1) := by decide +kernel
theorem dX11_beginOne_81 : decode cX11_beginOne 81 = .ok (.invokevirtual 180, 3) := by decide +kernel
theorem dX11_beginOne_84 : decode cX11_beginOne 84 = .ok (.aload_n 0, 1) := by decide +kernel
theorem dX11_beginOne_85 : decode cX11_beginOne 85 = .ok (.invokevirtual 194, 3) := by decide +kernel
theorem dX11_beginOne_88 : decode cX11_beginOne 88 = .ok (.aload_n 0, 1) := by decide +kernel
theorem dX11_beginOne_89 : decode cX11_beginOne 89 = .ok (.iconst 1, 1) := by decide +kernel
theorem dX11_beginOne_90 : decode cX11_beginOne 90 = .ok (.putfield 203, 3) := by decide +kernel
theorem dX11_beginOne_93 : decode cX11_beginOne 93 = .ok (.aload_n 0, 1) := by decide +kernel
theorem dX11_beginOne_94 : decode cX11_beginOne 94 = .ok (.bipush 7, 2) := by decide +kernel
theorem dX11_beginOne_96 : decode cX11_beginOne 96 = .ok (.invokevirtual 207, 3) := by decide +kernel
theorem dX11_beginOne_99 : decode cX11_beginOne 99 = .ok (.iconst 0, 1) := by decide +kernel
theorem dX11_beginOne_100 : decode cX11_beginOne 100 = .ok (.ireturn, 1) := by decide +kernel
theorem dX11_beginOne_101 : decode cX11_beginOne 101 = .ok (.aload_n 0, 1) := by decide +kernel
theorem dX11_beginOne_102 : decode cX11_beginOne 102 = .ok (.getfield 119, 3) := by decide +kernel
theorem dX11_beginOne_105 : decode cX11_beginOne 105 = .ok (.bipush 40, 2) := by decide +kernel
theorem dX11_beginOne_107 : decode cX11_beginOne 107 = .ok (.if_icmp .ne 10, 3) := by decide +kernel
theorem dX11_beginOne_110 : decode cX11_beginOne 110 = .ok (.aload_n 0, 1) := by decide +kernel
theorem dX11_beginOne_111 : decode cX11_beginOne 111 = .ok (.bipush 40, 2) := by decide +kernel
theorem dX11_beginOne_113 : decode cX11_beginOne 113 = .ok (.invokevirtual 210, 3) := by decide +kernel
theorem dX11_beginOne_116 : decode cX11_beginOne 116 = .ok (.ireturn, 1) := by decide +kernel
theorem dX11_beginOne_117 : decode cX11_beginOne 117 = .ok (.aload_n 0, 1) := by decide +kernel
theorem dX11_beginOne_118 : decode cX11_beginOne 118 = .ok (.getfield 119, 3) := by decide +kernel
theorem dX11_beginOne_121 : decode cX11_beginOne 121 = .ok (.bipush 45, 2) := by decide +kernel
theorem dX11_beginOne_123 : decode cX11_beginOne 123 = .ok (.if_icmp .ne 9, 3) := by decide +kernel
theorem dX11_beginOne_126 : decode cX11_beginOne 126 = .ok (.aload_n 0, 1) := by decide +kernel
theorem dX11_beginOne_127 : decode cX11_beginOne 127 = .ok (.iconst 4, 1) := by decide +kernel
theorem dX11_beginOne_128 : decode cX11_beginOne 128 = .ok (.invokevirtual 210, 3) := by decide +kernel
theorem dX11_beginOne_131 : decode cX11_beginOne 131 = .ok (.ireturn, 1) := by decide +kernel
theorem dX11_beginOne_132 : decode cX11_beginOne 132 = .ok (.aload_n 0, 1) := by decide +kernel
theorem dX11_beginOne_133 : decode cX11_beginOne 133 = .ok (.bipush 117, 2) := by decide +kernel
theorem dX11_beginOne_135 : decode cX11_beginOne 135 = .ok (.bipush 115, 2) := by decide +kernel
theorem dX11_beginOne_137 : decode cX11_beginOne 137 = .ok (.bipush 101, 2) := by decide +kernel
theorem dX11_beginOne_139 : decode cX11_beginOne 139 = .ok (.bipush 115, 2) := by decide +kernel
theorem dX11_beginOne_141 : decode cX11_beginOne 141 = .ok (.invokestatic 149, 3) := by decide +kernel
theorem dX11_beginOne_144 : decode cX11_beginOne 144 = .ok (.invokevirtual 213, 3) := by decide +kernel
theorem dX11_beginOne_147 : decode cX11_beginOne 147 = .ok (.ifCond .eq 9, 3) := by decide +kernel
theorem dX11_beginOne_150 : decode cX11_beginOne 150 = .ok (.aload_n 0, 1) := by decide +kernel
theorem dX11_beginOne_151 : decode cX11_beginOne 151 = .ok (.iconst 2, 1) := by decide +kernel
theorem dX11_beginOne_152 : decode cX11_beginOne 152 = .ok (.invokevirtual 210, 3) := by decide +kernel
theorem dX11_beginOne_155 : decode cX11_beginOne 155 = .ok (.ireturn, 1) := by decide +kernel
theorem dX11_beginOne_156 : decode cX11_beginOne 156 = .ok (.aload_n 0, 1) := by decide +kernel
theorem dX11_beginOne_157 : decode cX11_beginOne 157 = .ok (.bipush 105, 2) := by decide +kernel
theorem dX11_beginOne_159 : decode cX11_beginOne 159 = .ok (.bipush 102, 2) := by decide +kernel
theorem dX11_beginOne_161 : decode cX11_beginOne 161 = .ok (.invokestatic 141, 3) := by decide +kernel
theorem dX11_beginOne_164 : decode cX11_beginOne 164 = .ok (.invokevirtual 213, 3) := by decide +kernel
theorem dX11_beginOne_167 : decode cX11_beginOne 167 = .ok (.ifCond .eq 10, 3) := by decide +kernel
theorem dX11_beginOne_170 : decode cX11_beginOne 170 = .ok (.aload_n 0, 1) := by decide +kernel
theorem dX11_beginOne_171 : decode cX11_beginOne 171 = .ok (.bipush 41, 2) := by decide +kernel
theorem dX11_beginOne_173 : decode cX11_beginOne 173 = .ok (.invokevirtual 210, 3) := by decide +kernel
theorem dX11_beginOne_176 : decode cX11_beginOne 176 = .ok (.ireturn, 1) := by decide +kernel
theorem dX11_beginOne_177 : decode cX11_beginOne 177 = .ok (.aload_n 0, 1) := by decide +kernel
theorem dX11_beginOne_178 : decode cX11_beginOne 178 = .ok (.bipush 110, 2) := by decide +kernel
theorem dX11_beginOne_180 : decode cX11_beginOne 180 = .ok (.bipush 111, 2) := by decide +kernel
theorem dX11_beginOne_182 : decode cX11_beginOne 182 = .ok (.bipush 116, 2) := by decide +kernel
theorem dX11_beginOne_184 : decode cX11_beginOne 184 = .ok (.invokestatic 145, 3) := by decide +kernel
theorem dX11_beginOne_187 : decode cX11_beginOne 187 = .ok (.invokevirtual 213, 3) := by decide +kernel
theorem dX11_beginOne_190 : decode cX11_beginOne 190 = .ok (.ifCond .eq 19, 3) := by decide +kernel
theorem dX11_beginOne_193 : decode cX11_beginOne 193 = .ok (.aload_n 0, 1) := by decide +kernel
theorem dX11_beginOne_194 : decode cX11_beginOne 194 = .ok (.invokevirtual 217, 3) := by decide +kernel
theorem dX11_beginOne_197 : decode cX11_beginOne 197 = .ok (.ifCond .eq 12, 3) := by decide +kernel
theorem dX11_beginOne_200 : decode cX11_beginOne 200 = .ok (.aload_n 0, 1) := by decide +kernel
theorem dX11_beginOne_201 : decode cX11_beginOne 201 = .ok (.bipush 20, 2) := by decide +kernel
theorem dX11_beginOne_203 : decode cX11_beginOne 203 = .ok (.invokevirtual 210, 3) := by decide +kernel
theorem dX11_beginOne_206 : decode cX11_beginOne 206 = .ok (.goto 4, 3) := by decide +kernel
theorem dX11_beginOne_209 : decode cX11_beginOne 209 = .ok (.iconst 1, 1) := by decide +kernel
theorem dX11_beginOne_210 : decode cX11_beginOne 210 = .ok (.ireturn, 1) := by decide +kernel
theorem gX11_beginOne_0 {d : Nat} {M : ev_Mem} {Q : Option Value → ev_Mem → Prop} (h : (((¬ (M.1 0 10) = 1) → (∃ Q2 : Option Value → ev_Mem → Prop, Cl LM d mX11_nameOf [.ref 0] M Q2 ∧ ∀ (zr : Option Value) (zM : ev_Mem), Q2 zr zM → Ev LM (d + 1) mX11_beginOne 24 [some (.ref 0), none] (zr.toList ++ []) zM Q)) ∧ (((M.1 0 10) = 1) → ((((M.1 0 11) ≤ 9999) → (∃ Q2 : Option Value → ev_Mem → Prop, Cl LM d mX11_nameOf [.ref 0] M Q2 ∧ ∀ (zr : Option Value) (zM : ev_Mem), Q2 zr zM → Ev LM (d + 1) mX11_beginOne 24 [some (.ref 0), none] (zr.toList ++ []) zM Q)) ∧ ((¬ (M.1 0 11) ≤ 9999) → (Q (some (.int 2)) M)))))) : Ev LM (d + 1) mX11_beginOne 0 [some (.ref 0), none] [] M Q := by
  refine ev_aload_n dX11_beginOne_0 rfl ?_
  refine ev_getI dX11_beginOne_1 fl_WithoutEModel_119 lm_0 rfl ?_
  refine ev_iconst (v := 1) dX11_beginOne_4 (by decide) ?_
  refine ev_icmp_ne (tgt := 20) dX11_beginOne_5 (by decide) (fun c => ?_) (fun c => ?_)
  · replace h := h.1 c
    refine ev_aload_n dX11_beginOne_20 rfl ?_
    obtain ⟨Q2, hc, h⟩ := h
    refine ev_callV [] dX11_beginOne_21 ml_WithoutEModel_197 lm_0 rfl rfl (Nat.le_of_ble_eq_true rfl) hc (fun zr zM q => ?_)
    exact h zr zM q
  · replace h := h.2 c
    refine ev_aload_n dX11_beginOne_8 rfl ?_
    refine ev_getI dX11_beginOne_9 fl_WithoutEModel_125 lm_0 rfl ?_
    refine ev_sipush (v := 9999) dX11_beginOne_12 (by decide) ?_
    refine ev_icmp_le (tgt := 20) dX11_beginOne_15 (by decide) (fun c => ?_) (fun c => ?_)
    · replace h := h.1 c
      refine ev_aload_n dX11_beginOne_20 rfl ?_
      obtain ⟨Q2, hc, h⟩ := h
      refine ev_callV [] dX11_beginOne_21 ml_WithoutEModel_197 lm_0 rfl rfl (Nat.le_of_ble_eq_true rfl) hc (fun zr zM q => ?_)
      exact h zr zM q
    · replace h := h.2 c
      refine ev_iconst (v := 2) dX11_beginOne_18 (by decide) ?_
      exact ev_iret dX11_beginOne_19 rfl h
theorem gX11_beginOne_24 {d : Nat} {M : ev_Mem} {Q : Option Value → ev_Mem → Prop} {s0 : Int32} (h : (((s0 < 0) → (Ev LM (d + 1) mX11_beginOne 39 [some (.ref 0), some (.int s0)] [] M Q)) ∧ ((¬ s0 < 0) → ((((iof (M.1 0 15) s0) = true) → (Ev LM (d + 1) mX11_beginOne 39 [some (.ref 0), some (.int s0)] [] M Q)) ∧ (((iof (M.1 0 15) s0) = false) → (Q (some (.int 5)) M)))))) : Ev LM (d + 1) mX11_beginOne 24 [some (.ref 0), none] [(.int s0)] M Q := by
  refine ev_istore_n (ls2 := [some (.ref 0), some (.int s0)]) dX11_beginOne_24 (Nat.le_of_ble_eq_true rfl) rfl ?_
  refine ev_iload_n dX11_beginOne_25 rfl ?_
  refine ev_if_lt (tgt := 39) dX11_beginOne_26 (by decide) (fun c => ?_) (fun c => ?_)
  · replace h := h.1 c
    exact h
  · replace h := h.2 c
    refine ev_aload_n dX11_beginOne_29 rfl ?_
    refine ev_iload_n dX11_beginOne_30 rfl ?_
    refine ev_callV [.int s0] dX11_beginOne_31 ml_WithoutEModel_200 lm_0 rfl rfl (Nat.le_of_ble_eq_true rfl) (kX11_isOf) ?_
    rintro zr zM ⟨q1, q2⟩
    rw [q1, q2]
    show Ev LM (d + 1) mX11_beginOne 34 [some (.ref 0), some (.int s0)] [(.int (bi (iof (M.1 0 15) s0)))] M Q
    refine ev_if_ne (tgt := 39) dX11_beginOne_34 (by decide) (fun c => ?_) (fun c => ?_)
    · replace h := h.1 ((bi_n0 _).mp c)
      exact h
    · replace h := h.2 ((bi_0 _).mp c)
      refine ev_iconst (v := 5) dX11_beginOne_37 (by decide) ?_
      exact ev_iret dX11_beginOne_38 rfl h
theorem gX11_beginOne_39 {d : Nat} {M : ev_Mem} {Q : Option Value → ev_Mem → Prop} {x1 : Int32} (h : ((((M.1 0 10) = 1) → (Ev LM d mX11_beginOne 51 [some (.ref 0), some (.int x1)] [] M Q)) ∧ ((¬ (M.1 0 10) = 1) → (((x1 < 0) → (Ev LM d mX11_beginOne 101 [some (.ref 0), none] [] M Q)) ∧ ((¬ x1 < 0) → (Ev LM d mX11_beginOne 51 [some (.ref 0), some (.int x1)] [] M Q)))))) : Ev LM d mX11_beginOne 39 [some (.ref 0), some (.int x1)] [] M Q := by
  refine ev_aload_n dX11_beginOne_39 rfl ?_
  refine ev_getI dX11_beginOne_40 fl_WithoutEModel_119 lm_0 rfl ?_
  refine ev_iconst (v := 1) dX11_beginOne_43 (by decide) ?_
  refine ev_icmp_eq (tgt := 51) dX11_beginOne_44 (by decide) (fun c => ?_) (fun c => ?_)
  · replace h := h.1 c
    exact h
  · replace h := h.2 c
    refine ev_iload_n dX11_beginOne_47 rfl ?_
    refine ev_if_lt (tgt := 101) dX11_beginOne_48 (by decide) (fun c => ?_) (fun c => ?_)
    · replace h := h.1 c
      refine Ev.weak (ls := [some (.ref 0), none]) ⟨rfl, trivial⟩ ?_
      exact h
    · replace h := h.2 c
      exact h
theorem gX11_beginOne_51 {d : Nat} {M : ev_Mem} {Q : Option Value → ev_Mem → Prop} {x1 : Int32} (h : (((¬ (M.1 0 10) = 1) → (((¬ (M.1 0 10) = 1) → (∃ Q2 : Option Value → ev_Mem → Prop, Cl LM d mX11_emit [.ref 0, .int 1, .int x1] M Q2 ∧ ∀ (zr : Option Value) (zM : ev_Mem), Q2 zr zM → Ev LM (d + 1) mX11_beginOne 84 [some (.ref 0), none] (zr.toList ++ []) zM Q)) ∧ (((M.1 0 10) = 1) → (∃ Q2 : Option Value → ev_Mem → Prop, Cl LM d mX11_emit [.ref 0, .int 1, .int (M.1 0 11)] M Q2 ∧ ∀ (zr : Option Value) (zM : ev_Mem), Q2 zr zM → Ev LM (d + 1) mX11_beginOne 84 [some (.ref 0), none] (zr.toList ++ []) zM Q)))) ∧ (((M.1 0 10) = 1) → (((¬ (M.1 0 10) = 1) → (∃ Q2 : Option Value → ev_Mem → Prop, Cl LM d mX11_emit [.ref 0, .int 0, .int x1] M Q2 ∧ ∀ (zr : Option Value) (zM : ev_Mem), Q2 zr zM → Ev LM (d + 1) mX11_beginOne 84 [some (.ref 0), none] (zr.toList ++ []) zM Q)) ∧ (((M.1 0 10) = 1) → (∃ Q2 : Option Value → ev_Mem → Prop, Cl LM d mX11_emit [.ref 0, .int 0, .int (M.1 0 11)] M Q2 ∧ ∀ (zr : Option Value) (zM : ev_Mem), Q2 zr zM → Ev LM (d + 1) mX11_beginOne 84 [some (.ref 0), none] (zr.toList ++ []) zM Q)))))) : Ev LM (d + 1) mX11_beginOne 51 [some (.ref 0), some (.int x1)] [] M Q := by
  refine ev_aload_n dX11_beginOne_51 rfl ?_
  refine ev_aload_n dX11_beginOne_52 rfl ?_
  refine ev_getI dX11_beginOne_53 fl_WithoutEModel_119 lm_0 rfl ?_
  refine ev_iconst (v := 1) dX11_beginOne_56 (by decide) ?_
  refine ev_icmp_ne (tgt := 64) dX11_beginOne_57 (by decide) (fun c => ?_) (fun c => ?_)
  · replace h := h.1 c
    refine ev_iconst (v := 1) dX11_beginOne_64 (by decide) ?_
    refine ev_aload_n dX11_beginOne_65 rfl ?_
    refine ev_getI dX11_beginOne_66 fl_WithoutEModel_119 lm_0 rfl ?_
    refine ev_iconst (v := 1) dX11_beginOne_69 (by decide) ?_
    refine ev_icmp_ne (tgt := 80) dX11_beginOne_70 (by decide) (fun c => ?_) (fun c => ?_)
    · replace h := h.1 c
      refine ev_iload_n dX11_beginOne_80 rfl ?_
      obtain ⟨Q2, hc, h⟩ := h
      refine ev_callV [.int 1, .int x1] dX11_beginOne_81 ml_WithoutEModel_180 lm_0 rfl rfl (Nat.le_of_ble_eq_true rfl) hc (fun zr zM q => ?_)
      refine Ev.weak (ls := [some (.ref 0), none]) ⟨rfl, trivial⟩ ?_
      exact h zr zM q
    · replace h := h.2 c
      refine ev_aload_n dX11_beginOne_73 rfl ?_
      refine ev_getI dX11_beginOne_74 fl_WithoutEModel_125 lm_0 rfl ?_
      refine ev_goto (tgt := 81) dX11_beginOne_77 (by decide) ?_
      obtain ⟨Q2, hc, h⟩ := h
      refine ev_callV [.int 1, .int (M.1 0 11)] dX11_beginOne_81 ml_WithoutEModel_180 lm_0 rfl rfl (Nat.le_of_ble_eq_true rfl) hc (fun zr zM q => ?_)
      refine Ev.weak (ls := [some (.ref 0), none]) ⟨rfl, trivial⟩ ?_
      exact h zr zM q
  · replace h := h.2 c
    refine ev_iconst (v := 0) dX11_beginOne_60 (by decide) ?_
    refine ev_goto (tgt := 65) dX11_beginOne_61 (by decide) ?_
    refine ev_aload_n dX11_beginOne_65 rfl ?_
    refine ev_getI dX11_beginOne_66 fl_WithoutEModel_119 lm_0 rfl ?_
    refine ev_iconst (v := 1) dX11_beginOne_69 (by decide) ?_
    refine ev_icmp_ne (tgt := 80) dX11_beginOne_70 (by decide) (fun c => ?_) (fun c => ?_)
    · replace h := h.1 c
      refine ev_iload_n dX11_beginOne_80 rfl ?_
      obtain ⟨Q2, hc, h⟩ := h
      refine ev_callV [.int 0, .int x1] dX11_beginOne_81 ml_WithoutEModel_180 lm_0 rfl rfl (Nat.le_of_ble_eq_true rfl) hc (fun zr zM q => ?_)
      refine Ev.weak (ls := [some (.ref 0), none]) ⟨rfl, trivial⟩ ?_
      exact h zr zM q
    · replace h := h.2 c
      refine ev_aload_n dX11_beginOne_73 rfl ?_
      refine ev_getI dX11_beginOne_74 fl_WithoutEModel_125 lm_0 rfl ?_
      refine ev_goto (tgt := 81) dX11_beginOne_77 (by decide) ?_
      obtain ⟨Q2, hc, h⟩ := h
      refine ev_callV [.int 0, .int (M.1 0 11)] dX11_beginOne_81 ml_WithoutEModel_180 lm_0 rfl rfl (Nat.le_of_ble_eq_true rfl) hc (fun zr zM q => ?_)
      refine Ev.weak (ls := [some (.ref 0), none]) ⟨rfl, trivial⟩ ?_
      exact h zr zM q
theorem gX11_beginOne_101 {d : Nat} {M : ev_Mem} {Q : Option Value → ev_Mem → Prop} (h : (((¬ (M.1 0 10) = 40) → (((¬ (M.1 0 10) = 45) → ((((isw M (w4f (117 : Int32) (115 : Int32) (101 : Int32) (115 : Int32))) = false) → ((((isw M (w2f (105 : Int32) (102 : Int32))) = false) → ((((isw M (w3f (110 : Int32) (111 : Int32) (116 : Int32))) = false) → (Q (some (.int 1)) M)) ∧ (((isw M (w3f (110 : Int32) (111 : Int32) (116 : Int32))) = true) → ((plOK M) ∧ ((((iaI M) = false) → (Q (some (.int 1)) M)) ∧ (((iaI M) = true) → (∃ Q2 : Option Value → ev_Mem → Prop, Cl LM (d + 2) mX11_opened [.ref 0, .int 20] M Q2 ∧ ∀ (zr : Option Value) (zM : ev_Mem), Q2 zr zM → Ev LM (d + 3) mX11_beginOne 206 [none, none] (zr.toList ++ []) zM Q))))))) ∧ (((isw M (w2f (105 : Int32) (102 : Int32))) = true) → (∃ Q2 : Option Value → ev_Mem → Prop, Cl LM (d + 2) mX11_opened [.ref 0, .int 41] M Q2 ∧ ∀ (zr : Option Value) (zM : ev_Mem), Q2 zr zM → Ev LM (d + 3) mX11_beginOne 176 [none, none] (zr.toList ++ []) zM Q)))) ∧ (((isw M (w4f (117 : Int32) (115 : Int32) (101 : Int32) (115 : Int32))) = true) → (∃ Q2 : Option Value → ev_Mem → Prop, Cl LM (d + 2) mX11_opened [.ref 0, .int 2] M Q2 ∧ ∀ (zr : Option Value) (zM : ev_Mem), Q2 zr zM → Ev LM (d + 3) mX11_beginOne 155 [none, none] (zr.toList ++ []) zM Q)))) ∧ (((M.1 0 10) = 45) → (∃ Q2 : Option Value → ev_Mem → Prop, Cl LM (d + 2) mX11_opened [.ref 0, .int 4] M Q2 ∧ ∀ (zr : Option Value) (zM : ev_Mem), Q2 zr zM → Ev LM (d + 3) mX11_beginOne 131 [none, none] (zr.toList ++ []) zM Q)))) ∧ (((M.1 0 10) = 40) → (∃ Q2 : Option Value → ev_Mem → Prop, Cl LM (d + 2) mX11_opened [.ref 0, .int 40] M Q2 ∧ ∀ (zr : Option Value) (zM : ev_Mem), Q2 zr zM → Ev LM (d + 3) mX11_beginOne 116 [none, none] (zr.toList ++ []) zM Q)))) : Ev LM (d + 3) mX11_beginOne 101 [some (.ref 0), none] [] M Q := by
  refine ev_aload_n dX11_beginOne_101 rfl ?_
  refine ev_getI dX11_beginOne_102 fl_WithoutEModel_119 lm_0 rfl ?_
  refine ev_bipush (v := 40) dX11_beginOne_105 (by decide) ?_
  refine ev_icmp_ne (tgt := 117) dX11_beginOne_107 (by decide) (fun c => ?_) (fun c => ?_)
  · replace h := h.1 c
    refine ev_aload_n dX11_beginOne_117 rfl ?_
    refine ev_getI dX11_beginOne_118 fl_WithoutEModel_119 lm_0 rfl ?_
    refine ev_bipush (v := 45) dX11_beginOne_121 (by decide) ?_
    refine ev_icmp_ne (tgt := 132) dX11_beginOne_123 (by decide) (fun c => ?_) (fun c => ?_)
    · replace h := h.1 c
      refine ev_aload_n dX11_beginOne_132 rfl ?_
      refine ev_bipush (v := 117) dX11_beginOne_133 (by decide) ?_
      refine ev_bipush (v := 115) dX11_beginOne_135 (by decide) ?_
      refine ev_bipush (v := 101) dX11_beginOne_137 (by decide) ?_
      refine ev_bipush (v := 115) dX11_beginOne_139 (by decide) ?_
      refine ev_callS [.int 117, .int 115, .int 101, .int 115] dX11_beginOne_141 ml_WithoutEModel_149 rfl (Nat.le_of_ble_eq_true rfl) (kX11_w4) ?_
      rintro zr zM ⟨q1, q2⟩
      rw [q1, q2]
      show Ev LM (d + 3) mX11_beginOne 144 [some (.ref 0), none] [(.long (w4f (117 : Int32) (115 : Int32) (101 : Int32) (115 : Int32))), (.ref 0)] M Q
      refine ev_callV [.long (w4f (117 : Int32) (115 : Int32) (101 : Int32) (115 : Int32))] dX11_beginOne_144 ml_WithoutEModel_213 lm_0 rfl rfl (Nat.le_of_ble_eq_true rfl) (kX11_isWord) ?_
      rintro zr zM ⟨q1, q2⟩
      rw [q1, q2]
      show Ev LM (d + 3) mX11_beginOne 147 [some (.ref 0), none] [(.int (bi (isw M (w4f (117 : Int32) (115 : Int32) (101 : Int32) (115 : Int32)))))] M Q
      refine ev_if_eq (tgt := 156) dX11_beginOne_147 (by decide) (fun c => ?_) (fun c => ?_)
      · replace h := h.1 ((bi_0 _).mp c)
        refine ev_aload_n dX11_beginOne_156 rfl ?_
        refine ev_bipush (v := 105) dX11_beginOne_157 (by decide) ?_
        refine ev_bipush (v := 102) dX11_beginOne_159 (by decide) ?_
        refine ev_callS [.int 105, .int 102] dX11_beginOne_161 ml_WithoutEModel_141 rfl (Nat.le_of_ble_eq_true rfl) (kX11_w2) ?_
        rintro zr zM ⟨q1, q2⟩
        rw [q1, q2]
        show Ev LM (d + 3) mX11_beginOne 164 [some (.ref 0), none] [(.long (w2f (105 : Int32) (102 : Int32))), (.ref 0)] M Q
        refine ev_callV [.long (w2f (105 : Int32) (102 : Int32))] dX11_beginOne_164 ml_WithoutEModel_213 lm_0 rfl rfl (Nat.le_of_ble_eq_true rfl) (kX11_isWord) ?_
        rintro zr zM ⟨q1, q2⟩
        rw [q1, q2]
        show Ev LM (d + 3) mX11_beginOne 167 [some (.ref 0), none] [(.int (bi (isw M (w2f (105 : Int32) (102 : Int32)))))] M Q
        refine ev_if_eq (tgt := 177) dX11_beginOne_167 (by decide) (fun c => ?_) (fun c => ?_)
        · replace h := h.1 ((bi_0 _).mp c)
          refine ev_aload_n dX11_beginOne_177 rfl ?_
          refine ev_bipush (v := 110) dX11_beginOne_178 (by decide) ?_
          refine ev_bipush (v := 111) dX11_beginOne_180 (by decide) ?_
          refine ev_bipush (v := 116) dX11_beginOne_182 (by decide) ?_
          refine ev_callS [.int 110, .int 111, .int 116] dX11_beginOne_184 ml_WithoutEModel_145 rfl (Nat.le_of_ble_eq_true rfl) (kX11_w3) ?_
          rintro zr zM ⟨q1, q2⟩
          rw [q1, q2]
          show Ev LM (d + 3) mX11_beginOne 187 [some (.ref 0), none] [(.long (w3f (110 : Int32) (111 : Int32) (116 : Int32))), (.ref 0)] M Q
          refine ev_callV [.long (w3f (110 : Int32) (111 : Int32) (116 : Int32))] dX11_beginOne_187 ml_WithoutEModel_213 lm_0 rfl rfl (Nat.le_of_ble_eq_true rfl) (kX11_isWord) ?_
          rintro zr zM ⟨q1, q2⟩
          rw [q1, q2]
          show Ev LM (d + 3) mX11_beginOne 190 [some (.ref 0), none] [(.int (bi (isw M (w3f (110 : Int32) (111 : Int32) (116 : Int32)))))] M Q
          refine ev_if_eq (tgt := 209) dX11_beginOne_190 (by decide) (fun c => ?_) (fun c => ?_)
          · replace h := h.1 ((bi_0 _).mp c)
            refine ev_iconst (v := 1) dX11_beginOne_209 (by decide) ?_
            exact ev_iret dX11_beginOne_210 rfl h
          · replace h := h.2 ((bi_n0 _).mp c)
            refine ev_aload_n dX11_beginOne_193 rfl ?_
            obtain ⟨p1, h⟩ := h
            refine ev_callV [] dX11_beginOne_194 ml_WithoutEModel_217 lm_0 rfl rfl (Nat.le_of_ble_eq_true rfl) (kX11_isAskAhead p1) ?_
            rintro zr zM ⟨q1, q2⟩
            rw [q1, q2]
            show Ev LM (d + 3) mX11_beginOne 197 [some (.ref 0), none] [(.int (bi (iaI M)))] M Q
            refine ev_if_eq (tgt := 209) dX11_beginOne_197 (by decide) (fun c => ?_) (fun c => ?_)
            · replace h := h.1 ((bi_0 _).mp c)
              refine ev_iconst (v := 1) dX11_beginOne_209 (by decide) ?_
              exact ev_iret dX11_beginOne_210 rfl h
            · replace h := h.2 ((bi_n0 _).mp c)
              refine ev_aload_n dX11_beginOne_200 rfl ?_
              refine ev_bipush (v := 20) dX11_beginOne_201 (by decide) ?_
              obtain ⟨Q2, hc, h⟩ := h
              refine ev_callV [.int 20] dX11_beginOne_203 ml_WithoutEModel_210 lm_0 rfl rfl (Nat.le_of_ble_eq_true rfl) hc (fun zr zM q => ?_)
              refine Ev.weak (ls := [none, none]) trivial ?_
              exact h zr zM q
        · replace h := h.2 ((bi_n0 _).mp c)
          refine ev_aload_n dX11_beginOne_170 rfl ?_
          refine ev_bipush (v := 41) dX11_beginOne_171 (by decide) ?_
          obtain ⟨Q2, hc, h⟩ := h
          refine ev_callV [.int 41] dX11_beginOne_173 ml_WithoutEModel_210 lm_0 rfl rfl (Nat.le_of_ble_eq_true rfl) hc (fun zr zM q => ?_)
          refine Ev.weak (ls := [none, none]) trivial ?_
          exact h zr zM q
      · replace h := h.2 ((bi_n0 _).mp c)
        refine ev_aload_n dX11_beginOne_150 rfl ?_
        refine ev_iconst (v := 2) dX11_beginOne_151 (by decide) ?_
        obtain ⟨Q2, hc, h⟩ := h
        refine ev_callV [.int 2] dX11_beginOne_152 ml_WithoutEModel_210 lm_0 rfl rfl (Nat.le_of_ble_eq_true rfl) hc (fun zr zM q => ?_)
        refine Ev.weak (ls := [none, none]) trivial ?_
        exact h zr zM q
    · replace h := h.2 c
      refine ev_aload_n dX11_beginOne_126 rfl ?_
      refine ev_iconst (v := 4) dX11_beginOne_127 (by decide) ?_
      obtain ⟨Q2, hc, h⟩ := h
      refine ev_callV [.int 4] dX11_beginOne_128 ml_WithoutEModel_210 lm_0 rfl rfl (Nat.le_of_ble_eq_true rfl) hc (fun zr zM q => ?_)
      refine Ev.weak (ls := [none, none]) trivial ?_
      exact h zr zM q
  · replace h := h.2 c
    refine ev_aload_n dX11_beginOne_110 rfl ?_
    refine ev_bipush (v := 40) dX11_beginOne_111 (by decide) ?_
    obtain ⟨Q2, hc, h⟩ := h
    refine ev_callV [.int 40] dX11_beginOne_113 ml_WithoutEModel_210 lm_0 rfl rfl (Nat.le_of_ble_eq_true rfl) hc (fun zr zM q => ?_)
    refine Ev.weak (ls := [none, none]) trivial ?_
    exact h zr zM q
theorem gX11_beginOne_84 {d : Nat} {M : ev_Mem} {Q : Option Value → ev_Mem → Prop} (h : (∃ Q2 : Option Value → ev_Mem → Prop, Cl LM d mX11_nextToken [.ref 0] M Q2 ∧ ∀ (zr : Option Value) (zM : ev_Mem), Q2 zr zM → Ev LM (d + 1) mX11_beginOne 88 [some (.ref 0), none] (zr.toList ++ []) zM Q)) : Ev LM (d + 1) mX11_beginOne 84 [some (.ref 0), none] [] M Q := by
  refine ev_aload_n dX11_beginOne_84 rfl ?_
  obtain ⟨Q2, hc, h⟩ := h
  refine ev_callV [] dX11_beginOne_85 ml_WithoutEModel_194 lm_0 rfl rfl (Nat.le_of_ble_eq_true rfl) hc (fun zr zM q => ?_)
  exact h zr zM q
theorem gX11_beginOne_206 {d : Nat} {M : ev_Mem} {Q : Option Value → ev_Mem → Prop} {s0 : Int32} (h : (Q (some (.int s0)) M)) : Ev LM d mX11_beginOne 206 [none, none] [(.int s0)] M Q := by
  refine ev_goto (tgt := 210) dX11_beginOne_206 (by decide) ?_
  exact ev_iret dX11_beginOne_210 rfl h
theorem gX11_beginOne_176 {d : Nat} {M : ev_Mem} {Q : Option Value → ev_Mem → Prop} {s0 : Int32} (h : (Q (some (.int s0)) M)) : Ev LM d mX11_beginOne 176 [none, none] [(.int s0)] M Q := by
  exact ev_iret dX11_beginOne_176 rfl h
theorem gX11_beginOne_155 {d : Nat} {M : ev_Mem} {Q : Option Value → ev_Mem → Prop} {s0 : Int32} (h : (Q (some (.int s0)) M)) : Ev LM d mX11_beginOne 155 [none, none] [(.int s0)] M Q := by
  exact ev_iret dX11_beginOne_155 rfl h
theorem gX11_beginOne_131 {d : Nat} {M : ev_Mem} {Q : Option Value → ev_Mem → Prop} {s0 : Int32} (h : (Q (some (.int s0)) M)) : Ev LM d mX11_beginOne 131 [none, none] [(.int s0)] M Q := by
  exact ev_iret dX11_beginOne_131 rfl h
theorem gX11_beginOne_116 {d : Nat} {M : ev_Mem} {Q : Option Value → ev_Mem → Prop} {s0 : Int32} (h : (Q (some (.int s0)) M)) : Ev LM d mX11_beginOne 116 [none, none] [(.int s0)] M Q := by
  exact ev_iret dX11_beginOne_116 rfl h
theorem gX11_beginOne_88 {d : Nat} {M : ev_Mem} {Q : Option Value → ev_Mem → Prop} (h : (∀ M1 : ev_Mem, M1 = ev_wr M 0 19 1 → (∃ Q2 : Option Value → ev_Mem → Prop, Cl LM d mX11_settle [.ref 0, .int 7] M1 Q2 ∧ ∀ (zr : Option Value) (zM : ev_Mem), Q2 zr zM → Ev LM (d + 1) mX11_beginOne 99 [none, none] (zr.toList ++ []) zM Q))) : Ev LM (d + 1) mX11_beginOne 88 [some (.ref 0), none] [] M Q := by
  refine ev_aload_n dX11_beginOne_88 rfl ?_
  refine ev_iconst (v := 1) dX11_beginOne_89 (by decide) ?_
  refine ev_putI dX11_beginOne_90 fp_WithoutEModel_203 lm_0 rfl (by decide) (by decide) ?_
  generalize eM1 : ev_wr M 0 19 1 = M1
  replace h := h M1 eM1.symm
  refine ev_aload_n dX11_beginOne_93 rfl ?_
  refine ev_bipush (v := 7) dX11_beginOne_94 (by decide) ?_
  obtain ⟨Q2, hc, h⟩ := h
  refine ev_callV [.int 7] dX11_beginOne_96 ml_WithoutEModel_207 lm_0 rfl rfl (Nat.le_of_ble_eq_true rfl) hc (fun zr zM q => ?_)
  refine Ev.weak (ls := [none, none]) trivial ?_
  exact h zr zM q
theorem gX11_beginOne_99 {d : Nat} {M : ev_Mem} {Q : Option Value → ev_Mem → Prop} (h : (Q (some (.int 0)) M)) : Ev LM d mX11_beginOne 99 [none, none] [] M Q := by
  refine ev_iconst (v := 0) dX11_beginOne_99 (by decide) ?_
  exact ev_iret dX11_beginOne_100 rfl h
