theorem dX4_readNumber_0 : decode cX4_readNumber 0 = .ok (.aload_n 0, 1) := by decide +kernel
theorem dX4_readNumber_1 : decode cX4_readNumber 1 = .ok (.getfield 41, 3) := by decide +kernel
theorem dX4_readNumber_4 : decode cX4_readNumber 4 = .ok (.iconst 2, 1) := by decide +kernel
theorem dX4_readNumber_5 : decode cX4_readNumber 5 = .ok (.if_icmp .eq 9, 3) := by decide +kernel
theorem dX4_readNumber_8 : decode cX4_readNumber 8 = .ok (.aload_n 0, 1) := by decide +kernel
theorem dX4_readNumber_9 : decode cX4_readNumber 9 = .ok (.iconst 1, 1) := by decide +kernel
theorem dX4_readNumber_10 : decode cX4_readNumber 10 = .ok (.invokevirtual 79, 3) := by decide +kernel
theorem dX4_readNumber_13 : decode cX4_readNumber 13 = .ok (.ireturn, 1) := by decide +kernel
theorem dX4_readNumber_14 : decode cX4_readNumber 14 = .ok (.aload_n 0, 1) := by decide +kernel
theorem dX4_readNumber_15 : decode cX4_readNumber 15 = .ok (.invokevirtual 141, 3) := by decide +kernel
theorem dX4_readNumber_18 : decode cX4_readNumber 18 = .ok (.istore_n 3, 1) := by decide +kernel
theorem dX4_readNumber_19 : decode cX4_readNumber 19 = .ok (.iload_n 3, 1) := by decide +kernel
theorem dX4_readNumber_20 : decode cX4_readNumber 20 = .ok (.iload_n 1, 1) := by decide +kernel
theorem dX4_readNumber_21 : decode cX4_readNumber 21 = .ok (.if_icmp .lt 8, 3) := by decide +kernel
theorem dX4_readNumber_24 : decode cX4_readNumber 24 = .ok (.iload_n 3, 1) := by decide +kernel
theorem dX4_readNumber_25 : decode cX4_readNumber 25 = .ok (.iload_n 2, 1) := by decide +kernel
theorem dX4_readNumber_26 : decode cX4_readNumber 26 = .ok (.if_icmp .le 9, 3) := by decide +kernel
theorem dX4_readNumber_29 : decode cX4_readNumber 29 = .ok (.aload_n 0, 1) := by decide +kernel
theorem dX4_readNumber_30 : decode cX4_readNumber 30 = .ok (.iconst 2, 1) := by decide +kernel
theorem dX4_readNumber_31 : decode cX4_readNumber 31 = .ok (.invokevirtual 79, 3) := by decide +kernel
theorem dX4_readNumber_34 : decode cX4_readNumber 34 = .ok (.ireturn, 1) := by decide +kernel
theorem dX4_readNumber_35 : decode cX4_readNumber 35 = .ok (.aload_n 0, 1) := by decide +kernel
theorem dX4_readNumber_36 : decode cX4_readNumber 36 = .ok (.getfield 19, 3) := by decide +kernel
theorem dX4_readNumber_39 : decode cX4_readNumber 39 = .ok (.iload_n 3, 1) := by decide +kernel
theorem dX4_readNumber_40 : decode cX4_readNumber 40 = .ok (.invokevirtual 144, 3) := by decide +kernel
theorem dX4_readNumber_43 : decode cX4_readNumber 43 = .ok (.aload_n 0, 1) := by decide +kernel
theorem dX4_readNumber_44 : decode cX4_readNumber 44 = .ok (.invokevirtual 38, 3) := by decide +kernel
theorem dX4_readNumber_47 : decode cX4_readNumber 47 = .ok (.iconst 1, 1) := by decide +kernel
theorem dX4_readNumber_48 : decode cX4_readNumber 48 = .ok (.ireturn, 1) := by decide +kernel
theorem gX4_readNumber_0 {d : Nat} {M : ev_Mem} {Q : Option Value → ev_Mem → Prop} {x1 x2 : Int32} (h : ((((M.1 81 5) = 2) → (∃ Q2 : Option Value → ev_Mem → Prop, Cl LX d mX4_number [.ref 81] M Q2 ∧ ∀ (zr : Option Value) (zM : ev_Mem), Q2 zr zM → Ev LX (d + 1) mX4_readNumber 18 [some (.ref 81), some (.int x1), some (.int x2), none] (zr.toList ++ []) zM Q)) ∧ ((¬ (M.1 81 5) = 2) → (∀ M1 : ev_Mem, M1 = flM M (1 : Int32) → (Q (some (.int 0)) M1))))) : Ev LX (d + 1) mX4_readNumber 0 [some (.ref 81), some (.int x1), some (.int x2), none] [] M Q := by
  refine ev_aload_n dX4_readNumber_0 rfl ?_
  refine ev_getI dX4_readNumber_1 fl_WithoutE_Reader_41 lx_81 rfl ?_
  refine ev_iconst (v := 2) dX4_readNumber_4 (by decide) ?_
  refine ev_icmp_eq (tgt := 14) dX4_readNumber_5 (by decide) (fun c => ?_) (fun c => ?_)
  · replace h := h.1 c
    refine ev_aload_n dX4_readNumber_14 rfl ?_
    obtain ⟨Q2, hc, h⟩ := h
    refine ev_callV [] dX4_readNumber_15 ml_WithoutE_Reader_141 lx_81 rfl rfl (Nat.le_of_ble_eq_true rfl) hc (fun zr zM q => ?_)
    exact h zr zM q
  · replace h := h.2 c
    refine ev_aload_n dX4_readNumber_8 rfl ?_
    refine ev_iconst (v := 1) dX4_readNumber_9 (by decide) ?_
    refine ev_callV [.int 1] dX4_readNumber_10 ml_WithoutE_Reader_79 lx_81 rfl rfl (Nat.le_of_ble_eq_true rfl) (kX4_fail) ?_
    rintro zr zM ⟨q1, q2⟩
    rw [q1, q2]
    generalize eM1 : flM M (1 : Int32) = M1
    replace h := h M1 eM1.symm
    show Ev LX (d + 1) mX4_readNumber 13 [some (.ref 81), some (.int x1), some (.int x2), none] [(.int 0)] M1 Q
    exact ev_zret dX4_readNumber_13 rfl (by decide) h
theorem gX4_readNumber_18 {d : Nat} {M : ev_Mem} {Q : Option Value → ev_Mem → Prop} {x1 x2 s0 : Int32} (h : (((s0 < x1) → (∀ M1 : ev_Mem, M1 = flM M (2 : Int32) → (Q (some (.int 0)) M1))) ∧ ((¬ s0 < x1) → (((s0 ≤ x2) → ((¬ M.1 81 1 = 0 ∧ ev_isT (M.1 81 1).toNatClampNeg) ∧ ((puOK M (M.1 81 1).toNatClampNeg) ∧ (∀ M2 : ev_Mem, M2 = putM M (M.1 81 1).toNatClampNeg s0 → (∃ Q2 : Option Value → ev_Mem → Prop, Cl LX d mX4_advance [.ref 81] M2 Q2 ∧ ∀ (zr : Option Value) (zM : ev_Mem), Q2 zr zM → Ev LX (d + 1) mX4_readNumber 47 [none, none, none, none] (zr.toList ++ []) zM Q))))) ∧ ((¬ s0 ≤ x2) → (∀ M3 : ev_Mem, M3 = flM M (2 : Int32) → (Q (some (.int 0)) M3))))))) : Ev LX (d + 1) mX4_readNumber 18 [some (.ref 81), some (.int x1), some (.int x2), none] [(.int s0)] M Q := by
  refine ev_istore_n (ls2 := [some (.ref 81), some (.int x1), some (.int x2), some (.int s0)]) dX4_readNumber_18 (Nat.le_of_ble_eq_true rfl) rfl ?_
  refine ev_iload_n dX4_readNumber_19 rfl ?_
  refine ev_iload_n dX4_readNumber_20 rfl ?_
  refine ev_icmp_lt (tgt := 29) dX4_readNumber_21 (by decide) (fun c => ?_) (fun c => ?_)
  · replace h := h.1 c
    refine ev_aload_n dX4_readNumber_29 rfl ?_
    refine ev_iconst (v := 2) dX4_readNumber_30 (by decide) ?_
    refine ev_callV [.int 2] dX4_readNumber_31 ml_WithoutE_Reader_79 lx_81 rfl rfl (Nat.le_of_ble_eq_true rfl) (kX4_fail) ?_
    rintro zr zM ⟨q1, q2⟩
    rw [q1, q2]
    generalize eM1 : flM M (2 : Int32) = M1
    replace h := h M1 eM1.symm
    show Ev LX (d + 1) mX4_readNumber 34 [some (.ref 81), some (.int x1), some (.int x2), some (.int s0)] [(.int 0)] M1 Q
    exact ev_zret dX4_readNumber_34 rfl (by decide) h
  · replace h := h.2 c
    refine ev_iload_n dX4_readNumber_24 rfl ?_
    refine ev_iload_n dX4_readNumber_25 rfl ?_
    refine ev_icmp_le (tgt := 35) dX4_readNumber_26 (by decide) (fun c => ?_) (fun c => ?_)
    · replace h := h.1 c
      refine ev_aload_n dX4_readNumber_35 rfl ?_
      obtain ⟨⟨c, t1⟩, h⟩ := h
      refine ev_getD dX4_readNumber_36 fl_WithoutE_Reader_19 lx_81 rfl c ?_
      refine ev_iload_n dX4_readNumber_39 rfl ?_
      obtain ⟨p1, h⟩ := h
      refine ev_callV [.int s0] dX4_readNumber_40 ml_WithoutE_Reader_144 (lx_T t1) rfl rfl (Nat.le_of_ble_eq_true rfl) (kX8_put p1) ?_
      rintro zr zM ⟨q1, q2⟩
      rw [q1, q2]
      generalize eM2 : putM M (M.1 81 1).toNatClampNeg s0 = M2
      replace h := h M2 eM2.symm
      show Ev LX (d + 1) mX4_readNumber 43 [some (.ref 81), some (.int x1), some (.int x2), some (.int s0)] [] M2 Q
      refine ev_aload_n dX4_readNumber_43 rfl ?_
      obtain ⟨Q2, hc, h⟩ := h
      refine ev_callV [] dX4_readNumber_44 ml_WithoutE_Reader_38 lx_81 rfl rfl (Nat.le_of_ble_eq_true rfl) hc (fun zr zM q => ?_)
      refine Ev.weak (ls := [none, none, none, none]) trivial ?_
      exact h zr zM q
    · replace h := h.2 c
      refine ev_aload_n dX4_readNumber_29 rfl ?_
      refine ev_iconst (v := 2) dX4_readNumber_30 (by decide) ?_
      refine ev_callV [.int 2] dX4_readNumber_31 ml_WithoutE_Reader_79 lx_81 rfl rfl (Nat.le_of_ble_eq_true rfl) (kX4_fail) ?_
      rintro zr zM ⟨q1, q2⟩
      rw [q1, q2]
      generalize eM3 : flM M (2 : Int32) = M3
      replace h := h M3 eM3.symm
      show Ev LX (d + 1) mX4_readNumber 34 [some (.ref 81), some (.int x1), some (.int x2), some (.int s0)] [(.int 0)] M3 Q
      exact ev_zret dX4_readNumber_34 rfl (by decide) h
theorem gX4_readNumber_47 {d : Nat} {M : ev_Mem} {Q : Option Value → ev_Mem → Prop} (h : (Q (some (.int 1)) M)) : Ev LX d mX4_readNumber 47 [none, none, none, none] [] M Q := by
  refine ev_iconst (v := 1) dX4_readNumber_47 (by decide) ?_
  exact ev_zret dX4_readNumber_48 rfl (by decide) h
theorem dX4_readSenses_0 : decode cX4_readSenses 0 = .ok (.aload_n 0, 1) := by decide +kernel
theorem dX4_readSenses_1 : decode cX4_readSenses 1 = .ok (.getfield 19, 3) := by decide +kernel
theorem dX4_readSenses_4 : decode cX4_readSenses 4 = .ok (.getfield 147, 3) := by decide +kernel
theorem dX4_readSenses_7 : decode cX4_readSenses 7 = .ok (.istore_n 1, 1) := by decide +kernel
theorem dX4_readSenses_8 : decode cX4_readSenses 8 = .ok (.aload_n 0, 1) := by decide +kernel
theorem dX4_readSenses_9 : decode cX4_readSenses 9 = .ok (.getfield 19, 3) := by decide +kernel
theorem dX4_readSenses_12 : decode cX4_readSenses 12 = .ok (.iconst 0, 1) := by decide +kernel
theorem dX4_readSenses_13 : decode cX4_readSenses 13 = .ok (.invokevirtual 144, 3) := by decide +kernel
theorem dX4_readSenses_16 : decode cX4_readSenses 16 = .ok (.iconst 1, 1) := by decide +kernel
theorem dX4_readSenses_17 : decode cX4_readSenses 17 = .ok (.istore_n 2, 1) := by decide +kernel
theorem dX4_readSenses_18 : decode cX4_readSenses 18 = .ok (.iload_n 2, 1) := by decide +kernel
theorem dX4_readSenses_19 : decode cX4_readSenses 19 = .ok (.iconst 5, 1) := by decide +kernel
theorem dX4_readSenses_20 : decode cX4_readSenses 20 = .ok (.if_icmp .gt 50, 3) := by decide +kernel
theorem dX4_readSenses_23 : decode cX4_readSenses 23 = .ok (.aload_n 0, 1) := by decide +kernel
theorem dX4_readSenses_24 : decode cX4_readSenses 24 = .ok (.iconst 0, 1) := by decide +kernel
theorem dX4_readSenses_25 : decode cX4_readSenses 25 = .ok (.bipush 11, 2) := by decide +kernel
theorem dX4_readSenses_27 : decode cX4_readSenses 27 = .ok (.invokevirtual 123, 3) := by decide +kernel
theorem dX4_readSenses_30 : decode cX4_readSenses 30 = .ok (.ifCond .ne 5, 3) := by decide +kernel
theorem dX4_readSenses_33 : decode cX4_readSenses 33 = .ok (.iconst 0, 1) := by decide +kernel
theorem dX4_readSenses_34 : decode cX4_readSenses 34 = .ok (.ireturn, 1) := by decide +kernel
theorem dX4_readSenses_35 : decode cX4_readSenses 35 = .ok (.aload_n 0, 1) := by decide +kernel
theorem dX4_readSenses_36 : decode cX4_readSenses 36 = .ok (.getfield 19, 3) := by decide +kernel
theorem dX4_readSenses_39 : decode cX4_readSenses 39 = .ok (.iload_n 1, 1) := by decide +kernel
theorem dX4_readSenses_40 : decode cX4_readSenses 40 = .ok (.iload_n 2, 1) := by decide +kernel
theorem dX4_readSenses_41 : decode cX4_readSenses 41 = .ok (.invokevirtual 150, 3) := by decide +kernel
theorem dX4_readSenses_44 : decode cX4_readSenses 44 = .ok (.aload_n 0, 1) := by decide +kernel
theorem dX4_readSenses_45 : decode cX4_readSenses 45 = .ok (.getfield 41, 3) := by decide +kernel
theorem dX4_readSenses_48 : decode cX4_readSenses 48 = .ok (.bipush 44, 2) := by decide +kernel
theorem dX4_readSenses_50 : decode cX4_readSenses 50 = .ok (.if_icmp .eq 5, 3) := by decide +kernel
theorem dX4_readSenses_53 : decode cX4_readSenses 53 = .ok (.iconst 1, 1) := by decide +kernel
theorem dX4_readSenses_54 : decode cX4_readSenses 54 = .ok (.ireturn, 1) := by decide +kernel
theorem dX4_readSenses_55 : decode cX4_readSenses 55 = .ok (.iload_n 2, 1) := by decide +kernel
theorem dX4_readSenses_56 : decode cX4_readSenses 56 = .ok (.iconst 5, 1) := by decide +kernel
theorem dX4_readSenses_57 : decode cX4_readSenses 57 = .ok (.if_icmp .ge 7, 3) := by decide +kernel
theorem dX4_readSenses_60 : decode cX4_readSenses 60 = .ok (.aload_n 0, 1) := by decide +kernel
theorem dX4_readSenses_61 : decode cX4_readSenses 61 = .ok (.invokevirtual 38, 3) := by decide +kernel
theorem dX4_readSenses_64 : decode cX4_readSenses 64 = .ok (.iinc 2 1, 3) := by decide +kernel
theorem dX4_readSenses_67 : decode cX4_readSenses 67 = .ok (.goto (-49), 3) := by decide +kernel
theorem dX4_readSenses_70 : decode cX4_readSenses 70 = .ok (.aload_n 0, 1) := by decide +kernel
theorem dX4_readSenses_71 : decode cX4_readSenses 71 = .ok (.bipush 8, 2) := by decide +kernel
theorem dX4_readSenses_73 : decode cX4_readSenses 73 = .ok (.invokevirtual 79, 3) := by decide +kernel
theorem dX4_readSenses_76 : decode cX4_readSenses 76 = .ok (.ireturn, 1) := by decide +kernel
theorem gX4_readSenses_0 {d : Nat} {M : ev_Mem} {Q : Option Value → ev_Mem → Prop} (h : ((¬ M.1 81 1 = 0 ∧ ev_isT (M.1 81 1).toNatClampNeg) ∧ (∀ v1 : Int32, v1 = M.1 ((M.1 81 1).toNatClampNeg) 1 → ((¬ M.1 81 1 = 0 ∧ ev_isT (M.1 81 1).toNatClampNeg) ∧ ((puOK M (M.1 81 1).toNatClampNeg) ∧ (∀ M1 : ev_Mem, M1 = putM M (M.1 81 1).toNatClampNeg (0 : Int32) → (Ev LX (d + 1) mX4_readSenses 18 [some (.ref 81), some (.int v1), some (.int 1)] [] M1 Q))))))) : Ev LX (d + 1) mX4_readSenses 0 [some (.ref 81), none, none] [] M Q := by
  refine ev_aload_n dX4_readSenses_0 rfl ?_
  obtain ⟨⟨c, t1⟩, h⟩ := h
  refine ev_getD dX4_readSenses_1 fl_WithoutE_Reader_19 lx_81 rfl c ?_
  refine ev_getI dX4_readSenses_4 fl_WithoutE_Reader_147 (lx_T t1) rfl ?_
  refine ev_istore_n (ls2 := [some (.ref 81), some (.int (M.1 ((M.1 81 1).toNatClampNeg) 1)), none]) dX4_readSenses_7 (Nat.le_of_ble_eq_true rfl) rfl ?_
  generalize ev1 : M.1 ((M.1 81 1).toNatClampNeg) 1 = v1
  replace h := h v1 ev1.symm
  refine ev_aload_n dX4_readSenses_8 rfl ?_
  obtain ⟨⟨c, t2⟩, h⟩ := h
  refine ev_getD dX4_readSenses_9 fl_WithoutE_Reader_19 lx_81 rfl c ?_
  refine ev_iconst (v := 0) dX4_readSenses_12 (by decide) ?_
  obtain ⟨p1, h⟩ := h
  refine ev_callV [.int 0] dX4_readSenses_13 ml_WithoutE_Reader_144 (lx_T t2) rfl rfl (Nat.le_of_ble_eq_true rfl) (kX8_put p1) ?_
  rintro zr zM ⟨q1, q2⟩
  rw [q1, q2]
  generalize eM1 : putM M (M.1 81 1).toNatClampNeg (0 : Int32) = M1
  replace h := h M1 eM1.symm
  show Ev LX (d + 1) mX4_readSenses 16 [some (.ref 81), some (.int v1), none] [] M1 Q
  refine ev_iconst (v := 1) dX4_readSenses_16 (by decide) ?_
  refine ev_istore_n (ls2 := [some (.ref 81), some (.int v1), some (.int 1)]) dX4_readSenses_17 (Nat.le_of_ble_eq_true rfl) rfl ?_
  exact h
theorem gX4_readSenses_18 {d : Nat} {M : ev_Mem} {Q : Option Value → ev_Mem → Prop} {x1 x2 : Int32} (h : (((5 < x2) → (∀ M1 : ev_Mem, M1 = flM M (8 : Int32) → (Q (some (.int 0)) M1))) ∧ ((¬ 5 < x2) → (∃ Q2 : Option Value → ev_Mem → Prop, Cl LX d mX4_readNumber [.ref 81, .int 0, .int 11] M Q2 ∧ ∀ (zr : Option Value) (zM : ev_Mem), Q2 zr zM → Ev LX (d + 1) mX4_readSenses 30 [some (.ref 81), some (.int x1), some (.int x2)] (zr.toList ++ []) zM Q)))) : Ev LX (d + 1) mX4_readSenses 18 [some (.ref 81), some (.int x1), some (.int x2)] [] M Q := by
  refine ev_iload_n dX4_readSenses_18 rfl ?_
  refine ev_iconst (v := 5) dX4_readSenses_19 (by decide) ?_
  refine ev_icmp_gt (tgt := 70) dX4_readSenses_20 (by decide) (fun c => ?_) (fun c => ?_)
  · replace h := h.1 c
    refine ev_aload_n dX4_readSenses_70 rfl ?_
    refine ev_bipush (v := 8) dX4_readSenses_71 (by decide) ?_
    refine ev_callV [.int 8] dX4_readSenses_73 ml_WithoutE_Reader_79 lx_81 rfl rfl (Nat.le_of_ble_eq_true rfl) (kX4_fail) ?_
    rintro zr zM ⟨q1, q2⟩
    rw [q1, q2]
    generalize eM1 : flM M (8 : Int32) = M1
    replace h := h M1 eM1.symm
    show Ev LX (d + 1) mX4_readSenses 76 [some (.ref 81), some (.int x1), some (.int x2)] [(.int 0)] M1 Q
    exact ev_zret dX4_readSenses_76 rfl (by decide) h
  · replace h := h.2 c
    refine ev_aload_n dX4_readSenses_23 rfl ?_
    refine ev_iconst (v := 0) dX4_readSenses_24 (by decide) ?_
    refine ev_bipush (v := 11) dX4_readSenses_25 (by decide) ?_
    obtain ⟨Q2, hc, h⟩ := h
    refine ev_callV [.int 0, .int 11] dX4_readSenses_27 ml_WithoutE_Reader_123 lx_81 rfl rfl (Nat.le_of_ble_eq_true rfl) hc (fun zr zM q => ?_)
    exact h zr zM q
theorem gX4_readSenses_30 {d : Nat} {M : ev_Mem} {Q : Option Value → ev_Mem → Prop} {x1 x2 s0 : Int32} (h : (((¬ s0 = 0) → ((¬ M.1 81 1 = 0 ∧ ev_isT (M.1 81 1).toNatClampNeg) ∧ (∃ Q2 : Option Value → ev_Mem → Prop, Cl LX d mX8_set [.ref ((M.1 81 1).toNatClampNeg), .int x1, .int x2] M Q2 ∧ ∀ (zr : Option Value) (zM : ev_Mem), Q2 zr zM → Ev LX (d + 1) mX4_readSenses 44 [some (.ref 81), some (.int x1), some (.int x2)] (zr.toList ++ []) zM Q))) ∧ ((s0 = 0) → (Q (some (.int 0)) M)))) : Ev LX (d + 1) mX4_readSenses 30 [some (.ref 81), some (.int x1), some (.int x2)] [(.int s0)] M Q := by
  refine ev_if_ne (tgt := 35) dX4_readSenses_30 (by decide) (fun c => ?_) (fun c => ?_)
  · replace h := h.1 c
    refine ev_aload_n dX4_readSenses_35 rfl ?_
    obtain ⟨⟨c, t1⟩, h⟩ := h
    refine ev_getD dX4_readSenses_36 fl_WithoutE_Reader_19 lx_81 rfl c ?_
    refine ev_iload_n dX4_readSenses_39 rfl ?_
    refine ev_iload_n dX4_readSenses_40 rfl ?_
    obtain ⟨Q2, hc, h⟩ := h
    refine ev_callV [.int x1, .int x2] dX4_readSenses_41 ml_WithoutE_Reader_150 (lx_T t1) rfl rfl (Nat.le_of_ble_eq_true rfl) hc (fun zr zM q => ?_)
    exact h zr zM q
  · replace h := h.2 c
    refine ev_iconst (v := 0) dX4_readSenses_33 (by decide) ?_
    exact ev_zret dX4_readSenses_34 rfl (by decide) h
theorem gX4_readSenses_44 {d : Nat} {M : ev_Mem} {Q : Option Value → ev_Mem → Prop} {x1 x2 : Int32} (h : ((((M.1 81 5) = 44) → (((5 ≤ x2) → (Ev LX (d + 1) mX4_readSenses 18 [some (.ref 81), some (.int x1), some (.int (x2 + 1))] [] M Q)) ∧ ((¬ 5 ≤ x2) → (∃ Q2 : Option Value → ev_Mem → Prop, Cl LX d mX4_advance [.ref 81] M Q2 ∧ ∀ (zr : Option Value) (zM : ev_Mem), Q2 zr zM → Ev LX (d + 1) mX4_readSenses 64 [some (.ref 81), some (.int x1), some (.int x2)] (zr.toList ++ []) zM Q)))) ∧ ((¬ (M.1 81 5) = 44) → (Q (some (.int 1)) M)))) : Ev LX (d + 1) mX4_readSenses 44 [some (.ref 81), some (.int x1), some (.int x2)] [] M Q := by
  refine ev_aload_n dX4_readSenses_44 rfl ?_
  refine ev_getI dX4_readSenses_45 fl_WithoutE_Reader_41 lx_81 rfl ?_
  refine ev_bipush (v := 44) dX4_readSenses_48 (by decide) ?_
  refine ev_icmp_eq (tgt := 55) dX4_readSenses_50 (by decide) (fun c => ?_) (fun c => ?_)
  · replace h := h.1 c
    refine ev_iload_n dX4_readSenses_55 rfl ?_
    refine ev_iconst (v := 5) dX4_readSenses_56 (by decide) ?_
    refine ev_icmp_ge (tgt := 64) dX4_readSenses_57 (by decide) (fun c => ?_) (fun c => ?_)
    · replace h := h.1 c
      refine ev_iinc (v := x2 + 1) (ls2 := [some (.ref 81), some (.int x1), some (.int (x2 + 1))]) dX4_readSenses_64 rfl rfl rfl ?_
      refine ev_goto (tgt := 18) dX4_readSenses_67 (by decide) ?_
      exact h
    · replace h := h.2 c
      refine ev_aload_n dX4_readSenses_60 rfl ?_
      obtain ⟨Q2, hc, h⟩ := h
      refine ev_callV [] dX4_readSenses_61 ml_WithoutE_Reader_38 lx_81 rfl rfl (Nat.le_of_ble_eq_true rfl) hc (fun zr zM q => ?_)
      exact h zr zM q
  · replace h := h.2 c
    refine ev_iconst (v := 1) dX4_readSenses_53 (by decide) ?_
    exact ev_zret dX4_readSenses_54 rfl (by decide) h
theorem gX4_readSenses_64 {d : Nat} {M : ev_Mem} {Q : Option Value → ev_Mem → Prop} {x1 x2 : Int32} (h : (Ev LX d mX4_readSenses 18 [some (.ref 81), some (.int x1), some (.int (x2 + 1))] [] M Q)) : Ev LX d mX4_readSenses 64 [some (.ref 81), some (.int x1), some (.int x2)] [] M Q := by
  refine ev_iinc (v := x2 + 1) (ls2 := [some (.ref 81), some (.int x1), some (.int (x2 + 1))]) dX4_readSenses_64 rfl rfl rfl ?_
  refine ev_goto (tgt := 18) dX4_readSenses_67 (by decide) ?_
  exact h
theorem dX4_readLetters_0 : decode cX4_readLetters 0 = .ok (.aload_n 0, 1) := by decide +kernel
theorem dX4_readLetters_1 : decode cX4_readLetters 1 = .ok (.bipush 9, 2) := by decide +kernel
theorem dX4_readLetters_3 : decode cX4_readLetters 3 = .ok (.invokevirtual 154, 3) := by decide +kernel
theorem dX4_readLetters_6 : decode cX4_readLetters 6 = .ok (.ifCond .ne 5, 3) := by decide +kernel
theorem dX4_readLetters_9 : decode cX4_readLetters 9 = .ok (.iconst 0, 1) := by decide +kernel
theorem dX4_readLetters_10 : decode cX4_readLetters 10 = .ok (.ireturn, 1) := by decide +kernel
theorem dX4_readLetters_11 : decode cX4_readLetters 11 = .ok (.aload_n 0, 1) := by decide +kernel
theorem dX4_readLetters_12 : decode cX4_readLetters 12 = .ok (.getfield 19, 3) := by decide +kernel
theorem dX4_readLetters_15 : decode cX4_readLetters 15 = .ok (.aload_n 0, 1) := by decide +kernel
theorem dX4_readLetters_16 : decode cX4_readLetters 16 = .ok (.getfield 35, 3) := by decide +kernel
theorem dX4_readLetters_19 : decode cX4_readLetters 19 = .ok (.aload_n 0, 1) := by decide +kernel
theorem dX4_readLetters_20 : decode cX4_readLetters 20 = .ok (.getfield 48, 3) := by decide +kernel
theorem dX4_readLetters_23 : decode cX4_readLetters 23 = .ok (.isub, 1) := by decide +kernel
theorem dX4_readLetters_24 : decode cX4_readLetters 24 = .ok (.invokevirtual 144, 3) := by decide +kernel
theorem dX4_readLetters_27 : decode cX4_readLetters 27 = .ok (.aload_n 0, 1) := by decide +kernel
theorem dX4_readLetters_28 : decode cX4_readLetters 28 = .ok (.getfield 48, 3) := by decide +kernel
theorem dX4_readLetters_31 : decode cX4_readLetters 31 = .ok (.istore_n 1, 1) := by decide +kernel
theorem dX4_readLetters_32 : decode cX4_readLetters 32 = .ok (.iload_n 1, 1) := by decide +kernel
theorem dX4_readLetters_33 : decode cX4_readLetters 33 = .ok (.aload_n 0, 1) := by decide +kernel
theorem dX4_readLetters_34 : decode cX4_readLetters 34 = .ok (.getfield 35, 3) := by decide +kernel
theorem dX4_readLetters_37 : decode cX4_readLetters 37 = .ok (.if_icmp .ge 25, 3) := by decide +kernel
theorem dX4_readLetters_40 : decode cX4_readLetters 40 = .ok (.aload_n 0, 1) := by decide +kernel
theorem dX4_readLetters_41 : decode cX4_readLetters 41 = .ok (.getfield 19, 3) := by decide +kernel
theorem dX4_readLetters_44 : decode cX4_readLetters 44 = .ok (.aload_n 0, 1) := by decide +kernel
theorem dX4_readLetters_45 : decode cX4_readLetters 45 = .ok (.getfield 15, 3) := by decide +kernel
theorem dX4_readLetters_48 : decode cX4_readLetters 48 = .ok (.getfield 56, 3) := by decide +kernel
theorem dX4_readLetters_51 : decode cX4_readLetters 51 = .ok (.iload_n 1, 1) := by decide +kernel
theorem dX4_readLetters_52 : decode cX4_readLetters 52 = .ok (.iaload, 1) := by decide +kernel
theorem dX4_readLetters_53 : decode cX4_readLetters 53 = .ok (.invokevirtual 144, 3) := by decide +kernel
theorem dX4_readLetters_56 : decode cX4_readLetters 56 = .ok (.iinc 1 1, 3) := by decide +kernel
theorem dX4_readLetters_59 : decode cX4_readLetters 59 = .ok (.goto (-27), 3) := by decide +kernel
theorem dX4_readLetters_62 : decode cX4_readLetters 62 = .ok (.aload_n 0, 1) := by decide +kernel
theorem dX4_readLetters_63 : decode cX4_readLetters 63 = .ok (.invokevirtual 38, 3) := by decide +kernel
theorem dX4_readLetters_66 : decode cX4_readLetters 66 = .ok (.iconst 1, 1) := by decide +kernel
theorem dX4_readLetters_67 : decode cX4_readLetters 67 = .ok (.ireturn, 1) := by decide +kernel
theorem gX4_readLetters_0 {d : Nat} {M : ev_Mem} {Q : Option Value → ev_Mem → Prop} (h : (∃ Q2 : Option Value → ev_Mem → Prop, Cl LX d mX4_checkLetters [.ref 81, .int 9] M Q2 ∧ ∀ (zr : Option Value) (zM : ev_Mem), Q2 zr zM → Ev LX (d + 1) mX4_readLetters 6 [some (.ref 81), none] (zr.toList ++ []) zM Q)) : Ev LX (d + 1) mX4_readLetters 0 [some (.ref 81), none] [] M Q := by
  refine ev_aload_n dX4_readLetters_0 rfl ?_
  refine ev_bipush (v := 9) dX4_readLetters_1 (by decide) ?_
  obtain ⟨Q2, hc, h⟩ := h
  refine ev_callV [.int 9] dX4_readLetters_3 ml_WithoutE_Reader_154 lx_81 rfl rfl (Nat.le_of_ble_eq_true rfl) hc (fun zr zM q => ?_)
  exact h zr zM q
theorem gX4_readLetters_6 {d : Nat} {M : ev_Mem} {Q : Option Value → ev_Mem → Prop} {s0 : Int32} (h : (((¬ s0 = 0) → ((¬ M.1 81 1 = 0 ∧ ev_isT (M.1 81 1).toNatClampNeg) ∧ ((puOK M (M.1 81 1).toNatClampNeg) ∧ (∀ M1 : ev_Mem, M1 = putM M (M.1 81 1).toNatClampNeg ((M.1 81 7) - (M.1 81 6)) → (Ev LX (d + 1) mX4_readLetters 32 [some (.ref 81), some (.int (M1.1 81 6))] [] M1 Q))))) ∧ ((s0 = 0) → (Q (some (.int 0)) M)))) : Ev LX (d + 1) mX4_readLetters 6 [some (.ref 81), none] [(.int s0)] M Q := by
  refine ev_if_ne (tgt := 11) dX4_readLetters_6 (by decide) (fun c => ?_) (fun c => ?_)
  · replace h := h.1 c
    refine ev_aload_n dX4_readLetters_11 rfl ?_
    obtain ⟨⟨c, t1⟩, h⟩ := h
    refine ev_getD dX4_readLetters_12 fl_WithoutE_Reader_19 lx_81 rfl c ?_
    refine ev_aload_n dX4_readLetters_15 rfl ?_
    refine ev_getI dX4_readLetters_16 fl_WithoutE_Reader_35 lx_81 rfl ?_
    refine ev_aload_n dX4_readLetters_19 rfl ?_
    refine ev_getI dX4_readLetters_20 fl_WithoutE_Reader_48 lx_81 rfl ?_
    refine ev_isub dX4_readLetters_23 ?_
    obtain ⟨p1, h⟩ := h
    refine ev_callV [.int ((M.1 81 7) - (M.1 81 6))] dX4_readLetters_24 ml_WithoutE_Reader_144 (lx_T t1) rfl rfl (Nat.le_of_ble_eq_true rfl) (kX8_put p1) ?_
    rintro zr zM ⟨q1, q2⟩
    rw [q1, q2]
    generalize eM1 : putM M (M.1 81 1).toNatClampNeg ((M.1 81 7) - (M.1 81 6)) = M1
    replace h := h M1 eM1.symm
    show Ev LX (d + 1) mX4_readLetters 27 [some (.ref 81), none] [] M1 Q
    refine ev_aload_n dX4_readLetters_27 rfl ?_
    refine ev_getI dX4_readLetters_28 fl_WithoutE_Reader_48 lx_81 rfl ?_
    refine ev_istore_n (ls2 := [some (.ref 81), some (.int (M1.1 81 6))]) dX4_readLetters_31 (Nat.le_of_ble_eq_true rfl) rfl ?_
    exact h
  · replace h := h.2 c
    refine ev_iconst (v := 0) dX4_readLetters_9 (by decide) ?_
    exact ev_zret dX4_readLetters_10 rfl (by decide) h
theorem gX4_readLetters_32 {d : Nat} {M : ev_Mem} {Q : Option Value → ev_Mem → Prop} {x1 : Int32} (h : ((((M.1 81 7) ≤ x1) → (∃ Q2 : Option Value → ev_Mem → Prop, Cl LX d mX4_advance [.ref 81] M Q2 ∧ ∀ (zr : Option Value) (zM : ev_Mem), Q2 zr zM → Ev LX (d + 1) mX4_readLetters 66 [none, none] (zr.toList ++ []) zM Q)) ∧ ((¬ (M.1 81 7) ≤ x1) → ((¬ M.1 81 1 = 0 ∧ ev_isT (M.1 81 1).toNatClampNeg) ∧ (vp_in x1 300 ∧ ((puOK M (M.1 81 1).toNatClampNeg) ∧ (∀ M1 : ev_Mem, M1 = putM M (M.1 81 1).toNatClampNeg (M.1 2 x1.toNatClampNeg) → (Ev LX (d + 1) mX4_readLetters 32 [some (.ref 81), some (.int (x1 + 1))] [] M1 Q)))))))) : Ev LX (d + 1) mX4_readLetters 32 [some (.ref 81), some (.int x1)] [] M Q := by
  refine ev_iload_n dX4_readLetters_32 rfl ?_
  refine ev_aload_n dX4_readLetters_33 rfl ?_
  refine ev_getI dX4_readLetters_34 fl_WithoutE_Reader_35 lx_81 rfl ?_
  refine ev_icmp_ge (tgt := 62) dX4_readLetters_37 (by decide) (fun c => ?_) (fun c => ?_)
  · replace h := h.1 c
    refine ev_aload_n dX4_readLetters_62 rfl ?_
    obtain ⟨Q2, hc, h⟩ := h
    refine ev_callV [] dX4_readLetters_63 ml_WithoutE_Reader_38 lx_81 rfl rfl (Nat.le_of_ble_eq_true rfl) hc (fun zr zM q => ?_)
    refine Ev.weak (ls := [none, none]) trivial ?_
    exact h zr zM q
  · replace h := h.2 c
    refine ev_aload_n dX4_readLetters_40 rfl ?_
    obtain ⟨⟨c, t1⟩, h⟩ := h
    refine ev_getD dX4_readLetters_41 fl_WithoutE_Reader_19 lx_81 rfl c ?_
    refine ev_aload_n dX4_readLetters_44 rfl ?_
    refine ev_getA dX4_readLetters_45 fl_WithoutE_Reader_15 lx_81 rfl ?_
    refine ev_getA dX4_readLetters_48 fl_WithoutE_Reader_56 lx_1 rfl ?_
    refine ev_iload_n dX4_readLetters_51 rfl ?_
    obtain ⟨c, h⟩ := h
    refine ev_iald dX4_readLetters_52 lx_2 c ?_
    obtain ⟨p1, h⟩ := h
    refine ev_callV [.int (M.1 2 x1.toNatClampNeg)] dX4_readLetters_53 ml_WithoutE_Reader_144 (lx_T t1) rfl rfl (Nat.le_of_ble_eq_true rfl) (kX8_put p1) ?_
    rintro zr zM ⟨q1, q2⟩
    rw [q1, q2]
    generalize eM1 : putM M (M.1 81 1).toNatClampNeg (M.1 2 x1.toNatClampNeg) = M1
    replace h := h M1 eM1.symm
    show Ev LX (d + 1) mX4_readLetters 56 [some (.ref 81), some (.int x1)] [] M1 Q
    refine ev_iinc (v := x1 + 1) (ls2 := [some (.ref 81), some (.int (x1 + 1))]) dX4_readLetters_56 rfl rfl rfl ?_
    refine ev_goto (tgt := 32) dX4_readLetters_59 (by decide) ?_
    exact h
theorem gX4_readLetters_66 {d : Nat} {M : ev_Mem} {Q : Option Value → ev_Mem → Prop} (h : (Q (some (.int 1)) M)) : Ev LX d mX4_readLetters 66 [none, none] [] M Q := by
  refine ev_iconst (v := 1) dX4_readLetters_66 (by decide) ?_
  exact ev_zret dX4_readLetters_67 rfl (by decide) h
theorem dX4_readLetter_0 : decode cX4_readLetter 0 = .ok (.aload_n 0, 1) := by decide +kernel
theorem dX4_readLetter_1 : decode cX4_readLetter 1 = .ok (.iconst 1, 1) := by decide +kernel
theorem dX4_readLetter_2 : decode cX4_readLetter 2 = .ok (.invokevirtual 154, 3) := by decide +kernel
theorem dX4_readLetter_5 : decode cX4_readLetter 5 = .ok (.ifCond .ne 5, 3) := by decide +kernel
theorem dX4_readLetter_8 : decode cX4_readLetter 8 = .ok (.iconst 0, 1) := by decide +kernel
theorem dX4_readLetter_9 : decode cX4_readLetter 9 = .ok (.ireturn, 1) := by decide +kernel
theorem dX4_readLetter_10 : decode cX4_readLetter 10 = .ok (.aload_n 0, 1) := by decide +kernel
theorem dX4_readLetter_11 : decode cX4_readLetter 11 = .ok (.getfield 19, 3) := by decide +kernel
theorem dX4_readLetter_14 : decode cX4_readLetter 14 = .ok (.aload_n 0, 1) := by decide +kernel
theorem dX4_readLetter_15 : decode cX4_readLetter 15 = .ok (.getfield 15, 3) := by decide +kernel
theorem dX4_readLetter_18 : decode cX4_readLetter 18 = .ok (.getfield 56, 3) := by decide +kernel
theorem dX4_readLetter_21 : decode cX4_readLetter 21 = .ok (.aload_n 0, 1) := by decide +kernel
theorem dX4_readLetter_22 : decode cX4_readLetter 22 = .ok (.getfield 48, 3) := by decide +kernel
theorem dX4_readLetter_25 : decode cX4_readLetter 25 = .ok (.iaload, 1) := by decide +kernel
theorem dX4_readLetter_26 : decode cX4_readLetter 26 = .ok (.bipush 97, 2) := by decide +kernel
theorem dX4_readLetter_28 : decode cX4_readLetter 28 = .ok (.isub, 1) := by decide +kernel
theorem dX4_readLetter_29 : decode cX4_readLetter 29 = .ok (.invokevirtual 144, 3) := by decide +kernel
theorem dX4_readLetter_32 : decode cX4_readLetter 32 = .ok (.aload_n 0, 1) := by decide +kernel
theorem dX4_readLetter_33 : decode cX4_readLetter 33 = .ok (.invokevirtual 38, 3) := by decide +kernel
theorem dX4_readLetter_36 : decode cX4_readLetter 36 = .ok (.iconst 1, 1) := by decide +kernel
theorem dX4_readLetter_37 : decode cX4_readLetter 37 = .ok (.ireturn, 1) := by decide +kernel
theorem gX4_readLetter_0 {d : Nat} {M : ev_Mem} {Q : Option Value → ev_Mem → Prop} (h : (∃ Q2 : Option Value → ev_Mem → Prop, Cl LX d mX4_checkLetters [.ref 81, .int 1] M Q2 ∧ ∀ (zr : Option Value) (zM : ev_Mem), Q2 zr zM → Ev LX (d + 1) mX4_readLetter 5 [some (.ref 81)] (zr.toList ++ []) zM Q)) : Ev LX (d + 1) mX4_readLetter 0 [some (.ref 81)] [] M Q := by
  refine ev_aload_n dX4_readLetter_0 rfl ?_
  refine ev_iconst (v := 1) dX4_readLetter_1 (by decide) ?_
  obtain ⟨Q2, hc, h⟩ := h
  refine ev_callV [.int 1] dX4_readLetter_2 ml_WithoutE_Reader_154 lx_81 rfl rfl (Nat.le_of_ble_eq_true rfl) hc (fun zr zM q => ?_)
  exact h zr zM q
theorem gX4_readLetter_5 {d : Nat} {M : ev_Mem} {Q : Option Value → ev_Mem → Prop} {s0 : Int32} (h : (((¬ s0 = 0) → ((¬ M.1 81 1 = 0 ∧ ev_isT (M.1 81 1).toNatClampNeg) ∧ (vp_in (M.1 81 6) 300 ∧ ((puOK M (M.1 81 1).toNatClampNeg) ∧ (∀ M1 : ev_Mem, M1 = putM M (M.1 81 1).toNatClampNeg ((M.1 2 (M.1 81 6).toNatClampNeg) - 97) → (∃ Q2 : Option Value → ev_Mem → Prop, Cl LX d mX4_advance [.ref 81] M1 Q2 ∧ ∀ (zr : Option Value) (zM : ev_Mem), Q2 zr zM → Ev LX (d + 1) mX4_readLetter 36 [none] (zr.toList ++ []) zM Q)))))) ∧ ((s0 = 0) → (Q (some (.int 0)) M)))) : Ev LX (d + 1) mX4_readLetter 5 [some (.ref 81)] [(.int s0)] M Q := by
  refine ev_if_ne (tgt := 10) dX4_readLetter_5 (by decide) (fun c => ?_) (fun c => ?_)
  · replace h := h.1 c
    refine ev_aload_n dX4_readLetter_10 rfl ?_
    obtain ⟨⟨c, t1⟩, h⟩ := h
    refine ev_getD dX4_readLetter_11 fl_WithoutE_Reader_19 lx_81 rfl c ?_
    refine ev_aload_n dX4_readLetter_14 rfl ?_
    refine ev_getA dX4_readLetter_15 fl_WithoutE_Reader_15 lx_81 rfl ?_
    refine ev_getA dX4_readLetter_18 fl_WithoutE_Reader_56 lx_1 rfl ?_
    refine ev_aload_n dX4_readLetter_21 rfl ?_
    refine ev_getI dX4_readLetter_22 fl_WithoutE_Reader_48 lx_81 rfl ?_
    obtain ⟨c, h⟩ := h
    refine ev_iald dX4_readLetter_25 lx_2 c ?_
    refine ev_bipush (v := 97) dX4_readLetter_26 (by decide) ?_
    refine ev_isub dX4_readLetter_28 ?_
    obtain ⟨p1, h⟩ := h
    refine ev_callV [.int ((M.1 2 (M.1 81 6).toNatClampNeg) - 97)] dX4_readLetter_29 ml_WithoutE_Reader_144 (lx_T t1) rfl rfl (Nat.le_of_ble_eq_true rfl) (kX8_put p1) ?_
    rintro zr zM ⟨q1, q2⟩
    rw [q1, q2]
    generalize eM1 : putM M (M.1 81 1).toNatClampNeg ((M.1 2 (M.1 81 6).toNatClampNeg) - 97) = M1
    replace h := h M1 eM1.symm
    show Ev LX (d + 1) mX4_readLetter 32 [some (.ref 81)] [] M1 Q
    refine ev_aload_n dX4_readLetter_32 rfl ?_
    obtain ⟨Q2, hc, h⟩ := h
    refine ev_callV [] dX4_readLetter_33 ml_WithoutE_Reader_38 lx_81 rfl rfl (Nat.le_of_ble_eq_true rfl) hc (fun zr zM q => ?_)
    refine Ev.weak (ls := [none]) trivial ?_
    exact h zr zM q
  · replace h := h.2 c
    refine ev_iconst (v := 0) dX4_readLetter_8 (by decide) ?_
    exact ev_zret dX4_readLetter_9 rfl (by decide) h
theorem gX4_readLetter_36 {d : Nat} {M : ev_Mem} {Q : Option Value → ev_Mem → Prop} (h : (Q (some (.int 1)) M)) : Ev LX d mX4_readLetter 36 [none] [] M Q := by
  refine ev_iconst (v := 1) dX4_readLetter_36 (by decide) ?_
  exact ev_zret dX4_readLetter_37 rfl (by decide) h
theorem dX4_checkLetters_0 : decode cX4_checkLetters 0 = .ok (.aload_n 0, 1) := by decide +kernel
theorem dX4_checkLetters_1 : decode cX4_checkLetters 1 = .ok (.getfield 41, 3) := by decide +kernel
theorem dX4_checkLetters_4 : decode cX4_checkLetters 4 = .ok (.iconst 1, 1) := by decide +kernel
theorem dX4_checkLetters_5 : decode cX4_checkLetters 5 = .ok (.if_icmp .eq 9, 3) := by decide +kernel
theorem dX4_checkLetters_8 : decode cX4_checkLetters 8 = .ok (.aload_n 0, 1) := by decide +kernel
theorem dX4_checkLetters_9 : decode cX4_checkLetters 9 = .ok (.iconst 1, 1) := by decide +kernel
theorem dX4_checkLetters_10 : decode cX4_checkLetters 10 = .ok (.invokevirtual 79, 3) := by decide +kernel
theorem dX4_checkLetters_13 : decode cX4_checkLetters 13 = .ok (.ireturn, 1) := by decide +kernel
theorem dX4_checkLetters_14 : decode cX4_checkLetters 14 = .ok (.aload_n 0, 1) := by decide +kernel
theorem dX4_checkLetters_15 : decode cX4_checkLetters 15 = .ok (.getfield 35, 3) := by decide +kernel
theorem dX4_checkLetters_18 : decode cX4_checkLetters 18 = .ok (.aload_n 0, 1) := by decide +kernel
theorem dX4_checkLetters_19 : decode cX4_checkLetters 19 = .ok (.getfield 48, 3) := by decide +kernel
theorem dX4_checkLetters_22 : decode cX4_checkLetters 22 = .ok (.isub, 1) := by decide +kernel
theorem dX4_checkLetters_23 : decode cX4_checkLetters 23 = .ok (.iload_n 1, 1) := by decide +kernel
theorem dX4_checkLetters_24 : decode cX4_checkLetters 24 = .ok (.if_icmp .le 10, 3) := by decide +kernel
theorem dX4_checkLetters_27 : decode cX4_checkLetters 27 = .ok (.aload_n 0, 1) := by decide +kernel
theorem dX4_checkLetters_28 : decode cX4_checkLetters 28 = .ok (.bipush 7, 2) := by decide +kernel
theorem dX4_checkLetters_30 : decode cX4_checkLetters 30 = .ok (.invokevirtual 79, 3) := by decide +kernel
theorem dX4_checkLetters_33 : decode cX4_checkLetters 33 = .ok (.ireturn, 1) := by decide +kernel
theorem dX4_checkLetters_34 : decode cX4_checkLetters 34 = .ok (.aload_n 0, 1) := by decide +kernel
theorem dX4_checkLetters_35 : decode cX4_checkLetters 35 = .ok (.getfield 48, 3) := by decide +kernel
theorem dX4_checkLetters_38 : decode cX4_checkLetters 38 = .ok (.istore_n 2, 1) := by decide +kernel
theorem dX4_checkLetters_39 : decode cX4_checkLetters 39 = .ok (.iload_n 2, 1) := by decide +kernel
theorem dX4_checkLetters_40 : decode cX4_checkLetters 40 = .ok (.aload_n 0, 1) := by decide +kernel
theorem dX4_checkLetters_41 : decode cX4_checkLetters 41 = .ok (.getfield 35, 3) := by decide +kernel
theorem dX4_checkLetters_44 : decode cX4_checkLetters 44 = .ok (.if_icmp .ge 31, 3) := by decide +kernel
theorem dX4_checkLetters_47 : decode cX4_checkLetters 47 = .ok (.aload_n 0, 1) := by decide +kernel
theorem dX4_checkLetters_48 : decode cX4_checkLetters 48 = .ok (.getfield 15, 3) := by decide +kernel
theorem dX4_checkLetters_51 : decode cX4_checkLetters 51 = .ok (.getfield 56, 3) := by decide +kernel
theorem dX4_checkLetters_54 : decode cX4_checkLetters 54 = .ok (.iload_n 2, 1) := by decide +kernel
theorem dX4_checkLetters_55 : decode cX4_checkLetters 55 = .ok (.iaload, 1) := by decide +kernel
theorem dX4_checkLetters_56 : decode cX4_checkLetters 56 = .ok (.invokestatic 157, 3) := by decide +kernel
theorem dX4_checkLetters_59 : decode cX4_checkLetters 59 = .ok (.ifCond .ne 10, 3) := by decide +kernel
theorem dX4_checkLetters_62 : decode cX4_checkLetters 62 = .ok (.aload_n 0, 1) := by decide +kernel
theorem dX4_checkLetters_63 : decode cX4_checkLetters 63 = .ok (.bipush 7, 2) := by decide +kernel
theorem dX4_checkLetters_65 : decode cX4_checkLetters 65 = .ok (.invokevirtual 79, 3) := by decide +kernel
theorem dX4_checkLetters_68 : decode cX4_checkLetters 68 = .ok (.ireturn, 1) := by decide +kernel
theorem dX4_checkLetters_69 : decode cX4_checkLetters 69 = .ok (.iinc 2 1, 3) := by decide +kernel
theorem dX4_checkLetters_72 : decode cX4_checkLetters 72 = .ok (.goto (-33), 3) := by decide +kernel
theorem dX4_checkLetters_75 : decode cX4_checkLetters 75 = .ok (.iconst 1, 1) := by decide +kernel
theorem dX4_checkLetters_76 : decode cX4_checkLetters 76 = .ok (.ireturn, 1) := by decide +kernel
theorem gX4_checkLetters_0 {d : Nat} {M : ev_Mem} {Q : Option Value → ev_Mem → Prop} {x1 : Int32} (h : ((((M.1 81 5) = 1) → (((((M.1 81 7) - (M.1 81 6)) ≤ x1) → (Ev LX (d + 1) mX4_checkLetters 39 [some (.ref 81), none, some (.int (M.1 81 6))] [] M Q)) ∧ ((¬ ((M.1 81 7) - (M.1 81 6)) ≤ x1) → (∀ M1 : ev_Mem, M1 = flM M (7 : Int32) → (Q (some (.int 0)) M1))))) ∧ ((¬ (M.1 81 5) = 1) → (∀ M2 : ev_Mem, M2 = flM M (1 : Int32) → (Q (some (.int 0)) M2))))) : Ev LX (d + 1) mX4_checkLetters 0 [some (.ref 81), some (.int x1), none] [] M Q := by
  refine ev_aload_n dX4_checkLetters_0 rfl ?_
  refine ev_getI dX4_checkLetters_1 fl_WithoutE_Reader_41 lx_81 rfl ?_
  refine ev_iconst (v := 1) dX4_checkLetters_4 (by decide) ?_
  refine ev_icmp_eq (tgt := 14) dX4_checkLetters_5 (by decide) (fun c => ?_) (fun c => ?_)
  · replace h := h.1 c
    refine ev_aload_n dX4_checkLetters_14 rfl ?_
    refine ev_getI dX4_checkLetters_15 fl_WithoutE_Reader_35 lx_81 rfl ?_
    refine ev_aload_n dX4_checkLetters_18 rfl ?_
    refine ev_getI dX4_checkLetters_19 fl_WithoutE_Reader_48 lx_81 rfl ?_
    refine ev_isub dX4_checkLetters_22 ?_
    refine ev_iload_n dX4_checkLetters_23 rfl ?_
    refine ev_icmp_le (tgt := 34) dX4_checkLetters_24 (by decide) (fun c => ?_) (fun c => ?_)
    · replace h := h.1 c
      refine ev_aload_n dX4_checkLetters_34 rfl ?_
      refine ev_getI dX4_checkLetters_35 fl_WithoutE_Reader_48 lx_81 rfl ?_
      refine ev_istore_n (ls2 := [some (.ref 81), some (.int x1), some (.int (M.1 81 6))]) dX4_checkLetters_38 (Nat.le_of_ble_eq_true rfl) rfl ?_
      refine Ev.weak (ls := [some (.ref 81), none, some (.int (M.1 81 6))]) ⟨rfl, rfl, trivial⟩ ?_
      exact h
    · replace h := h.2 c
      refine ev_aload_n dX4_checkLetters_27 rfl ?_
      refine ev_bipush (v := 7) dX4_checkLetters_28 (by decide) ?_
      refine ev_callV [.int 7] dX4_checkLetters_30 ml_WithoutE_Reader_79 lx_81 rfl rfl (Nat.le_of_ble_eq_true rfl) (kX4_fail) ?_
      rintro zr zM ⟨q1, q2⟩
      rw [q1, q2]
      generalize eM1 : flM M (7 : Int32) = M1
      replace h := h M1 eM1.symm
      show Ev LX (d + 1) mX4_checkLetters 33 [some (.ref 81), some (.int x1), none] [(.int 0)] M1 Q
      exact ev_zret dX4_checkLetters_33 rfl (by decide) h
  · replace h := h.2 c
    refine ev_aload_n dX4_checkLetters_8 rfl ?_
    refine ev_iconst (v := 1) dX4_checkLetters_9 (by decide) ?_
    refine ev_callV [.int 1] dX4_checkLetters_10 ml_WithoutE_Reader_79 lx_81 rfl rfl (Nat.le_of_ble_eq_true rfl) (kX4_fail) ?_
    rintro zr zM ⟨q1, q2⟩
    rw [q1, q2]
    generalize eM2 : flM M (1 : Int32) = M2
    replace h := h M2 eM2.symm
    show Ev LX (d + 1) mX4_checkLetters 13 [some (.ref 81), some (.int x1), none] [(.int 0)] M2 Q
    exact ev_zret dX4_checkLetters_13 rfl (by decide) h
theorem gX4_checkLetters_39 {d : Nat} {M : ev_Mem} {Q : Option Value → ev_Mem → Prop} {x2 : Int32} (h : ((((M.1 81 7) ≤ x2) → (Q (some (.int 1)) M)) ∧ ((¬ (M.1 81 7) ≤ x2) → (vp_in x2 300 ∧ ((((iin (M.1 2 x2.toNatClampNeg) 97 122) = true) → (Ev LX (d + 1) mX4_checkLetters 39 [some (.ref 81), none, some (.int (x2 + 1))] [] M Q)) ∧ (((iin (M.1 2 x2.toNatClampNeg) 97 122) = false) → (∀ M1 : ev_Mem, M1 = flM M (7 : Int32) → (Q (some (.int 0)) M1)))))))) : Ev LX (d + 1) mX4_checkLetters 39 [some (.ref 81), none, some (.int x2)] [] M Q := by
  refine ev_iload_n dX4_checkLetters_39 rfl ?_
  refine ev_aload_n dX4_checkLetters_40 rfl ?_
  refine ev_getI dX4_checkLetters_41 fl_WithoutE_Reader_35 lx_81 rfl ?_
  refine ev_icmp_ge (tgt := 75) dX4_checkLetters_44 (by decide) (fun c => ?_) (fun c => ?_)
  · replace h := h.1 c
    refine ev_iconst (v := 1) dX4_checkLetters_75 (by decide) ?_
    exact ev_zret dX4_checkLetters_76 rfl (by decide) h
  · replace h := h.2 c
    refine ev_aload_n dX4_checkLetters_47 rfl ?_
    refine ev_getA dX4_checkLetters_48 fl_WithoutE_Reader_15 lx_81 rfl ?_
    refine ev_getA dX4_checkLetters_51 fl_WithoutE_Reader_56 lx_1 rfl ?_
    refine ev_iload_n dX4_checkLetters_54 rfl ?_
    obtain ⟨c, h⟩ := h
    refine ev_iald dX4_checkLetters_55 lx_2 c ?_
    refine ev_callN [.int (M.1 2 x2.toNatClampNeg)] dX4_checkLetters_56 ml_WithoutE_Reader_157 rfl (Nat.le_of_ble_eq_true rfl) (kX10_isSmall) ?_
    rintro zr zM ⟨q1, q2⟩
    rw [q1, q2]
    show Ev LX (d + 1) mX4_checkLetters 59 [some (.ref 81), none, some (.int x2)] [(.int (bi (iin (M.1 2 x2.toNatClampNeg) 97 122)))] M Q
    refine ev_if_ne (tgt := 69) dX4_checkLetters_59 (by decide) (fun c => ?_) (fun c => ?_)
    · replace h := h.1 ((bi_n0 _).mp c)
      refine ev_iinc (v := x2 + 1) (ls2 := [some (.ref 81), none, some (.int (x2 + 1))]) dX4_checkLetters_69 rfl rfl rfl ?_
      refine ev_goto (tgt := 39) dX4_checkLetters_72 (by decide) ?_
      exact h
    · replace h := h.2 ((bi_0 _).mp c)
      refine ev_aload_n dX4_checkLetters_62 rfl ?_
      refine ev_bipush (v := 7) dX4_checkLetters_63 (by decide) ?_
      refine ev_callV [.int 7] dX4_checkLetters_65 ml_WithoutE_Reader_79 lx_81 rfl rfl (Nat.le_of_ble_eq_true rfl) (kX4_fail) ?_
      rintro zr zM ⟨q1, q2⟩
      rw [q1, q2]
      generalize eM1 : flM M (7 : Int32) = M1
      replace h := h M1 eM1.symm
      show Ev LX (d + 1) mX4_checkLetters 68 [some (.ref 81), none, some (.int x2)] [(.int 0)] M1 Q
      exact ev_zret dX4_checkLetters_68 rfl (by decide) h
theorem dX4_readDeed_0 : decode cX4_readDeed 0 = .ok (.iload_n 1, 1) := by decide +kernel
theorem dX4_readDeed_1 : decode cX4_readDeed 1 = .ok (.tableswitch 183 3 8 #[39, 109, 114, 162, 167, 175], 39) := by decide +kernel
theorem dX4_readDeed_40 : decode cX4_readDeed 40 = .ok (.aload_n 0, 1) := by decide +kernel
theorem dX4_readDeed_41 : decode cX4_readDeed 41 = .ok (.invokevirtual 114, 3) := by decide +kernel
theorem dX4_readDeed_44 : decode cX4_readDeed 44 = .ok (.ifCond .eq 64, 3) := by decide +kernel
theorem dX4_readDeed_47 : decode cX4_readDeed 47 = .ok (.aload_n 0, 1) := by decide +kernel
theorem dX4_readDeed_48 : decode cX4_readDeed 48 = .ok (.ldc 118, 2) := by decide +kernel
theorem dX4_readDeed_50 : decode cX4_readDeed 50 = .ok (.invokevirtual 120, 3) := by decide +kernel
theorem dX4_readDeed_53 : decode cX4_readDeed 53 = .ok (.ifCond .eq 55, 3) := by decide +kernel
theorem dX4_readDeed_56 : decode cX4_readDeed 56 = .ok (.aload_n 0, 1) := by decide +kernel
theorem dX4_readDeed_57 : decode cX4_readDeed 57 = .ok (.iconst 0, 1) := by decide +kernel
theorem dX4_readDeed_58 : decode cX4_readDeed 58 = .ok (.bipush 6, 2) := by decide +kernel
theorem dX4_readDeed_60 : decode cX4_readDeed 60 = .ok (.invokevirtual 123, 3) := by decide +kernel
theorem dX4_readDeed_63 : decode cX4_readDeed 63 = .ok (.ifCond .eq 45, 3) := by decide +kernel
theorem dX4_readDeed_66 : decode cX4_readDeed 66 = .ok (.aload_n 0, 1) := by decide +kernel
theorem dX4_readDeed_67 : decode cX4_readDeed 67 = .ok (.ldc 127, 2) := by decide +kernel
theorem dX4_readDeed_69 : decode cX4_readDeed 69 = .ok (.invokevirtual 120, 3) := by decide +kernel
theorem dX4_readDeed_72 : decode cX4_readDeed 72 = .ok (.ifCond .eq 36, 3) := by decide +kernel
theorem dX4_readDeed_75 : decode cX4_readDeed 75 = .ok (.aload_n 0, 1) := by decide +kernel
theorem dX4_readDeed_76 : decode cX4_readDeed 76 = .ok (.iconst 0, 1) := by decide +kernel
theorem dX4_readDeed_77 : decode cX4_readDeed 77 = .ok (.bipush 11, 2) := by decide +kernel
theorem dX4_readDeed_79 : decode cX4_readDeed 79 = .ok (.invokevirtual 123, 3) := by decide +kernel
theorem dX4_readDeed_82 : decode cX4_readDeed 82 = .ok (.ifCond .eq 26, 3) := by decide +kernel
theorem dX4_readDeed_85 : decode cX4_readDeed 85 = .ok (.aload_n 0, 1) := by decide +kernel
theorem dX4_readDeed_86 : decode cX4_readDeed 86 = .ok (.ldc 129, 2) := by decide +kernel
theorem dX4_readDeed_88 : decode cX4_readDeed 88 = .ok (.invokevirtual 120, 3) := by decide +kernel
theorem dX4_readDeed_91 : decode cX4_readDeed 91 = .ok (.ifCond .eq 17, 3) := by decide +kernel
theorem dX4_readDeed_94 : decode cX4_readDeed 94 = .ok (.aload_n 0, 1) := by decide +kernel
theorem dX4_readDeed_95 : decode cX4_readDeed 95 = .ok (.iconst 0, 1) := by decide +kernel
theorem dX4_readDeed_96 : decode cX4_readDeed 96 = .ok (.bipush 9, 2) := by decide +kernel
theorem dX4_readDeed_98 : decode cX4_readDeed 98 = .ok (.invokevirtual 123, 3) := by decide +kernel
theorem dX4_readDeed_101 : decode cX4_readDeed 101 = .ok (.ifCond .eq 7, 3) := by decide +kernel
theorem dX4_readDeed_104 : decode cX4_readDeed 104 = .ok (.iconst 1, 1) := by decide +kernel
theorem dX4_readDeed_105 : decode cX4_readDeed 105 = .ok (.goto 4, 3) := by decide +kernel
theorem dX4_readDeed_108 : decode cX4_readDeed 108 = .ok (.iconst 0, 1) := by decide +kernel
theorem dX4_readDeed_109 : decode cX4_readDeed 109 = .ok (.ireturn, 1) := by decide +kernel
theorem dX4_readDeed_110 : decode cX4_readDeed 110 = .ok (.aload_n 0, 1) := by decide +kernel
theorem dX4_readDeed_111 : decode cX4_readDeed 111 = .ok (.invokevirtual 131, 3) := by decide +kernel
theorem dX4_readDeed_114 : decode cX4_readDeed 114 = .ok (.ireturn, 1) := by decide +kernel
theorem dX4_readDeed_115 : decode cX4_readDeed 115 = .ok (.aload_n 0, 1) := by decide +kernel
theorem dX4_readDeed_116 : decode cX4_readDeed 116 = .ok (.invokevirtual 134, 3) := by decide +kernel
theorem dX4_readDeed_119 : decode cX4_readDeed 119 = .ok (.ifCond .eq 42, 3) := by decide +kernel
theorem dX4_readDeed_122 : decode cX4_readDeed 122 = .ok (.aload_n 0, 1) := by decide +kernel
theorem dX4_readDeed_123 : decode cX4_readDeed 123 = .ok (.ldc 137, 2) := by decide +kernel
theorem dX4_readDeed_125 : decode cX4_readDeed 125 = .ok (.invokevirtual 120, 3) := by decide +kernel
theorem dX4_readDeed_128 : decode cX4_readDeed 128 = .ok (.ifCond .eq 33, 3) := by decide +kernel
theorem dX4_readDeed_131 : decode cX4_readDeed 131 = .ok (.aload_n 0, 1) := by decide +kernel
theorem dX4_readDeed_132 : decode cX4_readDeed 132 = .ok (.invokevirtual 134, 3) := by decide +kernel
theorem dX4_readDeed_135 : decode cX4_readDeed 135 = .ok (.ifCond .eq 26, 3) := by decide +kernel
theorem dX4_readDeed_138 : decode cX4_readDeed 138 = .ok (.aload_n 0, 1) := by decide +kernel
theorem dX4_readDeed_139 : decode cX4_readDeed 139 = .ok (.ldc 139, 2) := by decide +kernel
theorem dX4_readDeed_141 : decode cX4_readDeed 141 = .ok (.invokevirtual 120, 3) := by decide +kernel
theorem dX4_readDeed_144 : decode cX4_readDeed 144 = .ok (.ifCond .eq 17, 3) := by decide +kernel
theorem dX4_readDeed_147 : decode cX4_readDeed 147 = .ok (.aload_n 0, 1) := by decide +kernel
theorem dX4_readDeed_148 : decode cX4_readDeed 148 = .ok (.iconst 0, 1) := by decide +kernel
theorem dX4_readDeed_149 : decode cX4_readDeed 149 = .ok (.bipush 9, 2) := by decide +kernel
theorem dX4_readDeed_151 : decode cX4_readDeed 151 = .ok (.invokevirtual 123, 3) := by decide +kernel
theorem dX4_readDeed_154 : decode cX4_readDeed 154 = .ok (.ifCond .eq 7, 3) := by decide +kernel
theorem dX4_readDeed_157 : decode cX4_readDeed 157 = .ok (.iconst 1, 1) := by decide +kernel
theorem dX4_readDeed_158 : decode cX4_readDeed 158 = .ok (.goto 4, 3) := by decide +kernel
theorem dX4_readDeed_161 : decode cX4_readDeed 161 = .ok (.iconst 0, 1) := by decide +kernel
theorem dX4_readDeed_162 : decode cX4_readDeed 162 = .ok (.ireturn, 1) := by decide +kernel
theorem dX4_readDeed_163 : decode cX4_readDeed 163 = .ok (.aload_n 0, 1) := by decide +kernel
theorem dX4_readDeed_164 : decode cX4_readDeed 164 = .ok (.invokevirtual 134, 3) := by decide +kernel
theorem dX4_readDeed_167 : decode cX4_readDeed 167 = .ok (.ireturn, 1) := by decide +kernel
theorem dX4_readDeed_168 : decode cX4_readDeed 168 = .ok (.aload_n 0, 1) := by decide +kernel
theorem dX4_readDeed_169 : decode cX4_readDeed 169 = .ok (.iconst 0, 1) := by decide +kernel
theorem dX4_readDeed_170 : decode cX4_readDeed 170 = .ok (.bipush 23, 2) := by decide +kernel
theorem dX4_readDeed_172 : decode cX4_readDeed 172 = .ok (.invokevirtual 123, 3) := by decide +kernel
theorem dX4_readDeed_175 : decode cX4_readDeed 175 = .ok (.ireturn, 1) := by decide +kernel
theorem dX4_readDeed_176 : decode cX4_readDeed 176 = .ok (.aload_n 0, 1) := by decide +kernel
theorem dX4_readDeed_177 : decode cX4_readDeed 177 = .ok (.iconst 0, 1) := by decide +kernel
theorem dX4_readDeed_178 : decode cX4_readDeed 178 = .ok (.bipush 7, 2) := by decide +kernel
theorem dX4_readDeed_180 : decode cX4_readDeed 180 = .ok (.invokevirtual 123, 3) := by decide +kernel
theorem dX4_readDeed_183 : decode cX4_readDeed 183 = .ok (.ireturn, 1) := by decide +kernel
theorem dX4_readDeed_184 : decode cX4_readDeed 184 = .ok (.aload_n 0, 1) := by decide +kernel
theorem dX4_readDeed_185 : decode cX4_readDeed 185 = .ok (.iconst 1, 1) := by decide +kernel
theorem dX4_readDeed_186 : decode cX4_readDeed 186 = .ok (.bipush 40, 2) := by decide +kernel
theorem dX4_readDeed_188 : decode cX4_readDeed 188 = .ok (.invokevirtual 123, 3) := by decide +kernel
theorem dX4_readDeed_191 : decode cX4_readDeed 191 = .ok (.ireturn, 1) := by decide +kernel
theorem gX4_readDeed_0 {d : Nat} {M : ev_Mem} {Q : Option Value → ev_Mem → Prop} {x1 : Int32} (h : (((x1 = 3) → (∃ Q2 : Option Value → ev_Mem → Prop, Cl LX d mX4_readLetters [.ref 81] M Q2 ∧ ∀ (zr : Option Value) (zM : ev_Mem), Q2 zr zM → Ev LX (d + 1) mX4_readDeed 44 [some (.ref 81), none] (zr.toList ++ []) zM Q)) ∧ ((x1 = 4) → (∃ Q2 : Option Value → ev_Mem → Prop, Cl LX d mX4_readSenses [.ref 81] M Q2 ∧ ∀ (zr : Option Value) (zM : ev_Mem), Q2 zr zM → Ev LX (d + 1) mX4_readDeed 114 [none, none] (zr.toList ++ []) zM Q)) ∧ ((x1 = 5) → (∃ Q2 : Option Value → ev_Mem → Prop, Cl LX d mX4_readLetter [.ref 81] M Q2 ∧ ∀ (zr : Option Value) (zM : ev_Mem), Q2 zr zM → Ev LX (d + 1) mX4_readDeed 119 [some (.ref 81), none] (zr.toList ++ []) zM Q)) ∧ ((x1 = 6) → (∃ Q2 : Option Value → ev_Mem → Prop, Cl LX d mX4_readLetter [.ref 81] M Q2 ∧ ∀ (zr : Option Value) (zM : ev_Mem), Q2 zr zM → Ev LX (d + 1) mX4_readDeed 167 [none, none] (zr.toList ++ []) zM Q)) ∧ ((x1 = 7) → (∃ Q2 : Option Value → ev_Mem → Prop, Cl LX d mX4_readNumber [.ref 81, .int 0, .int 23] M Q2 ∧ ∀ (zr : Option Value) (zM : ev_Mem), Q2 zr zM → Ev LX (d + 1) mX4_readDeed 175 [none, none] (zr.toList ++ []) zM Q)) ∧ ((x1 = 8) → (∃ Q2 : Option Value → ev_Mem → Prop, Cl LX d mX4_readNumber [.ref 81, .int 0, .int 7] M Q2 ∧ ∀ (zr : Option Value) (zM : ev_Mem), Q2 zr zM → Ev LX (d + 1) mX4_readDeed 183 [none, none] (zr.toList ++ []) zM Q)) ∧ ((¬ x1 = 3 ∧ ¬ x1 = 4 ∧ ¬ x1 = 5 ∧ ¬ x1 = 6 ∧ ¬ x1 = 7 ∧ ¬ x1 = 8) → (∃ Q2 : Option Value → ev_Mem → Prop, Cl LX d mX4_readNumber [.ref 81, .int 1, .int 40] M Q2 ∧ ∀ (zr : Option Value) (zM : ev_Mem), Q2 zr zM → Ev LX (d + 1) mX4_readDeed 191 [none, none] (zr.toList ++ []) zM Q)))) : Ev LX (d + 1) mX4_readDeed 0 [some (.ref 81), some (.int x1)] [] M Q := by
  refine ev_iload_n dX4_readDeed_0 rfl ?_
  obtain ⟨h0, h1, h2, h3, h4, h5, h6⟩ := h
  by_cases e0 : x1 = 3
  · replace h := h0 e0
    have hk : ∃ off : Int, ¬ (x1 : Int32).toInt < 3 ∧ ¬ 8 < (x1 : Int32).toInt ∧ #[39, 109, 114, 162, 167, 175][((x1 : Int32).toInt - 3).toNat]? = some off ∧ ((1 : Nat) : Int) + off = ((40 : Nat) : Int) := by
      have e := e0
      · rw [e]; exact ⟨39, by decide, by decide, by decide, by decide⟩
    obtain ⟨off, k1, k2, k3, k4⟩ := hk
    refine ev_tableIn (tgt := 40) dX4_readDeed_1 k1 k2 k3 k4 ?_
    refine ev_aload_n dX4_readDeed_40 rfl ?_
    obtain ⟨Q2, hc, h⟩ := h
    refine ev_callV [] dX4_readDeed_41 ml_WithoutE_Reader_114 lx_81 rfl rfl (Nat.le_of_ble_eq_true rfl) hc (fun zr zM q => ?_)
    refine Ev.weak (ls := [some (.ref 81), none]) ⟨rfl, trivial⟩ ?_
    exact h zr zM q
  by_cases e1 : x1 = 4
  · replace h := h1 e1
    have hk : ∃ off : Int, ¬ (x1 : Int32).toInt < 3 ∧ ¬ 8 < (x1 : Int32).toInt ∧ #[39, 109, 114, 162, 167, 175][((x1 : Int32).toInt - 3).toNat]? = some off ∧ ((1 : Nat) : Int) + off = ((110 : Nat) : Int) := by
      have e := e1
      · rw [e]; exact ⟨109, by decide, by decide, by decide, by decide⟩
    obtain ⟨off, k1, k2, k3, k4⟩ := hk
    refine ev_tableIn (tgt := 110) dX4_readDeed_1 k1 k2 k3 k4 ?_
    refine ev_aload_n dX4_readDeed_110 rfl ?_
    obtain ⟨Q2, hc, h⟩ := h
    refine ev_callV [] dX4_readDeed_111 ml_WithoutE_Reader_131 lx_81 rfl rfl (Nat.le_of_ble_eq_true rfl) hc (fun zr zM q => ?_)
    refine Ev.weak (ls := [none, none]) trivial ?_
    exact h zr zM q
  by_cases e2 : x1 = 5
  · replace h := h2 e2
    have hk : ∃ off : Int, ¬ (x1 : Int32).toInt < 3 ∧ ¬ 8 < (x1 : Int32).toInt ∧ #[39, 109, 114, 162, 167, 175][((x1 : Int32).toInt - 3).toNat]? = some off ∧ ((1 : Nat) : Int) + off = ((115 : Nat) : Int) := by
      have e := e2
      · rw [e]; exact ⟨114, by decide, by decide, by decide, by decide⟩
    obtain ⟨off, k1, k2, k3, k4⟩ := hk
    refine ev_tableIn (tgt := 115) dX4_readDeed_1 k1 k2 k3 k4 ?_
    refine ev_aload_n dX4_readDeed_115 rfl ?_
    obtain ⟨Q2, hc, h⟩ := h
    refine ev_callV [] dX4_readDeed_116 ml_WithoutE_Reader_134 lx_81 rfl rfl (Nat.le_of_ble_eq_true rfl) hc (fun zr zM q => ?_)
    refine Ev.weak (ls := [some (.ref 81), none]) ⟨rfl, trivial⟩ ?_
    exact h zr zM q
  by_cases e3 : x1 = 6
  · replace h := h3 e3
    have hk : ∃ off : Int, ¬ (x1 : Int32).toInt < 3 ∧ ¬ 8 < (x1 : Int32).toInt ∧ #[39, 109, 114, 162, 167, 175][((x1 : Int32).toInt - 3).toNat]? = some off ∧ ((1 : Nat) : Int) + off = ((163 : Nat) : Int) := by
      have e := e3
      · rw [e]; exact ⟨162, by decide, by decide, by decide, by decide⟩
    obtain ⟨off, k1, k2, k3, k4⟩ := hk
    refine ev_tableIn (tgt := 163) dX4_readDeed_1 k1 k2 k3 k4 ?_
    refine ev_aload_n dX4_readDeed_163 rfl ?_
    obtain ⟨Q2, hc, h⟩ := h
    refine ev_callV [] dX4_readDeed_164 ml_WithoutE_Reader_134 lx_81 rfl rfl (Nat.le_of_ble_eq_true rfl) hc (fun zr zM q => ?_)
    refine Ev.weak (ls := [none, none]) trivial ?_
    exact h zr zM q
  by_cases e4 : x1 = 7
  · replace h := h4 e4
    have hk : ∃ off : Int, ¬ (x1 : Int32).toInt < 3 ∧ ¬ 8 < (x1 : Int32).toInt ∧ #[39, 109, 114, 162, 167, 175][((x1 : Int32).toInt - 3).toNat]? = some off ∧ ((1 : Nat) : Int) + off = ((168 : Nat) : Int) := by
      have e := e4
      · rw [e]; exact ⟨167, by decide, by decide, by decide, by decide⟩
    obtain ⟨off, k1, k2, k3, k4⟩ := hk
    refine ev_tableIn (tgt := 168) dX4_readDeed_1 k1 k2 k3 k4 ?_
    refine ev_aload_n dX4_readDeed_168 rfl ?_
    refine ev_iconst (v := 0) dX4_readDeed_169 (by decide) ?_
    refine ev_bipush (v := 23) dX4_readDeed_170 (by decide) ?_
    obtain ⟨Q2, hc, h⟩ := h
    refine ev_callV [.int 0, .int 23] dX4_readDeed_172 ml_WithoutE_Reader_123 lx_81 rfl rfl (Nat.le_of_ble_eq_true rfl) hc (fun zr zM q => ?_)
    refine Ev.weak (ls := [none, none]) trivial ?_
    exact h zr zM q
  by_cases e5 : x1 = 8
  · replace h := h5 e5
    have hk : ∃ off : Int, ¬ (x1 : Int32).toInt < 3 ∧ ¬ 8 < (x1 : Int32).toInt ∧ #[39, 109, 114, 162, 167, 175][((x1 : Int32).toInt - 3).toNat]? = some off ∧ ((1 : Nat) : Int) + off = ((176 : Nat) : Int) := by
      have e := e5
      · rw [e]; exact ⟨175, by decide, by decide, by decide, by decide⟩
    obtain ⟨off, k1, k2, k3, k4⟩ := hk
    refine ev_tableIn (tgt := 176) dX4_readDeed_1 k1 k2 k3 k4 ?_
    refine ev_aload_n dX4_readDeed_176 rfl ?_
    refine ev_iconst (v := 0) dX4_readDeed_177 (by decide) ?_
    refine ev_bipush (v := 7) dX4_readDeed_178 (by decide) ?_
    obtain ⟨Q2, hc, h⟩ := h
    refine ev_callV [.int 0, .int 7] dX4_readDeed_180 ml_WithoutE_Reader_123 lx_81 rfl rfl (Nat.le_of_ble_eq_true rfl) hc (fun zr zM q => ?_)
    refine Ev.weak (ls := [none, none]) trivial ?_
    exact h zr zM q
  replace h := h6 ⟨fun e => e0 (e), fun e => e1 (e), fun e => e2 (e), fun e => e3 (e), fun e => e4 (e), fun e => e5 (e)⟩
  have hk : ((x1 : Int32).toInt < 3 ∨ 8 < (x1 : Int32).toInt) ∨ (False) := by
    have t : ∀ k : Int32, ¬ (x1 : Int32) = k → (x1 : Int32).toInt ≠ k.toInt := fun k hne e => hne (Int32.toInt_inj.mp e)
    have z3 : (x1 : Int32).toInt ≠ 3 := t 3 (fun e => by simp_all)
    have z4 : (x1 : Int32).toInt ≠ 4 := t 4 (fun e => by simp_all)
    have z5 : (x1 : Int32).toInt ≠ 5 := t 5 (fun e => by simp_all)
    have z6 : (x1 : Int32).toInt ≠ 6 := t 6 (fun e => by simp_all)
    have z7 : (x1 : Int32).toInt ≠ 7 := t 7 (fun e => by simp_all)
    have z8 : (x1 : Int32).toInt ≠ 8 := t 8 (fun e => by simp_all)
    omega
  replace hk := hk.elim id False.elim
  refine ev_tableOut (tgt := 184) dX4_readDeed_1 hk (by decide) ?_
  refine ev_aload_n dX4_readDeed_184 rfl ?_
  refine ev_iconst (v := 1) dX4_readDeed_185 (by decide) ?_
  refine ev_bipush (v := 40) dX4_readDeed_186 (by decide) ?_
  obtain ⟨Q2, hc, h⟩ := h
  refine ev_callV [.int 1, .int 40] dX4_readDeed_188 ml_WithoutE_Reader_123 lx_81 rfl rfl (Nat.le_of_ble_eq_true rfl) hc (fun zr zM q => ?_)
  refine Ev.weak (ls := [none, none]) trivial ?_
  exact h zr zM q
theorem gX4_readDeed_44 {d : Nat} {M : ev_Mem} {Q : Option Value → ev_Mem → Prop} {s0 : Int32} (h : (((s0 = 0) → (Q (some (.int 0)) M)) ∧ ((¬ s0 = 0) → (∃ Q2 : Option Value → ev_Mem → Prop, Cl LX d mX4_expectToken [.ref 81, .ref 1020] M Q2 ∧ ∀ (zr : Option Value) (zM : ev_Mem), Q2 zr zM → Ev LX (d + 1) mX4_readDeed 53 [some (.ref 81), none] (zr.toList ++ []) zM Q)))) : Ev LX (d + 1) mX4_readDeed 44 [some (.ref 81), none] [(.int s0)] M Q := by
  refine ev_if_eq (tgt := 108) dX4_readDeed_44 (by decide) (fun c => ?_) (fun c => ?_)
  · replace h := h.1 c
    refine ev_iconst (v := 0) dX4_readDeed_108 (by decide) ?_
    exact ev_zret dX4_readDeed_109 rfl (by decide) h
  · replace h := h.2 c
    refine ev_aload_n dX4_readDeed_47 rfl ?_
    refine ev_ldcS (i := 10) dX4_readDeed_48 rfl rfl ?_
    obtain ⟨Q2, hc, h⟩ := h
    refine ev_callV [.ref 1020] dX4_readDeed_50 ml_WithoutE_Reader_120 lx_81 rfl rfl (Nat.le_of_ble_eq_true rfl) hc (fun zr zM q => ?_)
    exact h zr zM q
theorem gX4_readDeed_114 {d : Nat} {M : ev_Mem} {Q : Option Value → ev_Mem → Prop} {s0 : Int32} (h : (narrow .boolean (.int s0) = .int s0 ∧ (Q (some (.int s0)) M))) : Ev LX d mX4_readDeed 114 [none, none] [(.int s0)] M Q := by
  obtain ⟨c, h⟩ := h
  exact ev_zret dX4_readDeed_114 rfl c h
theorem gX4_readDeed_119 {d : Nat} {M : ev_Mem} {Q : Option Value → ev_Mem → Prop} {s0 : Int32} (h : (((s0 = 0) → (Q (some (.int 0)) M)) ∧ ((¬ s0 = 0) → (∃ Q2 : Option Value → ev_Mem → Prop, Cl LX d mX4_expectToken [.ref 81, .ref 1023] M Q2 ∧ ∀ (zr : Option Value) (zM : ev_Mem), Q2 zr zM → Ev LX (d + 1) mX4_readDeed 128 [some (.ref 81), none] (zr.toList ++ []) zM Q)))) : Ev LX (d + 1) mX4_readDeed 119 [some (.ref 81), none] [(.int s0)] M Q := by
  refine ev_if_eq (tgt := 161) dX4_readDeed_119 (by decide) (fun c => ?_) (fun c => ?_)
  · replace h := h.1 c
    refine ev_iconst (v := 0) dX4_readDeed_161 (by decide) ?_
    exact ev_zret dX4_readDeed_162 rfl (by decide) h
  · replace h := h.2 c
    refine ev_aload_n dX4_readDeed_122 rfl ?_
    refine ev_ldcS (i := 13) dX4_readDeed_123 rfl rfl ?_
    obtain ⟨Q2, hc, h⟩ := h
    refine ev_callV [.ref 1023] dX4_readDeed_125 ml_WithoutE_Reader_120 lx_81 rfl rfl (Nat.le_of_ble_eq_true rfl) hc (fun zr zM q => ?_)
    exact h zr zM q
theorem gX4_readDeed_167 {d : Nat} {M : ev_Mem} {Q : Option Value → ev_Mem → Prop} {s0 : Int32} (h : (narrow .boolean (.int s0) = .int s0 ∧ (Q (some (.int s0)) M))) : Ev LX d mX4_readDeed 167 [none, none] [(.int s0)] M Q := by
  obtain ⟨c, h⟩ := h
  exact ev_zret dX4_readDeed_167 rfl c h
theorem gX4_readDeed_175 {d : Nat} {M : ev_Mem} {Q : Option Value → ev_Mem → Prop} {s0 : Int32} (h : (narrow .boolean (.int s0) = .int s0 ∧ (Q (some (.int s0)) M))) : Ev LX d mX4_readDeed 175 [none, none] [(.int s0)] M Q := by
  obtain ⟨c, h⟩ := h
  exact ev_zret dX4_readDeed_175 rfl c h
theorem gX4_readDeed_183 {d : Nat} {M : ev_Mem} {Q : Option Value → ev_Mem → Prop} {s0 : Int32} (h : (narrow .boolean (.int s0) = .int s0 ∧ (Q (some (.int s0)) M))) : Ev LX d mX4_readDeed 183 [none, none] [(.int s0)] M Q := by
  obtain ⟨c, h⟩ := h
  exact ev_zret dX4_readDeed_183 rfl c h
theorem gX4_readDeed_191 {d : Nat} {M : ev_Mem} {Q : Option Value → ev_Mem → Prop} {s0 : Int32} (h : (narrow .boolean (.int s0) = .int s0 ∧ (Q (some (.int s0)) M))) : Ev LX d mX4_readDeed 191 [none, none] [(.int s0)] M Q := by
  obtain ⟨c, h⟩ := h
  exact ev_zret dX4_readDeed_191 rfl c h
theorem gX4_readDeed_53 {d : Nat} {M : ev_Mem} {Q : Option Value → ev_Mem → Prop} {s0 : Int32} (h : (((s0 = 0) → (Q (some (.int 0)) M)) ∧ ((¬ s0 = 0) → (∃ Q2 : Option Value → ev_Mem → Prop, Cl LX d mX4_readNumber [.ref 81, .int 0, .int 6] M Q2 ∧ ∀ (zr : Option Value) (zM : ev_Mem), Q2 zr zM → Ev LX (d + 1) mX4_readDeed 63 [some (.ref 81), none] (zr.toList ++ []) zM Q)))) : Ev LX (d + 1) mX4_readDeed 53 [some (.ref 81), none] [(.int s0)] M Q := by
  refine ev_if_eq (tgt := 108) dX4_readDeed_53 (by decide) (fun c => ?_) (fun c => ?_)
  · replace h := h.1 c
    refine ev_iconst (v := 0) dX4_readDeed_108 (by decide) ?_
    exact ev_zret dX4_readDeed_109 rfl (by decide) h
  · replace h := h.2 c
    refine ev_aload_n dX4_readDeed_56 rfl ?_
    refine ev_iconst (v := 0) dX4_readDeed_57 (by decide) ?_
    refine ev_bipush (v := 6) dX4_readDeed_58 (by decide) ?_
    obtain ⟨Q2, hc, h⟩ := h
    refine ev_callV [.int 0, .int 6] dX4_readDeed_60 ml_WithoutE_Reader_123 lx_81 rfl rfl (Nat.le_of_ble_eq_true rfl) hc (fun zr zM q => ?_)
    exact h zr zM q
theorem gX4_readDeed_128 {d : Nat} {M : ev_Mem} {Q : Option Value → ev_Mem → Prop} {s0 : Int32} (h : (((s0 = 0) → (Q (some (.int 0)) M)) ∧ ((¬ s0 = 0) → (∃ Q2 : Option Value → ev_Mem → Prop, Cl LX d mX4_readLetter [.ref 81] M Q2 ∧ ∀ (zr : Option Value) (zM : ev_Mem), Q2 zr zM → Ev LX (d + 1) mX4_readDeed 135 [some (.ref 81), none] (zr.toList ++ []) zM Q)))) : Ev LX (d + 1) mX4_readDeed 128 [some (.ref 81), none] [(.int s0)] M Q := by
  refine ev_if_eq (tgt := 161) dX4_readDeed_128 (by decide) (fun c => ?_) (fun c => ?_)
  · replace h := h.1 c
    refine ev_iconst (v := 0) dX4_readDeed_161 (by decide) ?_
    exact ev_zret dX4_readDeed_162 rfl (by decide) h
  · replace h := h.2 c
    refine ev_aload_n dX4_readDeed_131 rfl ?_
    obtain ⟨Q2, hc, h⟩ := h
    refine ev_callV [] dX4_readDeed_132 ml_WithoutE_Reader_134 lx_81 rfl rfl (Nat.le_of_ble_eq_true rfl) hc (fun zr zM q => ?_)
    exact h zr zM q
theorem gX4_readDeed_63 {d : Nat} {M : ev_Mem} {Q : Option Value → ev_Mem → Prop} {s0 : Int32} (h : (((s0 = 0) → (Q (some (.int 0)) M)) ∧ ((¬ s0 = 0) → (∃ Q2 : Option Value → ev_Mem → Prop, Cl LX d mX4_expectToken [.ref 81, .ref 1021] M Q2 ∧ ∀ (zr : Option Value) (zM : ev_Mem), Q2 zr zM → Ev LX (d + 1) mX4_readDeed 72 [some (.ref 81), none] (zr.toList ++ []) zM Q)))) : Ev LX (d + 1) mX4_readDeed 63 [some (.ref 81), none] [(.int s0)] M Q := by
  refine ev_if_eq (tgt := 108) dX4_readDeed_63 (by decide) (fun c => ?_) (fun c => ?_)
  · replace h := h.1 c
    refine ev_iconst (v := 0) dX4_readDeed_108 (by decide) ?_
    exact ev_zret dX4_readDeed_109 rfl (by decide) h
  · replace h := h.2 c
    refine ev_aload_n dX4_readDeed_66 rfl ?_
    refine ev_ldcS (i := 11) dX4_readDeed_67 rfl rfl ?_
    obtain ⟨Q2, hc, h⟩ := h
    refine ev_callV [.ref 1021] dX4_readDeed_69 ml_WithoutE_Reader_120 lx_81 rfl rfl (Nat.le_of_ble_eq_true rfl) hc (fun zr zM q => ?_)
    exact h zr zM q
theorem gX4_readDeed_135 {d : Nat} {M : ev_Mem} {Q : Option Value → ev_Mem → Prop} {s0 : Int32} (h : (((s0 = 0) → (Q (some (.int 0)) M)) ∧ ((¬ s0 = 0) → (∃ Q2 : Option Value → ev_Mem → Prop, Cl LX d mX4_expectToken [.ref 81, .ref 1024] M Q2 ∧ ∀ (zr : Option Value) (zM : ev_Mem), Q2 zr zM → Ev LX (d + 1) mX4_readDeed 144 [some (.ref 81), none] (zr.toList ++ []) zM Q)))) : Ev LX (d + 1) mX4_readDeed 135 [some (.ref 81), none] [(.int s0)] M Q := by
  refine ev_if_eq (tgt := 161) dX4_readDeed_135 (by decide) (fun c => ?_) (fun c => ?_)
  · replace h := h.1 c
    refine ev_iconst (v := 0) dX4_readDeed_161 (by decide) ?_
    exact ev_zret dX4_readDeed_162 rfl (by decide) h
  · replace h := h.2 c
    refine ev_aload_n dX4_readDeed_138 rfl ?_
    refine ev_ldcS (i := 14) dX4_readDeed_139 rfl rfl ?_
    obtain ⟨Q2, hc, h⟩ := h
    refine ev_callV [.ref 1024] dX4_readDeed_141 ml_WithoutE_Reader_120 lx_81 rfl rfl (Nat.le_of_ble_eq_true rfl) hc (fun zr zM q => ?_)
    exact h zr zM q
theorem gX4_readDeed_72 {d : Nat} {M : ev_Mem} {Q : Option Value → ev_Mem → Prop} {s0 : Int32} (h : (((s0 = 0) → (Q (some (.int 0)) M)) ∧ ((¬ s0 = 0) → (∃ Q2 : Option Value → ev_Mem → Prop, Cl LX d mX4_readNumber [.ref 81, .int 0, .int 11] M Q2 ∧ ∀ (zr : Option Value) (zM : ev_Mem), Q2 zr zM → Ev LX (d + 1) mX4_readDeed 82 [some (.ref 81), none] (zr.toList ++ []) zM Q)))) : Ev LX (d + 1) mX4_readDeed 72 [some (.ref 81), none] [(.int s0)] M Q := by
  refine ev_if_eq (tgt := 108) dX4_readDeed_72 (by decide) (fun c => ?_) (fun c => ?_)
  · replace h := h.1 c
    refine ev_iconst (v := 0) dX4_readDeed_108 (by decide) ?_
    exact ev_zret dX4_readDeed_109 rfl (by decide) h
  · replace h := h.2 c
    refine ev_aload_n dX4_readDeed_75 rfl ?_
    refine ev_iconst (v := 0) dX4_readDeed_76 (by decide) ?_
    refine ev_bipush (v := 11) dX4_readDeed_77 (by decide) ?_
    obtain ⟨Q2, hc, h⟩ := h
    refine ev_callV [.int 0, .int 11] dX4_readDeed_79 ml_WithoutE_Reader_123 lx_81 rfl rfl (Nat.le_of_ble_eq_true rfl) hc (fun zr zM q => ?_)
    exact h zr zM q
theorem gX4_readDeed_144 {d : Nat} {M : ev_Mem} {Q : Option Value → ev_Mem → Prop} {s0 : Int32} (h : (((s0 = 0) → (Q (some (.int 0)) M)) ∧ ((¬ s0 = 0) → (∃ Q2 : Option Value → ev_Mem → Prop, Cl LX d mX4_readNumber [.ref 81, .int 0, .int 9] M Q2 ∧ ∀ (zr : Option Value) (zM : ev_Mem), Q2 zr zM → Ev LX (d + 1) mX4_readDeed 154 [none, none] (zr.toList ++ []) zM Q)))) : Ev LX (d + 1) mX4_readDeed 144 [some (.ref 81), none] [(.int s0)] M Q := by
  refine ev_if_eq (tgt := 161) dX4_readDeed_144 (by decide) (fun c => ?_) (fun c => ?_)
  · replace h := h.1 c
    refine ev_iconst (v := 0) dX4_readDeed_161 (by decide) ?_
    exact ev_zret dX4_readDeed_162 rfl (by decide) h
  · replace h := h.2 c
    refine ev_aload_n dX4_readDeed_147 rfl ?_
    refine ev_iconst (v := 0) dX4_readDeed_148 (by decide) ?_
    refine ev_bipush (v := 9) dX4_readDeed_149 (by decide) ?_
    obtain ⟨Q2, hc, h⟩ := h
    refine ev_callV [.int 0, .int 9] dX4_readDeed_151 ml_WithoutE_Reader_123 lx_81 rfl rfl (Nat.le_of_ble_eq_true rfl) hc (fun zr zM q => ?_)
    refine Ev.weak (ls := [none, none]) trivial ?_
    exact h zr zM q
theorem gX4_readDeed_82 {d : Nat} {M : ev_Mem} {Q : Option Value → ev_Mem → Prop} {s0 : Int32} (h : (((s0 = 0) → (Q (some (.int 0)) M)) ∧ ((¬ s0 = 0) → (∃ Q2 : Option Value → ev_Mem → Prop, Cl LX d mX4_expectToken [.ref 81, .ref 1022] M Q2 ∧ ∀ (zr : Option Value) (zM : ev_Mem), Q2 zr zM → Ev LX (d + 1) mX4_readDeed 91 [some (.ref 81), none] (zr.toList ++ []) zM Q)))) : Ev LX (d + 1) mX4_readDeed 82 [some (.ref 81), none] [(.int s0)] M Q := by
  refine ev_if_eq (tgt := 108) dX4_readDeed_82 (by decide) (fun c => ?_) (fun c => ?_)
  · replace h := h.1 c
    refine ev_iconst (v := 0) dX4_readDeed_108 (by decide) ?_
    exact ev_zret dX4_readDeed_109 rfl (by decide) h
  · replace h := h.2 c
    refine ev_aload_n dX4_readDeed_85 rfl ?_
    refine ev_ldcS (i := 12) dX4_readDeed_86 rfl rfl ?_
    obtain ⟨Q2, hc, h⟩ := h
    refine ev_callV [.ref 1022] dX4_readDeed_88 ml_WithoutE_Reader_120 lx_81 rfl rfl (Nat.le_of_ble_eq_true rfl) hc (fun zr zM q => ?_)
    exact h zr zM q
theorem gX4_readDeed_154 {d : Nat} {M : ev_Mem} {Q : Option Value → ev_Mem → Prop} {s0 : Int32} (h : (((s0 = 0) → (Q (some (.int 0)) M)) ∧ ((¬ s0 = 0) → (Q (some (.int 1)) M)))) : Ev LX d mX4_readDeed 154 [none, none] [(.int s0)] M Q := by
  refine ev_if_eq (tgt := 161) dX4_readDeed_154 (by decide) (fun c => ?_) (fun c => ?_)
  · replace h := h.1 c
    refine ev_iconst (v := 0) dX4_readDeed_161 (by decide) ?_
    exact ev_zret dX4_readDeed_162 rfl (by decide) h
  · replace h := h.2 c
    refine ev_iconst (v := 1) dX4_readDeed_157 (by decide) ?_
    refine ev_goto (tgt := 162) dX4_readDeed_158 (by decide) ?_
    exact ev_zret dX4_readDeed_162 rfl (by decide) h
theorem gX4_readDeed_91 {d : Nat} {M : ev_Mem} {Q : Option Value → ev_Mem → Prop} {s0 : Int32} (h : (((s0 = 0) → (Q (some (.int 0)) M)) ∧ ((¬ s0 = 0) → (∃ Q2 : Option Value → ev_Mem → Prop, Cl LX d mX4_readNumber [.ref 81, .int 0, .int 9] M Q2 ∧ ∀ (zr : Option Value) (zM : ev_Mem), Q2 zr zM → Ev LX (d + 1) mX4_readDeed 101 [none, none] (zr.toList ++ []) zM Q)))) : Ev LX (d + 1) mX4_readDeed 91 [some (.ref 81), none] [(.int s0)] M Q := by
  refine ev_if_eq (tgt := 108) dX4_readDeed_91 (by decide) (fun c => ?_) (fun c => ?_)
  · replace h := h.1 c
    refine ev_iconst (v := 0) dX4_readDeed_108 (by decide) ?_
    exact ev_zret dX4_readDeed_109 rfl (by decide) h
  · replace h := h.2 c
    refine ev_aload_n dX4_readDeed_94 rfl ?_
    refine ev_iconst (v := 0) dX4_readDeed_95 (by decide) ?_
    refine ev_bipush (v := 9) dX4_readDeed_96 (by decide) ?_
    obtain ⟨Q2, hc, h⟩ := h
    refine ev_callV [.int 0, .int 9] dX4_readDeed_98 ml_WithoutE_Reader_123 lx_81 rfl rfl (Nat.le_of_ble_eq_true rfl) hc (fun zr zM q => ?_)
    refine Ev.weak (ls := [none, none]) trivial ?_
    exact h zr zM q
theorem gX4_readDeed_101 {d : Nat} {M : ev_Mem} {Q : Option Value → ev_Mem → Prop} {s0 : Int32} (h : (((s0 = 0) → (Q (some (.int 0)) M)) ∧ ((¬ s0 = 0) → (Q (some (.int 1)) M)))) : Ev LX d mX4_readDeed 101 [none, none] [(.int s0)] M Q := by
  refine ev_if_eq (tgt := 108) dX4_readDeed_101 (by decide) (fun c => ?_) (fun c => ?_)
  · replace h := h.1 c
    refine ev_iconst (v := 0) dX4_readDeed_108 (by decide) ?_
    exact ev_zret dX4_readDeed_109 rfl (by decide) h
  · replace h := h.2 c
    refine ev_iconst (v := 1) dX4_readDeed_104 (by decide) ?_
    refine ev_goto (tgt := 109) dX4_readDeed_105 (by decide) ?_
    exact ev_zret dX4_readDeed_109 rfl (by decide) h
theorem dX4_readClause_0 : decode cX4_readClause 0 = .ok (.aload_n 0, 1) := by decide +kernel
theorem dX4_readClause_1 : decode cX4_readClause 1 = .ok (.ldc 86, 2) := by decide +kernel
theorem dX4_readClause_3 : decode cX4_readClause 3 = .ok (.invokevirtual 88, 3) := by decide +kernel
theorem dX4_readClause_6 : decode cX4_readClause 6 = .ok (.istore_n 2, 1) := by decide +kernel
theorem dX4_readClause_7 : decode cX4_readClause 7 = .ok (.iload_n 2, 1) := by decide +kernel
theorem dX4_readClause_8 : decode cX4_readClause 8 = .ok (.iconst (-1), 1) := by decide +kernel
theorem dX4_readClause_9 : decode cX4_readClause 9 = .ok (.if_icmp .ne 9, 3) := by decide +kernel
theorem dX4_readClause_12 : decode cX4_readClause 12 = .ok (.aload_n 0, 1) := by decide +kernel
theorem dX4_readClause_13 : decode cX4_readClause 13 = .ok (.iconst 1, 1) := by decide +kernel
theorem dX4_readClause_14 : decode cX4_readClause 14 = .ok (.invokevirtual 79, 3) := by decide +kernel
theorem dX4_readClause_17 : decode cX4_readClause 17 = .ok (.ireturn, 1) := by decide +kernel
theorem dX4_readClause_18 : decode cX4_readClause 18 = .ok (.iload_n 2, 1) := by decide +kernel
theorem dX4_readClause_19 : decode cX4_readClause 19 = .ok (.iconst 2, 1) := by decide +kernel
theorem dX4_readClause_20 : decode cX4_readClause 20 = .ok (.if_icmp .gt 22, 3) := by decide +kernel
theorem dX4_readClause_23 : decode cX4_readClause 23 = .ok (.aload_n 0, 1) := by decide +kernel
theorem dX4_readClause_24 : decode cX4_readClause 24 = .ok (.getfield 19, 3) := by decide +kernel
theorem dX4_readClause_27 : decode cX4_readClause 27 = .ok (.getfield 92, 3) := by decide +kernel
theorem dX4_readClause_30 : decode cX4_readClause 30 = .ok (.iload_n 2, 1) := by decide +kernel
theorem dX4_readClause_31 : decode cX4_readClause 31 = .ok (.iaload, 1) := by decide +kernel
theorem dX4_readClause_32 : decode cX4_readClause 32 = .ok (.iconst (-1), 1) := by decide +kernel
theorem dX4_readClause_33 : decode cX4_readClause 33 = .ok (.if_icmp .eq 9, 3) := by decide +kernel
theorem dX4_readClause_36 : decode cX4_readClause 36 = .ok (.aload_n 0, 1) := by decide +kernel
theorem dX4_readClause_37 : decode cX4_readClause 37 = .ok (.iconst 4, 1) := by decide +kernel
theorem dX4_readClause_38 : decode cX4_readClause 38 = .ok (.invokevirtual 79, 3) := by decide +kernel
theorem dX4_readClause_41 : decode cX4_readClause 41 = .ok (.ireturn, 1) := by decide +kernel
theorem dX4_readClause_42 : decode cX4_readClause 42 = .ok (.iload_n 1, 1) := by decide +kernel
theorem dX4_readClause_43 : decode cX4_readClause 43 = .ok (.bipush 24, 2) := by decide +kernel
theorem dX4_readClause_45 : decode cX4_readClause 45 = .ok (.if_icmp .lt 10, 3) := by decide +kernel
theorem dX4_readClause_48 : decode cX4_readClause 48 = .ok (.aload_n 0, 1) := by decide +kernel
theorem dX4_readClause_49 : decode cX4_readClause 49 = .ok (.bipush 6, 2) := by decide +kernel
theorem dX4_readClause_51 : decode cX4_readClause 51 = .ok (.invokevirtual 79, 3) := by decide +kernel
theorem dX4_readClause_54 : decode cX4_readClause 54 = .ok (.ireturn, 1) := by decide +kernel
theorem dX4_readClause_55 : decode cX4_readClause 55 = .ok (.aload_n 0, 1) := by decide +kernel
theorem dX4_readClause_56 : decode cX4_readClause 56 = .ok (.getfield 19, 3) := by decide +kernel
theorem dX4_readClause_59 : decode cX4_readClause 59 = .ok (.iload_n 2, 1) := by decide +kernel
theorem dX4_readClause_60 : decode cX4_readClause 60 = .ok (.invokevirtual 95, 3) := by decide +kernel
theorem dX4_readClause_63 : decode cX4_readClause 63 = .ok (.aload_n 0, 1) := by decide +kernel
theorem dX4_readClause_64 : decode cX4_readClause 64 = .ok (.invokevirtual 38, 3) := by decide +kernel
theorem dX4_readClause_67 : decode cX4_readClause 67 = .ok (.aload_n 0, 1) := by decide +kernel
theorem dX4_readClause_68 : decode cX4_readClause 68 = .ok (.iload_n 2, 1) := by decide +kernel
theorem dX4_readClause_69 : decode cX4_readClause 69 = .ok (.putfield 99, 3) := by decide +kernel
theorem dX4_readClause_72 : decode cX4_readClause 72 = .ok (.iload_n 2, 1) := by decide +kernel
theorem dX4_readClause_73 : decode cX4_readClause 73 = .ok (.iconst 2, 1) := by decide +kernel
theorem dX4_readClause_74 : decode cX4_readClause 74 = .ok (.if_icmp .gt 27, 3) := by decide +kernel
theorem dX4_readClause_77 : decode cX4_readClause 77 = .ok (.aload_n 0, 1) := by decide +kernel
theorem dX4_readClause_78 : decode cX4_readClause 78 = .ok (.iconst 0, 1) := by decide +kernel
theorem dX4_readClause_79 : decode cX4_readClause 79 = .ok (.invokevirtual 102, 3) := by decide +kernel
theorem dX4_readClause_82 : decode cX4_readClause 82 = .ok (.ifCond .eq 15, 3) := by decide +kernel
theorem dX4_readClause_85 : decode cX4_readClause 85 = .ok (.aload_n 0, 1) := by decide +kernel
theorem dX4_readClause_86 : decode cX4_readClause 86 = .ok (.iconst 0, 1) := by decide +kernel
theorem dX4_readClause_87 : decode cX4_readClause 87 = .ok (.invokevirtual 105, 3) := by decide +kernel
theorem dX4_readClause_90 : decode cX4_readClause 90 = .ok (.ifCond .eq 7, 3) := by decide +kernel
theorem dX4_readClause_93 : decode cX4_readClause 93 = .ok (.iconst 1, 1) := by decide +kernel
theorem dX4_readClause_94 : decode cX4_readClause 94 = .ok (.goto 12, 3) := by decide +kernel
theorem dX4_readClause_97 : decode cX4_readClause 97 = .ok (.iconst 0, 1) := by decide +kernel
theorem dX4_readClause_98 : decode cX4_readClause 98 = .ok (.goto 8, 3) := by decide +kernel
theorem dX4_readClause_101 : decode cX4_readClause 101 = .ok (.aload_n 0, 1) := by decide +kernel
theorem dX4_readClause_102 : decode cX4_readClause 102 = .ok (.iload_n 2, 1) := by decide +kernel
theorem dX4_readClause_103 : decode cX4_readClause 103 = .ok (.invokevirtual 108, 3) := by decide +kernel
theorem dX4_readClause_106 : decode cX4_readClause 106 = .ok (.istore_n 3, 1) := by decide +kernel
theorem dX4_readClause_107 : decode cX4_readClause 107 = .ok (.iload_n 3, 1) := by decide +kernel
theorem dX4_readClause_108 : decode cX4_readClause 108 = .ok (.ifCond .eq 16, 3) := by decide +kernel
theorem dX4_readClause_111 : decode cX4_readClause 111 = .ok (.aload_n 0, 1) := by decide +kernel
theorem dX4_readClause_112 : decode cX4_readClause 112 = .ok (.bipush 59, 2) := by decide +kernel
theorem dX4_readClause_114 : decode cX4_readClause 114 = .ok (.invokevirtual 111, 3) := by decide +kernel
theorem dX4_readClause_117 : decode cX4_readClause 117 = .ok (.ifCond .eq 7, 3) := by decide +kernel
theorem dX4_readClause_120 : decode cX4_readClause 120 = .ok (.iconst 1, 1) := by decide +kernel
theorem dX4_readClause_121 : decode cX4_readClause 121 = .ok (.goto 4, 3) := by decide +kernel
theorem dX4_readClause_124 : decode cX4_readClause 124 = .ok (.iconst 0, 1) := by decide +kernel
theorem dX4_readClause_125 : decode cX4_readClause 125 = .ok (.ireturn, 1) := by decide +kernel
theorem gX4_readClause_0 {d : Nat} {M : ev_Mem} {Q : Option Value → ev_Mem → Prop} {x1 : Int32} (h : (∃ Q2 : Option Value → ev_Mem → Prop, Cl LX d mX4_rankIn [.ref 81, .ref 1010] M Q2 ∧ ∀ (zr : Option Value) (zM : ev_Mem), Q2 zr zM → Ev LX (d + 1) mX4_readClause 6 [some (.ref 81), some (.int x1), none, none] (zr.toList ++ []) zM Q)) : Ev LX (d + 1) mX4_readClause 0 [some (.ref 81), some (.int x1), none, none] [] M Q := by
  refine ev_aload_n dX4_readClause_0 rfl ?_
  refine ev_ldcS (i := 0) dX4_readClause_1 rfl rfl ?_
  obtain ⟨Q2, hc, h⟩ := h
  refine ev_callV [.ref 1010] dX4_readClause_3 ml_WithoutE_Reader_88 lx_81 rfl rfl (Nat.le_of_ble_eq_true rfl) hc (fun zr zM q => ?_)
  exact h zr zM q
theorem gX4_readClause_6 {d : Nat} {M : ev_Mem} {Q : Option Value → ev_Mem → Prop} {x1 s0 : Int32} (h : (((¬ s0 = (-1)) → (((2 < s0) → (((x1 < 24) → ((¬ M.1 81 1 = 0 ∧ ev_isT (M.1 81 1).toNatClampNeg) ∧ (∃ Q2 : Option Value → ev_Mem → Prop, Cl LX d mX8_begin [.ref ((M.1 81 1).toNatClampNeg), .int s0] M Q2 ∧ ∀ (zr : Option Value) (zM : ev_Mem), Q2 zr zM → Ev LX (d + 1) mX4_readClause 63 [some (.ref 81), none, some (.int s0), none] (zr.toList ++ []) zM Q))) ∧ ((¬ x1 < 24) → (∀ M1 : ev_Mem, M1 = flM M (6 : Int32) → (Q (some (.int 0)) M1))))) ∧ ((¬ 2 < s0) → ((¬ M.1 81 1 = 0 ∧ ev_isT (M.1 81 1).toNatClampNeg) ∧ (vp_in s0 3 ∧ ((((M.1 ((M.1 81 1).toNatClampNeg + 4) s0.toNatClampNeg) = (-1)) → (((x1 < 24) → ((¬ M.1 81 1 = 0 ∧ ev_isT (M.1 81 1).toNatClampNeg) ∧ (∃ Q2 : Option Value → ev_Mem → Prop, Cl LX d mX8_begin [.ref ((M.1 81 1).toNatClampNeg), .int s0] M Q2 ∧ ∀ (zr : Option Value) (zM : ev_Mem), Q2 zr zM → Ev LX (d + 1) mX4_readClause 63 [some (.ref 81), none, some (.int s0), none] (zr.toList ++ []) zM Q))) ∧ ((¬ x1 < 24) → (∀ M2 : ev_Mem, M2 = flM M (6 : Int32) → (Q (some (.int 0)) M2))))) ∧ ((¬ (M.1 ((M.1 81 1).toNatClampNeg + 4) s0.toNatClampNeg) = (-1)) → (∀ M3 : ev_Mem, M3 = flM M (4 : Int32) → (Q (some (.int 0)) M3))))))))) ∧ ((s0 = (-1)) → (∀ M4 : ev_Mem, M4 = flM M (1 : Int32) → (Q (some (.int 0)) M4))))) : Ev LX (d + 1) mX4_readClause 6 [some (.ref 81), some (.int x1), none, none] [(.int s0)] M Q := by
  refine ev_istore_n (ls2 := [some (.ref 81), some (.int x1), some (.int s0), none]) dX4_readClause_6 (Nat.le_of_ble_eq_true rfl) rfl ?_
  refine ev_iload_n dX4_readClause_7 rfl ?_
  refine ev_iconst (v := -1) dX4_readClause_8 (by decide) ?_
  refine ev_icmp_ne (tgt := 18) dX4_readClause_9 (by decide) (fun c => ?_) (fun c => ?_)
  · replace h := h.1 c
    refine ev_iload_n dX4_readClause_18 rfl ?_
    refine ev_iconst (v := 2) dX4_readClause_19 (by decide) ?_
    refine ev_icmp_gt (tgt := 42) dX4_readClause_20 (by decide) (fun c => ?_) (fun c => ?_)
    · replace h := h.1 c
      refine ev_iload_n dX4_readClause_42 rfl ?_
      refine ev_bipush (v := 24) dX4_readClause_43 (by decide) ?_
      refine ev_icmp_lt (tgt := 55) dX4_readClause_45 (by decide) (fun c => ?_) (fun c => ?_)
      · replace h := h.1 c
        refine ev_aload_n dX4_readClause_55 rfl ?_
        obtain ⟨⟨c, t1⟩, h⟩ := h
        refine ev_getD dX4_readClause_56 fl_WithoutE_Reader_19 lx_81 rfl c ?_
        refine ev_iload_n dX4_readClause_59 rfl ?_
        obtain ⟨Q2, hc, h⟩ := h
        refine ev_callV [.int s0] dX4_readClause_60 ml_WithoutE_Reader_95 (lx_T t1) rfl rfl (Nat.le_of_ble_eq_true rfl) hc (fun zr zM q => ?_)
        refine Ev.weak (ls := [some (.ref 81), none, some (.int s0), none]) ⟨rfl, rfl, trivial⟩ ?_
        exact h zr zM q
      · replace h := h.2 c
        refine ev_aload_n dX4_readClause_48 rfl ?_
        refine ev_bipush (v := 6) dX4_readClause_49 (by decide) ?_
        refine ev_callV [.int 6] dX4_readClause_51 ml_WithoutE_Reader_79 lx_81 rfl rfl (Nat.le_of_ble_eq_true rfl) (kX4_fail) ?_
        rintro zr zM ⟨q1, q2⟩
        rw [q1, q2]
        generalize eM1 : flM M (6 : Int32) = M1
        replace h := h M1 eM1.symm
        show Ev LX (d + 1) mX4_readClause 54 [some (.ref 81), some (.int x1), some (.int s0), none] [(.int 0)] M1 Q
        exact ev_zret dX4_readClause_54 rfl (by decide) h
    · replace h := h.2 c
      refine ev_aload_n dX4_readClause_23 rfl ?_
      obtain ⟨⟨c, t2⟩, h⟩ := h
      refine ev_getD dX4_readClause_24 fl_WithoutE_Reader_19 lx_81 rfl c ?_
      refine ev_getA dX4_readClause_27 fl_WithoutE_Reader_92 (lx_T t2) rfl ?_
      refine ev_iload_n dX4_readClause_30 rfl ?_
      obtain ⟨c, h⟩ := h
      refine ev_iald dX4_readClause_31 (lx_T4 t2) c ?_
      refine ev_iconst (v := -1) dX4_readClause_32 (by decide) ?_
      refine ev_icmp_eq (tgt := 42) dX4_readClause_33 (by decide) (fun c => ?_) (fun c => ?_)
      · replace h := h.1 c
        refine ev_iload_n dX4_readClause_42 rfl ?_
        refine ev_bipush (v := 24) dX4_readClause_43 (by decide) ?_
        refine ev_icmp_lt (tgt := 55) dX4_readClause_45 (by decide) (fun c => ?_) (fun c => ?_)
        · replace h := h.1 c
          refine ev_aload_n dX4_readClause_55 rfl ?_
          obtain ⟨⟨c, t3⟩, h⟩ := h
          refine ev_getD dX4_readClause_56 fl_WithoutE_Reader_19 lx_81 rfl c ?_
          refine ev_iload_n dX4_readClause_59 rfl ?_
          obtain ⟨Q2, hc, h⟩ := h
          refine ev_callV [.int s0] dX4_readClause_60 ml_WithoutE_Reader_95 (lx_T t3) rfl rfl (Nat.le_of_ble_eq_true rfl) hc (fun zr zM q => ?_)
          refine Ev.weak (ls := [some (.ref 81), none, some (.int s0), none]) ⟨rfl, rfl, trivial⟩ ?_
          exact h zr zM q
        · replace h := h.2 c
          refine ev_aload_n dX4_readClause_48 rfl ?_
          refine ev_bipush (v := 6) dX4_readClause_49 (by decide) ?_
          refine ev_callV [.int 6] dX4_readClause_51 ml_WithoutE_Reader_79 lx_81 rfl rfl (Nat.le_of_ble_eq_true rfl) (kX4_fail) ?_
          rintro zr zM ⟨q1, q2⟩
          rw [q1, q2]
          generalize eM2 : flM M (6 : Int32) = M2
          replace h := h M2 eM2.symm
          show Ev LX (d + 1) mX4_readClause 54 [some (.ref 81), some (.int x1), some (.int s0), none] [(.int 0)] M2 Q
          exact ev_zret dX4_readClause_54 rfl (by decide) h
      · replace h := h.2 c
        refine ev_aload_n dX4_readClause_36 rfl ?_
        refine ev_iconst (v := 4) dX4_readClause_37 (by decide) ?_
        refine ev_callV [.int 4] dX4_readClause_38 ml_WithoutE_Reader_79 lx_81 rfl rfl (Nat.le_of_ble_eq_true rfl) (kX4_fail) ?_
        rintro zr zM ⟨q1, q2⟩
        rw [q1, q2]
        generalize eM3 : flM M (4 : Int32) = M3
        replace h := h M3 eM3.symm
        show Ev LX (d + 1) mX4_readClause 41 [some (.ref 81), some (.int x1), some (.int s0), none] [(.int 0)] M3 Q
        exact ev_zret dX4_readClause_41 rfl (by decide) h
  · replace h := h.2 c
    refine ev_aload_n dX4_readClause_12 rfl ?_
    refine ev_iconst (v := 1) dX4_readClause_13 (by decide) ?_
    refine ev_callV [.int 1] dX4_readClause_14 ml_WithoutE_Reader_79 lx_81 rfl rfl (Nat.le_of_ble_eq_true rfl) (kX4_fail) ?_
    rintro zr zM ⟨q1, q2⟩
    rw [q1, q2]
    generalize eM4 : flM M (1 : Int32) = M4
    replace h := h M4 eM4.symm
    show Ev LX (d + 1) mX4_readClause 17 [some (.ref 81), some (.int x1), some (.int s0), none] [(.int 0)] M4 Q
    exact ev_zret dX4_readClause_17 rfl (by decide) h
theorem gX4_readClause_63 {d : Nat} {M : ev_Mem} {Q : Option Value → ev_Mem → Prop} {x2 : Int32} (h : (∃ Q2 : Option Value → ev_Mem → Prop, Cl LX d mX4_advance [.ref 81] M Q2 ∧ ∀ (zr : Option Value) (zM : ev_Mem), Q2 zr zM → Ev LX (d + 1) mX4_readClause 67 [some (.ref 81), none, some (.int x2), none] (zr.toList ++ []) zM Q)) : Ev LX (d + 1) mX4_readClause 63 [some (.ref 81), none, some (.int x2), none] [] M Q := by
  refine ev_aload_n dX4_readClause_63 rfl ?_
  obtain ⟨Q2, hc, h⟩ := h
  refine ev_callV [] dX4_readClause_64 ml_WithoutE_Reader_38 lx_81 rfl rfl (Nat.le_of_ble_eq_true rfl) hc (fun zr zM q => ?_)
  exact h zr zM q
theorem gX4_readClause_67 {d : Nat} {M : ev_Mem} {Q : Option Value → ev_Mem → Prop} {x2 : Int32} (h : (∀ M1 : ev_Mem, M1 = ev_wr M 81 8 x2 → (((2 < x2) → (∃ Q2 : Option Value → ev_Mem → Prop, Cl LX d mX4_readDeed [.ref 81, .int x2] M1 Q2 ∧ ∀ (zr : Option Value) (zM : ev_Mem), Q2 zr zM → Ev LX (d + 1) mX4_readClause 106 [some (.ref 81), none, none, none] (zr.toList ++ []) zM Q)) ∧ ((¬ 2 < x2) → (∃ Q2 : Option Value → ev_Mem → Prop, Cl LX d mX4_readSum [.ref 81, .int 0] M1 Q2 ∧ ∀ (zr : Option Value) (zM : ev_Mem), Q2 zr zM → Ev LX (d + 1) mX4_readClause 82 [some (.ref 81), none, none, none] (zr.toList ++ []) zM Q))))) : Ev LX (d + 1) mX4_readClause 67 [some (.ref 81), none, some (.int x2), none] [] M Q := by
  refine ev_aload_n dX4_readClause_67 rfl ?_
  refine ev_iload_n dX4_readClause_68 rfl ?_
  refine ev_putI dX4_readClause_69 fp_WithoutE_Reader_99 lx_81 rfl rfl rfl ?_
  generalize eM1 : ev_wr M 81 8 x2 = M1
  replace h := h M1 eM1.symm
  refine ev_iload_n dX4_readClause_72 rfl ?_
  refine ev_iconst (v := 2) dX4_readClause_73 (by decide) ?_
  refine ev_icmp_gt (tgt := 101) dX4_readClause_74 (by decide) (fun c => ?_) (fun c => ?_)
  · replace h := h.1 c
    refine ev_aload_n dX4_readClause_101 rfl ?_
    refine ev_iload_n dX4_readClause_102 rfl ?_
    obtain ⟨Q2, hc, h⟩ := h
    refine ev_callV [.int x2] dX4_readClause_103 ml_WithoutE_Reader_108 lx_81 rfl rfl (Nat.le_of_ble_eq_true rfl) hc (fun zr zM q => ?_)
    refine Ev.weak (ls := [some (.ref 81), none, none, none]) ⟨rfl, trivial⟩ ?_
    exact h zr zM q
  · replace h := h.2 c
    refine ev_aload_n dX4_readClause_77 rfl ?_
    refine ev_iconst (v := 0) dX4_readClause_78 (by decide) ?_
    obtain ⟨Q2, hc, h⟩ := h
    refine ev_callV [.int 0] dX4_readClause_79 ml_WithoutE_Reader_102 lx_81 rfl rfl (Nat.le_of_ble_eq_true rfl) hc (fun zr zM q => ?_)
    refine Ev.weak (ls := [some (.ref 81), none, none, none]) ⟨rfl, trivial⟩ ?_
    exact h zr zM q
theorem gX4_readClause_106 {d : Nat} {M : ev_Mem} {Q : Option Value → ev_Mem → Prop} {s0 : Int32} (h : (((s0 = 0) → (Q (some (.int 0)) M)) ∧ ((¬ s0 = 0) → (∃ Q2 : Option Value → ev_Mem → Prop, Cl LX d mX4_expectSign [.ref 81, .int 59] M Q2 ∧ ∀ (zr : Option Value) (zM : ev_Mem), Q2 zr zM → Ev LX (d + 1) mX4_readClause 117 [none, none, none, none] (zr.toList ++ []) zM Q)))) : Ev LX (d + 1) mX4_readClause 106 [some (.ref 81), none, none, none] [(.int s0)] M Q := by
  refine ev_istore_n (ls2 := [some (.ref 81), none, none, some (.int s0)]) dX4_readClause_106 (Nat.le_of_ble_eq_true rfl) rfl ?_
  refine ev_iload_n dX4_readClause_107 rfl ?_
  refine ev_if_eq (tgt := 124) dX4_readClause_108 (by decide) (fun c => ?_) (fun c => ?_)
  · replace h := h.1 c
    refine ev_iconst (v := 0) dX4_readClause_124 (by decide) ?_
    exact ev_zret dX4_readClause_125 rfl (by decide) h
  · replace h := h.2 c
    refine ev_aload_n dX4_readClause_111 rfl ?_
    refine ev_bipush (v := 59) dX4_readClause_112 (by decide) ?_
    obtain ⟨Q2, hc, h⟩ := h
    refine ev_callV [.int 59] dX4_readClause_114 ml_WithoutE_Reader_111 lx_81 rfl rfl (Nat.le_of_ble_eq_true rfl) hc (fun zr zM q => ?_)
    refine Ev.weak (ls := [none, none, none, none]) trivial ?_
    exact h zr zM q
theorem gX4_readClause_82 {d : Nat} {M : ev_Mem} {Q : Option Value → ev_Mem → Prop} {s0 : Int32} (h : (((s0 = 0) → (Ev LX (d + 1) mX4_readClause 106 [some (.ref 81), none, none, none] [(.int 0)] M Q)) ∧ ((¬ s0 = 0) → (∃ Q2 : Option Value → ev_Mem → Prop, Cl LX d mX4_putOp [.ref 81, .int 0] M Q2 ∧ ∀ (zr : Option Value) (zM : ev_Mem), Q2 zr zM → Ev LX (d + 1) mX4_readClause 90 [some (.ref 81), none, none, none] (zr.toList ++ []) zM Q)))) : Ev LX (d + 1) mX4_readClause 82 [some (.ref 81), none, none, none] [(.int s0)] M Q := by
  refine ev_if_eq (tgt := 97) dX4_readClause_82 (by decide) (fun c => ?_) (fun c => ?_)
  · replace h := h.1 c
    refine ev_iconst (v := 0) dX4_readClause_97 (by decide) ?_
    refine ev_goto (tgt := 106) dX4_readClause_98 (by decide) ?_
    exact h
  · replace h := h.2 c
    refine ev_aload_n dX4_readClause_85 rfl ?_
    refine ev_iconst (v := 0) dX4_readClause_86 (by decide) ?_
    obtain ⟨Q2, hc, h⟩ := h
    refine ev_callV [.int 0] dX4_readClause_87 ml_WithoutE_Reader_105 lx_81 rfl rfl (Nat.le_of_ble_eq_true rfl) hc (fun zr zM q => ?_)
    exact h zr zM q
theorem gX4_readClause_117 {d : Nat} {M : ev_Mem} {Q : Option Value → ev_Mem → Prop} {s0 : Int32} (h : (((s0 = 0) → (Q (some (.int 0)) M)) ∧ ((¬ s0 = 0) → (Q (some (.int 1)) M)))) : Ev LX d mX4_readClause 117 [none, none, none, none] [(.int s0)] M Q := by
  refine ev_if_eq (tgt := 124) dX4_readClause_117 (by decide) (fun c => ?_) (fun c => ?_)
  · replace h := h.1 c
    refine ev_iconst (v := 0) dX4_readClause_124 (by decide) ?_
    exact ev_zret dX4_readClause_125 rfl (by decide) h
  · replace h := h.2 c
    refine ev_iconst (v := 1) dX4_readClause_120 (by decide) ?_
    refine ev_goto (tgt := 125) dX4_readClause_121 (by decide) ?_
    exact ev_zret dX4_readClause_125 rfl (by decide) h
theorem gX4_readClause_90 {d : Nat} {M : ev_Mem} {Q : Option Value → ev_Mem → Prop} {s0 : Int32} (h : (((s0 = 0) → (Ev LX d mX4_readClause 106 [some (.ref 81), none, none, none] [(.int 0)] M Q)) ∧ ((¬ s0 = 0) → (Ev LX d mX4_readClause 106 [some (.ref 81), none, none, none] [(.int 1)] M Q)))) : Ev LX d mX4_readClause 90 [some (.ref 81), none, none, none] [(.int s0)] M Q := by
  refine ev_if_eq (tgt := 97) dX4_readClause_90 (by decide) (fun c => ?_) (fun c => ?_)
  · replace h := h.1 c
    refine ev_iconst (v := 0) dX4_readClause_97 (by decide) ?_
    refine ev_goto (tgt := 106) dX4_readClause_98 (by decide) ?_
    exact h
  · replace h := h.2 c
    refine ev_iconst (v := 1) dX4_readClause_93 (by decide) ?_
    refine ev_goto (tgt := 106) dX4_readClause_94 (by decide) ?_
    exact h
theorem dX4_read_0 : decode cX4_read 0 = .ok (.aload_n 0, 1) := by decide +kernel
theorem dX4_read_1 : decode cX4_read 1 = .ok (.aload_n 1, 1) := by decide +kernel
theorem dX4_read_2 : decode cX4_read 2 = .ok (.putfield 19, 3) := by decide +kernel
theorem dX4_read_5 : decode cX4_read 5 = .ok (.aload_n 0, 1) := by decide +kernel
theorem dX4_read_6 : decode cX4_read 6 = .ok (.getfield 19, 3) := by decide +kernel
theorem dX4_read_9 : decode cX4_read 9 = .ok (.invokevirtual 23, 3) := by decide +kernel
theorem dX4_read_12 : decode cX4_read 12 = .ok (.aload_n 0, 1) := by decide +kernel
theorem dX4_read_13 : decode cX4_read 13 = .ok (.iconst 1, 1) := by decide +kernel
theorem dX4_read_14 : decode cX4_read 14 = .ok (.putfield 28, 3) := by decide +kernel
theorem dX4_read_17 : decode cX4_read 17 = .ok (.aload_n 0, 1) := by decide +kernel
theorem dX4_read_18 : decode cX4_read 18 = .ok (.iconst 0, 1) := by decide +kernel
theorem dX4_read_19 : decode cX4_read 19 = .ok (.putfield 32, 3) := by decide +kernel
theorem dX4_read_22 : decode cX4_read 22 = .ok (.aload_n 0, 1) := by decide +kernel
theorem dX4_read_23 : decode cX4_read 23 = .ok (.iconst (-1), 1) := by decide +kernel
theorem dX4_read_24 : decode cX4_read 24 = .ok (.putfield 9, 3) := by decide +kernel
theorem dX4_read_27 : decode cX4_read 27 = .ok (.aload_n 0, 1) := by decide +kernel
theorem dX4_read_28 : decode cX4_read 28 = .ok (.iconst 0, 1) := by decide +kernel
theorem dX4_read_29 : decode cX4_read 29 = .ok (.putfield 35, 3) := by decide +kernel
theorem dX4_read_32 : decode cX4_read 32 = .ok (.aload_n 0, 1) := by decide +kernel
theorem dX4_read_33 : decode cX4_read 33 = .ok (.invokevirtual 38, 3) := by decide +kernel
theorem dX4_read_36 : decode cX4_read 36 = .ok (.iconst 0, 1) := by decide +kernel
theorem dX4_read_37 : decode cX4_read 37 = .ok (.istore_n 2, 1) := by decide +kernel
theorem dX4_read_38 : decode cX4_read 38 = .ok (.iload_n 2, 1) := by decide +kernel
theorem dX4_read_39 : decode cX4_read 39 = .ok (.bipush 24, 2) := by decide +kernel
theorem dX4_read_41 : decode cX4_read 41 = .ok (.if_icmp .gt 26, 3) := by decide +kernel
theorem dX4_read_44 : decode cX4_read 44 = .ok (.aload_n 0, 1) := by decide +kernel
theorem dX4_read_45 : decode cX4_read 45 = .ok (.getfield 41, 3) := by decide +kernel
theorem dX4_read_48 : decode cX4_read 48 = .ok (.ifCond .eq 19, 3) := by decide +kernel
theorem dX4_read_51 : decode cX4_read 51 = .ok (.aload_n 0, 1) := by decide +kernel
theorem dX4_read_52 : decode cX4_read 52 = .ok (.iload_n 2, 1) := by decide +kernel
theorem dX4_read_53 : decode cX4_read 53 = .ok (.invokevirtual 44, 3) := by decide +kernel
theorem dX4_read_56 : decode cX4_read 56 = .ok (.ifCond .ne 5, 3) := by decide +kernel
theorem dX4_read_59 : decode cX4_read 59 = .ok (.iconst 0, 1) := by decide +kernel
theorem dX4_read_60 : decode cX4_read 60 = .ok (.ireturn, 1) := by decide +kernel
theorem dX4_read_61 : decode cX4_read 61 = .ok (.iinc 2 1, 3) := by decide +kernel
theorem dX4_read_64 : decode cX4_read 64 = .ok (.goto (-26), 3) := by decide +kernel
theorem dX4_read_67 : decode cX4_read 67 = .ok (.iconst 1, 1) := by decide +kernel
theorem dX4_read_68 : decode cX4_read 68 = .ok (.ireturn, 1) := by decide +kernel
theorem gX4_read_0 {d : Nat} {M : ev_Mem} {Q : Option Value → ev_Mem → Prop} {kt : Nat} (hkt : ev_isT kt) (h : ((0 < kt ∧ kt < 2 ^ 31) ∧ (∀ M1 : ev_Mem, M1 = ev_wr M 81 1 (nI kt) → ((¬ M1.1 81 1 = 0 ∧ ev_isT (M1.1 81 1).toNatClampNeg) ∧ (∃ Q2 : Option Value → ev_Mem → Prop, Cl LX d mX8_empty [.ref ((M1.1 81 1).toNatClampNeg)] M1 Q2 ∧ ∀ (zr : Option Value) (zM : ev_Mem), Q2 zr zM → Ev LX (d + 1) mX4_read 12 [some (.ref 81), none, none] (zr.toList ++ []) zM Q))))) : Ev LX (d + 1) mX4_read 0 [some (.ref 81), some (.ref kt), none] [] M Q := by
  refine ev_aload_n dX4_read_0 rfl ?_
  refine ev_aload_n dX4_read_1 rfl ?_
  obtain ⟨⟨c, c2⟩, h⟩ := h
  refine ev_putD dX4_read_2 fp_WithoutE_Reader_19 lx_81 rfl c c2 ?_
  generalize eM1 : ev_wr M 81 1 (nI kt) = M1
  replace h := h M1 eM1.symm
  refine ev_aload_n dX4_read_5 rfl ?_
  obtain ⟨⟨c, t1⟩, h⟩ := h
  refine ev_getD dX4_read_6 fl_WithoutE_Reader_19 lx_81 rfl c ?_
  obtain ⟨Q2, hc, h⟩ := h
  refine ev_callV [] dX4_read_9 ml_WithoutE_Reader_23 (lx_T t1) rfl rfl (Nat.le_of_ble_eq_true rfl) hc (fun zr zM q => ?_)
  refine Ev.weak (ls := [some (.ref 81), none, none]) ⟨rfl, trivial⟩ ?_
  exact h zr zM q
theorem gX4_read_12 {d : Nat} {M : ev_Mem} {Q : Option Value → ev_Mem → Prop} {kt : Nat} (hkt : ev_isT kt) (h : (∀ M1 : ev_Mem, M1 = ev_wr M 81 2 1 → (∀ M2 : ev_Mem, M2 = ev_wr M1 81 3 0 → (∀ M3 : ev_Mem, M3 = ev_wr M2 81 4 (-1) → (∀ M4 : ev_Mem, M4 = ev_wr M3 81 7 0 → (∃ Q2 : Option Value → ev_Mem → Prop, Cl LX d mX4_advance [.ref 81] M4 Q2 ∧ ∀ (zr : Option Value) (zM : ev_Mem), Q2 zr zM → Ev LX (d + 1) mX4_read 36 [some (.ref 81), none, none] (zr.toList ++ []) zM Q)))))) : Ev LX (d + 1) mX4_read 12 [some (.ref 81), none, none] [] M Q := by
  refine ev_aload_n dX4_read_12 rfl ?_
  refine ev_iconst (v := 1) dX4_read_13 (by decide) ?_
  refine ev_putI dX4_read_14 fp_WithoutE_Reader_28 lx_81 rfl (by decide) (by decide) ?_
  generalize eM1 : ev_wr M 81 2 1 = M1
  replace h := h M1 eM1.symm
  refine ev_aload_n dX4_read_17 rfl ?_
  refine ev_iconst (v := 0) dX4_read_18 (by decide) ?_
  refine ev_putI dX4_read_19 fp_WithoutE_Reader_32 lx_81 rfl rfl rfl ?_
  generalize eM2 : ev_wr M1 81 3 0 = M2
  replace h := h M2 eM2.symm
  refine ev_aload_n dX4_read_22 rfl ?_
  refine ev_iconst (v := -1) dX4_read_23 (by decide) ?_
  refine ev_putI dX4_read_24 fp_WithoutE_Reader_9 lx_81 rfl rfl rfl ?_
  generalize eM3 : ev_wr M2 81 4 (-1) = M3
  replace h := h M3 eM3.symm
  refine ev_aload_n dX4_read_27 rfl ?_
  refine ev_iconst (v := 0) dX4_read_28 (by decide) ?_
  refine ev_putI dX4_read_29 fp_WithoutE_Reader_35 lx_81 rfl rfl rfl ?_
  generalize eM4 : ev_wr M3 81 7 0 = M4
  replace h := h M4 eM4.symm
  refine ev_aload_n dX4_read_32 rfl ?_
  obtain ⟨Q2, hc, h⟩ := h
  refine ev_callV [] dX4_read_33 ml_WithoutE_Reader_38 lx_81 rfl rfl (Nat.le_of_ble_eq_true rfl) hc (fun zr zM q => ?_)
  exact h zr zM q
theorem gX4_read_36 {d : Nat} {M : ev_Mem} {Q : Option Value → ev_Mem → Prop} {kt : Nat} (hkt : ev_isT kt) (h : (Ev LX d mX4_read 38 [some (.ref 81), none, some (.int 0)] [] M Q)) : Ev LX d mX4_read 36 [some (.ref 81), none, none] [] M Q := by
  refine ev_iconst (v := 0) dX4_read_36 (by decide) ?_
  refine ev_istore_n (ls2 := [some (.ref 81), none, some (.int 0)]) dX4_read_37 (Nat.le_of_ble_eq_true rfl) rfl ?_
  exact h
theorem gX4_read_38 {d : Nat} {M : ev_Mem} {Q : Option Value → ev_Mem → Prop} {x2 : Int32} {kt : Nat} (hkt : ev_isT kt) (h : (((24 < x2) → (Q (some (.int 1)) M)) ∧ ((¬ 24 < x2) → ((((M.1 81 5) = 0) → (Q (some (.int 1)) M)) ∧ ((¬ (M.1 81 5) = 0) → (∃ Q2 : Option Value → ev_Mem → Prop, Cl LX d mX4_readClause [.ref 81, .int x2] M Q2 ∧ ∀ (zr : Option Value) (zM : ev_Mem), Q2 zr zM → Ev LX (d + 1) mX4_read 56 [some (.ref 81), none, some (.int x2)] (zr.toList ++ []) zM Q)))))) : Ev LX (d + 1) mX4_read 38 [some (.ref 81), none, some (.int x2)] [] M Q := by
  refine ev_iload_n dX4_read_38 rfl ?_
  refine ev_bipush (v := 24) dX4_read_39 (by decide) ?_
  refine ev_icmp_gt (tgt := 67) dX4_read_41 (by decide) (fun c => ?_) (fun c => ?_)
  · replace h := h.1 c
    refine ev_iconst (v := 1) dX4_read_67 (by decide) ?_
    exact ev_zret dX4_read_68 rfl (by decide) h
  · replace h := h.2 c
    refine ev_aload_n dX4_read_44 rfl ?_
    refine ev_getI dX4_read_45 fl_WithoutE_Reader_41 lx_81 rfl ?_
    refine ev_if_eq (tgt := 67) dX4_read_48 (by decide) (fun c => ?_) (fun c => ?_)
    · replace h := h.1 c
      refine ev_iconst (v := 1) dX4_read_67 (by decide) ?_
      exact ev_zret dX4_read_68 rfl (by decide) h
    · replace h := h.2 c
      refine ev_aload_n dX4_read_51 rfl ?_
      refine ev_iload_n dX4_read_52 rfl ?_
      obtain ⟨Q2, hc, h⟩ := h
      refine ev_callV [.int x2] dX4_read_53 ml_WithoutE_Reader_44 lx_81 rfl rfl (Nat.le_of_ble_eq_true rfl) hc (fun zr zM q => ?_)
      exact h zr zM q
theorem gX4_read_56 {d : Nat} {M : ev_Mem} {Q : Option Value → ev_Mem → Prop} {x2 s0 : Int32} {kt : Nat} (hkt : ev_isT kt) (h : (((¬ s0 = 0) → (Ev LX d mX4_read 38 [some (.ref 81), none, some (.int (x2 + 1))] [] M Q)) ∧ ((s0 = 0) → (Q (some (.int 0)) M)))) : Ev LX d mX4_read 56 [some (.ref 81), none, some (.int x2)] [(.int s0)] M Q := by
  refine ev_if_ne (tgt := 61) dX4_read_56 (by decide) (fun c => ?_) (fun c => ?_)
  · replace h := h.1 c
    refine ev_iinc (v := x2 + 1) (ls2 := [some (.ref 81), none, some (.int (x2 + 1))]) dX4_read_61 rfl rfl rfl ?_
    refine ev_goto (tgt := 38) dX4_read_64 (by decide) ?_
    exact h
  · replace h := h.2 c
    refine ev_iconst (v := 0) dX4_read_59 (by decide) ?_
    exact ev_zret dX4_read_60 rfl (by decide) h
theorem dX11_figure_0 : decode cX11_figure 0 = .ok (.aload_n 0, 1) := by decide +kernel
theorem dX11_figure_1 : decode cX11_figure 1 = .ok (.getfield 119, 3) := by decide +kernel
theorem dX11_figure_4 : decode cX11_figure 4 = .ok (.iconst 1, 1) := by decide +kernel
theorem dX11_figure_5 : decode cX11_figure 5 = .ok (.if_icmp .eq 5, 3) := by decide +kernel
theorem dX11_figure_8 : decode cX11_figure 8 = .ok (.iconst 1, 1) := by decide +kernel
theorem dX11_figure_9 : decode cX11_figure 9 = .ok (.ireturn, 1) := by decide +kernel
theorem dX11_figure_10 : decode cX11_figure 10 = .ok (.aload_n 0, 1) := by decide +kernel
theorem dX11_figure_11 : decode cX11_figure 11 = .ok (.getfield 125, 3) := by decide +kernel
theorem dX11_figure_14 : decode cX11_figure 14 = .ok (.iload_n 2, 1) := by decide +kernel
theorem dX11_figure_15 : decode cX11_figure 15 = .ok (.iload_n 3, 1) := by decide +kernel
theorem dX11_figure_16 : decode cX11_figure 16 = .ok (.invokestatic 80, 3) := by decide +kernel
theorem dX11_figure_19 : decode cX11_figure 19 = .ok (.ifCond .ne 5, 3) := by decide +kernel
theorem dX11_figure_22 : decode cX11_figure 22 = .ok (.iconst 2, 1) := by decide +kernel
theorem dX11_figure_23 : decode cX11_figure 23 = .ok (.ireturn, 1) := by decide +kernel
theorem dX11_figure_24 : decode cX11_figure 24 = .ok (.aload_n 0, 1) := by decide +kernel
theorem dX11_figure_25 : decode cX11_figure 25 = .ok (.getfield 19, 3) := by decide +kernel
theorem dX11_figure_28 : decode cX11_figure 28 = .ok (.iload_n 1, 1) := by decide +kernel
theorem dX11_figure_29 : decode cX11_figure 29 = .ok (.aload_n 0, 1) := by decide +kernel
theorem dX11_figure_30 : decode cX11_figure 30 = .ok (.getfield 125, 3) := by decide +kernel
theorem dX11_figure_33 : decode cX11_figure 33 = .ok (.iastore, 1) := by decide +kernel
theorem dX11_figure_34 : decode cX11_figure 34 = .ok (.aload_n 0, 1) := by decide +kernel
theorem dX11_figure_35 : decode cX11_figure 35 = .ok (.invokevirtual 194, 3) := by decide +kernel
theorem dX11_figure_38 : decode cX11_figure 38 = .ok (.iconst 0, 1) := by decide +kernel
theorem dX11_figure_39 : decode cX11_figure 39 = .ok (.ireturn, 1) := by decide +kernel
theorem gX11_figure_0 {d : Nat} {M : ev_Mem} {Q : Option Value → ev_Mem → Prop} {x1 x2 x3 : Int32} (h : ((((M.1 0 10) = 1) → ((((iin (M.1 0 11) x2 x3) = true) → (vp_in x1 3780 ∧ (∀ M1 : ev_Mem, M1 = ev_wr M 4 x1.toNatClampNeg (M.1 0 11) → (∃ Q2 : Option Value → ev_Mem → Prop, Cl LM d mX11_nextToken [.ref 0] M1 Q2 ∧ ∀ (zr : Option Value) (zM : ev_Mem), Q2 zr zM → Ev LM (d + 1) mX11_figure 38 [none, none, none, none] (zr.toList ++ []) zM Q)))) ∧ (((iin (M.1 0 11) x2 x3) = false) → (Q (some (.int 2)) M)))) ∧ ((¬ (M.1 0 10) = 1) → (Q (some (.int 1)) M)))) : Ev LM (d + 1) mX11_figure 0 [some (.ref 0), some (.int x1), some (.int x2), some (.int x3)] [] M Q := by
  refine ev_aload_n dX11_figure_0 rfl ?_
  refine ev_getI dX11_figure_1 fl_WithoutEModel_119 lm_0 rfl ?_
  refine ev_iconst (v := 1) dX11_figure_4 (by decide) ?_
  refine ev_icmp_eq (tgt := 10) dX11_figure_5 (by decide) (fun c => ?_) (fun c => ?_)
  · replace h := h.1 c
    refine ev_aload_n dX11_figure_10 rfl ?_
    refine ev_getI dX11_figure_11 fl_WithoutEModel_125 lm_0 rfl ?_
    refine ev_iload_n dX11_figure_14 rfl ?_
    refine ev_iload_n dX11_figure_15 rfl ?_
    refine ev_callS [.int (M.1 0 11), .int x2, .int x3] dX11_figure_16 ml_WithoutEModel_80 rfl (Nat.le_of_ble_eq_true rfl) (kX11_isIn) ?_
    rintro zr zM ⟨q1, q2⟩
    rw [q1, q2]
    show Ev LM (d + 1) mX11_figure 19 [some (.ref 0), some (.int x1), some (.int x2), some (.int x3)] [(.int (bi (iin (M.1 0 11) x2 x3)))] M Q
    refine ev_if_ne (tgt := 24) dX11_figure_19 (by decide) (fun c => ?_) (fun c => ?_)
    · replace h := h.1 ((bi_n0 _).mp c)
      refine ev_aload_n dX11_figure_24 rfl ?_
      refine ev_getA dX11_figure_25 fl_WithoutEModel_19 lm_0 rfl ?_
      refine ev_iload_n dX11_figure_28 rfl ?_
      refine ev_aload_n dX11_figure_29 rfl ?_
      refine ev_getI dX11_figure_30 fl_WithoutEModel_125 lm_0 rfl ?_
      obtain ⟨c, h⟩ := h
      refine ev_iast dX11_figure_33 lm_4 c ?_
      generalize eM1 : ev_wr M 4 x1.toNatClampNeg (M.1 0 11) = M1
      replace h := h M1 eM1.symm
      refine ev_aload_n dX11_figure_34 rfl ?_
      obtain ⟨Q2, hc, h⟩ := h
      refine ev_callV [] dX11_figure_35 ml_WithoutEModel_194 lm_0 rfl rfl (Nat.le_of_ble_eq_true rfl) hc (fun zr zM q => ?_)
      refine Ev.weak (ls := [none, none, none, none]) trivial ?_
      exact h zr zM q
    · replace h := h.2 ((bi_0 _).mp c)
      refine ev_iconst (v := 2) dX11_figure_22 (by decide) ?_
      exact ev_iret dX11_figure_23 rfl h
  · replace h := h.2 c
    refine ev_iconst (v := 1) dX11_figure_8 (by decide) ?_
    exact ev_iret dX11_figure_9 rfl h
theorem gX11_figure_38 {d : Nat} {M : ev_Mem} {Q : Option Value → ev_Mem → Prop} (h : (Q (some (.int 0)) M)) : Ev LM d mX11_figure 38 [none, none, none, none] [] M Q := by
  refine ev_iconst (v := 0) dX11_figure_38 (by decide) ?_
  exact ev_iret dX11_figure_39 rfl h
theorem dX11_worded_0 : decode cX11_worded 0 = .ok (.aload_n 0, 1) := by decide +kernel
theorem dX11_worded_1 : decode cX11_worded 1 = .ok (.lload_n 1, 1) := by decide +kernel
theorem dX11_worded_2 : decode cX11_worded 2 = .ok (.invokevirtual 213, 3) := by decide +kernel
theorem dX11_worded_5 : decode cX11_worded 5 = .ok (.ifCond .ne 5, 3) := by decide +kernel
theorem dX11_worded_8 : decode cX11_worded 8 = .ok (.iconst 1, 1) := by decide +kernel
theorem dX11_worded_9 : decode cX11_worded 9 = .ok (.ireturn, 1) := by decide +kernel
theorem dX11_worded_10 : decode cX11_worded 10 = .ok (.aload_n 0, 1) := by decide +kernel
theorem dX11_worded_11 : decode cX11_worded 11 = .ok (.invokevirtual 194, 3) := by decide +kernel
theorem dX11_worded_14 : decode cX11_worded 14 = .ok (.aload_n 0, 1) := by decide +kernel
theorem dX11_worded_15 : decode cX11_worded 15 = .ok (.iload_n 3, 1) := by decide +kernel
theorem dX11_worded_16 : decode cX11_worded 16 = .ok (.iload 4, 2) := by decide +kernel
theorem dX11_worded_18 : decode cX11_worded 18 = .ok (.iload 5, 2) := by decide +kernel
theorem dX11_worded_20 : decode cX11_worded 20 = .ok (.invokevirtual 239, 3) := by decide +kernel
theorem dX11_worded_23 : decode cX11_worded 23 = .ok (.ireturn, 1) := by decide +kernel
theorem gX11_worded_0 {d : Nat} {M : ev_Mem} {Q : Option Value → ev_Mem → Prop} {x3 x4 x5 : Int32} {x1 : Int64} (h : ((((isw M x1) = true) → (∃ Q2 : Option Value → ev_Mem → Prop, Cl LM d mX11_nextToken [.ref 0] M Q2 ∧ ∀ (zr : Option Value) (zM : ev_Mem), Q2 zr zM → Ev LM (d + 1) mX11_worded 14 [some (.ref 0), none, none, some (.int x3), some (.int x4), some (.int x5)] (zr.toList ++ []) zM Q)) ∧ (((isw M x1) = false) → (Q (some (.int 1)) M)))) : Ev LM (d + 1) mX11_worded 0 [some (.ref 0), some (.long x1), none, some (.int x3), some (.int x4), some (.int x5)] [] M Q := by
  refine ev_aload_n dX11_worded_0 rfl ?_
  refine ev_lload_n dX11_worded_1 rfl ?_
  refine ev_callV [.long x1] dX11_worded_2 ml_WithoutEModel_213 lm_0 rfl rfl (Nat.le_of_ble_eq_true rfl) (kX11_isWord) ?_
  rintro zr zM ⟨q1, q2⟩
  rw [q1, q2]
  show Ev LM (d + 1) mX11_worded 5 [some (.ref 0), some (.long x1), none, some (.int x3), some (.int x4), some (.int x5)] [(.int (bi (isw M x1)))] M Q
  refine ev_if_ne (tgt := 10) dX11_worded_5 (by decide) (fun c => ?_) (fun c => ?_)
  · replace h := h.1 ((bi_n0 _).mp c)
    refine ev_aload_n dX11_worded_10 rfl ?_
    obtain ⟨Q2, hc, h⟩ := h
    refine ev_callV [] dX11_worded_11 ml_WithoutEModel_194 lm_0 rfl rfl (Nat.le_of_ble_eq_true rfl) hc (fun zr zM q => ?_)
    refine Ev.weak (ls := [some (.ref 0), none, none, some (.int x3), some (.int x4), some (.int x5)]) ⟨rfl, rfl, rfl, rfl, trivial⟩ ?_
    exact h zr zM q
  · replace h := h.2 ((bi_0 _).mp c)
    refine ev_iconst (v := 1) dX11_worded_8 (by decide) ?_
    exact ev_iret dX11_worded_9 rfl h
theorem gX11_worded_14 {d : Nat} {M : ev_Mem} {Q : Option Value → ev_Mem → Prop} {x3 x4 x5 : Int32} (h : (∃ Q2 : Option Value → ev_Mem → Prop, Cl LM d mX11_figure [.ref 0, .int x3, .int x4, .int x5] M Q2 ∧ ∀ (zr : Option Value) (zM : ev_Mem), Q2 zr zM → Ev LM (d + 1) mX11_worded 23 [none, none, none, none, none, none] (zr.toList ++ []) zM Q)) : Ev LM (d + 1) mX11_worded 14 [some (.ref 0), none, none, some (.int x3), some (.int x4), some (.int x5)] [] M Q := by
  refine ev_aload_n dX11_worded_14 rfl ?_
  refine ev_iload_n dX11_worded_15 rfl ?_
  refine ev_iload dX11_worded_16 rfl ?_
  refine ev_iload dX11_worded_18 rfl ?_
  obtain ⟨Q2, hc, h⟩ := h
  refine ev_callV [.int x3, .int x4, .int x5] dX11_worded_20 ml_WithoutEModel_239 lm_0 rfl rfl (Nat.le_of_ble_eq_true rfl) hc (fun zr zM q => ?_)
  refine Ev.weak (ls := [none, none, none, none, none, none]) trivial ?_
  exact h zr zM q
theorem gX11_worded_23 {d : Nat} {M : ev_Mem} {Q : Option Value → ev_Mem → Prop} {s0 : Int32} (h : (Q (some (.int s0)) M)) : Ev LM d mX11_worded 23 [none, none, none, none, none, none] [(.int s0)] M Q := by
  exact ev_iret dX11_worded_23 rfl h
theorem dX11_lawClause_0 : decode cX11_lawClause 0 = .ok (.aload_n 0, 1) := by decide +kernel
theorem dX11_lawClause_1 : decode cX11_lawClause 1 = .ok (.getfield 19, 3) := by decide +kernel
theorem dX11_lawClause_4 : decode cX11_lawClause 4 = .ok (.iload_n 1, 1) := by decide +kernel
theorem dX11_lawClause_5 : decode cX11_lawClause 5 = .ok (.iconst 1, 1) := by decide +kernel
theorem dX11_lawClause_6 : decode cX11_lawClause 6 = .ok (.iadd, 1) := by decide +kernel
theorem dX11_lawClause_7 : decode cX11_lawClause 7 = .ok (.aload_n 0, 1) := by decide +kernel
theorem dX11_lawClause_8 : decode cX11_lawClause 8 = .ok (.getfield 160, 3) := by decide +kernel
theorem dX11_lawClause_11 : decode cX11_lawClause 11 = .ok (.iastore, 1) := by decide +kernel
theorem dX11_lawClause_12 : decode cX11_lawClause 12 = .ok (.aload_n 0, 1) := by decide +kernel
theorem dX11_lawClause_13 : decode cX11_lawClause 13 = .ok (.invokevirtual 243, 3) := by decide +kernel
theorem dX11_lawClause_16 : decode cX11_lawClause 16 = .ok (.istore_n 2, 1) := by decide +kernel
theorem dX11_lawClause_17 : decode cX11_lawClause 17 = .ok (.aload_n 0, 1) := by decide +kernel
theorem dX11_lawClause_18 : decode cX11_lawClause 18 = .ok (.getfield 19, 3) := by decide +kernel
theorem dX11_lawClause_21 : decode cX11_lawClause 21 = .ok (.iload_n 1, 1) := by decide +kernel
theorem dX11_lawClause_22 : decode cX11_lawClause 22 = .ok (.iconst 2, 1) := by decide +kernel
theorem dX11_lawClause_23 : decode cX11_lawClause 23 = .ok (.iadd, 1) := by decide +kernel
theorem dX11_lawClause_24 : decode cX11_lawClause 24 = .ok (.aload_n 0, 1) := by decide +kernel
theorem dX11_lawClause_25 : decode cX11_lawClause 25 = .ok (.getfield 160, 3) := by decide +kernel
theorem dX11_lawClause_28 : decode cX11_lawClause 28 = .ok (.iastore, 1) := by decide +kernel
theorem dX11_lawClause_29 : decode cX11_lawClause 29 = .ok (.iload_n 2, 1) := by decide +kernel
theorem dX11_lawClause_30 : decode cX11_lawClause 30 = .ok (.ireturn, 1) := by decide +kernel
theorem gX11_lawClause_0 {d : Nat} {M : ev_Mem} {Q : Option Value → ev_Mem → Prop} {x1 : Int32} (h : (vp_in (x1 + 1) 3780 ∧ (∀ M1 : ev_Mem, M1 = ev_wr M 4 (x1 + 1).toNatClampNeg (M.1 0 14) → (∃ Q2 : Option Value → ev_Mem → Prop, Cl LM d mX11_summed [.ref 0] M1 Q2 ∧ ∀ (zr : Option Value) (zM : ev_Mem), Q2 zr zM → Ev LM (d + 1) mX11_lawClause 16 [some (.ref 0), some (.int x1), none] (zr.toList ++ []) zM Q)))) : Ev LM (d + 1) mX11_lawClause 0 [some (.ref 0), some (.int x1), none] [] M Q := by
  refine ev_aload_n dX11_lawClause_0 rfl ?_
  refine ev_getA dX11_lawClause_1 fl_WithoutEModel_19 lm_0 rfl ?_
  refine ev_iload_n dX11_lawClause_4 rfl ?_
  refine ev_iconst (v := 1) dX11_lawClause_5 (by decide) ?_
  refine ev_iadd dX11_lawClause_6 ?_
  refine ev_aload_n dX11_lawClause_7 rfl ?_
  refine ev_getI dX11_lawClause_8 fl_WithoutEModel_160 lm_0 rfl ?_
  obtain ⟨c, h⟩ := h
  refine ev_iast dX11_lawClause_11 lm_4 c ?_
  generalize eM1 : ev_wr M 4 (x1 + 1).toNatClampNeg (M.1 0 14) = M1
  replace h := h M1 eM1.symm
  refine ev_aload_n dX11_lawClause_12 rfl ?_
  obtain ⟨Q2, hc, h⟩ := h
  refine ev_callV [] dX11_lawClause_13 ml_WithoutEModel_243 lm_0 rfl rfl (Nat.le_of_ble_eq_true rfl) hc (fun zr zM q => ?_)
  exact h zr zM q
theorem gX11_lawClause_16 {d : Nat} {M : ev_Mem} {Q : Option Value → ev_Mem → Prop} {x1 s0 : Int32} (h : (vp_in (x1 + 2) 3780 ∧ (∀ M1 : ev_Mem, M1 = ev_wr M 4 (x1 + 2).toNatClampNeg (M.1 0 14) → (Q (some (.int s0)) M1)))) : Ev LM d mX11_lawClause 16 [some (.ref 0), some (.int x1), none] [(.int s0)] M Q := by
  refine ev_istore_n (ls2 := [some (.ref 0), some (.int x1), some (.int s0)]) dX11_lawClause_16 (Nat.le_of_ble_eq_true rfl) rfl ?_
  refine ev_aload_n dX11_lawClause_17 rfl ?_
  refine ev_getA dX11_lawClause_18 fl_WithoutEModel_19 lm_0 rfl ?_
  refine ev_iload_n dX11_lawClause_21 rfl ?_
  refine ev_iconst (v := 2) dX11_lawClause_22 (by decide) ?_
  refine ev_iadd dX11_lawClause_23 ?_
  refine ev_aload_n dX11_lawClause_24 rfl ?_
  refine ev_getI dX11_lawClause_25 fl_WithoutEModel_160 lm_0 rfl ?_
  obtain ⟨c, h⟩ := h
  refine ev_iast dX11_lawClause_28 lm_4 c ?_
  generalize eM1 : ev_wr M 4 (x1 + 2).toNatClampNeg (M.1 0 14) = M1
  replace h := h M1 eM1.symm
  refine ev_iload_n dX11_lawClause_29 rfl ?_
  exact ev_iret dX11_lawClause_30 rfl h
theorem dX11_spelled_0 : decode cX11_spelled 0 = .ok (.aload_n 0, 1) := by decide +kernel
theorem dX11_spelled_1 : decode cX11_spelled 1 = .ok (.getfield 119, 3) := by decide +kernel
theorem dX11_spelled_4 : decode cX11_spelled 4 = .ok (.iconst 2, 1) := by decide +kernel
theorem dX11_spelled_5 : decode cX11_spelled 5 = .ok (.if_icmp .eq 5, 3) := by decide +kernel
theorem dX11_spelled_8 : decode cX11_spelled 8 = .ok (.iconst 1, 1) := by decide +kernel
theorem dX11_spelled_9 : decode cX11_spelled 9 = .ok (.ireturn, 1) := by decide +kernel
theorem dX11_spelled_10 : decode cX11_spelled 10 = .ok (.aload_n 0, 1) := by decide +kernel
theorem dX11_spelled_11 : decode cX11_spelled 11 = .ok (.getfield 110, 3) := by decide +kernel
theorem dX11_spelled_14 : decode cX11_spelled 14 = .ok (.aload_n 0, 1) := by decide +kernel
theorem dX11_spelled_15 : decode cX11_spelled 15 = .ok (.getfield 116, 3) := by decide +kernel
theorem dX11_spelled_18 : decode cX11_spelled 18 = .ok (.isub, 1) := by decide +kernel
theorem dX11_spelled_19 : decode cX11_spelled 19 = .ok (.istore_n 3, 1) := by decide +kernel
theorem dX11_spelled_20 : decode cX11_spelled 20 = .ok (.iload_n 3, 1) := by decide +kernel
theorem dX11_spelled_21 : decode cX11_spelled 21 = .ok (.iload_n 2, 1) := by decide +kernel
theorem dX11_spelled_22 : decode cX11_spelled 22 = .ok (.if_icmp .le 6, 3) := by decide +kernel
theorem dX11_spelled_25 : decode cX11_spelled 25 = .ok (.bipush 7, 2) := by decide +kernel
theorem dX11_spelled_27 : decode cX11_spelled 27 = .ok (.ireturn, 1) := by decide +kernel
theorem dX11_spelled_28 : decode cX11_spelled 28 = .ok (.iconst 0, 1) := by decide +kernel
theorem dX11_spelled_29 : decode cX11_spelled 29 = .ok (.istore 4, 2) := by decide +kernel
theorem dX11_spelled_31 : decode cX11_spelled 31 = .ok (.iload 4, 2) := by decide +kernel
theorem dX11_spelled_33 : decode cX11_spelled 33 = .ok (.iload_n 3, 1) := by decide +kernel
theorem dX11_spelled_34 : decode cX11_spelled 34 = .ok (.if_icmp .ge 58, 3) := by decide +kernel
theorem dX11_spelled_37 : decode cX11_spelled 37 = .ok (.aload_n 0, 1) := by decide +kernel
theorem dX11_spelled_38 : decode cX11_spelled 38 = .ok (.aload_n 0, 1) := by decide +kernel
theorem dX11_spelled_39 : decode cX11_spelled 39 = .ok (.getfield 116, 3) := by decide +kernel
theorem dX11_spelled_42 : decode cX11_spelled 42 = .ok (.iload 4, 2) := by decide +kernel
theorem dX11_spelled_44 : decode cX11_spelled 44 = .ok (.iadd, 1) := by decide +kernel
theorem dX11_spelled_45 : decode cX11_spelled 45 = .ok (.invokevirtual 113, 3) := by decide +kernel
theorem dX11_spelled_48 : decode cX11_spelled 48 = .ok (.bipush 97, 2) := by decide +kernel
theorem dX11_spelled_50 : decode cX11_spelled 50 = .ok (.bipush 122, 2) := by decide +kernel
theorem dX11_spelled_52 : decode cX11_spelled 52 = .ok (.invokestatic 80, 3) := by decide +kernel
theorem dX11_spelled_55 : decode cX11_spelled 55 = .ok (.ifCond .ne 6, 3) := by decide +kernel
theorem dX11_spelled_58 : decode cX11_spelled 58 = .ok (.bipush 7, 2) := by decide +kernel
theorem dX11_spelled_60 : decode cX11_spelled 60 = .ok (.ireturn, 1) := by decide +kernel
theorem dX11_spelled_61 : decode cX11_spelled 61 = .ok (.aload_n 0, 1) := by decide +kernel
theorem dX11_spelled_62 : decode cX11_spelled 62 = .ok (.getfield 19, 3) := by decide +kernel
theorem dX11_spelled_65 : decode cX11_spelled 65 = .ok (.iload_n 1, 1) := by decide +kernel
theorem dX11_spelled_66 : decode cX11_spelled 66 = .ok (.iconst 1, 1) := by decide +kernel
theorem dX11_spelled_67 : decode cX11_spelled 67 = .ok (.iadd, 1) := by decide +kernel
theorem dX11_spelled_68 : decode cX11_spelled 68 = .ok (.iload 4, 2) := by decide +kernel
theorem dX11_spelled_70 : decode cX11_spelled 70 = .ok (.iadd, 1) := by decide +kernel
theorem dX11_spelled_71 : decode cX11_spelled 71 = .ok (.aload_n 0, 1) := by decide +kernel
theorem dX11_spelled_72 : decode cX11_spelled 72 = .ok (.aload_n 0, 1) := by decide +kernel
theorem dX11_spelled_73 : decode cX11_spelled 73 = .ok (.getfield 116, 3) := by decide +kernel
theorem dX11_spelled_76 : decode cX11_spelled 76 = .ok (.iload 4, 2) := by decide +kernel
theorem dX11_spelled_78 : decode cX11_spelled 78 = .ok (.iadd, 1) := by decide +kernel
theorem dX11_spelled_79 : decode cX11_spelled 79 = .ok (.invokevirtual 113, 3) := by decide +kernel
theorem dX11_spelled_82 : decode cX11_spelled 82 = .ok (.bipush 97, 2) := by decide +kernel
theorem dX11_spelled_84 : decode cX11_spelled 84 = .ok (.isub, 1) := by decide +kernel
theorem dX11_spelled_85 : decode cX11_spelled 85 = .ok (.iastore, 1) := by decide +kernel
theorem dX11_spelled_86 : decode cX11_spelled 86 = .ok (.iinc 4 1, 3) := by decide +kernel
theorem dX11_spelled_89 : decode cX11_spelled 89 = .ok (.goto (-58), 3) := by decide +kernel
theorem dX11_spelled_92 : decode cX11_spelled 92 = .ok (.aload_n 0, 1) := by decide +kernel
theorem dX11_spelled_93 : decode cX11_spelled 93 = .ok (.getfield 19, 3) := by decide +kernel
theorem dX11_spelled_96 : decode cX11_spelled 96 = .ok (.iload_n 1, 1) := by decide +kernel
theorem dX11_spelled_97 : decode cX11_spelled 97 = .ok (.iload_n 3, 1) := by decide +kernel
theorem dX11_spelled_98 : decode cX11_spelled 98 = .ok (.iastore, 1) := by decide +kernel
theorem dX11_spelled_99 : decode cX11_spelled 99 = .ok (.aload_n 0, 1) := by decide +kernel
theorem dX11_spelled_100 : decode cX11_spelled 100 = .ok (.invokevirtual 194, 3) := by decide +kernel
theorem dX11_spelled_103 : decode cX11_spelled 103 = .ok (.iconst 0, 1) := by decide +kernel
theorem dX11_spelled_104 : decode cX11_spelled 104 = .ok (.ireturn, 1) := by decide +kernel
theorem gX11_spelled_0 {d : Nat} {M : ev_Mem} {Q : Option Value → ev_Mem → Prop} {x1 x2 : Int32} (h : ((((M.1 0 10) = 2) → (((((M.1 0 8) - (M.1 0 9)) ≤ x2) → (Ev LM d mX11_spelled 31 [some (.ref 0), some (.int x1), none, some (.int ((M.1 0 8) - (M.1 0 9))), some (.int 0)] [] M Q)) ∧ ((¬ ((M.1 0 8) - (M.1 0 9)) ≤ x2) → (Q (some (.int 7)) M)))) ∧ ((¬ (M.1 0 10) = 2) → (Q (some (.int 1)) M)))) : Ev LM d mX11_spelled 0 [some (.ref 0), some (.int x1), some (.int x2), none, none] [] M Q := by
  refine ev_aload_n dX11_spelled_0 rfl ?_
  refine ev_getI dX11_spelled_1 fl_WithoutEModel_119 lm_0 rfl ?_
  refine ev_iconst (v := 2) dX11_spelled_4 (by decide) ?_
  refine ev_icmp_eq (tgt := 10) dX11_spelled_5 (by decide) (fun c => ?_) (fun c => ?_)
  · replace h := h.1 c
    refine ev_aload_n dX11_spelled_10 rfl ?_
    refine ev_getI dX11_spelled_11 fl_WithoutEModel_110 lm_0 rfl ?_
    refine ev_aload_n dX11_spelled_14 rfl ?_
    refine ev_getI dX11_spelled_15 fl_WithoutEModel_116 lm_0 rfl ?_
    refine ev_isub dX11_spelled_18 ?_
    refine ev_istore_n (ls2 := [some (.ref 0), some (.int x1), some (.int x2), some (.int ((M.1 0 8) - (M.1 0 9))), none]) dX11_spelled_19 (Nat.le_of_ble_eq_true rfl) rfl ?_
    refine ev_iload_n dX11_spelled_20 rfl ?_
    refine ev_iload_n dX11_spelled_21 rfl ?_
    refine ev_icmp_le (tgt := 28) dX11_spelled_22 (by decide) (fun c => ?_) (fun c => ?_)
    · replace h := h.1 c
      refine ev_iconst (v := 0) dX11_spelled_28 (by decide) ?_
      refine ev_istore (ls2 := [some (.ref 0), some (.int x1), some (.int x2), some (.int ((M.1 0 8) - (M.1 0 9))), some (.int 0)]) dX11_spelled_29 (Nat.le_of_ble_eq_true rfl) rfl ?_
      refine Ev.weak (ls := [some (.ref 0), some (.int x1), none, some (.int ((M.1 0 8) - (M.1 0 9))), some (.int 0)]) ⟨rfl, rfl, rfl, rfl, trivial⟩ ?_
      exact h
    · replace h := h.2 c
      refine ev_bipush (v := 7) dX11_spelled_25 (by decide) ?_
      exact ev_iret dX11_spelled_27 rfl h
  · replace h := h.2 c
    refine ev_iconst (v := 1) dX11_spelled_8 (by decide) ?_
    exact ev_iret dX11_spelled_9 rfl h
theorem gX11_spelled_31 {d : Nat} {M : ev_Mem} {Q : Option Value → ev_Mem → Prop} {x1 x3 x4 : Int32} (h : (((x3 ≤ x4) → (vp_in x1 3780 ∧ (∀ M1 : ev_Mem, M1 = ev_wr M 4 x1.toNatClampNeg x3 → (∃ Q2 : Option Value → ev_Mem → Prop, Cl LM d mX11_nextToken [.ref 0] M1 Q2 ∧ ∀ (zr : Option Value) (zM : ev_Mem), Q2 zr zM → Ev LM (d + 1) mX11_spelled 103 [none, none, none, none, none] (zr.toList ++ []) zM Q)))) ∧ ((¬ x3 ≤ x4) → ((baOK M ((M.1 0 9) + x4)) ∧ ((((iin (btA M ((M.1 0 9) + x4)) (97 : Int32) (122 : Int32)) = true) → ((baOK M ((M.1 0 9) + x4)) ∧ (vp_in ((x1 + 1) + x4) 3780 ∧ (∀ M2 : ev_Mem, M2 = ev_wr M 4 ((x1 + 1) + x4).toNatClampNeg ((btA M ((M.1 0 9) + x4)) - 97) → (Ev LM (d + 1) mX11_spelled 31 [some (.ref 0), some (.int x1), none, some (.int x3), some (.int (x4 + 1))] [] M2 Q))))) ∧ (((iin (btA M ((M.1 0 9) + x4)) (97 : Int32) (122 : Int32)) = false) → (Q (some (.int 7)) M))))))) : Ev LM (d + 1) mX11_spelled 31 [some (.ref 0), some (.int x1), none, some (.int x3), some (.int x4)] [] M Q := by
  refine ev_iload dX11_spelled_31 rfl ?_
  refine ev_iload_n dX11_spelled_33 rfl ?_
  refine ev_icmp_ge (tgt := 92) dX11_spelled_34 (by decide) (fun c => ?_) (fun c => ?_)
  · replace h := h.1 c
    refine ev_aload_n dX11_spelled_92 rfl ?_
    refine ev_getA dX11_spelled_93 fl_WithoutEModel_19 lm_0 rfl ?_
    refine ev_iload_n dX11_spelled_96 rfl ?_
    refine ev_iload_n dX11_spelled_97 rfl ?_
    obtain ⟨c, h⟩ := h
    refine ev_iast dX11_spelled_98 lm_4 c ?_
    generalize eM1 : ev_wr M 4 x1.toNatClampNeg x3 = M1
    replace h := h M1 eM1.symm
    refine ev_aload_n dX11_spelled_99 rfl ?_
    obtain ⟨Q2, hc, h⟩ := h
    refine ev_callV [] dX11_spelled_100 ml_WithoutEModel_194 lm_0 rfl rfl (Nat.le_of_ble_eq_true rfl) hc (fun zr zM q => ?_)
    refine Ev.weak (ls := [none, none, none, none, none]) trivial ?_
    exact h zr zM q
  · replace h := h.2 c
    refine ev_aload_n dX11_spelled_37 rfl ?_
    refine ev_aload_n dX11_spelled_38 rfl ?_
    refine ev_getI dX11_spelled_39 fl_WithoutEModel_116 lm_0 rfl ?_
    refine ev_iload dX11_spelled_42 rfl ?_
    refine ev_iadd dX11_spelled_44 ?_
    obtain ⟨p1, h⟩ := h
    refine ev_callV [.int ((M.1 0 9) + x4)] dX11_spelled_45 ml_WithoutEModel_113 lm_0 rfl rfl (Nat.le_of_ble_eq_true rfl) (qX11_byteAt p1) ?_
    rintro zr zM ⟨q1, q2⟩
    rw [q1, q2]
    show Ev LM (d + 1) mX11_spelled 48 [some (.ref 0), some (.int x1), none, some (.int x3), some (.int x4)] [(.int (btA M ((M.1 0 9) + x4)))] M Q
    refine ev_bipush (v := 97) dX11_spelled_48 (by decide) ?_
    refine ev_bipush (v := 122) dX11_spelled_50 (by decide) ?_
    refine ev_callS [.int (btA M ((M.1 0 9) + x4)), .int 97, .int 122] dX11_spelled_52 ml_WithoutEModel_80 rfl (Nat.le_of_ble_eq_true rfl) (kX11_isIn) ?_
    rintro zr zM ⟨q1, q2⟩
    rw [q1, q2]
    show Ev LM (d + 1) mX11_spelled 55 [some (.ref 0), some (.int x1), none, some (.int x3), some (.int x4)] [(.int (bi (iin (btA M ((M.1 0 9) + x4)) (97 : Int32) (122 : Int32))))] M Q
    refine ev_if_ne (tgt := 61) dX11_spelled_55 (by decide) (fun c => ?_) (fun c => ?_)
    · replace h := h.1 ((bi_n0 _).mp c)
      refine ev_aload_n dX11_spelled_61 rfl ?_
      refine ev_getA dX11_spelled_62 fl_WithoutEModel_19 lm_0 rfl ?_
      refine ev_iload_n dX11_spelled_65 rfl ?_
      refine ev_iconst (v := 1) dX11_spelled_66 (by decide) ?_
      refine ev_iadd dX11_spelled_67 ?_
      refine ev_iload dX11_spelled_68 rfl ?_
      refine ev_iadd dX11_spelled_70 ?_
      refine ev_aload_n dX11_spelled_71 rfl ?_
      refine ev_aload_n dX11_spelled_72 rfl ?_
      refine ev_getI dX11_spelled_73 fl_WithoutEModel_116 lm_0 rfl ?_
      refine ev_iload dX11_spelled_76 rfl ?_
      refine ev_iadd dX11_spelled_78 ?_
      obtain ⟨p1, h⟩ := h
      refine ev_callV [.int ((M.1 0 9) + x4)] dX11_spelled_79 ml_WithoutEModel_113 lm_0 rfl rfl (Nat.le_of_ble_eq_true rfl) (qX11_byteAt p1) ?_
      rintro zr zM ⟨q1, q2⟩
      rw [q1, q2]
      show Ev LM (d + 1) mX11_spelled 82 [some (.ref 0), some (.int x1), none, some (.int x3), some (.int x4)] [(.int (btA M ((M.1 0 9) + x4))), (.int ((x1 + 1) + x4)), (.ref 4)] M Q
      refine ev_bipush (v := 97) dX11_spelled_82 (by decide) ?_
      refine ev_isub dX11_spelled_84 ?_
      obtain ⟨c, h⟩ := h
      refine ev_iast dX11_spelled_85 lm_4 c ?_
      generalize eM2 : ev_wr M 4 ((x1 + 1) + x4).toNatClampNeg ((btA M ((M.1 0 9) + x4)) - 97) = M2
      replace h := h M2 eM2.symm
      refine ev_iinc (v := x4 + 1) (ls2 := [some (.ref 0), some (.int x1), none, some (.int x3), some (.int (x4 + 1))]) dX11_spelled_86 rfl rfl rfl ?_
      refine ev_goto (tgt := 31) dX11_spelled_89 (by decide) ?_
      exact h
    · replace h := h.2 ((bi_0 _).mp c)
      refine ev_bipush (v := 7) dX11_spelled_58 (by decide) ?_
      exact ev_iret dX11_spelled_60 rfl h
theorem gX11_spelled_103 {d : Nat} {M : ev_Mem} {Q : Option Value → ev_Mem → Prop} (h : (Q (some (.int 0)) M)) : Ev LM d mX11_spelled 103 [none, none, none, none, none] [] M Q := by
  refine ev_iconst (v := 0) dX11_spelled_103 (by decide) ?_
  exact ev_iret dX11_spelled_104 rfl h
theorem dX11_wordClause_0 : decode cX11_wordClause 0 = .ok (.aload_n 0, 1) := by decide +kernel
theorem dX11_wordClause_1 : decode cX11_wordClause 1 = .ok (.iload_n 1, 1) := by decide +kernel
theorem dX11_wordClause_2 : decode cX11_wordClause 2 = .ok (.iconst 4, 1) := by decide +kernel
theorem dX11_wordClause_3 : decode cX11_wordClause 3 = .ok (.iadd, 1) := by decide +kernel
theorem dX11_wordClause_4 : decode cX11_wordClause 4 = .ok (.bipush 9, 2) := by decide +kernel
theorem dX11_wordClause_6 : decode cX11_wordClause 6 = .ok (.invokevirtual 246, 3) := by decide +kernel
theorem dX11_wordClause_9 : decode cX11_wordClause 9 = .ok (.istore_n 2, 1) := by decide +kernel
theorem dX11_wordClause_10 : decode cX11_wordClause 10 = .ok (.iload_n 2, 1) := by decide +kernel
theorem dX11_wordClause_11 : decode cX11_wordClause 11 = .ok (.ifCond .ne 25, 3) := by decide +kernel
theorem dX11_wordClause_14 : decode cX11_wordClause 14 = .ok (.aload_n 0, 1) := by decide +kernel
theorem dX11_wordClause_15 : decode cX11_wordClause 15 = .ok (.bipush 107, 2) := by decide +kernel
theorem dX11_wordClause_17 : decode cX11_wordClause 17 = .ok (.bipush 105, 2) := by decide +kernel
theorem dX11_wordClause_19 : decode cX11_wordClause 19 = .ok (.bipush 110, 2) := by decide +kernel
theorem dX11_wordClause_21 : decode cX11_wordClause 21 = .ok (.bipush 100, 2) := by decide +kernel
theorem dX11_wordClause_23 : decode cX11_wordClause 23 = .ok (.invokestatic 149, 3) := by decide +kernel
theorem dX11_wordClause_26 : decode cX11_wordClause 26 = .ok (.iload_n 1, 1) := by decide +kernel
theorem dX11_wordClause_27 : decode cX11_wordClause 27 = .ok (.iconst 1, 1) := by decide +kernel
theorem dX11_wordClause_28 : decode cX11_wordClause 28 = .ok (.iadd, 1) := by decide +kernel
theorem dX11_wordClause_29 : decode cX11_wordClause 29 = .ok (.iconst 0, 1) := by decide +kernel
theorem dX11_wordClause_30 : decode cX11_wordClause 30 = .ok (.bipush 6, 2) := by decide +kernel
theorem dX11_wordClause_32 : decode cX11_wordClause 32 = .ok (.invokevirtual 249, 3) := by decide +kernel
theorem dX11_wordClause_35 : decode cX11_wordClause 35 = .ok (.istore_n 2, 1) := by decide +kernel
theorem dX11_wordClause_36 : decode cX11_wordClause 36 = .ok (.iload_n 2, 1) := by decide +kernel
theorem dX11_wordClause_37 : decode cX11_wordClause 37 = .ok (.ifCond .ne 27, 3) := by decide +kernel
theorem dX11_wordClause_40 : decode cX11_wordClause 40 = .ok (.aload_n 0, 1) := by decide +kernel
theorem dX11_wordClause_41 : decode cX11_wordClause 41 = .ok (.bipush 115, 2) := by decide +kernel
theorem dX11_wordClause_43 : decode cX11_wordClause 43 = .ok (.bipush 101, 2) := by decide +kernel
theorem dX11_wordClause_45 : decode cX11_wordClause 45 = .ok (.bipush 110, 2) := by decide +kernel
theorem dX11_wordClause_47 : decode cX11_wordClause 47 = .ok (.bipush 115, 2) := by decide +kernel
theorem dX11_wordClause_49 : decode cX11_wordClause 49 = .ok (.bipush 101, 2) := by decide +kernel
theorem dX11_wordClause_51 : decode cX11_wordClause 51 = .ok (.invokestatic 153, 3) := by decide +kernel
theorem dX11_wordClause_54 : decode cX11_wordClause 54 = .ok (.iload_n 1, 1) := by decide +kernel
theorem dX11_wordClause_55 : decode cX11_wordClause 55 = .ok (.iconst 2, 1) := by decide +kernel
theorem dX11_wordClause_56 : decode cX11_wordClause 56 = .ok (.iadd, 1) := by decide +kernel
theorem dX11_wordClause_57 : decode cX11_wordClause 57 = .ok (.iconst 0, 1) := by decide +kernel
theorem dX11_wordClause_58 : decode cX11_wordClause 58 = .ok (.bipush 11, 2) := by decide +kernel
theorem dX11_wordClause_60 : decode cX11_wordClause 60 = .ok (.invokevirtual 249, 3) := by decide +kernel
theorem dX11_wordClause_63 : decode cX11_wordClause 63 = .ok (.istore_n 2, 1) := by decide +kernel
theorem dX11_wordClause_64 : decode cX11_wordClause 64 = .ok (.iload_n 2, 1) := by decide +kernel
theorem dX11_wordClause_65 : decode cX11_wordClause 65 = .ok (.ifCond .eq 7, 3) := by decide +kernel
theorem dX11_wordClause_68 : decode cX11_wordClause 68 = .ok (.iload_n 2, 1) := by decide +kernel
theorem dX11_wordClause_69 : decode cX11_wordClause 69 = .ok (.goto 26, 3) := by decide +kernel
theorem dX11_wordClause_72 : decode cX11_wordClause 72 = .ok (.aload_n 0, 1) := by decide +kernel
theorem dX11_wordClause_73 : decode cX11_wordClause 73 = .ok (.bipush 115, 2) := by decide +kernel
theorem dX11_wordClause_75 : decode cX11_wordClause 75 = .ok (.bipush 116, 2) := by decide +kernel
theorem dX11_wordClause_77 : decode cX11_wordClause 77 = .ok (.bipush 105, 2) := by decide +kernel
theorem dX11_wordClause_79 : decode cX11_wordClause 79 = .ok (.bipush 102, 2) := by decide +kernel
theorem dX11_wordClause_81 : decode cX11_wordClause 81 = .ok (.bipush 102, 2) := by decide +kernel
theorem dX11_wordClause_83 : decode cX11_wordClause 83 = .ok (.invokestatic 153, 3) := by decide +kernel
theorem dX11_wordClause_86 : decode cX11_wordClause 86 = .ok (.iload_n 1, 1) := by decide +kernel
theorem dX11_wordClause_87 : decode cX11_wordClause 87 = .ok (.iconst 3, 1) := by decide +kernel
theorem dX11_wordClause_88 : decode cX11_wordClause 88 = .ok (.iadd, 1) := by decide +kernel
theorem dX11_wordClause_89 : decode cX11_wordClause 89 = .ok (.iconst 0, 1) := by decide +kernel
theorem dX11_wordClause_90 : decode cX11_wordClause 90 = .ok (.bipush 9, 2) := by decide +kernel
theorem dX11_wordClause_92 : decode cX11_wordClause 92 = .ok (.invokevirtual 249, 3) := by decide +kernel
theorem dX11_wordClause_95 : decode cX11_wordClause 95 = .ok (.ireturn, 1) := by decide +kernel
theorem gX11_wordClause_0 {d : Nat} {M : ev_Mem} {Q : Option Value → ev_Mem → Prop} {x1 : Int32} (h : (∃ Q2 : Option Value → ev_Mem → Prop, Cl LM d mX11_spelled [.ref 0, .int (x1 + 4), .int 9] M Q2 ∧ ∀ (zr : Option Value) (zM : ev_Mem), Q2 zr zM → Ev LM (d + 1) mX11_wordClause 9 [some (.ref 0), some (.int x1), none] (zr.toList ++ []) zM Q)) : Ev LM (d + 1) mX11_wordClause 0 [some (.ref 0), some (.int x1), none] [] M Q := by
  refine ev_aload_n dX11_wordClause_0 rfl ?_
  refine ev_iload_n dX11_wordClause_1 rfl ?_
  refine ev_iconst (v := 4) dX11_wordClause_2 (by decide) ?_
  refine ev_iadd dX11_wordClause_3 ?_
  refine ev_bipush (v := 9) dX11_wordClause_4 (by decide) ?_
  obtain ⟨Q2, hc, h⟩ := h
  refine ev_callV [.int (x1 + 4), .int 9] dX11_wordClause_6 ml_WithoutEModel_246 lm_0 rfl rfl (Nat.le_of_ble_eq_true rfl) hc (fun zr zM q => ?_)
  exact h zr zM q
theorem gX11_wordClause_9 {d : Nat} {M : ev_Mem} {Q : Option Value → ev_Mem → Prop} {x1 s0 : Int32} (h : (((¬ s0 = 0) → (((¬ s0 = 0) → (((s0 = 0) → (∃ Q2 : Option Value → ev_Mem → Prop, Cl LM (d + 3) mX11_worded [.ref 0, .long (w5f (115 : Int32) (116 : Int32) (105 : Int32) (102 : Int32) (102 : Int32)), .int (x1 + 3), .int 0, .int 9] M Q2 ∧ ∀ (zr : Option Value) (zM : ev_Mem), Q2 zr zM → Ev LM (d + 4) mX11_wordClause 95 [none, none, none] (zr.toList ++ []) zM Q)) ∧ ((¬ s0 = 0) → (Ev LM (d + 4) mX11_wordClause 95 [none, none, none] [(.int s0)] M Q)))) ∧ ((s0 = 0) → (∃ Q2 : Option Value → ev_Mem → Prop, Cl LM (d + 3) mX11_worded [.ref 0, .long (w5f (115 : Int32) (101 : Int32) (110 : Int32) (115 : Int32) (101 : Int32)), .int (x1 + 2), .int 0, .int 11] M Q2 ∧ ∀ (zr : Option Value) (zM : ev_Mem), Q2 zr zM → Ev LM (d + 4) mX11_wordClause 63 [some (.ref 0), some (.int x1), none] (zr.toList ++ []) zM Q)))) ∧ ((s0 = 0) → (∃ Q2 : Option Value → ev_Mem → Prop, Cl LM (d + 3) mX11_worded [.ref 0, .long (w4f (107 : Int32) (105 : Int32) (110 : Int32) (100 : Int32)), .int (x1 + 1), .int 0, .int 6] M Q2 ∧ ∀ (zr : Option Value) (zM : ev_Mem), Q2 zr zM → Ev LM (d + 4) mX11_wordClause 35 [some (.ref 0), some (.int x1), none] (zr.toList ++ []) zM Q)))) : Ev LM (d + 4) mX11_wordClause 9 [some (.ref 0), some (.int x1), none] [(.int s0)] M Q := by
  refine ev_istore_n (ls2 := [some (.ref 0), some (.int x1), some (.int s0)]) dX11_wordClause_9 (Nat.le_of_ble_eq_true rfl) rfl ?_
  refine ev_iload_n dX11_wordClause_10 rfl ?_
  refine ev_if_ne (tgt := 36) dX11_wordClause_11 (by decide) (fun c => ?_) (fun c => ?_)
  · replace h := h.1 c
    refine ev_iload_n dX11_wordClause_36 rfl ?_
    refine ev_if_ne (tgt := 64) dX11_wordClause_37 (by decide) (fun c => ?_) (fun c => ?_)
    · replace h := h.1 c
      refine ev_iload_n dX11_wordClause_64 rfl ?_
      refine ev_if_eq (tgt := 72) dX11_wordClause_65 (by decide) (fun c => ?_) (fun c => ?_)
      · replace h := h.1 c
        refine ev_aload_n dX11_wordClause_72 rfl ?_
        refine ev_bipush (v := 115) dX11_wordClause_73 (by decide) ?_
        refine ev_bipush (v := 116) dX11_wordClause_75 (by decide) ?_
        refine ev_bipush (v := 105) dX11_wordClause_77 (by decide) ?_
        refine ev_bipush (v := 102) dX11_wordClause_79 (by decide) ?_
        refine ev_bipush (v := 102) dX11_wordClause_81 (by decide) ?_
        refine ev_callS [.int 115, .int 116, .int 105, .int 102, .int 102] dX11_wordClause_83 ml_WithoutEModel_153 rfl (Nat.le_of_ble_eq_true rfl) (kX11_w5) ?_
        rintro zr zM ⟨q1, q2⟩
        rw [q1, q2]
        show Ev LM (d + 4) mX11_wordClause 86 [some (.ref 0), some (.int x1), some (.int s0)] [(.long (w5f (115 : Int32) (116 : Int32) (105 : Int32) (102 : Int32) (102 : Int32))), (.ref 0)] M Q
        refine ev_iload_n dX11_wordClause_86 rfl ?_
        refine ev_iconst (v := 3) dX11_wordClause_87 (by decide) ?_
        refine ev_iadd dX11_wordClause_88 ?_
        refine ev_iconst (v := 0) dX11_wordClause_89 (by decide) ?_
        refine ev_bipush (v := 9) dX11_wordClause_90 (by decide) ?_
        obtain ⟨Q2, hc, h⟩ := h
        refine ev_callV [.long (w5f (115 : Int32) (116 : Int32) (105 : Int32) (102 : Int32) (102 : Int32)), .int (x1 + 3), .int 0, .int 9] dX11_wordClause_92 ml_WithoutEModel_249 lm_0 rfl rfl (Nat.le_of_ble_eq_true rfl) hc (fun zr zM q => ?_)
        refine Ev.weak (ls := [none, none, none]) trivial ?_
        exact h zr zM q
      · replace h := h.2 c
        refine ev_iload_n dX11_wordClause_68 rfl ?_
        refine ev_goto (tgt := 95) dX11_wordClause_69 (by decide) ?_
        refine Ev.weak (ls := [none, none, none]) trivial ?_
        exact h
    · replace h := h.2 c
      refine ev_aload_n dX11_wordClause_40 rfl ?_
      refine ev_bipush (v := 115) dX11_wordClause_41 (by decide) ?_
      refine ev_bipush (v := 101) dX11_wordClause_43 (by decide) ?_
      refine ev_bipush (v := 110) dX11_wordClause_45 (by decide) ?_
      refine ev_bipush (v := 115) dX11_wordClause_47 (by decide) ?_
      refine ev_bipush (v := 101) dX11_wordClause_49 (by decide) ?_
      refine ev_callS [.int 115, .int 101, .int 110, .int 115, .int 101] dX11_wordClause_51 ml_WithoutEModel_153 rfl (Nat.le_of_ble_eq_true rfl) (kX11_w5) ?_
      rintro zr zM ⟨q1, q2⟩
      rw [q1, q2]
      show Ev LM (d + 4) mX11_wordClause 54 [some (.ref 0), some (.int x1), some (.int s0)] [(.long (w5f (115 : Int32) (101 : Int32) (110 : Int32) (115 : Int32) (101 : Int32))), (.ref 0)] M Q
      refine ev_iload_n dX11_wordClause_54 rfl ?_
      refine ev_iconst (v := 2) dX11_wordClause_55 (by decide) ?_
      refine ev_iadd dX11_wordClause_56 ?_
      refine ev_iconst (v := 0) dX11_wordClause_57 (by decide) ?_
      refine ev_bipush (v := 11) dX11_wordClause_58 (by decide) ?_
      obtain ⟨Q2, hc, h⟩ := h
      refine ev_callV [.long (w5f (115 : Int32) (101 : Int32) (110 : Int32) (115 : Int32) (101 : Int32)), .int (x1 + 2), .int 0, .int 11] dX11_wordClause_60 ml_WithoutEModel_249 lm_0 rfl rfl (Nat.le_of_ble_eq_true rfl) hc (fun zr zM q => ?_)
      refine Ev.weak (ls := [some (.ref 0), some (.int x1), none]) ⟨rfl, rfl, trivial⟩ ?_
      exact h zr zM q
  · replace h := h.2 c
    refine ev_aload_n dX11_wordClause_14 rfl ?_
    refine ev_bipush (v := 107) dX11_wordClause_15 (by decide) ?_
    refine ev_bipush (v := 105) dX11_wordClause_17 (by decide) ?_
    refine ev_bipush (v := 110) dX11_wordClause_19 (by decide) ?_
    refine ev_bipush (v := 100) dX11_wordClause_21 (by decide) ?_
    refine ev_callS [.int 107, .int 105, .int 110, .int 100] dX11_wordClause_23 ml_WithoutEModel_149 rfl (Nat.le_of_ble_eq_true rfl) (kX11_w4) ?_
    rintro zr zM ⟨q1, q2⟩
    rw [q1, q2]
    show Ev LM (d + 4) mX11_wordClause 26 [some (.ref 0), some (.int x1), some (.int s0)] [(.long (w4f (107 : Int32) (105 : Int32) (110 : Int32) (100 : Int32))), (.ref 0)] M Q
    refine ev_iload_n dX11_wordClause_26 rfl ?_
    refine ev_iconst (v := 1) dX11_wordClause_27 (by decide) ?_
    refine ev_iadd dX11_wordClause_28 ?_
    refine ev_iconst (v := 0) dX11_wordClause_29 (by decide) ?_
    refine ev_bipush (v := 6) dX11_wordClause_30 (by decide) ?_
    obtain ⟨Q2, hc, h⟩ := h
    refine ev_callV [.long (w4f (107 : Int32) (105 : Int32) (110 : Int32) (100 : Int32)), .int (x1 + 1), .int 0, .int 6] dX11_wordClause_32 ml_WithoutEModel_249 lm_0 rfl rfl (Nat.le_of_ble_eq_true rfl) hc (fun zr zM q => ?_)
    refine Ev.weak (ls := [some (.ref 0), some (.int x1), none]) ⟨rfl, rfl, trivial⟩ ?_
    exact h zr zM q
theorem gX11_wordClause_95 {d : Nat} {M : ev_Mem} {Q : Option Value → ev_Mem → Prop} {s0 : Int32} (h : (Q (some (.int s0)) M)) : Ev LM d mX11_wordClause 95 [none, none, none] [(.int s0)] M Q := by
  exact ev_iret dX11_wordClause_95 rfl h
theorem gX11_wordClause_63 {d : Nat} {M : ev_Mem} {Q : Option Value → ev_Mem → Prop} {x1 s0 : Int32} (h : (((s0 = 0) → (∃ Q2 : Option Value → ev_Mem → Prop, Cl LM (d + 3) mX11_worded [.ref 0, .long (w5f (115 : Int32) (116 : Int32) (105 : Int32) (102 : Int32) (102 : Int32)), .int (x1 + 3), .int 0, .int 9] M Q2 ∧ ∀ (zr : Option Value) (zM : ev_Mem), Q2 zr zM → Ev LM (d + 4) mX11_wordClause 95 [none, none, none] (zr.toList ++ []) zM Q)) ∧ ((¬ s0 = 0) → (Ev LM (d + 4) mX11_wordClause 95 [none, none, none] [(.int s0)] M Q)))) : Ev LM (d + 4) mX11_wordClause 63 [some (.ref 0), some (.int x1), none] [(.int s0)] M Q := by
  refine ev_istore_n (ls2 := [some (.ref 0), some (.int x1), some (.int s0)]) dX11_wordClause_63 (Nat.le_of_ble_eq_true rfl) rfl ?_
  refine ev_iload_n dX11_wordClause_64 rfl ?_
  refine ev_if_eq (tgt := 72) dX11_wordClause_65 (by decide) (fun c => ?_) (fun c => ?_)
  · replace h := h.1 c
    refine ev_aload_n dX11_wordClause_72 rfl ?_
    refine ev_bipush (v := 115) dX11_wordClause_73 (by decide) ?_
    refine ev_bipush (v := 116) dX11_wordClause_75 (by decide) ?_
    refine ev_bipush (v := 105) dX11_wordClause_77 (by decide) ?_
    refine ev_bipush (v := 102) dX11_wordClause_79 (by decide) ?_
    refine ev_bipush (v := 102) dX11_wordClause_81 (by decide) ?_
    refine ev_callS [.int 115, .int 116, .int 105, .int 102, .int 102] dX11_wordClause_83 ml_WithoutEModel_153 rfl (Nat.le_of_ble_eq_true rfl) (kX11_w5) ?_
    rintro zr zM ⟨q1, q2⟩
    rw [q1, q2]
    show Ev LM (d + 4) mX11_wordClause 86 [some (.ref 0), some (.int x1), some (.int s0)] [(.long (w5f (115 : Int32) (116 : Int32) (105 : Int32) (102 : Int32) (102 : Int32))), (.ref 0)] M Q
    refine ev_iload_n dX11_wordClause_86 rfl ?_
    refine ev_iconst (v := 3) dX11_wordClause_87 (by decide) ?_
    refine ev_iadd dX11_wordClause_88 ?_
    refine ev_iconst (v := 0) dX11_wordClause_89 (by decide) ?_
    refine ev_bipush (v := 9) dX11_wordClause_90 (by decide) ?_
    obtain ⟨Q2, hc, h⟩ := h
    refine ev_callV [.long (w5f (115 : Int32) (116 : Int32) (105 : Int32) (102 : Int32) (102 : Int32)), .int (x1 + 3), .int 0, .int 9] dX11_wordClause_92 ml_WithoutEModel_249 lm_0 rfl rfl (Nat.le_of_ble_eq_true rfl) hc (fun zr zM q => ?_)
    refine Ev.weak (ls := [none, none, none]) trivial ?_
    exact h zr zM q
  · replace h := h.2 c
    refine ev_iload_n dX11_wordClause_68 rfl ?_
    refine ev_goto (tgt := 95) dX11_wordClause_69 (by decide) ?_
    refine Ev.weak (ls := [none, none, none]) trivial ?_
    exact h
theorem gX11_wordClause_35 {d : Nat} {M : ev_Mem} {Q : Option Value → ev_Mem → Prop} {x1 s0 : Int32} (h : (((¬ s0 = 0) → (((s0 = 0) → (∃ Q2 : Option Value → ev_Mem → Prop, Cl LM (d + 3) mX11_worded [.ref 0, .long (w5f (115 : Int32) (116 : Int32) (105 : Int32) (102 : Int32) (102 : Int32)), .int (x1 + 3), .int 0, .int 9] M Q2 ∧ ∀ (zr : Option Value) (zM : ev_Mem), Q2 zr zM → Ev LM (d + 4) mX11_wordClause 95 [none, none, none] (zr.toList ++ []) zM Q)) ∧ ((¬ s0 = 0) → (Ev LM (d + 4) mX11_wordClause 95 [none, none, none] [(.int s0)] M Q)))) ∧ ((s0 = 0) → (∃ Q2 : Option Value → ev_Mem → Prop, Cl LM (d + 3) mX11_worded [.ref 0, .long (w5f (115 : Int32) (101 : Int32) (110 : Int32) (115 : Int32) (101 : Int32)), .int (x1 + 2), .int 0, .int 11] M Q2 ∧ ∀ (zr : Option Value) (zM : ev_Mem), Q2 zr zM → Ev LM (d + 4) mX11_wordClause 63 [some (.ref 0), some (.int x1), none] (zr.toList ++ []) zM Q)))) : Ev LM (d + 4) mX11_wordClause 35 [some (.ref 0), some (.int x1), none] [(.int s0)] M Q := by
  refine ev_istore_n (ls2 := [some (.ref 0), some (.int x1), some (.int s0)]) dX11_wordClause_35 (Nat.le_of_ble_eq_true rfl) rfl ?_
  refine ev_iload_n dX11_wordClause_36 rfl ?_
  refine ev_if_ne (tgt := 64) dX11_wordClause_37 (by decide) (fun c => ?_) (fun c => ?_)
  · replace h := h.1 c
    refine ev_iload_n dX11_wordClause_64 rfl ?_
    refine ev_if_eq (tgt := 72) dX11_wordClause_65 (by decide) (fun c => ?_) (fun c => ?_)
    · replace h := h.1 c
      refine ev_aload_n dX11_wordClause_72 rfl ?_
      refine ev_bipush (v := 115) dX11_wordClause_73 (by decide) ?_
      refine ev_bipush (v := 116) dX11_wordClause_75 (by decide) ?_
      refine ev_bipush (v := 105) dX11_wordClause_77 (by decide) ?_
      refine ev_bipush (v := 102) dX11_wordClause_79 (by decide) ?_
      refine ev_bipush (v := 102) dX11_wordClause_81 (by decide) ?_
      refine ev_callS [.int 115, .int 116, .int 105, .int 102, .int 102] dX11_wordClause_83 ml_WithoutEModel_153 rfl (Nat.le_of_ble_eq_true rfl) (kX11_w5) ?_
      rintro zr zM ⟨q1, q2⟩
      rw [q1, q2]
      show Ev LM (d + 4) mX11_wordClause 86 [some (.ref 0), some (.int x1), some (.int s0)] [(.long (w5f (115 : Int32) (116 : Int32) (105 : Int32) (102 : Int32) (102 : Int32))), (.ref 0)] M Q
      refine ev_iload_n dX11_wordClause_86 rfl ?_
      refine ev_iconst (v := 3) dX11_wordClause_87 (by decide) ?_
      refine ev_iadd dX11_wordClause_88 ?_
      refine ev_iconst (v := 0) dX11_wordClause_89 (by decide) ?_
      refine ev_bipush (v := 9) dX11_wordClause_90 (by decide) ?_
      obtain ⟨Q2, hc, h⟩ := h
      refine ev_callV [.long (w5f (115 : Int32) (116 : Int32) (105 : Int32) (102 : Int32) (102 : Int32)), .int (x1 + 3), .int 0, .int 9] dX11_wordClause_92 ml_WithoutEModel_249 lm_0 rfl rfl (Nat.le_of_ble_eq_true rfl) hc (fun zr zM q => ?_)
      refine Ev.weak (ls := [none, none, none]) trivial ?_
      exact h zr zM q
    · replace h := h.2 c
      refine ev_iload_n dX11_wordClause_68 rfl ?_
      refine ev_goto (tgt := 95) dX11_wordClause_69 (by decide) ?_
      refine Ev.weak (ls := [none, none, none]) trivial ?_
      exact h
  · replace h := h.2 c
    refine ev_aload_n dX11_wordClause_40 rfl ?_
    refine ev_bipush (v := 115) dX11_wordClause_41 (by decide) ?_
    refine ev_bipush (v := 101) dX11_wordClause_43 (by decide) ?_
    refine ev_bipush (v := 110) dX11_wordClause_45 (by decide) ?_
    refine ev_bipush (v := 115) dX11_wordClause_47 (by decide) ?_
    refine ev_bipush (v := 101) dX11_wordClause_49 (by decide) ?_
    refine ev_callS [.int 115, .int 101, .int 110, .int 115, .int 101] dX11_wordClause_51 ml_WithoutEModel_153 rfl (Nat.le_of_ble_eq_true rfl) (kX11_w5) ?_
    rintro zr zM ⟨q1, q2⟩
    rw [q1, q2]
    show Ev LM (d + 4) mX11_wordClause 54 [some (.ref 0), some (.int x1), some (.int s0)] [(.long (w5f (115 : Int32) (101 : Int32) (110 : Int32) (115 : Int32) (101 : Int32))), (.ref 0)] M Q
    refine ev_iload_n dX11_wordClause_54 rfl ?_
    refine ev_iconst (v := 2) dX11_wordClause_55 (by decide) ?_
    refine ev_iadd dX11_wordClause_56 ?_
    refine ev_iconst (v := 0) dX11_wordClause_57 (by decide) ?_
    refine ev_bipush (v := 11) dX11_wordClause_58 (by decide) ?_
    obtain ⟨Q2, hc, h⟩ := h
    refine ev_callV [.long (w5f (115 : Int32) (101 : Int32) (110 : Int32) (115 : Int32) (101 : Int32)), .int (x1 + 2), .int 0, .int 11] dX11_wordClause_60 ml_WithoutEModel_249 lm_0 rfl rfl (Nat.le_of_ble_eq_true rfl) hc (fun zr zM q => ?_)
    refine Ev.weak (ls := [some (.ref 0), some (.int x1), none]) ⟨rfl, rfl, trivial⟩ ?_
    exact h zr zM q
theorem dX11_sayClause_0 : decode cX11_sayClause 0 = .ok (.aload_n 0, 1) := by decide +kernel
theorem dX11_sayClause_1 : decode cX11_sayClause 1 = .ok (.iload_n 1, 1) := by decide +kernel
theorem dX11_sayClause_2 : decode cX11_sayClause 2 = .ok (.iconst 2, 1) := by decide +kernel
theorem dX11_sayClause_3 : decode cX11_sayClause 3 = .ok (.iadd, 1) := by decide +kernel
theorem dX11_sayClause_4 : decode cX11_sayClause 4 = .ok (.iconst 0, 1) := by decide +kernel
theorem dX11_sayClause_5 : decode cX11_sayClause 5 = .ok (.bipush 11, 2) := by decide +kernel
theorem dX11_sayClause_7 : decode cX11_sayClause 7 = .ok (.invokevirtual 239, 3) := by decide +kernel
theorem dX11_sayClause_10 : decode cX11_sayClause 10 = .ok (.istore_n 2, 1) := by decide +kernel
theorem dX11_sayClause_11 : decode cX11_sayClause 11 = .ok (.iconst 1, 1) := by decide +kernel
theorem dX11_sayClause_12 : decode cX11_sayClause 12 = .ok (.istore_n 3, 1) := by decide +kernel
theorem dX11_sayClause_13 : decode cX11_sayClause 13 = .ok (.iload_n 2, 1) := by decide +kernel
theorem dX11_sayClause_14 : decode cX11_sayClause 14 = .ok (.ifCond .ne 43, 3) := by decide +kernel
theorem dX11_sayClause_17 : decode cX11_sayClause 17 = .ok (.aload_n 0, 1) := by decide +kernel
theorem dX11_sayClause_18 : decode cX11_sayClause 18 = .ok (.getfield 119, 3) := by decide +kernel
theorem dX11_sayClause_21 : decode cX11_sayClause 21 = .ok (.bipush 44, 2) := by decide +kernel
theorem dX11_sayClause_23 : decode cX11_sayClause 23 = .ok (.if_icmp .ne 34, 3) := by decide +kernel
theorem dX11_sayClause_26 : decode cX11_sayClause 26 = .ok (.iload_n 3, 1) := by decide +kernel
theorem dX11_sayClause_27 : decode cX11_sayClause 27 = .ok (.iconst 5, 1) := by decide +kernel
theorem dX11_sayClause_28 : decode cX11_sayClause 28 = .ok (.if_icmp .ne 6, 3) := by decide +kernel
theorem dX11_sayClause_31 : decode cX11_sayClause 31 = .ok (.bipush 8, 2) := by decide +kernel
theorem dX11_sayClause_33 : decode cX11_sayClause 33 = .ok (.ireturn, 1) := by decide +kernel
theorem dX11_sayClause_34 : decode cX11_sayClause 34 = .ok (.aload_n 0, 1) := by decide +kernel
theorem dX11_sayClause_35 : decode cX11_sayClause 35 = .ok (.invokevirtual 194, 3) := by decide +kernel
theorem dX11_sayClause_38 : decode cX11_sayClause 38 = .ok (.aload_n 0, 1) := by decide +kernel
theorem dX11_sayClause_39 : decode cX11_sayClause 39 = .ok (.iload_n 1, 1) := by decide +kernel
theorem dX11_sayClause_40 : decode cX11_sayClause 40 = .ok (.iconst 2, 1) := by decide +kernel
theorem dX11_sayClause_41 : decode cX11_sayClause 41 = .ok (.iadd, 1) := by decide +kernel
theorem dX11_sayClause_42 : decode cX11_sayClause 42 = .ok (.iload_n 3, 1) := by decide +kernel
theorem dX11_sayClause_43 : decode cX11_sayClause 43 = .ok (.iadd, 1) := by decide +kernel
theorem dX11_sayClause_44 : decode cX11_sayClause 44 = .ok (.iconst 0, 1) := by decide +kernel
theorem dX11_sayClause_45 : decode cX11_sayClause 45 = .ok (.bipush 11, 2) := by decide +kernel
theorem dX11_sayClause_47 : decode cX11_sayClause 47 = .ok (.invokevirtual 239, 3) := by decide +kernel
theorem dX11_sayClause_50 : decode cX11_sayClause 50 = .ok (.istore_n 2, 1) := by decide +kernel
theorem dX11_sayClause_51 : decode cX11_sayClause 51 = .ok (.iinc 3 1, 3) := by decide +kernel
theorem dX11_sayClause_54 : decode cX11_sayClause 54 = .ok (.goto (-41), 3) := by decide +kernel
theorem dX11_sayClause_57 : decode cX11_sayClause 57 = .ok (.aload_n 0, 1) := by decide +kernel
theorem dX11_sayClause_58 : decode cX11_sayClause 58 = .ok (.getfield 19, 3) := by decide +kernel
theorem dX11_sayClause_61 : decode cX11_sayClause 61 = .ok (.iload_n 1, 1) := by decide +kernel
theorem dX11_sayClause_62 : decode cX11_sayClause 62 = .ok (.iconst 1, 1) := by decide +kernel
theorem dX11_sayClause_63 : decode cX11_sayClause 63 = .ok (.iadd, 1) := by decide +kernel
theorem dX11_sayClause_64 : decode cX11_sayClause 64 = .ok (.iload_n 3, 1) := by decide +kernel
theorem dX11_sayClause_65 : decode cX11_sayClause 65 = .ok (.iastore, 1) := by decide +kernel
theorem dX11_sayClause_66 : decode cX11_sayClause 66 = .ok (.iload_n 2, 1) := by decide +kernel
theorem dX11_sayClause_67 : decode cX11_sayClause 67 = .ok (.ireturn, 1) := by decide +kernel
theorem gX11_sayClause_0 {d : Nat} {M : ev_Mem} {Q : Option Value → ev_Mem → Prop} {x1 : Int32} (h : (∃ Q2 : Option Value → ev_Mem → Prop, Cl LM d mX11_figure [.ref 0, .int (x1 + 2), .int 0, .int 11] M Q2 ∧ ∀ (zr : Option Value) (zM : ev_Mem), Q2 zr zM → Ev LM (d + 1) mX11_sayClause 10 [some (.ref 0), some (.int x1), none, none] (zr.toList ++ []) zM Q)) : Ev LM (d + 1) mX11_sayClause 0 [some (.ref 0), some (.int x1), none, none] [] M Q := by
  refine ev_aload_n dX11_sayClause_0 rfl ?_
  refine ev_iload_n dX11_sayClause_1 rfl ?_
  refine ev_iconst (v := 2) dX11_sayClause_2 (by decide) ?_
  refine ev_iadd dX11_sayClause_3 ?_
  refine ev_iconst (v := 0) dX11_sayClause_4 (by decide) ?_
  refine ev_bipush (v := 11) dX11_sayClause_5 (by decide) ?_
  obtain ⟨Q2, hc, h⟩ := h
  refine ev_callV [.int (x1 + 2), .int 0, .int 11] dX11_sayClause_7 ml_WithoutEModel_239 lm_0 rfl rfl (Nat.le_of_ble_eq_true rfl) hc (fun zr zM q => ?_)
  exact h zr zM q
theorem gX11_sayClause_10 {d : Nat} {M : ev_Mem} {Q : Option Value → ev_Mem → Prop} {x1 s0 : Int32} (h : (Ev LM d mX11_sayClause 13 [some (.ref 0), some (.int x1), some (.int s0), some (.int 1)] [] M Q)) : Ev LM d mX11_sayClause 10 [some (.ref 0), some (.int x1), none, none] [(.int s0)] M Q := by
  refine ev_istore_n (ls2 := [some (.ref 0), some (.int x1), some (.int s0), none]) dX11_sayClause_10 (Nat.le_of_ble_eq_true rfl) rfl ?_
  refine ev_iconst (v := 1) dX11_sayClause_11 (by decide) ?_
  refine ev_istore_n (ls2 := [some (.ref 0), some (.int x1), some (.int s0), some (.int 1)]) dX11_sayClause_12 (Nat.le_of_ble_eq_true rfl) rfl ?_
  exact h
theorem gX11_sayClause_13 {d : Nat} {M : ev_Mem} {Q : Option Value → ev_Mem → Prop} {x1 x2 x3 : Int32} (h : (((¬ x2 = 0) → (vp_in (x1 + 1) 3780 ∧ (∀ M1 : ev_Mem, M1 = ev_wr M 4 (x1 + 1).toNatClampNeg x3 → (Q (some (.int x2)) M1)))) ∧ ((x2 = 0) → (((¬ (M.1 0 10) = 44) → (vp_in (x1 + 1) 3780 ∧ (∀ M2 : ev_Mem, M2 = ev_wr M 4 (x1 + 1).toNatClampNeg x3 → (Q (some (.int x2)) M2)))) ∧ (((M.1 0 10) = 44) → (((¬ x3 = 5) → (∃ Q2 : Option Value → ev_Mem → Prop, Cl LM d mX11_nextToken [.ref 0] M Q2 ∧ ∀ (zr : Option Value) (zM : ev_Mem), Q2 zr zM → Ev LM (d + 1) mX11_sayClause 38 [some (.ref 0), some (.int x1), none, some (.int x3)] (zr.toList ++ []) zM Q)) ∧ ((x3 = 5) → (Q (some (.int 8)) M)))))))) : Ev LM (d + 1) mX11_sayClause 13 [some (.ref 0), some (.int x1), some (.int x2), some (.int x3)] [] M Q := by
  refine ev_iload_n dX11_sayClause_13 rfl ?_
  refine ev_if_ne (tgt := 57) dX11_sayClause_14 (by decide) (fun c => ?_) (fun c => ?_)
  · replace h := h.1 c
    refine ev_aload_n dX11_sayClause_57 rfl ?_
    refine ev_getA dX11_sayClause_58 fl_WithoutEModel_19 lm_0 rfl ?_
    refine ev_iload_n dX11_sayClause_61 rfl ?_
    refine ev_iconst (v := 1) dX11_sayClause_62 (by decide) ?_
    refine ev_iadd dX11_sayClause_63 ?_
    refine ev_iload_n dX11_sayClause_64 rfl ?_
    obtain ⟨c, h⟩ := h
    refine ev_iast dX11_sayClause_65 lm_4 c ?_
    generalize eM1 : ev_wr M 4 (x1 + 1).toNatClampNeg x3 = M1
    replace h := h M1 eM1.symm
    refine ev_iload_n dX11_sayClause_66 rfl ?_
    exact ev_iret dX11_sayClause_67 rfl h
  · replace h := h.2 c
    refine ev_aload_n dX11_sayClause_17 rfl ?_
    refine ev_getI dX11_sayClause_18 fl_WithoutEModel_119 lm_0 rfl ?_
    refine ev_bipush (v := 44) dX11_sayClause_21 (by decide) ?_
    refine ev_icmp_ne (tgt := 57) dX11_sayClause_23 (by decide) (fun c => ?_) (fun c => ?_)
    · replace h := h.1 c
      refine ev_aload_n dX11_sayClause_57 rfl ?_
      refine ev_getA dX11_sayClause_58 fl_WithoutEModel_19 lm_0 rfl ?_
      refine ev_iload_n dX11_sayClause_61 rfl ?_
      refine ev_iconst (v := 1) dX11_sayClause_62 (by decide) ?_
      refine ev_iadd dX11_sayClause_63 ?_
      refine ev_iload_n dX11_sayClause_64 rfl ?_
      obtain ⟨c, h⟩ := h
      refine ev_iast dX11_sayClause_65 lm_4 c ?_
      generalize eM2 : ev_wr M 4 (x1 + 1).toNatClampNeg x3 = M2
      replace h := h M2 eM2.symm
      refine ev_iload_n dX11_sayClause_66 rfl ?_
      exact ev_iret dX11_sayClause_67 rfl h
    · replace h := h.2 c
      refine ev_iload_n dX11_sayClause_26 rfl ?_
      refine ev_iconst (v := 5) dX11_sayClause_27 (by decide) ?_
      refine ev_icmp_ne (tgt := 34) dX11_sayClause_28 (by decide) (fun c => ?_) (fun c => ?_)
      · replace h := h.1 c
        refine ev_aload_n dX11_sayClause_34 rfl ?_
        obtain ⟨Q2, hc, h⟩ := h
        refine ev_callV [] dX11_sayClause_35 ml_WithoutEModel_194 lm_0 rfl rfl (Nat.le_of_ble_eq_true rfl) hc (fun zr zM q => ?_)
        refine Ev.weak (ls := [some (.ref 0), some (.int x1), none, some (.int x3)]) ⟨rfl, rfl, rfl, trivial⟩ ?_
        exact h zr zM q
      · replace h := h.2 c
        refine ev_bipush (v := 8) dX11_sayClause_31 (by decide) ?_
        exact ev_iret dX11_sayClause_33 rfl h
theorem gX11_sayClause_38 {d : Nat} {M : ev_Mem} {Q : Option Value → ev_Mem → Prop} {x1 x3 : Int32} (h : (∃ Q2 : Option Value → ev_Mem → Prop, Cl LM d mX11_figure [.ref 0, .int ((x1 + 2) + x3), .int 0, .int 11] M Q2 ∧ ∀ (zr : Option Value) (zM : ev_Mem), Q2 zr zM → Ev LM (d + 1) mX11_sayClause 50 [some (.ref 0), some (.int x1), none, some (.int x3)] (zr.toList ++ []) zM Q)) : Ev LM (d + 1) mX11_sayClause 38 [some (.ref 0), some (.int x1), none, some (.int x3)] [] M Q := by
  refine ev_aload_n dX11_sayClause_38 rfl ?_
  refine ev_iload_n dX11_sayClause_39 rfl ?_
  refine ev_iconst (v := 2) dX11_sayClause_40 (by decide) ?_
  refine ev_iadd dX11_sayClause_41 ?_
  refine ev_iload_n dX11_sayClause_42 rfl ?_
  refine ev_iadd dX11_sayClause_43 ?_
  refine ev_iconst (v := 0) dX11_sayClause_44 (by decide) ?_
  refine ev_bipush (v := 11) dX11_sayClause_45 (by decide) ?_
  obtain ⟨Q2, hc, h⟩ := h
  refine ev_callV [.int ((x1 + 2) + x3), .int 0, .int 11] dX11_sayClause_47 ml_WithoutEModel_239 lm_0 rfl rfl (Nat.le_of_ble_eq_true rfl) hc (fun zr zM q => ?_)
  exact h zr zM q
theorem gX11_sayClause_50 {d : Nat} {M : ev_Mem} {Q : Option Value → ev_Mem → Prop} {x1 x3 s0 : Int32} (h : (Ev LM d mX11_sayClause 13 [some (.ref 0), some (.int x1), some (.int s0), some (.int (x3 + 1))] [] M Q)) : Ev LM d mX11_sayClause 50 [some (.ref 0), some (.int x1), none, some (.int x3)] [(.int s0)] M Q := by
  refine ev_istore_n (ls2 := [some (.ref 0), some (.int x1), some (.int s0), some (.int x3)]) dX11_sayClause_50 (Nat.le_of_ble_eq_true rfl) rfl ?_
  refine ev_iinc (v := x3 + 1) (ls2 := [some (.ref 0), some (.int x1), some (.int s0), some (.int (x3 + 1))]) dX11_sayClause_51 rfl rfl rfl ?_
  refine ev_goto (tgt := 13) dX11_sayClause_54 (by decide) ?_
  exact h
theorem dX11_makeClause_0 : decode cX11_makeClause 0 = .ok (.aload_n 0, 1) := by decide +kernel
theorem dX11_makeClause_1 : decode cX11_makeClause 1 = .ok (.iload_n 1, 1) := by decide +kernel
theorem dX11_makeClause_2 : decode cX11_makeClause 2 = .ok (.iconst 1, 1) := by decide +kernel
theorem dX11_makeClause_3 : decode cX11_makeClause 3 = .ok (.iadd, 1) := by decide +kernel
theorem dX11_makeClause_4 : decode cX11_makeClause 4 = .ok (.iconst 1, 1) := by decide +kernel
theorem dX11_makeClause_5 : decode cX11_makeClause 5 = .ok (.invokevirtual 246, 3) := by decide +kernel
theorem dX11_makeClause_8 : decode cX11_makeClause 8 = .ok (.istore_n 2, 1) := by decide +kernel
theorem dX11_makeClause_9 : decode cX11_makeClause 9 = .ok (.iload_n 2, 1) := by decide +kernel
theorem dX11_makeClause_10 : decode cX11_makeClause 10 = .ok (.ifCond .eq 5, 3) := by decide +kernel
theorem dX11_makeClause_13 : decode cX11_makeClause 13 = .ok (.iload_n 2, 1) := by decide +kernel
theorem dX11_makeClause_14 : decode cX11_makeClause 14 = .ok (.ireturn, 1) := by decide +kernel
theorem dX11_makeClause_15 : decode cX11_makeClause 15 = .ok (.aload_n 0, 1) := by decide +kernel
theorem dX11_makeClause_16 : decode cX11_makeClause 16 = .ok (.bipush 111, 2) := by decide +kernel
theorem dX11_makeClause_18 : decode cX11_makeClause 18 = .ok (.bipush 102, 2) := by decide +kernel
theorem dX11_makeClause_20 : decode cX11_makeClause 20 = .ok (.invokestatic 141, 3) := by decide +kernel
theorem dX11_makeClause_23 : decode cX11_makeClause 23 = .ok (.invokevirtual 213, 3) := by decide +kernel
theorem dX11_makeClause_26 : decode cX11_makeClause 26 = .ok (.ifCond .ne 5, 3) := by decide +kernel
theorem dX11_makeClause_29 : decode cX11_makeClause 29 = .ok (.iconst 1, 1) := by decide +kernel
theorem dX11_makeClause_30 : decode cX11_makeClause 30 = .ok (.ireturn, 1) := by decide +kernel
theorem dX11_makeClause_31 : decode cX11_makeClause 31 = .ok (.aload_n 0, 1) := by decide +kernel
theorem dX11_makeClause_32 : decode cX11_makeClause 32 = .ok (.invokevirtual 194, 3) := by decide +kernel
theorem dX11_makeClause_35 : decode cX11_makeClause 35 = .ok (.aload_n 0, 1) := by decide +kernel
theorem dX11_makeClause_36 : decode cX11_makeClause 36 = .ok (.iload_n 1, 1) := by decide +kernel
theorem dX11_makeClause_37 : decode cX11_makeClause 37 = .ok (.iconst 3, 1) := by decide +kernel
theorem dX11_makeClause_38 : decode cX11_makeClause 38 = .ok (.iadd, 1) := by decide +kernel
theorem dX11_makeClause_39 : decode cX11_makeClause 39 = .ok (.iconst 1, 1) := by decide +kernel
theorem dX11_makeClause_40 : decode cX11_makeClause 40 = .ok (.invokevirtual 246, 3) := by decide +kernel
theorem dX11_makeClause_43 : decode cX11_makeClause 43 = .ok (.istore_n 2, 1) := by decide +kernel
theorem dX11_makeClause_44 : decode cX11_makeClause 44 = .ok (.iload_n 2, 1) := by decide +kernel
theorem dX11_makeClause_45 : decode cX11_makeClause 45 = .ok (.ifCond .eq 7, 3) := by decide +kernel
theorem dX11_makeClause_48 : decode cX11_makeClause 48 = .ok (.iload_n 2, 1) := by decide +kernel
theorem dX11_makeClause_49 : decode cX11_makeClause 49 = .ok (.goto 24, 3) := by decide +kernel
theorem dX11_makeClause_52 : decode cX11_makeClause 52 = .ok (.aload_n 0, 1) := by decide +kernel
theorem dX11_makeClause_53 : decode cX11_makeClause 53 = .ok (.bipush 108, 2) := by decide +kernel
theorem dX11_makeClause_55 : decode cX11_makeClause 55 = .ok (.bipush 111, 2) := by decide +kernel
theorem dX11_makeClause_57 : decode cX11_makeClause 57 = .ok (.bipush 111, 2) := by decide +kernel
theorem dX11_makeClause_59 : decode cX11_makeClause 59 = .ok (.bipush 107, 2) := by decide +kernel
theorem dX11_makeClause_61 : decode cX11_makeClause 61 = .ok (.invokestatic 149, 3) := by decide +kernel
theorem dX11_makeClause_64 : decode cX11_makeClause 64 = .ok (.iload_n 1, 1) := by decide +kernel
theorem dX11_makeClause_65 : decode cX11_makeClause 65 = .ok (.iconst 5, 1) := by decide +kernel
theorem dX11_makeClause_66 : decode cX11_makeClause 66 = .ok (.iadd, 1) := by decide +kernel
theorem dX11_makeClause_67 : decode cX11_makeClause 67 = .ok (.iconst 0, 1) := by decide +kernel
theorem dX11_makeClause_68 : decode cX11_makeClause 68 = .ok (.bipush 9, 2) := by decide +kernel
theorem dX11_makeClause_70 : decode cX11_makeClause 70 = .ok (.invokevirtual 249, 3) := by decide +kernel
theorem dX11_makeClause_73 : decode cX11_makeClause 73 = .ok (.ireturn, 1) := by decide +kernel
theorem gX11_makeClause_0 {d : Nat} {M : ev_Mem} {Q : Option Value → ev_Mem → Prop} {x1 : Int32} (h : (∃ Q2 : Option Value → ev_Mem → Prop, Cl LM d mX11_spelled [.ref 0, .int (x1 + 1), .int 1] M Q2 ∧ ∀ (zr : Option Value) (zM : ev_Mem), Q2 zr zM → Ev LM (d + 1) mX11_makeClause 8 [some (.ref 0), some (.int x1), none] (zr.toList ++ []) zM Q)) : Ev LM (d + 1) mX11_makeClause 0 [some (.ref 0), some (.int x1), none] [] M Q := by
  refine ev_aload_n dX11_makeClause_0 rfl ?_
  refine ev_iload_n dX11_makeClause_1 rfl ?_
  refine ev_iconst (v := 1) dX11_makeClause_2 (by decide) ?_
  refine ev_iadd dX11_makeClause_3 ?_
  refine ev_iconst (v := 1) dX11_makeClause_4 (by decide) ?_
  obtain ⟨Q2, hc, h⟩ := h
  refine ev_callV [.int (x1 + 1), .int 1] dX11_makeClause_5 ml_WithoutEModel_246 lm_0 rfl rfl (Nat.le_of_ble_eq_true rfl) hc (fun zr zM q => ?_)
  exact h zr zM q
theorem gX11_makeClause_8 {d : Nat} {M : ev_Mem} {Q : Option Value → ev_Mem → Prop} {x1 s0 : Int32} (h : (((s0 = 0) → ((((isw M (w2f (111 : Int32) (102 : Int32))) = true) → (∃ Q2 : Option Value → ev_Mem → Prop, Cl LM d mX11_nextToken [.ref 0] M Q2 ∧ ∀ (zr : Option Value) (zM : ev_Mem), Q2 zr zM → Ev LM (d + 1) mX11_makeClause 35 [some (.ref 0), some (.int x1), none] (zr.toList ++ []) zM Q)) ∧ (((isw M (w2f (111 : Int32) (102 : Int32))) = false) → (Q (some (.int 1)) M)))) ∧ ((¬ s0 = 0) → (Q (some (.int s0)) M)))) : Ev LM (d + 1) mX11_makeClause 8 [some (.ref 0), some (.int x1), none] [(.int s0)] M Q := by
  refine ev_istore_n (ls2 := [some (.ref 0), some (.int x1), some (.int s0)]) dX11_makeClause_8 (Nat.le_of_ble_eq_true rfl) rfl ?_
  refine ev_iload_n dX11_makeClause_9 rfl ?_
  refine ev_if_eq (tgt := 15) dX11_makeClause_10 (by decide) (fun c => ?_) (fun c => ?_)
  · replace h := h.1 c
    refine ev_aload_n dX11_makeClause_15 rfl ?_
    refine ev_bipush (v := 111) dX11_makeClause_16 (by decide) ?_
    refine ev_bipush (v := 102) dX11_makeClause_18 (by decide) ?_
    refine ev_callS [.int 111, .int 102] dX11_makeClause_20 ml_WithoutEModel_141 rfl (Nat.le_of_ble_eq_true rfl) (kX11_w2) ?_
    rintro zr zM ⟨q1, q2⟩
    rw [q1, q2]
    show Ev LM (d + 1) mX11_makeClause 23 [some (.ref 0), some (.int x1), some (.int s0)] [(.long (w2f (111 : Int32) (102 : Int32))), (.ref 0)] M Q
    refine ev_callV [.long (w2f (111 : Int32) (102 : Int32))] dX11_makeClause_23 ml_WithoutEModel_213 lm_0 rfl rfl (Nat.le_of_ble_eq_true rfl) (kX11_isWord) ?_
    rintro zr zM ⟨q1, q2⟩
    rw [q1, q2]
    show Ev LM (d + 1) mX11_makeClause 26 [some (.ref 0), some (.int x1), some (.int s0)] [(.int (bi (isw M (w2f (111 : Int32) (102 : Int32)))))] M Q
    refine ev_if_ne (tgt := 31) dX11_makeClause_26 (by decide) (fun c => ?_) (fun c => ?_)
    · replace h := h.1 ((bi_n0 _).mp c)
      refine ev_aload_n dX11_makeClause_31 rfl ?_
      obtain ⟨Q2, hc, h⟩ := h
      refine ev_callV [] dX11_makeClause_32 ml_WithoutEModel_194 lm_0 rfl rfl (Nat.le_of_ble_eq_true rfl) hc (fun zr zM q => ?_)
      refine Ev.weak (ls := [some (.ref 0), some (.int x1), none]) ⟨rfl, rfl, trivial⟩ ?_
      exact h zr zM q
    · replace h := h.2 ((bi_0 _).mp c)
      refine ev_iconst (v := 1) dX11_makeClause_29 (by decide) ?_
      exact ev_iret dX11_makeClause_30 rfl h
  · replace h := h.2 c
    refine ev_iload_n dX11_makeClause_13 rfl ?_
    exact ev_iret dX11_makeClause_14 rfl h
theorem gX11_makeClause_35 {d : Nat} {M : ev_Mem} {Q : Option Value → ev_Mem → Prop} {x1 : Int32} (h : (∃ Q2 : Option Value → ev_Mem → Prop, Cl LM d mX11_spelled [.ref 0, .int (x1 + 3), .int 1] M Q2 ∧ ∀ (zr : Option Value) (zM : ev_Mem), Q2 zr zM → Ev LM (d + 1) mX11_makeClause 43 [some (.ref 0), some (.int x1), none] (zr.toList ++ []) zM Q)) : Ev LM (d + 1) mX11_makeClause 35 [some (.ref 0), some (.int x1), none] [] M Q := by
  refine ev_aload_n dX11_makeClause_35 rfl ?_
  refine ev_iload_n dX11_makeClause_36 rfl ?_
  refine ev_iconst (v := 3) dX11_makeClause_37 (by decide) ?_
  refine ev_iadd dX11_makeClause_38 ?_
  refine ev_iconst (v := 1) dX11_makeClause_39 (by decide) ?_
  obtain ⟨Q2, hc, h⟩ := h
  refine ev_callV [.int (x1 + 3), .int 1] dX11_makeClause_40 ml_WithoutEModel_246 lm_0 rfl rfl (Nat.le_of_ble_eq_true rfl) hc (fun zr zM q => ?_)
  exact h zr zM q
theorem gX11_makeClause_43 {d : Nat} {M : ev_Mem} {Q : Option Value → ev_Mem → Prop} {x1 s0 : Int32} (h : (((s0 = 0) → (∃ Q2 : Option Value → ev_Mem → Prop, Cl LM (d + 2) mX11_worded [.ref 0, .long (w4f (108 : Int32) (111 : Int32) (111 : Int32) (107 : Int32)), .int (x1 + 5), .int 0, .int 9] M Q2 ∧ ∀ (zr : Option Value) (zM : ev_Mem), Q2 zr zM → Ev LM (d + 3) mX11_makeClause 73 [none, none, none] (zr.toList ++ []) zM Q)) ∧ ((¬ s0 = 0) → (Ev LM (d + 3) mX11_makeClause 73 [none, none, none] [(.int s0)] M Q)))) : Ev LM (d + 3) mX11_makeClause 43 [some (.ref 0), some (.int x1), none] [(.int s0)] M Q := by
  refine ev_istore_n (ls2 := [some (.ref 0), some (.int x1), some (.int s0)]) dX11_makeClause_43 (Nat.le_of_ble_eq_true rfl) rfl ?_
  refine ev_iload_n dX11_makeClause_44 rfl ?_
  refine ev_if_eq (tgt := 52) dX11_makeClause_45 (by decide) (fun c => ?_) (fun c => ?_)
  · replace h := h.1 c
    refine ev_aload_n dX11_makeClause_52 rfl ?_
    refine ev_bipush (v := 108) dX11_makeClause_53 (by decide) ?_
    refine ev_bipush (v := 111) dX11_makeClause_55 (by decide) ?_
    refine ev_bipush (v := 111) dX11_makeClause_57 (by decide) ?_
    refine ev_bipush (v := 107) dX11_makeClause_59 (by decide) ?_
    refine ev_callS [.int 108, .int 111, .int 111, .int 107] dX11_makeClause_61 ml_WithoutEModel_149 rfl (Nat.le_of_ble_eq_true rfl) (kX11_w4) ?_
    rintro zr zM ⟨q1, q2⟩
    rw [q1, q2]
    show Ev LM (d + 3) mX11_makeClause 64 [some (.ref 0), some (.int x1), some (.int s0)] [(.long (w4f (108 : Int32) (111 : Int32) (111 : Int32) (107 : Int32))), (.ref 0)] M Q
    refine ev_iload_n dX11_makeClause_64 rfl ?_
    refine ev_iconst (v := 5) dX11_makeClause_65 (by decide) ?_
    refine ev_iadd dX11_makeClause_66 ?_
    refine ev_iconst (v := 0) dX11_makeClause_67 (by decide) ?_
    refine ev_bipush (v := 9) dX11_makeClause_68 (by decide) ?_
    obtain ⟨Q2, hc, h⟩ := h
    refine ev_callV [.long (w4f (108 : Int32) (111 : Int32) (111 : Int32) (107 : Int32)), .int (x1 + 5), .int 0, .int 9] dX11_makeClause_70 ml_WithoutEModel_249 lm_0 rfl rfl (Nat.le_of_ble_eq_true rfl) hc (fun zr zM q => ?_)
    refine Ev.weak (ls := [none, none, none]) trivial ?_
    exact h zr zM q
  · replace h := h.2 c
    refine ev_iload_n dX11_makeClause_48 rfl ?_
    refine ev_goto (tgt := 73) dX11_makeClause_49 (by decide) ?_
    refine Ev.weak (ls := [none, none, none]) trivial ?_
    exact h
theorem gX11_makeClause_73 {d : Nat} {M : ev_Mem} {Q : Option Value → ev_Mem → Prop} {s0 : Int32} (h : (Q (some (.int s0)) M)) : Ev LM d mX11_makeClause 73 [none, none, none] [(.int s0)] M Q := by
  exact ev_iret dX11_makeClause_73 rfl h
theorem dX11_body_0 : decode cX11_body 0 = .ok (.iload_n 1, 1) := by decide +kernel
theorem dX11_body_1 : decode cX11_body 1 = .ok (.tableswitch 103 3 9 #[43, 49, 55, 61, 70, 81, 92], 43) := by decide +kernel
theorem dX11_body_44 : decode cX11_body 44 = .ok (.aload_n 0, 1) := by decide +kernel
theorem dX11_body_45 : decode cX11_body 45 = .ok (.iload_n 2, 1) := by decide +kernel
theorem dX11_body_46 : decode cX11_body 46 = .ok (.invokevirtual 253, 3) := by decide +kernel
theorem dX11_body_49 : decode cX11_body 49 = .ok (.ireturn, 1) := by decide +kernel
theorem dX11_body_50 : decode cX11_body 50 = .ok (.aload_n 0, 1) := by decide +kernel
theorem dX11_body_51 : decode cX11_body 51 = .ok (.iload_n 2, 1) := by decide +kernel
theorem dX11_body_52 : decode cX11_body 52 = .ok (.invokevirtual 256, 3) := by decide +kernel
theorem dX11_body_55 : decode cX11_body 55 = .ok (.ireturn, 1) := by decide +kernel
theorem dX11_body_56 : decode cX11_body 56 = .ok (.aload_n 0, 1) := by decide +kernel
theorem dX11_body_57 : decode cX11_body 57 = .ok (.iload_n 2, 1) := by decide +kernel
theorem dX11_body_58 : decode cX11_body 58 = .ok (.invokevirtual 259, 3) := by decide +kernel
theorem dX11_body_61 : decode cX11_body 61 = .ok (.ireturn, 1) := by decide +kernel
theorem dX11_body_62 : decode cX11_body 62 = .ok (.aload_n 0, 1) := by decide +kernel
theorem dX11_body_63 : decode cX11_body 63 = .ok (.iload_n 2, 1) := by decide +kernel
theorem dX11_body_64 : decode cX11_body 64 = .ok (.iconst 1, 1) := by decide +kernel
theorem dX11_body_65 : decode cX11_body 65 = .ok (.iadd, 1) := by decide +kernel
theorem dX11_body_66 : decode cX11_body 66 = .ok (.iconst 1, 1) := by decide +kernel
theorem dX11_body_67 : decode cX11_body 67 = .ok (.invokevirtual 246, 3) := by decide +kernel
theorem dX11_body_70 : decode cX11_body 70 = .ok (.ireturn, 1) := by decide +kernel
theorem dX11_body_71 : decode cX11_body 71 = .ok (.aload_n 0, 1) := by decide +kernel
theorem dX11_body_72 : decode cX11_body 72 = .ok (.iload_n 2, 1) := by decide +kernel
theorem dX11_body_73 : decode cX11_body 73 = .ok (.iconst 1, 1) := by decide +kernel
theorem dX11_body_74 : decode cX11_body 74 = .ok (.iadd, 1) := by decide +kernel
theorem dX11_body_75 : decode cX11_body 75 = .ok (.iconst 0, 1) := by decide +kernel
theorem dX11_body_76 : decode cX11_body 76 = .ok (.bipush 23, 2) := by decide +kernel
theorem dX11_body_78 : decode cX11_body 78 = .ok (.invokevirtual 239, 3) := by decide +kernel
theorem dX11_body_81 : decode cX11_body 81 = .ok (.ireturn, 1) := by decide +kernel
theorem dX11_body_82 : decode cX11_body 82 = .ok (.aload_n 0, 1) := by decide +kernel
theorem dX11_body_83 : decode cX11_body 83 = .ok (.iload_n 2, 1) := by decide +kernel
theorem dX11_body_84 : decode cX11_body 84 = .ok (.iconst 1, 1) := by decide +kernel
theorem dX11_body_85 : decode cX11_body 85 = .ok (.iadd, 1) := by decide +kernel
theorem dX11_body_86 : decode cX11_body 86 = .ok (.iconst 0, 1) := by decide +kernel
theorem dX11_body_87 : decode cX11_body 87 = .ok (.bipush 7, 2) := by decide +kernel
theorem dX11_body_89 : decode cX11_body 89 = .ok (.invokevirtual 239, 3) := by decide +kernel
theorem dX11_body_92 : decode cX11_body 92 = .ok (.ireturn, 1) := by decide +kernel
theorem dX11_body_93 : decode cX11_body 93 = .ok (.aload_n 0, 1) := by decide +kernel
theorem dX11_body_94 : decode cX11_body 94 = .ok (.iload_n 2, 1) := by decide +kernel
theorem dX11_body_95 : decode cX11_body 95 = .ok (.iconst 1, 1) := by decide +kernel
theorem dX11_body_96 : decode cX11_body 96 = .ok (.iadd, 1) := by decide +kernel
theorem dX11_body_97 : decode cX11_body 97 = .ok (.iconst 1, 1) := by decide +kernel
theorem dX11_body_98 : decode cX11_body 98 = .ok (.bipush 40, 2) := by decide +kernel
theorem dX11_body_100 : decode cX11_body 100 = .ok (.invokevirtual 239, 3) := by decide +kernel
theorem dX11_body_103 : decode cX11_body 103 = .ok (.ireturn, 1) := by decide +kernel
theorem dX11_body_104 : decode cX11_body 104 = .ok (.aload_n 0, 1) := by decide +kernel
theorem dX11_body_105 : decode cX11_body 105 = .ok (.iload_n 2, 1) := by decide +kernel
theorem dX11_body_106 : decode cX11_body 106 = .ok (.invokevirtual 262, 3) := by decide +kernel
theorem dX11_body_109 : decode cX11_body 109 = .ok (.ireturn, 1) := by decide +kernel
theorem gX11_body_0 {d : Nat} {M : ev_Mem} {Q : Option Value → ev_Mem → Prop} {x1 x2 : Int32} (h : (((x1 = 3) → (∃ Q2 : Option Value → ev_Mem → Prop, Cl LM d mX11_wordClause [.ref 0, .int x2] M Q2 ∧ ∀ (zr : Option Value) (zM : ev_Mem), Q2 zr zM → Ev LM (d + 1) mX11_body 49 [none, none, none] (zr.toList ++ []) zM Q)) ∧ ((x1 = 4) → (∃ Q2 : Option Value → ev_Mem → Prop, Cl LM d mX11_sayClause [.ref 0, .int x2] M Q2 ∧ ∀ (zr : Option Value) (zM : ev_Mem), Q2 zr zM → Ev LM (d + 1) mX11_body 55 [none, none, none] (zr.toList ++ []) zM Q)) ∧ ((x1 = 5) → (∃ Q2 : Option Value → ev_Mem → Prop, Cl LM d mX11_makeClause [.ref 0, .int x2] M Q2 ∧ ∀ (zr : Option Value) (zM : ev_Mem), Q2 zr zM → Ev LM (d + 1) mX11_body 61 [none, none, none] (zr.toList ++ []) zM Q)) ∧ ((x1 = 6) → (∃ Q2 : Option Value → ev_Mem → Prop, Cl LM d mX11_spelled [.ref 0, .int (x2 + 1), .int 1] M Q2 ∧ ∀ (zr : Option Value) (zM : ev_Mem), Q2 zr zM → Ev LM (d + 1) mX11_body 70 [none, none, none] (zr.toList ++ []) zM Q)) ∧ ((x1 = 7) → (∃ Q2 : Option Value → ev_Mem → Prop, Cl LM d mX11_figure [.ref 0, .int (x2 + 1), .int 0, .int 23] M Q2 ∧ ∀ (zr : Option Value) (zM : ev_Mem), Q2 zr zM → Ev LM (d + 1) mX11_body 81 [none, none, none] (zr.toList ++ []) zM Q)) ∧ ((x1 = 8) → (∃ Q2 : Option Value → ev_Mem → Prop, Cl LM d mX11_figure [.ref 0, .int (x2 + 1), .int 0, .int 7] M Q2 ∧ ∀ (zr : Option Value) (zM : ev_Mem), Q2 zr zM → Ev LM (d + 1) mX11_body 92 [none, none, none] (zr.toList ++ []) zM Q)) ∧ ((x1 = 9) → (∃ Q2 : Option Value → ev_Mem → Prop, Cl LM d mX11_figure [.ref 0, .int (x2 + 1), .int 1, .int 40] M Q2 ∧ ∀ (zr : Option Value) (zM : ev_Mem), Q2 zr zM → Ev LM (d + 1) mX11_body 103 [none, none, none] (zr.toList ++ []) zM Q)) ∧ ((¬ x1 = 3 ∧ ¬ x1 = 4 ∧ ¬ x1 = 5 ∧ ¬ x1 = 6 ∧ ¬ x1 = 7 ∧ ¬ x1 = 8 ∧ ¬ x1 = 9) → (∃ Q2 : Option Value → ev_Mem → Prop, Cl LM d mX11_lawClause [.ref 0, .int x2] M Q2 ∧ ∀ (zr : Option Value) (zM : ev_Mem), Q2 zr zM → Ev LM (d + 1) mX11_body 109 [none, none, none] (zr.toList ++ []) zM Q)))) : Ev LM (d + 1) mX11_body 0 [some (.ref 0), some (.int x1), some (.int x2)] [] M Q := by
  refine ev_iload_n dX11_body_0 rfl ?_
  obtain ⟨h0, h1, h2, h3, h4, h5, h6, h7⟩ := h
  by_cases e0 : x1 = 3
  · replace h := h0 e0
    have hk : ∃ off : Int, ¬ (x1 : Int32).toInt < 3 ∧ ¬ 9 < (x1 : Int32).toInt ∧ #[43, 49, 55, 61, 70, 81, 92][((x1 : Int32).toInt - 3).toNat]? = some off ∧ ((1 : Nat) : Int) + off = ((44 : Nat) : Int) := by
      have e := e0
      · rw [e]; exact ⟨43, by decide, by decide, by decide, by decide⟩
    obtain ⟨off, k1, k2, k3, k4⟩ := hk
    refine ev_tableIn (tgt := 44) dX11_body_1 k1 k2 k3 k4 ?_
    refine ev_aload_n dX11_body_44 rfl ?_
    refine ev_iload_n dX11_body_45 rfl ?_
    obtain ⟨Q2, hc, h⟩ := h
    refine ev_callV [.int x2] dX11_body_46 ml_WithoutEModel_253 lm_0 rfl rfl (Nat.le_of_ble_eq_true rfl) hc (fun zr zM q => ?_)
    refine Ev.weak (ls := [none, none, none]) trivial ?_
    exact h zr zM q
  by_cases e1 : x1 = 4
  · replace h := h1 e1
    have hk : ∃ off : Int, ¬ (x1 : Int32).toInt < 3 ∧ ¬ 9 < (x1 : Int32).toInt ∧ #[43, 49, 55, 61, 70, 81, 92][((x1 : Int32).toInt - 3).toNat]? = some off ∧ ((1 : Nat) : Int) + off = ((50 : Nat) : Int) := by
      have e := e1
      · rw [e]; exact ⟨49, by decide, by decide, by decide, by decide⟩
    obtain ⟨off, k1, k2, k3, k4⟩ := hk
    refine ev_tableIn (tgt := 50) dX11_body_1 k1 k2 k3 k4 ?_
    refine ev_aload_n dX11_body_50 rfl ?_
    refine ev_iload_n dX11_body_51 rfl ?_
    obtain ⟨Q2, hc, h⟩ := h
    refine ev_callV [.int x2] dX11_body_52 ml_WithoutEModel_256 lm_0 rfl rfl (Nat.le_of_ble_eq_true rfl) hc (fun zr zM q => ?_)
    refine Ev.weak (ls := [none, none, none]) trivial ?_
    exact h zr zM q
  by_cases e2 : x1 = 5
  · replace h := h2 e2
    have hk : ∃ off : Int, ¬ (x1 : Int32).toInt < 3 ∧ ¬ 9 < (x1 : Int32).toInt ∧ #[43, 49, 55, 61, 70, 81, 92][((x1 : Int32).toInt - 3).toNat]? = some off ∧ ((1 : Nat) : Int) + off = ((56 : Nat) : Int) := by
      have e := e2
      · rw [e]; exact ⟨55, by decide, by decide, by decide, by decide⟩
    obtain ⟨off, k1, k2, k3, k4⟩ := hk
    refine ev_tableIn (tgt := 56) dX11_body_1 k1 k2 k3 k4 ?_
    refine ev_aload_n dX11_body_56 rfl ?_
    refine ev_iload_n dX11_body_57 rfl ?_
    obtain ⟨Q2, hc, h⟩ := h
    refine ev_callV [.int x2] dX11_body_58 ml_WithoutEModel_259 lm_0 rfl rfl (Nat.le_of_ble_eq_true rfl) hc (fun zr zM q => ?_)
    refine Ev.weak (ls := [none, none, none]) trivial ?_
    exact h zr zM q
  by_cases e3 : x1 = 6
  · replace h := h3 e3
    have hk : ∃ off : Int, ¬ (x1 : Int32).toInt < 3 ∧ ¬ 9 < (x1 : Int32).toInt ∧ #[43, 49, 55, 61, 70, 81, 92][((x1 : Int32).toInt - 3).toNat]? = some off ∧ ((1 : Nat) : Int) + off = ((62 : Nat) : Int) := by
      have e := e3
      · rw [e]; exact ⟨61, by decide, by decide, by decide, by decide⟩
    obtain ⟨off, k1, k2, k3, k4⟩ := hk
    refine ev_tableIn (tgt := 62) dX11_body_1 k1 k2 k3 k4 ?_
    refine ev_aload_n dX11_body_62 rfl ?_
    refine ev_iload_n dX11_body_63 rfl ?_
    refine ev_iconst (v := 1) dX11_body_64 (by decide) ?_
    refine ev_iadd dX11_body_65 ?_
    refine ev_iconst (v := 1) dX11_body_66 (by decide) ?_
    obtain ⟨Q2, hc, h⟩ := h
    refine ev_callV [.int (x2 + 1), .int 1] dX11_body_67 ml_WithoutEModel_246 lm_0 rfl rfl (Nat.le_of_ble_eq_true rfl) hc (fun zr zM q => ?_)
    refine Ev.weak (ls := [none, none, none]) trivial ?_
    exact h zr zM q
  by_cases e4 : x1 = 7
  · replace h := h4 e4
    have hk : ∃ off : Int, ¬ (x1 : Int32).toInt < 3 ∧ ¬ 9 < (x1 : Int32).toInt ∧ #[43, 49, 55, 61, 70, 81, 92][((x1 : Int32).toInt - 3).toNat]? = some off ∧ ((1 : Nat) : Int) + off = ((71 : Nat) : Int) := by
      have e := e4
      · rw [e]; exact ⟨70, by decide, by decide, by decide, by decide⟩
    obtain ⟨off, k1, k2, k3, k4⟩ := hk
    refine ev_tableIn (tgt := 71) dX11_body_1 k1 k2 k3 k4 ?_
    refine ev_aload_n dX11_body_71 rfl ?_
    refine ev_iload_n dX11_body_72 rfl ?_
    refine ev_iconst (v := 1) dX11_body_73 (by decide) ?_
    refine ev_iadd dX11_body_74 ?_
    refine ev_iconst (v := 0) dX11_body_75 (by decide) ?_
    refine ev_bipush (v := 23) dX11_body_76 (by decide) ?_
    obtain ⟨Q2, hc, h⟩ := h
    refine ev_callV [.int (x2 + 1), .int 0, .int 23] dX11_body_78 ml_WithoutEModel_239 lm_0 rfl rfl (Nat.le_of_ble_eq_true rfl) hc (fun zr zM q => ?_)
    refine Ev.weak (ls := [none, none, none]) trivial ?_
    exact h zr zM q
  by_cases e5 : x1 = 8
  · replace h := h5 e5
    have hk : ∃ off : Int, ¬ (x1 : Int32).toInt < 3 ∧ ¬ 9 < (x1 : Int32).toInt ∧ #[43, 49, 55, 61, 70, 81, 92][((x1 : Int32).toInt - 3).toNat]? = some off ∧ ((1 : Nat) : Int) + off = ((82 : Nat) : Int) := by
      have e := e5
      · rw [e]; exact ⟨81, by decide, by decide, by decide, by decide⟩
    obtain ⟨off, k1, k2, k3, k4⟩ := hk
    refine ev_tableIn (tgt := 82) dX11_body_1 k1 k2 k3 k4 ?_
    refine ev_aload_n dX11_body_82 rfl ?_
    refine ev_iload_n dX11_body_83 rfl ?_
    refine ev_iconst (v := 1) dX11_body_84 (by decide) ?_
    refine ev_iadd dX11_body_85 ?_
    refine ev_iconst (v := 0) dX11_body_86 (by decide) ?_
    refine ev_bipush (v := 7) dX11_body_87 (by decide) ?_
    obtain ⟨Q2, hc, h⟩ := h
    refine ev_callV [.int (x2 + 1), .int 0, .int 7] dX11_body_89 ml_WithoutEModel_239 lm_0 rfl rfl (Nat.le_of_ble_eq_true rfl) hc (fun zr zM q => ?_)
    refine Ev.weak (ls := [none, none, none]) trivial ?_
    exact h zr zM q
  by_cases e6 : x1 = 9
  · replace h := h6 e6
    have hk : ∃ off : Int, ¬ (x1 : Int32).toInt < 3 ∧ ¬ 9 < (x1 : Int32).toInt ∧ #[43, 49, 55, 61, 70, 81, 92][((x1 : Int32).toInt - 3).toNat]? = some off ∧ ((1 : Nat) : Int) + off = ((93 : Nat) : Int) := by
      have e := e6
      · rw [e]; exact ⟨92, by decide, by decide, by decide, by decide⟩
    obtain ⟨off, k1, k2, k3, k4⟩ := hk
    refine ev_tableIn (tgt := 93) dX11_body_1 k1 k2 k3 k4 ?_
    refine ev_aload_n dX11_body_93 rfl ?_
    refine ev_iload_n dX11_body_94 rfl ?_
    refine ev_iconst (v := 1) dX11_body_95 (by decide) ?_
    refine ev_iadd dX11_body_96 ?_
    refine ev_iconst (v := 1) dX11_body_97 (by decide) ?_
    refine ev_bipush (v := 40) dX11_body_98 (by decide) ?_
    obtain ⟨Q2, hc, h⟩ := h
    refine ev_callV [.int (x2 + 1), .int 1, .int 40] dX11_body_100 ml_WithoutEModel_239 lm_0 rfl rfl (Nat.le_of_ble_eq_true rfl) hc (fun zr zM q => ?_)
    refine Ev.weak (ls := [none, none, none]) trivial ?_
    exact h zr zM q
  replace h := h7 ⟨fun e => e0 (e), fun e => e1 (e), fun e => e2 (e), fun e => e3 (e), fun e => e4 (e), fun e => e5 (e), fun e => e6 (e)⟩
  have hk : ((x1 : Int32).toInt < 3 ∨ 9 < (x1 : Int32).toInt) ∨ (False) := by
    have t : ∀ k : Int32, ¬ (x1 : Int32) = k → (x1 : Int32).toInt ≠ k.toInt := fun k hne e => hne (Int32.toInt_inj.mp e)
    have z3 : (x1 : Int32).toInt ≠ 3 := t 3 (fun e => by simp_all)
    have z4 : (x1 : Int32).toInt ≠ 4 := t 4 (fun e => by simp_all)
    have z5 : (x1 : Int32).toInt ≠ 5 := t 5 (fun e => by simp_all)
    have z6 : (x1 : Int32).toInt ≠ 6 := t 6 (fun e => by simp_all)
    have z7 : (x1 : Int32).toInt ≠ 7 := t 7 (fun e => by simp_all)
    have z8 : (x1 : Int32).toInt ≠ 8 := t 8 (fun e => by simp_all)
    have z9 : (x1 : Int32).toInt ≠ 9 := t 9 (fun e => by simp_all)
    omega
  replace hk := hk.elim id False.elim
  refine ev_tableOut (tgt := 104) dX11_body_1 hk (by decide) ?_
  refine ev_aload_n dX11_body_104 rfl ?_
  refine ev_iload_n dX11_body_105 rfl ?_
  obtain ⟨Q2, hc, h⟩ := h
  refine ev_callV [.int x2] dX11_body_106 ml_WithoutEModel_262 lm_0 rfl rfl (Nat.le_of_ble_eq_true rfl) hc (fun zr zM q => ?_)
  refine Ev.weak (ls := [none, none, none]) trivial ?_
  exact h zr zM q
theorem gX11_body_49 {d : Nat} {M : ev_Mem} {Q : Option Value → ev_Mem → Prop} {s0 : Int32} (h : (Q (some (.int s0)) M)) : Ev LM d mX11_body 49 [none, none, none] [(.int s0)] M Q := by
  exact ev_iret dX11_body_49 rfl h
theorem gX11_body_55 {d : Nat} {M : ev_Mem} {Q : Option Value → ev_Mem → Prop} {s0 : Int32} (h : (Q (some (.int s0)) M)) : Ev LM d mX11_body 55 [none, none, none] [(.int s0)] M Q := by
  exact ev_iret dX11_body_55 rfl h
theorem gX11_body_61 {d : Nat} {M : ev_Mem} {Q : Option Value → ev_Mem → Prop} {s0 : Int32} (h : (Q (some (.int s0)) M)) : Ev LM d mX11_body 61 [none, none, none] [(.int s0)] M Q := by
  exact ev_iret dX11_body_61 rfl h
theorem gX11_body_70 {d : Nat} {M : ev_Mem} {Q : Option Value → ev_Mem → Prop} {s0 : Int32} (h : (Q (some (.int s0)) M)) : Ev LM d mX11_body 70 [none, none, none] [(.int s0)] M Q := by
  exact ev_iret dX11_body_70 rfl h
theorem gX11_body_81 {d : Nat} {M : ev_Mem} {Q : Option Value → ev_Mem → Prop} {s0 : Int32} (h : (Q (some (.int s0)) M)) : Ev LM d mX11_body 81 [none, none, none] [(.int s0)] M Q := by
  exact ev_iret dX11_body_81 rfl h
theorem gX11_body_92 {d : Nat} {M : ev_Mem} {Q : Option Value → ev_Mem → Prop} {s0 : Int32} (h : (Q (some (.int s0)) M)) : Ev LM d mX11_body 92 [none, none, none] [(.int s0)] M Q := by
  exact ev_iret dX11_body_92 rfl h
theorem gX11_body_103 {d : Nat} {M : ev_Mem} {Q : Option Value → ev_Mem → Prop} {s0 : Int32} (h : (Q (some (.int s0)) M)) : Ev LM d mX11_body 103 [none, none, none] [(.int s0)] M Q := by
  exact ev_iret dX11_body_103 rfl h
theorem gX11_body_109 {d : Nat} {M : ev_Mem} {Q : Option Value → ev_Mem → Prop} {s0 : Int32} (h : (Q (some (.int s0)) M)) : Ev LM d mX11_body 109 [none, none, none] [(.int s0)] M Q := by
  exact ev_iret dX11_body_109 rfl h
theorem dX11_clause_0 : decode cX11_clause 0 = .ok (.aload_n 0, 1) := by decide +kernel
theorem dX11_clause_1 : decode cX11_clause 1 = .ok (.invokevirtual 265, 3) := by decide +kernel
theorem dX11_clause_4 : decode cX11_clause 4 = .ok (.istore_n 1, 1) := by decide +kernel
theorem dX11_clause_5 : decode cX11_clause 5 = .ok (.iload_n 1, 1) := by decide +kernel
theorem dX11_clause_6 : decode cX11_clause 6 = .ok (.ifCond .ge 5, 3) := by decide +kernel
theorem dX11_clause_9 : decode cX11_clause 9 = .ok (.iconst 1, 1) := by decide +kernel
theorem dX11_clause_10 : decode cX11_clause 10 = .ok (.ireturn, 1) := by decide +kernel
theorem dX11_clause_11 : decode cX11_clause 11 = .ok (.iload_n 1, 1) := by decide +kernel
theorem dX11_clause_12 : decode cX11_clause 12 = .ok (.iconst 2, 1) := by decide +kernel
theorem dX11_clause_13 : decode cX11_clause 13 = .ok (.if_icmp .gt 16, 3) := by decide +kernel
theorem dX11_clause_16 : decode cX11_clause 16 = .ok (.aload_n 0, 1) := by decide +kernel
theorem dX11_clause_17 : decode cX11_clause 17 = .ok (.getfield 268, 3) := by decide +kernel
theorem dX11_clause_20 : decode cX11_clause 20 = .ok (.iload_n 1, 1) := by decide +kernel
theorem dX11_clause_21 : decode cX11_clause 21 = .ok (.invokestatic 84, 3) := by decide +kernel
theorem dX11_clause_24 : decode cX11_clause 24 = .ok (.ifCond .eq 5, 3) := by decide +kernel
theorem dX11_clause_27 : decode cX11_clause 27 = .ok (.iconst 4, 1) := by decide +kernel
theorem dX11_clause_28 : decode cX11_clause 28 = .ok (.ireturn, 1) := by decide +kernel
theorem dX11_clause_29 : decode cX11_clause 29 = .ok (.aload_n 0, 1) := by decide +kernel
theorem dX11_clause_30 : decode cX11_clause 30 = .ok (.getfield 19, 3) := by decide +kernel
theorem dX11_clause_33 : decode cX11_clause 33 = .ok (.aload_n 0, 1) := by decide +kernel
theorem dX11_clause_34 : decode cX11_clause 34 = .ok (.getfield 157, 3) := by decide +kernel
theorem dX11_clause_37 : decode cX11_clause 37 = .ok (.iaload, 1) := by decide +kernel
theorem dX11_clause_38 : decode cX11_clause 38 = .ok (.istore_n 2, 1) := by decide +kernel
theorem dX11_clause_39 : decode cX11_clause 39 = .ok (.iload_n 2, 1) := by decide +kernel
theorem dX11_clause_40 : decode cX11_clause 40 = .ok (.bipush 24, 2) := by decide +kernel
theorem dX11_clause_42 : decode cX11_clause 42 = .ok (.if_icmp .ne 6, 3) := by decide +kernel
theorem dX11_clause_45 : decode cX11_clause 45 = .ok (.bipush 6, 2) := by decide +kernel
theorem dX11_clause_47 : decode cX11_clause 47 = .ok (.ireturn, 1) := by decide +kernel
theorem dX11_clause_48 : decode cX11_clause 48 = .ok (.iload_n 1, 1) := by decide +kernel
theorem dX11_clause_49 : decode cX11_clause 49 = .ok (.iconst 2, 1) := by decide +kernel
theorem dX11_clause_50 : decode cX11_clause 50 = .ok (.if_icmp .gt 15, 3) := by decide +kernel
theorem dX11_clause_53 : decode cX11_clause 53 = .ok (.aload_n 0, 1) := by decide +kernel
theorem dX11_clause_54 : decode cX11_clause 54 = .ok (.dup, 1) := by decide +kernel
theorem dX11_clause_55 : decode cX11_clause 55 = .ok (.getfield 268, 3) := by decide +kernel
theorem dX11_clause_58 : decode cX11_clause 58 = .ok (.iconst 1, 1) := by decide +kernel
theorem dX11_clause_59 : decode cX11_clause 59 = .ok (.iload_n 1, 1) := by decide +kernel
theorem dX11_clause_60 : decode cX11_clause 60 = .ok (.ishl, 1) := by decide +kernel
theorem dX11_clause_61 : decode cX11_clause 61 = .ok (.ior, 1) := by decide +kernel
theorem dX11_clause_62 : decode cX11_clause 62 = .ok (.putfield 268, 3) := by decide +kernel
theorem dX11_clause_65 : decode cX11_clause 65 = .ok (.aload_n 0, 1) := by decide +kernel
theorem dX11_clause_66 : decode cX11_clause 66 = .ok (.iload_n 1, 1) := by decide +kernel
theorem dX11_clause_67 : decode cX11_clause 67 = .ok (.putfield 171, 3) := by decide +kernel
theorem dX11_clause_70 : decode cX11_clause 70 = .ok (.aload_n 0, 1) := by decide +kernel
theorem dX11_clause_71 : decode cX11_clause 71 = .ok (.invokevirtual 194, 3) := by decide +kernel
theorem dX11_clause_74 : decode cX11_clause 74 = .ok (.aload_n 0, 1) := by decide +kernel
theorem dX11_clause_75 : decode cX11_clause 75 = .ok (.getfield 157, 3) := by decide +kernel
theorem dX11_clause_78 : decode cX11_clause 78 = .ok (.iconst 1, 1) := by decide +kernel
theorem dX11_clause_79 : decode cX11_clause 79 = .ok (.iadd, 1) := by decide +kernel
theorem dX11_clause_80 : decode cX11_clause 80 = .ok (.bipush 14, 2) := by decide +kernel
theorem dX11_clause_82 : decode cX11_clause 82 = .ok (.iload_n 2, 1) := by decide +kernel
theorem dX11_clause_83 : decode cX11_clause 83 = .ok (.imul, 1) := by decide +kernel
theorem dX11_clause_84 : decode cX11_clause 84 = .ok (.iadd, 1) := by decide +kernel
theorem dX11_clause_85 : decode cX11_clause 85 = .ok (.istore_n 3, 1) := by decide +kernel
theorem dX11_clause_86 : decode cX11_clause 86 = .ok (.aload_n 0, 1) := by decide +kernel
theorem dX11_clause_87 : decode cX11_clause 87 = .ok (.getfield 19, 3) := by decide +kernel
theorem dX11_clause_90 : decode cX11_clause 90 = .ok (.iload_n 3, 1) := by decide +kernel
theorem dX11_clause_91 : decode cX11_clause 91 = .ok (.iload_n 1, 1) := by decide +kernel
theorem dX11_clause_92 : decode cX11_clause 92 = .ok (.iastore, 1) := by decide +kernel
theorem dX11_clause_93 : decode cX11_clause 93 = .ok (.aload_n 0, 1) := by decide +kernel
theorem dX11_clause_94 : decode cX11_clause 94 = .ok (.iload_n 1, 1) := by decide +kernel
theorem dX11_clause_95 : decode cX11_clause 95 = .ok (.iload_n 3, 1) := by decide +kernel
theorem dX11_clause_96 : decode cX11_clause 96 = .ok (.invokevirtual 271, 3) := by decide +kernel
theorem dX11_clause_99 : decode cX11_clause 99 = .ok (.istore 4, 2) := by decide +kernel
theorem dX11_clause_101 : decode cX11_clause 101 = .ok (.iload 4, 2) := by decide +kernel
theorem dX11_clause_103 : decode cX11_clause 103 = .ok (.ifCond .eq 6, 3) := by decide +kernel
theorem dX11_clause_106 : decode cX11_clause 106 = .ok (.iload 4, 2) := by decide +kernel
theorem dX11_clause_108 : decode cX11_clause 108 = .ok (.ireturn, 1) := by decide +kernel
theorem dX11_clause_109 : decode cX11_clause 109 = .ok (.aload_n 0, 1) := by decide +kernel
theorem dX11_clause_110 : decode cX11_clause 110 = .ok (.getfield 19, 3) := by decide +kernel
theorem dX11_clause_113 : decode cX11_clause 113 = .ok (.aload_n 0, 1) := by decide +kernel
theorem dX11_clause_114 : decode cX11_clause 114 = .ok (.getfield 157, 3) := by decide +kernel
theorem dX11_clause_117 : decode cX11_clause 117 = .ok (.dup2, 1) := by decide +kernel
theorem dX11_clause_118 : decode cX11_clause 118 = .ok (.iaload, 1) := by decide +kernel
theorem dX11_clause_119 : decode cX11_clause 119 = .ok (.iconst 1, 1) := by decide +kernel
theorem dX11_clause_120 : decode cX11_clause 120 = .ok (.iadd, 1) := by decide +kernel
theorem dX11_clause_121 : decode cX11_clause 121 = .ok (.iastore, 1) := by decide +kernel
theorem dX11_clause_122 : decode cX11_clause 122 = .ok (.aload_n 0, 1) := by decide +kernel
theorem dX11_clause_123 : decode cX11_clause 123 = .ok (.getfield 119, 3) := by decide +kernel
theorem dX11_clause_126 : decode cX11_clause 126 = .ok (.bipush 59, 2) := by decide +kernel
theorem dX11_clause_128 : decode cX11_clause 128 = .ok (.if_icmp .eq 5, 3) := by decide +kernel
theorem dX11_clause_131 : decode cX11_clause 131 = .ok (.iconst 1, 1) := by decide +kernel
theorem dX11_clause_132 : decode cX11_clause 132 = .ok (.ireturn, 1) := by decide +kernel
theorem dX11_clause_133 : decode cX11_clause 133 = .ok (.aload_n 0, 1) := by decide +kernel
theorem dX11_clause_134 : decode cX11_clause 134 = .ok (.invokevirtual 194, 3) := by decide +kernel
theorem dX11_clause_137 : decode cX11_clause 137 = .ok (.iconst 0, 1) := by decide +kernel
theorem dX11_clause_138 : decode cX11_clause 138 = .ok (.ireturn, 1) := by decide +kernel
theorem gX11_clause_0 {d : Nat} {M : ev_Mem} {Q : Option Value → ev_Mem → Prop} (h : (∃ Q2 : Option Value → ev_Mem → Prop, Cl LM d mX11_sortOf [.ref 0] M Q2 ∧ ∀ (zr : Option Value) (zM : ev_Mem), Q2 zr zM → Ev LM (d + 1) mX11_clause 4 [some (.ref 0), none, none, none, none] (zr.toList ++ []) zM Q)) : Ev LM (d + 1) mX11_clause 0 [some (.ref 0), none, none, none, none] [] M Q := by
  refine ev_aload_n dX11_clause_0 rfl ?_
  obtain ⟨Q2, hc, h⟩ := h
  refine ev_callV [] dX11_clause_1 ml_WithoutEModel_265 lm_0 rfl rfl (Nat.le_of_ble_eq_true rfl) hc (fun zr zM q => ?_)
  exact h zr zM q
theorem gX11_clause_4 {d : Nat} {M : ev_Mem} {Q : Option Value → ev_Mem → Prop} {s0 : Int32} (h : (((0 ≤ s0) → (((2 < s0) → (vp_in (M.1 0 13) 3780 ∧ (∀ v1 : Int32, v1 = M.1 4 (M.1 0 13).toNatClampNeg → (((¬ v1 = 24) → (((2 < s0) → (∀ M1 : ev_Mem, M1 = ev_wr M 0 15 s0 → (∃ Q2 : Option Value → ev_Mem → Prop, Cl LM d mX11_nextToken [.ref 0] M1 Q2 ∧ ∀ (zr : Option Value) (zM : ev_Mem), Q2 zr zM → Ev LM (d + 1) mX11_clause 74 [some (.ref 0), some (.int s0), some (.int v1), none, none] (zr.toList ++ []) zM Q))) ∧ ((¬ 2 < s0) → (∀ M2 : ev_Mem, M2 = ev_wr M 0 20 ((M.1 0 20) ||| (1 <<< (s0 &&& 31))) → (∀ M3 : ev_Mem, M3 = ev_wr M2 0 15 s0 → (∃ Q2 : Option Value → ev_Mem → Prop, Cl LM d mX11_nextToken [.ref 0] M3 Q2 ∧ ∀ (zr : Option Value) (zM : ev_Mem), Q2 zr zM → Ev LM (d + 1) mX11_clause 74 [some (.ref 0), some (.int s0), some (.int v1), none, none] (zr.toList ++ []) zM Q)))))) ∧ ((v1 = 24) → (Q (some (.int 6)) M)))))) ∧ ((¬ 2 < s0) → ((((hs (M.1 0 20) s0) = false) → (vp_in (M.1 0 13) 3780 ∧ (∀ v2 : Int32, v2 = M.1 4 (M.1 0 13).toNatClampNeg → (((¬ v2 = 24) → (((2 < s0) → (∀ M4 : ev_Mem, M4 = ev_wr M 0 15 s0 → (∃ Q2 : Option Value → ev_Mem → Prop, Cl LM d mX11_nextToken [.ref 0] M4 Q2 ∧ ∀ (zr : Option Value) (zM : ev_Mem), Q2 zr zM → Ev LM (d + 1) mX11_clause 74 [some (.ref 0), some (.int s0), some (.int v2), none, none] (zr.toList ++ []) zM Q))) ∧ ((¬ 2 < s0) → (∀ M5 : ev_Mem, M5 = ev_wr M 0 20 ((M.1 0 20) ||| (1 <<< (s0 &&& 31))) → (∀ M6 : ev_Mem, M6 = ev_wr M5 0 15 s0 → (∃ Q2 : Option Value → ev_Mem → Prop, Cl LM d mX11_nextToken [.ref 0] M6 Q2 ∧ ∀ (zr : Option Value) (zM : ev_Mem), Q2 zr zM → Ev LM (d + 1) mX11_clause 74 [some (.ref 0), some (.int s0), some (.int v2), none, none] (zr.toList ++ []) zM Q)))))) ∧ ((v2 = 24) → (Q (some (.int 6)) M)))))) ∧ (((hs (M.1 0 20) s0) = true) → (Q (some (.int 4)) M)))))) ∧ ((¬ 0 ≤ s0) → (Q (some (.int 1)) M)))) : Ev LM (d + 1) mX11_clause 4 [some (.ref 0), none, none, none, none] [(.int s0)] M Q := by
  refine ev_istore_n (ls2 := [some (.ref 0), some (.int s0), none, none, none]) dX11_clause_4 (Nat.le_of_ble_eq_true rfl) rfl ?_
  refine ev_iload_n dX11_clause_5 rfl ?_
  refine ev_if_ge (tgt := 11) dX11_clause_6 (by decide) (fun c => ?_) (fun c => ?_)
  · replace h := h.1 c
    refine ev_iload_n dX11_clause_11 rfl ?_
    refine ev_iconst (v := 2) dX11_clause_12 (by decide) ?_
    refine ev_icmp_gt (tgt := 29) dX11_clause_13 (by decide) (fun c => ?_) (fun c => ?_)
    · replace h := h.1 c
      refine ev_aload_n dX11_clause_29 rfl ?_
      refine ev_getA dX11_clause_30 fl_WithoutEModel_19 lm_0 rfl ?_
      refine ev_aload_n dX11_clause_33 rfl ?_
      refine ev_getI dX11_clause_34 fl_WithoutEModel_157 lm_0 rfl ?_
      obtain ⟨c, h⟩ := h
      refine ev_iald dX11_clause_37 lm_4 c ?_
      refine ev_istore_n (ls2 := [some (.ref 0), some (.int s0), some (.int (M.1 4 (M.1 0 13).toNatClampNeg)), none, none]) dX11_clause_38 (Nat.le_of_ble_eq_true rfl) rfl ?_
      generalize ev1 : M.1 4 (M.1 0 13).toNatClampNeg = v1
      replace h := h v1 ev1.symm
      refine ev_iload_n dX11_clause_39 rfl ?_
      refine ev_bipush (v := 24) dX11_clause_40 (by decide) ?_
      refine ev_icmp_ne (tgt := 48) dX11_clause_42 (by decide) (fun c => ?_) (fun c => ?_)
      · replace h := h.1 c
        refine ev_iload_n dX11_clause_48 rfl ?_
        refine ev_iconst (v := 2) dX11_clause_49 (by decide) ?_
        refine ev_icmp_gt (tgt := 65) dX11_clause_50 (by decide) (fun c => ?_) (fun c => ?_)
        · replace h := h.1 c
          refine ev_aload_n dX11_clause_65 rfl ?_
          refine ev_iload_n dX11_clause_66 rfl ?_
          refine ev_putI dX11_clause_67 fp_WithoutEModel_171 lm_0 rfl rfl rfl ?_
          generalize eM1 : ev_wr M 0 15 s0 = M1
          replace h := h M1 eM1.symm
          refine ev_aload_n dX11_clause_70 rfl ?_
          obtain ⟨Q2, hc, h⟩ := h
          refine ev_callV [] dX11_clause_71 ml_WithoutEModel_194 lm_0 rfl rfl (Nat.le_of_ble_eq_true rfl) hc (fun zr zM q => ?_)
          exact h zr zM q
        · replace h := h.2 c
          refine ev_aload_n dX11_clause_53 rfl ?_
          refine ev_dup dX11_clause_54 rfl ?_
          refine ev_getI dX11_clause_55 fl_WithoutEModel_268 lm_0 rfl ?_
          refine ev_iconst (v := 1) dX11_clause_58 (by decide) ?_
          refine ev_iload_n dX11_clause_59 rfl ?_
          refine ev_ishl dX11_clause_60 ?_
          refine ev_ior dX11_clause_61 ?_
          refine ev_putI dX11_clause_62 fp_WithoutEModel_268 lm_0 rfl rfl rfl ?_
          generalize eM2 : ev_wr M 0 20 ((M.1 0 20) ||| (1 <<< (s0 &&& 31))) = M2
          replace h := h M2 eM2.symm
          refine ev_aload_n dX11_clause_65 rfl ?_
          refine ev_iload_n dX11_clause_66 rfl ?_
          refine ev_putI dX11_clause_67 fp_WithoutEModel_171 lm_0 rfl rfl rfl ?_
          generalize eM3 : ev_wr M2 0 15 s0 = M3
          replace h := h M3 eM3.symm
          refine ev_aload_n dX11_clause_70 rfl ?_
          obtain ⟨Q2, hc, h⟩ := h
          refine ev_callV [] dX11_clause_71 ml_WithoutEModel_194 lm_0 rfl rfl (Nat.le_of_ble_eq_true rfl) hc (fun zr zM q => ?_)
          exact h zr zM q
      · replace h := h.2 c
        refine ev_bipush (v := 6) dX11_clause_45 (by decide) ?_
        exact ev_iret dX11_clause_47 rfl h
    · replace h := h.2 c
      refine ev_aload_n dX11_clause_16 rfl ?_
      refine ev_getI dX11_clause_17 fl_WithoutEModel_268 lm_0 rfl ?_
      refine ev_iload_n dX11_clause_20 rfl ?_
      refine ev_callS [.int (M.1 0 20), .int s0] dX11_clause_21 ml_WithoutEModel_84 rfl (Nat.le_of_ble_eq_true rfl) (kX11_has) ?_
      rintro zr zM ⟨q1, q2⟩
      rw [q1, q2]
      show Ev LM (d + 1) mX11_clause 24 [some (.ref 0), some (.int s0), none, none, none] [(.int (bi (hs (M.1 0 20) s0)))] M Q
      refine ev_if_eq (tgt := 29) dX11_clause_24 (by decide) (fun c => ?_) (fun c => ?_)
      · replace h := h.1 ((bi_0 _).mp c)
        refine ev_aload_n dX11_clause_29 rfl ?_
        refine ev_getA dX11_clause_30 fl_WithoutEModel_19 lm_0 rfl ?_
        refine ev_aload_n dX11_clause_33 rfl ?_
        refine ev_getI dX11_clause_34 fl_WithoutEModel_157 lm_0 rfl ?_
        obtain ⟨c, h⟩ := h
        refine ev_iald dX11_clause_37 lm_4 c ?_
        refine ev_istore_n (ls2 := [some (.ref 0), some (.int s0), some (.int (M.1 4 (M.1 0 13).toNatClampNeg)), none, none]) dX11_clause_38 (Nat.le_of_ble_eq_true rfl) rfl ?_
        generalize ev2 : M.1 4 (M.1 0 13).toNatClampNeg = v2
        replace h := h v2 ev2.symm
        refine ev_iload_n dX11_clause_39 rfl ?_
        refine ev_bipush (v := 24) dX11_clause_40 (by decide) ?_
        refine ev_icmp_ne (tgt := 48) dX11_clause_42 (by decide) (fun c => ?_) (fun c => ?_)
        · replace h := h.1 c
          refine ev_iload_n dX11_clause_48 rfl ?_
          refine ev_iconst (v := 2) dX11_clause_49 (by decide) ?_
          refine ev_icmp_gt (tgt := 65) dX11_clause_50 (by decide) (fun c => ?_) (fun c => ?_)
          · replace h := h.1 c
            refine ev_aload_n dX11_clause_65 rfl ?_
            refine ev_iload_n dX11_clause_66 rfl ?_
            refine ev_putI dX11_clause_67 fp_WithoutEModel_171 lm_0 rfl rfl rfl ?_
            generalize eM4 : ev_wr M 0 15 s0 = M4
            replace h := h M4 eM4.symm
            refine ev_aload_n dX11_clause_70 rfl ?_
            obtain ⟨Q2, hc, h⟩ := h
            refine ev_callV [] dX11_clause_71 ml_WithoutEModel_194 lm_0 rfl rfl (Nat.le_of_ble_eq_true rfl) hc (fun zr zM q => ?_)
            exact h zr zM q
          · replace h := h.2 c
            refine ev_aload_n dX11_clause_53 rfl ?_
            refine ev_dup dX11_clause_54 rfl ?_
            refine ev_getI dX11_clause_55 fl_WithoutEModel_268 lm_0 rfl ?_
            refine ev_iconst (v := 1) dX11_clause_58 (by decide) ?_
            refine ev_iload_n dX11_clause_59 rfl ?_
            refine ev_ishl dX11_clause_60 ?_
            refine ev_ior dX11_clause_61 ?_
            refine ev_putI dX11_clause_62 fp_WithoutEModel_268 lm_0 rfl rfl rfl ?_
            generalize eM5 : ev_wr M 0 20 ((M.1 0 20) ||| (1 <<< (s0 &&& 31))) = M5
            replace h := h M5 eM5.symm
            refine ev_aload_n dX11_clause_65 rfl ?_
            refine ev_iload_n dX11_clause_66 rfl ?_
            refine ev_putI dX11_clause_67 fp_WithoutEModel_171 lm_0 rfl rfl rfl ?_
            generalize eM6 : ev_wr M5 0 15 s0 = M6
            replace h := h M6 eM6.symm
            refine ev_aload_n dX11_clause_70 rfl ?_
            obtain ⟨Q2, hc, h⟩ := h
            refine ev_callV [] dX11_clause_71 ml_WithoutEModel_194 lm_0 rfl rfl (Nat.le_of_ble_eq_true rfl) hc (fun zr zM q => ?_)
            exact h zr zM q
        · replace h := h.2 c
          refine ev_bipush (v := 6) dX11_clause_45 (by decide) ?_
          exact ev_iret dX11_clause_47 rfl h
      · replace h := h.2 ((bi_n0 _).mp c)
        refine ev_iconst (v := 4) dX11_clause_27 (by decide) ?_
        exact ev_iret dX11_clause_28 rfl h
  · replace h := h.2 c
    refine ev_iconst (v := 1) dX11_clause_9 (by decide) ?_
    exact ev_iret dX11_clause_10 rfl h
theorem gX11_clause_74 {d : Nat} {M : ev_Mem} {Q : Option Value → ev_Mem → Prop} {x1 x2 : Int32} (h : (∀ v1 : Int32, v1 = ((M.1 0 13) + 1) + (14 * x2) → (vp_in v1 3780 ∧ (∀ M1 : ev_Mem, M1 = ev_wr M 4 v1.toNatClampNeg x1 → (∃ Q2 : Option Value → ev_Mem → Prop, Cl LM d mX11_body [.ref 0, .int x1, .int v1] M1 Q2 ∧ ∀ (zr : Option Value) (zM : ev_Mem), Q2 zr zM → Ev LM (d + 1) mX11_clause 99 [some (.ref 0), none, none, none, none] (zr.toList ++ []) zM Q))))) : Ev LM (d + 1) mX11_clause 74 [some (.ref 0), some (.int x1), some (.int x2), none, none] [] M Q := by
  refine ev_aload_n dX11_clause_74 rfl ?_
  refine ev_getI dX11_clause_75 fl_WithoutEModel_157 lm_0 rfl ?_
  refine ev_iconst (v := 1) dX11_clause_78 (by decide) ?_
  refine ev_iadd dX11_clause_79 ?_
  refine ev_bipush (v := 14) dX11_clause_80 (by decide) ?_
  refine ev_iload_n dX11_clause_82 rfl ?_
  refine ev_imul dX11_clause_83 ?_
  refine ev_iadd dX11_clause_84 ?_
  refine ev_istore_n (ls2 := [some (.ref 0), some (.int x1), some (.int x2), some (.int (((M.1 0 13) + 1) + (14 * x2))), none]) dX11_clause_85 (Nat.le_of_ble_eq_true rfl) rfl ?_
  generalize ev1 : ((M.1 0 13) + 1) + (14 * x2) = v1
  replace h := h v1 ev1.symm
  refine ev_aload_n dX11_clause_86 rfl ?_
  refine ev_getA dX11_clause_87 fl_WithoutEModel_19 lm_0 rfl ?_
  refine ev_iload_n dX11_clause_90 rfl ?_
  refine ev_iload_n dX11_clause_91 rfl ?_
  obtain ⟨c, h⟩ := h
  refine ev_iast dX11_clause_92 lm_4 c ?_
  generalize eM1 : ev_wr M 4 v1.toNatClampNeg x1 = M1
  replace h := h M1 eM1.symm
  refine ev_aload_n dX11_clause_93 rfl ?_
  refine ev_iload_n dX11_clause_94 rfl ?_
  refine ev_iload_n dX11_clause_95 rfl ?_
  obtain ⟨Q2, hc, h⟩ := h
  refine ev_callV [.int x1, .int v1] dX11_clause_96 ml_WithoutEModel_271 lm_0 rfl rfl (Nat.le_of_ble_eq_true rfl) hc (fun zr zM q => ?_)
  refine Ev.weak (ls := [some (.ref 0), none, none, none, none]) ⟨rfl, trivial⟩ ?_
  exact h zr zM q
theorem gX11_clause_99 {d : Nat} {M : ev_Mem} {Q : Option Value → ev_Mem → Prop} {s0 : Int32} (h : (((s0 = 0) → (vp_in (M.1 0 13) 3780 ∧ (vp_in (M.1 0 13) 3780 ∧ (∀ M1 : ev_Mem, M1 = ev_wr M 4 (M.1 0 13).toNatClampNeg ((M.1 4 (M.1 0 13).toNatClampNeg) + 1) → ((((M1.1 0 10) = 59) → (∃ Q2 : Option Value → ev_Mem → Prop, Cl LM d mX11_nextToken [.ref 0] M1 Q2 ∧ ∀ (zr : Option Value) (zM : ev_Mem), Q2 zr zM → Ev LM (d + 1) mX11_clause 137 [none, none, none, none, none] (zr.toList ++ []) zM Q)) ∧ ((¬ (M1.1 0 10) = 59) → (Q (some (.int 1)) M1))))))) ∧ ((¬ s0 = 0) → (Q (some (.int s0)) M)))) : Ev LM (d + 1) mX11_clause 99 [some (.ref 0), none, none, none, none] [(.int s0)] M Q := by
  refine ev_istore (ls2 := [some (.ref 0), none, none, none, some (.int s0)]) dX11_clause_99 (Nat.le_of_ble_eq_true rfl) rfl ?_
  refine ev_iload dX11_clause_101 rfl ?_
  refine ev_if_eq (tgt := 109) dX11_clause_103 (by decide) (fun c => ?_) (fun c => ?_)
  · replace h := h.1 c
    refine ev_aload_n dX11_clause_109 rfl ?_
    refine ev_getA dX11_clause_110 fl_WithoutEModel_19 lm_0 rfl ?_
    refine ev_aload_n dX11_clause_113 rfl ?_
    refine ev_getI dX11_clause_114 fl_WithoutEModel_157 lm_0 rfl ?_
    refine ev_dup2 dX11_clause_117 rfl rfl ?_
    obtain ⟨c, h⟩ := h
    refine ev_iald dX11_clause_118 lm_4 c ?_
    refine ev_iconst (v := 1) dX11_clause_119 (by decide) ?_
    refine ev_iadd dX11_clause_120 ?_
    obtain ⟨c, h⟩ := h
    refine ev_iast dX11_clause_121 lm_4 c ?_
    generalize eM1 : ev_wr M 4 (M.1 0 13).toNatClampNeg ((M.1 4 (M.1 0 13).toNatClampNeg) + 1) = M1
    replace h := h M1 eM1.symm
    refine ev_aload_n dX11_clause_122 rfl ?_
    refine ev_getI dX11_clause_123 fl_WithoutEModel_119 lm_0 rfl ?_
    refine ev_bipush (v := 59) dX11_clause_126 (by decide) ?_
    refine ev_icmp_eq (tgt := 133) dX11_clause_128 (by decide) (fun c => ?_) (fun c => ?_)
    · replace h := h.1 c
      refine ev_aload_n dX11_clause_133 rfl ?_
      obtain ⟨Q2, hc, h⟩ := h
      refine ev_callV [] dX11_clause_134 ml_WithoutEModel_194 lm_0 rfl rfl (Nat.le_of_ble_eq_true rfl) hc (fun zr zM q => ?_)
      refine Ev.weak (ls := [none, none, none, none, none]) trivial ?_
      exact h zr zM q
    · replace h := h.2 c
      refine ev_iconst (v := 1) dX11_clause_131 (by decide) ?_
      exact ev_iret dX11_clause_132 rfl h
  · replace h := h.2 c
    refine ev_iload dX11_clause_106 rfl ?_
    exact ev_iret dX11_clause_108 rfl h
theorem gX11_clause_137 {d : Nat} {M : ev_Mem} {Q : Option Value → ev_Mem → Prop} (h : (Q (some (.int 0)) M)) : Ev LM d mX11_clause 137 [none, none, none, none, none] [] M Q := by
  refine ev_iconst (v := 0) dX11_clause_137 (by decide) ?_
  exact ev_iret dX11_clause_138 rfl h
theorem dX11_readText_0 : decode cX11_readText 0 = .ok (.aload_n 0, 1) := by decide +kernel
theorem dX11_readText_1 : decode cX11_readText 1 = .ok (.sipush 945, 3) := by decide +kernel
theorem dX11_readText_4 : decode cX11_readText 4 = .ok (.aload_n 0, 1) := by decide +kernel
theorem dX11_readText_5 : decode cX11_readText 5 = .ok (.getfield 7, 3) := by decide +kernel
theorem dX11_readText_8 : decode cX11_readText 8 = .ok (.iconst 2, 1) := by decide +kernel
theorem dX11_readText_9 : decode cX11_readText 9 = .ok (.iaload, 1) := by decide +kernel
theorem dX11_readText_10 : decode cX11_readText 10 = .ok (.imul, 1) := by decide +kernel
theorem dX11_readText_11 : decode cX11_readText 11 = .ok (.putfield 157, 3) := by decide +kernel
theorem dX11_readText_14 : decode cX11_readText 14 = .ok (.aload_n 0, 1) := by decide +kernel
theorem dX11_readText_15 : decode cX11_readText 15 = .ok (.getfield 19, 3) := by decide +kernel
theorem dX11_readText_18 : decode cX11_readText 18 = .ok (.aload_n 0, 1) := by decide +kernel
theorem dX11_readText_19 : decode cX11_readText 19 = .ok (.getfield 157, 3) := by decide +kernel
theorem dX11_readText_22 : decode cX11_readText 22 = .ok (.iconst 0, 1) := by decide +kernel
theorem dX11_readText_23 : decode cX11_readText 23 = .ok (.iastore, 1) := by decide +kernel
theorem dX11_readText_24 : decode cX11_readText 24 = .ok (.aload_n 0, 1) := by decide +kernel
theorem dX11_readText_25 : decode cX11_readText 25 = .ok (.iconst 0, 1) := by decide +kernel
theorem dX11_readText_26 : decode cX11_readText 26 = .ok (.putfield 160, 3) := by decide +kernel
theorem dX11_readText_29 : decode cX11_readText 29 = .ok (.aload_n 0, 1) := by decide +kernel
theorem dX11_readText_30 : decode cX11_readText 30 = .ok (.iconst 0, 1) := by decide +kernel
theorem dX11_readText_31 : decode cX11_readText 31 = .ok (.putfield 268, 3) := by decide +kernel
theorem dX11_readText_34 : decode cX11_readText 34 = .ok (.aload_n 0, 1) := by decide +kernel
theorem dX11_readText_35 : decode cX11_readText 35 = .ok (.iconst 0, 1) := by decide +kernel
theorem dX11_readText_36 : decode cX11_readText 36 = .ok (.putfield 110, 3) := by decide +kernel
theorem dX11_readText_39 : decode cX11_readText 39 = .ok (.aload_n 0, 1) := by decide +kernel
theorem dX11_readText_40 : decode cX11_readText 40 = .ok (.invokevirtual 194, 3) := by decide +kernel
theorem dX11_readText_43 : decode cX11_readText 43 = .ok (.aload_n 0, 1) := by decide +kernel
theorem dX11_readText_44 : decode cX11_readText 44 = .ok (.getfield 119, 3) := by decide +kernel
theorem dX11_readText_47 : decode cX11_readText 47 = .ok (.ifCond .eq 17, 3) := by decide +kernel
theorem dX11_readText_50 : decode cX11_readText 50 = .ok (.aload_n 0, 1) := by decide +kernel
theorem dX11_readText_51 : decode cX11_readText 51 = .ok (.invokevirtual 274, 3) := by decide +kernel
theorem dX11_readText_54 : decode cX11_readText 54 = .ok (.istore_n 1, 1) := by decide +kernel
theorem dX11_readText_55 : decode cX11_readText 55 = .ok (.iload_n 1, 1) := by decide +kernel
theorem dX11_readText_56 : decode cX11_readText 56 = .ok (.ifCond .eq 5, 3) := by decide +kernel
theorem dX11_readText_59 : decode cX11_readText 59 = .ok (.iload_n 1, 1) := by decide +kernel
theorem dX11_readText_60 : decode cX11_readText 60 = .ok (.ireturn, 1) := by decide +kernel
theorem dX11_readText_61 : decode cX11_readText 61 = .ok (.goto (-18), 3) := by decide +kernel
theorem dX11_readText_64 : decode cX11_readText 64 = .ok (.iconst 0, 1) := by decide +kernel
theorem dX11_readText_65 : decode cX11_readText 65 = .ok (.ireturn, 1) := by decide +kernel
theorem gX11_readText_0 {d : Nat} {M : ev_Mem} {Q : Option Value → ev_Mem → Prop} (h : (∀ M1 : ev_Mem, M1 = ev_wr M 0 13 (945 * (M.1 1 2)) → (vp_in (M1.1 0 13) 3780 ∧ (∀ M2 : ev_Mem, M2 = ev_wr M1 4 (M1.1 0 13).toNatClampNeg 0 → (∀ M3 : ev_Mem, M3 = ev_wr M2 0 14 0 → (∀ M4 : ev_Mem, M4 = ev_wr M3 0 20 0 → (∀ M5 : ev_Mem, M5 = ev_wr M4 0 8 0 → (∃ Q2 : Option Value → ev_Mem → Prop, Cl LM d mX11_nextToken [.ref 0] M5 Q2 ∧ ∀ (zr : Option Value) (zM : ev_Mem), Q2 zr zM → Ev LM (d + 1) mX11_readText 43 [some (.ref 0), none] (zr.toList ++ []) zM Q)))))))) : Ev LM (d + 1) mX11_readText 0 [some (.ref 0), none] [] M Q := by
  refine ev_aload_n dX11_readText_0 rfl ?_
  refine ev_sipush (v := 945) dX11_readText_1 (by decide) ?_
  refine ev_aload_n dX11_readText_4 rfl ?_
  refine ev_getA dX11_readText_5 fl_WithoutEModel_7 lm_0 rfl ?_
  refine ev_iconst (v := 2) dX11_readText_8 (by decide) ?_
  refine ev_iaN (j := 2) dX11_readText_9 lm_1 (by decide) (by decide) ?_
  refine ev_imul dX11_readText_10 ?_
  refine ev_putI dX11_readText_11 fp_WithoutEModel_157 lm_0 rfl rfl rfl ?_
  generalize eM1 : ev_wr M 0 13 (945 * (M.1 1 2)) = M1
  replace h := h M1 eM1.symm
  refine ev_aload_n dX11_readText_14 rfl ?_
  refine ev_getA dX11_readText_15 fl_WithoutEModel_19 lm_0 rfl ?_
  refine ev_aload_n dX11_readText_18 rfl ?_
  refine ev_getI dX11_readText_19 fl_WithoutEModel_157 lm_0 rfl ?_
  refine ev_iconst (v := 0) dX11_readText_22 (by decide) ?_
  obtain ⟨c, h⟩ := h
  refine ev_iast dX11_readText_23 lm_4 c ?_
  generalize eM2 : ev_wr M1 4 (M1.1 0 13).toNatClampNeg 0 = M2
  replace h := h M2 eM2.symm
  refine ev_aload_n dX11_readText_24 rfl ?_
  refine ev_iconst (v := 0) dX11_readText_25 (by decide) ?_
  refine ev_putI dX11_readText_26 fp_WithoutEModel_160 lm_0 rfl rfl rfl ?_
  generalize eM3 : ev_wr M2 0 14 0 = M3
  replace h := h M3 eM3.symm
  refine ev_aload_n dX11_readText_29 rfl ?_
  refine ev_iconst (v := 0) dX11_readText_30 (by decide) ?_
  refine ev_putI dX11_readText_31 fp_WithoutEModel_268 lm_0 rfl rfl rfl ?_
  generalize eM4 : ev_wr M3 0 20 0 = M4
  replace h := h M4 eM4.symm
  refine ev_aload_n dX11_readText_34 rfl ?_
  refine ev_iconst (v := 0) dX11_readText_35 (by decide) ?_
  refine ev_putI dX11_readText_36 fp_WithoutEModel_110 lm_0 rfl rfl rfl ?_
  generalize eM5 : ev_wr M4 0 8 0 = M5
  replace h := h M5 eM5.symm
  refine ev_aload_n dX11_readText_39 rfl ?_
  obtain ⟨Q2, hc, h⟩ := h
  refine ev_callV [] dX11_readText_40 ml_WithoutEModel_194 lm_0 rfl rfl (Nat.le_of_ble_eq_true rfl) hc (fun zr zM q => ?_)
  exact h zr zM q
theorem gX11_readText_43 {d : Nat} {M : ev_Mem} {Q : Option Value → ev_Mem → Prop} (h : ((((M.1 0 10) = 0) → (Q (some (.int 0)) M)) ∧ ((¬ (M.1 0 10) = 0) → (∃ Q2 : Option Value → ev_Mem → Prop, Cl LM d mX11_clause [.ref 0] M Q2 ∧ ∀ (zr : Option Value) (zM : ev_Mem), Q2 zr zM → Ev LM (d + 1) mX11_readText 54 [some (.ref 0), none] (zr.toList ++ []) zM Q)))) : Ev LM (d + 1) mX11_readText 43 [some (.ref 0), none] [] M Q := by
  refine ev_aload_n dX11_readText_43 rfl ?_
  refine ev_getI dX11_readText_44 fl_WithoutEModel_119 lm_0 rfl ?_
  refine ev_if_eq (tgt := 64) dX11_readText_47 (by decide) (fun c => ?_) (fun c => ?_)
  · replace h := h.1 c
    refine ev_iconst (v := 0) dX11_readText_64 (by decide) ?_
    exact ev_iret dX11_readText_65 rfl h
  · replace h := h.2 c
    refine ev_aload_n dX11_readText_50 rfl ?_
    obtain ⟨Q2, hc, h⟩ := h
    refine ev_callV [] dX11_readText_51 ml_WithoutEModel_274 lm_0 rfl rfl (Nat.le_of_ble_eq_true rfl) hc (fun zr zM q => ?_)
    exact h zr zM q
theorem gX11_readText_54 {d : Nat} {M : ev_Mem} {Q : Option Value → ev_Mem → Prop} {s0 : Int32} (h : (((s0 = 0) → (Ev LM d mX11_readText 43 [some (.ref 0), none] [] M Q)) ∧ ((¬ s0 = 0) → (Q (some (.int s0)) M)))) : Ev LM d mX11_readText 54 [some (.ref 0), none] [(.int s0)] M Q := by
  refine ev_istore_n (ls2 := [some (.ref 0), some (.int s0)]) dX11_readText_54 (Nat.le_of_ble_eq_true rfl) rfl ?_
  refine ev_iload_n dX11_readText_55 rfl ?_
  refine ev_if_eq (tgt := 61) dX11_readText_56 (by decide) (fun c => ?_) (fun c => ?_)
  · replace h := h.1 c
    refine ev_goto (tgt := 43) dX11_readText_61 (by decide) ?_
    refine Ev.weak (ls := [some (.ref 0), none]) ⟨rfl, trivial⟩ ?_
    exact h
  · replace h := h.2 c
    refine ev_iload_n dX11_readText_59 rfl ?_
    exact ev_iret dX11_readText_60 rfl h
theorem dX11_text_0 : decode cX11_text 0 = .ok (.aload_n 0, 1) := by decide +kernel
theorem dX11_text_1 : decode cX11_text 1 = .ok (.getfield 7, 3) := by decide +kernel
theorem dX11_text_4 : decode cX11_text 4 = .ok (.iconst 2, 1) := by decide +kernel
theorem dX11_text_5 : decode cX11_text 5 = .ok (.iaload, 1) := by decide +kernel
theorem dX11_text_6 : decode cX11_text 6 = .ok (.iconst 4, 1) := by decide +kernel
theorem dX11_text_7 : decode cX11_text 7 = .ok (.if_icmp .ne 5, 3) := by decide +kernel
theorem dX11_text_10 : decode cX11_text 10 = .ok (.iconst (-1), 1) := by decide +kernel
theorem dX11_text_11 : decode cX11_text 11 = .ok (.ireturn, 1) := by decide +kernel
theorem dX11_text_12 : decode cX11_text 12 = .ok (.aload_n 0, 1) := by decide +kernel
theorem dX11_text_13 : decode cX11_text 13 = .ok (.aload_n 0, 1) := by decide +kernel
theorem dX11_text_14 : decode cX11_text 14 = .ok (.invokevirtual 277, 3) := by decide +kernel
theorem dX11_text_17 : decode cX11_text 17 = .ok (.putfield 25, 3) := by decide +kernel
theorem dX11_text_20 : decode cX11_text 20 = .ok (.aload_n 0, 1) := by decide +kernel
theorem dX11_text_21 : decode cX11_text 21 = .ok (.aload_n 0, 1) := by decide +kernel
theorem dX11_text_22 : decode cX11_text 22 = .ok (.getfield 25, 3) := by decide +kernel
theorem dX11_text_25 : decode cX11_text 25 = .ok (.ifCond .ne 7, 3) := by decide +kernel
theorem dX11_text_28 : decode cX11_text 28 = .ok (.iconst (-1), 1) := by decide +kernel
theorem dX11_text_29 : decode cX11_text 29 = .ok (.goto 7, 3) := by decide +kernel
theorem dX11_text_32 : decode cX11_text 32 = .ok (.aload_n 0, 1) := by decide +kernel
theorem dX11_text_33 : decode cX11_text 33 = .ok (.getfield 116, 3) := by decide +kernel
theorem dX11_text_36 : decode cX11_text 36 = .ok (.putfield 29, 3) := by decide +kernel
theorem dX11_text_39 : decode cX11_text 39 = .ok (.aload_n 0, 1) := by decide +kernel
theorem dX11_text_40 : decode cX11_text 40 = .ok (.iconst 0, 1) := by decide +kernel
theorem dX11_text_41 : decode cX11_text 41 = .ok (.putfield 103, 3) := by decide +kernel
theorem dX11_text_44 : decode cX11_text 44 = .ok (.aload_n 0, 1) := by decide +kernel
theorem dX11_text_45 : decode cX11_text 45 = .ok (.getfield 25, 3) := by decide +kernel
theorem dX11_text_48 : decode cX11_text 48 = .ok (.ifCond .eq 5, 3) := by decide +kernel
theorem dX11_text_51 : decode cX11_text 51 = .ok (.iconst (-1), 1) := by decide +kernel
theorem dX11_text_52 : decode cX11_text 52 = .ok (.ireturn, 1) := by decide +kernel
theorem dX11_text_53 : decode cX11_text 53 = .ok (.aload_n 0, 1) := by decide +kernel
theorem dX11_text_54 : decode cX11_text 54 = .ok (.getfield 7, 3) := by decide +kernel
theorem dX11_text_57 : decode cX11_text 57 = .ok (.iconst 2, 1) := by decide +kernel
theorem dX11_text_58 : decode cX11_text 58 = .ok (.dup2, 1) := by decide +kernel
theorem dX11_text_59 : decode cX11_text 59 = .ok (.iaload, 1) := by decide +kernel
theorem dX11_text_60 : decode cX11_text 60 = .ok (.iconst 1, 1) := by decide +kernel
theorem dX11_text_61 : decode cX11_text 61 = .ok (.iadd, 1) := by decide +kernel
theorem dX11_text_62 : decode cX11_text 62 = .ok (.iastore, 1) := by decide +kernel
theorem dX11_text_63 : decode cX11_text 63 = .ok (.aload_n 0, 1) := by decide +kernel
theorem dX11_text_64 : decode cX11_text 64 = .ok (.getfield 7, 3) := by decide +kernel
theorem dX11_text_67 : decode cX11_text 67 = .ok (.iconst 2, 1) := by decide +kernel
theorem dX11_text_68 : decode cX11_text 68 = .ok (.iaload, 1) := by decide +kernel
theorem dX11_text_69 : decode cX11_text 69 = .ok (.iconst 1, 1) := by decide +kernel
theorem dX11_text_70 : decode cX11_text 70 = .ok (.isub, 1) := by decide +kernel
theorem dX11_text_71 : decode cX11_text 71 = .ok (.ireturn, 1) := by decide +kernel
theorem gX11_text_0 {d : Nat} {M : ev_Mem} {Q : Option Value → ev_Mem → Prop} (h : (((¬ (M.1 1 2) = 4) → (∃ Q2 : Option Value → ev_Mem → Prop, Cl LM d mX11_readText [.ref 0] M Q2 ∧ ∀ (zr : Option Value) (zM : ev_Mem), Q2 zr zM → Ev LM (d + 1) mX11_text 17 [some (.ref 0)] (zr.toList ++ [(.ref 0)]) zM Q)) ∧ (((M.1 1 2) = 4) → (Q (some (.int (-1))) M)))) : Ev LM (d + 1) mX11_text 0 [some (.ref 0)] [] M Q := by
  refine ev_aload_n dX11_text_0 rfl ?_
  refine ev_getA dX11_text_1 fl_WithoutEModel_7 lm_0 rfl ?_
  refine ev_iconst (v := 2) dX11_text_4 (by decide) ?_
  refine ev_iaN (j := 2) dX11_text_5 lm_1 (by decide) (by decide) ?_
  refine ev_iconst (v := 4) dX11_text_6 (by decide) ?_
  refine ev_icmp_ne (tgt := 12) dX11_text_7 (by decide) (fun c => ?_) (fun c => ?_)
  · replace h := h.1 c
    refine ev_aload_n dX11_text_12 rfl ?_
    refine ev_aload_n dX11_text_13 rfl ?_
    obtain ⟨Q2, hc, h⟩ := h
    refine ev_callV [] dX11_text_14 ml_WithoutEModel_277 lm_0 rfl rfl (Nat.le_of_ble_eq_true rfl) hc (fun zr zM q => ?_)
    exact h zr zM q
  · replace h := h.2 c
    refine ev_iconst (v := -1) dX11_text_10 (by decide) ?_
    exact ev_iret dX11_text_11 rfl h
theorem gX11_text_17 {d : Nat} {M : ev_Mem} {Q : Option Value → ev_Mem → Prop} {s0 : Int32} (h : (∀ M1 : ev_Mem, M1 = ev_wr M 0 6 s0 → (((¬ (M1.1 0 6) = 0) → (∀ M2 : ev_Mem, M2 = ev_wr M1 0 7 (M1.1 0 9) → (∀ M3 : ev_Mem, M3 = ev_wr M2 0 5 0 → ((((M3.1 0 6) = 0) → (∀ M4 : ev_Mem, M4 = ev_wr M3 1 2 ((M3.1 1 2) + 1) → (Q (some (.int ((M4.1 1 2) - 1))) M4))) ∧ ((¬ (M3.1 0 6) = 0) → (Q (some (.int (-1))) M3)))))) ∧ (((M1.1 0 6) = 0) → (∀ M5 : ev_Mem, M5 = ev_wr M1 0 7 (-1) → (∀ M6 : ev_Mem, M6 = ev_wr M5 0 5 0 → ((((M6.1 0 6) = 0) → (∀ M7 : ev_Mem, M7 = ev_wr M6 1 2 ((M6.1 1 2) + 1) → (Q (some (.int ((M7.1 1 2) - 1))) M7))) ∧ ((¬ (M6.1 0 6) = 0) → (Q (some (.int (-1))) M6))))))))) : Ev LM d mX11_text 17 [some (.ref 0)] [(.int s0), (.ref 0)] M Q := by
  refine ev_putI dX11_text_17 fp_WithoutEModel_25 lm_0 rfl rfl rfl ?_
  generalize eM1 : ev_wr M 0 6 s0 = M1
  replace h := h M1 eM1.symm
  refine ev_aload_n dX11_text_20 rfl ?_
  refine ev_aload_n dX11_text_21 rfl ?_
  refine ev_getI dX11_text_22 fl_WithoutEModel_25 lm_0 rfl ?_
  refine ev_if_ne (tgt := 32) dX11_text_25 (by decide) (fun c => ?_) (fun c => ?_)
  · replace h := h.1 c
    refine ev_aload_n dX11_text_32 rfl ?_
    refine ev_getI dX11_text_33 fl_WithoutEModel_116 lm_0 rfl ?_
    refine ev_putI dX11_text_36 fp_WithoutEModel_29 lm_0 rfl rfl rfl ?_
    generalize eM2 : ev_wr M1 0 7 (M1.1 0 9) = M2
    replace h := h M2 eM2.symm
    refine ev_aload_n dX11_text_39 rfl ?_
    refine ev_iconst (v := 0) dX11_text_40 (by decide) ?_
    refine ev_putI dX11_text_41 fp_WithoutEModel_103 lm_0 rfl rfl rfl ?_
    generalize eM3 : ev_wr M2 0 5 0 = M3
    replace h := h M3 eM3.symm
    refine ev_aload_n dX11_text_44 rfl ?_
    refine ev_getI dX11_text_45 fl_WithoutEModel_25 lm_0 rfl ?_
    refine ev_if_eq (tgt := 53) dX11_text_48 (by decide) (fun c => ?_) (fun c => ?_)
    · replace h := h.1 c
      refine ev_aload_n dX11_text_53 rfl ?_
      refine ev_getA dX11_text_54 fl_WithoutEModel_7 lm_0 rfl ?_
      refine ev_iconst (v := 2) dX11_text_57 (by decide) ?_
      refine ev_dup2 dX11_text_58 rfl rfl ?_
      refine ev_iaN (j := 2) dX11_text_59 lm_1 (by decide) (by decide) ?_
      refine ev_iconst (v := 1) dX11_text_60 (by decide) ?_
      refine ev_iadd dX11_text_61 ?_
      refine ev_isN (j := 2) dX11_text_62 lm_1 (by decide) (by decide) ?_
      generalize eM4 : ev_wr M3 1 2 ((M3.1 1 2) + 1) = M4
      replace h := h M4 eM4.symm
      refine ev_aload_n dX11_text_63 rfl ?_
      refine ev_getA dX11_text_64 fl_WithoutEModel_7 lm_0 rfl ?_
      refine ev_iconst (v := 2) dX11_text_67 (by decide) ?_
      refine ev_iaN (j := 2) dX11_text_68 lm_1 (by decide) (by decide) ?_
      refine ev_iconst (v := 1) dX11_text_69 (by decide) ?_
      refine ev_isub dX11_text_70 ?_
      exact ev_iret dX11_text_71 rfl h
    · replace h := h.2 c
      refine ev_iconst (v := -1) dX11_text_51 (by decide) ?_
      exact ev_iret dX11_text_52 rfl h
  · replace h := h.2 c
    refine ev_iconst (v := -1) dX11_text_28 (by decide) ?_
    refine ev_goto (tgt := 36) dX11_text_29 (by decide) ?_
    refine ev_putI dX11_text_36 fp_WithoutEModel_29 lm_0 rfl rfl rfl ?_
    generalize eM5 : ev_wr M1 0 7 (-1) = M5
    replace h := h M5 eM5.symm
    refine ev_aload_n dX11_text_39 rfl ?_
    refine ev_iconst (v := 0) dX11_text_40 (by decide) ?_
    refine ev_putI dX11_text_41 fp_WithoutEModel_103 lm_0 rfl rfl rfl ?_
    generalize eM6 : ev_wr M5 0 5 0 = M6
    replace h := h M6 eM6.symm
    refine ev_aload_n dX11_text_44 rfl ?_
    refine ev_getI dX11_text_45 fl_WithoutEModel_25 lm_0 rfl ?_
    refine ev_if_eq (tgt := 53) dX11_text_48 (by decide) (fun c => ?_) (fun c => ?_)
    · replace h := h.1 c
      refine ev_aload_n dX11_text_53 rfl ?_
      refine ev_getA dX11_text_54 fl_WithoutEModel_7 lm_0 rfl ?_
      refine ev_iconst (v := 2) dX11_text_57 (by decide) ?_
      refine ev_dup2 dX11_text_58 rfl rfl ?_
      refine ev_iaN (j := 2) dX11_text_59 lm_1 (by decide) (by decide) ?_
      refine ev_iconst (v := 1) dX11_text_60 (by decide) ?_
      refine ev_iadd dX11_text_61 ?_
      refine ev_isN (j := 2) dX11_text_62 lm_1 (by decide) (by decide) ?_
      generalize eM7 : ev_wr M6 1 2 ((M6.1 1 2) + 1) = M7
      replace h := h M7 eM7.symm
      refine ev_aload_n dX11_text_63 rfl ?_
      refine ev_getA dX11_text_64 fl_WithoutEModel_7 lm_0 rfl ?_
      refine ev_iconst (v := 2) dX11_text_67 (by decide) ?_
      refine ev_iaN (j := 2) dX11_text_68 lm_1 (by decide) (by decide) ?_
      refine ev_iconst (v := 1) dX11_text_69 (by decide) ?_
      refine ev_isub dX11_text_70 ?_
      exact ev_iret dX11_text_71 rfl h
    · replace h := h.2 c
      refine ev_iconst (v := -1) dX11_text_51 (by decide) ?_
      exact ev_iret dX11_text_52 rfl h
theorem dX10_text_0 : decode cX10_text 0 = .ok (.aload_n 0, 1) := by decide +kernel
theorem dX10_text_1 : decode cX10_text 1 = .ok (.getfield 33, 3) := by decide +kernel
theorem dX10_text_4 : decode cX10_text 4 = .ok (.getfield 110, 3) := by decide +kernel
theorem dX10_text_7 : decode cX10_text 7 = .ok (.istore_n 1, 1) := by decide +kernel
theorem dX10_text_8 : decode cX10_text 8 = .ok (.iload_n 1, 1) := by decide +kernel
theorem dX10_text_9 : decode cX10_text 9 = .ok (.ifCond .lt 8, 3) := by decide +kernel
theorem dX10_text_12 : decode cX10_text 12 = .ok (.iload_n 1, 1) := by decide +kernel
theorem dX10_text_13 : decode cX10_text 13 = .ok (.iconst 4, 1) := by decide +kernel
theorem dX10_text_14 : decode cX10_text 14 = .ok (.if_icmp .lt 5, 3) := by decide +kernel
theorem dX10_text_17 : decode cX10_text 17 = .ok (.iconst (-1), 1) := by decide +kernel
theorem dX10_text_18 : decode cX10_text 18 = .ok (.ireturn, 1) := by decide +kernel
theorem dX10_text_19 : decode cX10_text 19 = .ok (.aload_n 0, 1) := by decide +kernel
theorem dX10_text_20 : decode cX10_text 20 = .ok (.getfield 48, 3) := by decide +kernel
theorem dX10_text_23 : decode cX10_text 23 = .ok (.aload_n 0, 1) := by decide +kernel
theorem dX10_text_24 : decode cX10_text 24 = .ok (.getfield 39, 3) := by decide +kernel
theorem dX10_text_27 : decode cX10_text 27 = .ok (.iload_n 1, 1) := by decide +kernel
theorem dX10_text_28 : decode cX10_text 28 = .ok (.aaload, 1) := by decide +kernel
theorem dX10_text_29 : decode cX10_text 29 = .ok (.invokevirtual 112, 3) := by decide +kernel
theorem dX10_text_32 : decode cX10_text 32 = .ok (.istore_n 2, 1) := by decide +kernel
theorem dX10_text_33 : decode cX10_text 33 = .ok (.aload_n 0, 1) := by decide +kernel
theorem dX10_text_34 : decode cX10_text 34 = .ok (.getfield 10, 3) := by decide +kernel
theorem dX10_text_37 : decode cX10_text 37 = .ok (.iconst 0, 1) := by decide +kernel
theorem dX10_text_38 : decode cX10_text 38 = .ok (.putfield 102, 3) := by decide +kernel
theorem dX10_text_41 : decode cX10_text 41 = .ok (.iload_n 2, 1) := by decide +kernel
theorem dX10_text_42 : decode cX10_text 42 = .ok (.ifCond .ne 5, 3) := by decide +kernel
theorem dX10_text_45 : decode cX10_text 45 = .ok (.iconst (-1), 1) := by decide +kernel
theorem dX10_text_46 : decode cX10_text 46 = .ok (.ireturn, 1) := by decide +kernel
theorem dX10_text_47 : decode cX10_text 47 = .ok (.aload_n 0, 1) := by decide +kernel
theorem dX10_text_48 : decode cX10_text 48 = .ok (.getfield 33, 3) := by decide +kernel
theorem dX10_text_51 : decode cX10_text 51 = .ok (.iload_n 1, 1) := by decide +kernel
theorem dX10_text_52 : decode cX10_text 52 = .ok (.iconst 1, 1) := by decide +kernel
theorem dX10_text_53 : decode cX10_text 53 = .ok (.iadd, 1) := by decide +kernel
theorem dX10_text_54 : decode cX10_text 54 = .ok (.putfield 110, 3) := by decide +kernel
theorem dX10_text_57 : decode cX10_text 57 = .ok (.iload_n 1, 1) := by decide +kernel
theorem dX10_text_58 : decode cX10_text 58 = .ok (.ireturn, 1) := by decide +kernel
theorem gX10_text_0 {d : Nat} {M : ev_Mem} {Q : Option Value → ev_Mem → Prop} (h : ((((M.1 47 2) < 0) → (Q (some (.int (-1))) M)) ∧ ((¬ (M.1 47 2) < 0) → ((((M.1 47 2) < 4) → (vp_in (M.1 47 2) 4 ∧ (∃ Q2 : Option Value → ev_Mem → Prop, Cl LX d mX4_read [.ref 81, .ref (61 + 5 * (M.1 47 2).toNatClampNeg)] M Q2 ∧ ∀ (zr : Option Value) (zM : ev_Mem), Q2 zr zM → Ev LX (d + 1) mX10_text 32 [some (.ref 0), some (.int (M.1 47 2)), none] (zr.toList ++ []) zM Q))) ∧ ((¬ (M.1 47 2) < 4) → (Q (some (.int (-1))) M)))))) : Ev LX (d + 1) mX10_text 0 [some (.ref 0), none, none] [] M Q := by
  refine ev_aload_n dX10_text_0 rfl ?_
  refine ev_getA dX10_text_1 fl_WithoutE_33 lx_0 rfl ?_
  refine ev_getI dX10_text_4 fl_WithoutE_110 lx_47 rfl ?_
  refine ev_istore_n (ls2 := [some (.ref 0), some (.int (M.1 47 2)), none]) dX10_text_7 (Nat.le_of_ble_eq_true rfl) rfl ?_
  refine ev_iload_n dX10_text_8 rfl ?_
  refine ev_if_lt (tgt := 17) dX10_text_9 (by decide) (fun c => ?_) (fun c => ?_)
  · replace h := h.1 c
    refine ev_iconst (v := -1) dX10_text_17 (by decide) ?_
    exact ev_iret dX10_text_18 rfl h
  · replace h := h.2 c
    refine ev_iload_n dX10_text_12 rfl ?_
    refine ev_iconst (v := 4) dX10_text_13 (by decide) ?_
    refine ev_icmp_lt (tgt := 19) dX10_text_14 (by decide) (fun c => ?_) (fun c => ?_)
    · replace h := h.1 c
      refine ev_aload_n dX10_text_19 rfl ?_
      refine ev_getA dX10_text_20 fl_WithoutE_48 lx_0 rfl ?_
      refine ev_aload_n dX10_text_23 rfl ?_
      refine ev_getA dX10_text_24 fl_WithoutE_39 lx_0 rfl ?_
      refine ev_iload_n dX10_text_27 rfl ?_
      obtain ⟨b1, h⟩ := h
      refine ev_aald dX10_text_28 lx_60 (fun _ => rfl) rfl b1 ?_
      obtain ⟨Q2, hc, h⟩ := h
      refine ev_callV [.ref (61 + 5 * (M.1 47 2).toNatClampNeg)] dX10_text_29 ml_WithoutE_112 lx_81 rfl rfl (Nat.le_of_ble_eq_true rfl) hc (fun zr zM q => ?_)
      exact h zr zM q
    · replace h := h.2 c
      refine ev_iconst (v := -1) dX10_text_17 (by decide) ?_
      exact ev_iret dX10_text_18 rfl h
theorem gX10_text_32 {d : Nat} {M : ev_Mem} {Q : Option Value → ev_Mem → Prop} {x1 s0 : Int32} (h : (∀ M1 : ev_Mem, M1 = ev_wr M 1 1 0 → (((¬ s0 = 0) → (∀ M2 : ev_Mem, M2 = ev_wr M1 47 2 (x1 + 1) → (Q (some (.int x1)) M2))) ∧ ((s0 = 0) → (Q (some (.int (-1))) M1))))) : Ev LX d mX10_text 32 [some (.ref 0), some (.int x1), none] [(.int s0)] M Q := by
  refine ev_istore_n (ls2 := [some (.ref 0), some (.int x1), some (.int s0)]) dX10_text_32 (Nat.le_of_ble_eq_true rfl) rfl ?_
  refine ev_aload_n dX10_text_33 rfl ?_
  refine ev_getA dX10_text_34 fl_WithoutE_10 lx_0 rfl ?_
  refine ev_iconst (v := 0) dX10_text_37 (by decide) ?_
  refine ev_putI dX10_text_38 fp_WithoutE_102 lx_1 rfl rfl rfl ?_
  generalize eM1 : ev_wr M 1 1 0 = M1
  replace h := h M1 eM1.symm
  refine ev_iload_n dX10_text_41 rfl ?_
  refine ev_if_ne (tgt := 47) dX10_text_42 (by decide) (fun c => ?_) (fun c => ?_)
  · replace h := h.1 c
    refine ev_aload_n dX10_text_47 rfl ?_
    refine ev_getA dX10_text_48 fl_WithoutE_33 lx_0 rfl ?_
    refine ev_iload_n dX10_text_51 rfl ?_
    refine ev_iconst (v := 1) dX10_text_52 (by decide) ?_
    refine ev_iadd dX10_text_53 ?_
    refine ev_putI dX10_text_54 fp_WithoutE_110 lx_47 rfl rfl rfl ?_
    generalize eM2 : ev_wr M1 47 2 (x1 + 1) = M2
    replace h := h M2 eM2.symm
    refine ev_iload_n dX10_text_57 rfl ?_
    exact ev_iret dX10_text_58 rfl h
  · replace h := h.2 c
    refine ev_iconst (v := -1) dX10_text_45 (by decide) ?_
    exact ev_iret dX10_text_46 rfl h
