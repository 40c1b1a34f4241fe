theorem ev_lt {i : Int32} {n : Nat} (h : vp_in i n) : i.toNatClampNeg < n := Nat.not_le.mp fun q => h (Or.inr q)
theorem ev_mkT {i : Int32} (h : vp_in i 4) : ev_isT (61 + 5 * i.toNatClampNeg) := ⟨_, ev_lt h, rfl⟩
theorem dX10_isLetter_0 : decode cX10_isLetter 0 = .ok (.iload_n 0, 1) := by decide +kernel
theorem dX10_isLetter_1 : decode cX10_isLetter 1 = .ok (.ifCond .lt 13, 3) := by decide +kernel
theorem dX10_isLetter_4 : decode cX10_isLetter 4 = .ok (.iload_n 0, 1) := by decide +kernel
theorem dX10_isLetter_5 : decode cX10_isLetter 5 = .ok (.bipush 26, 2) := by decide +kernel
theorem dX10_isLetter_7 : decode cX10_isLetter 7 = .ok (.if_icmp .ge 7, 3) := by decide +kernel
theorem dX10_isLetter_10 : decode cX10_isLetter 10 = .ok (.iconst 1, 1) := by decide +kernel
theorem dX10_isLetter_11 : decode cX10_isLetter 11 = .ok (.goto 4, 3) := by decide +kernel
theorem dX10_isLetter_14 : decode cX10_isLetter 14 = .ok (.iconst 0, 1) := by decide +kernel
theorem dX10_isLetter_15 : decode cX10_isLetter 15 = .ok (.ireturn, 1) := by decide +kernel
theorem gX10_isLetter_0 {d : Nat} {M : ev_Mem} {Q : Option Value → ev_Mem → Prop} {x0 : Int32} (h : (((x0 < 0) → (Q (some (.int 0)) M)) ∧ ((¬ x0 < 0) → (((26 ≤ x0) → (Q (some (.int 0)) M)) ∧ ((¬ 26 ≤ x0) → (Q (some (.int 1)) M)))))) : Ev LX d mX10_isLetter 0 [some (.int x0)] [] M Q := by
  refine ev_iload_n dX10_isLetter_0 rfl ?_
  refine ev_if_lt (tgt := 14) dX10_isLetter_1 (by decide) (fun c => ?_) (fun c => ?_)
  · replace h := h.1 c
    refine ev_iconst (v := 0) dX10_isLetter_14 (by decide) ?_
    exact ev_zret dX10_isLetter_15 rfl (by decide) h
  · replace h := h.2 c
    refine ev_iload_n dX10_isLetter_4 rfl ?_
    refine ev_bipush (v := 26) dX10_isLetter_5 (by decide) ?_
    refine ev_icmp_ge (tgt := 14) dX10_isLetter_7 (by decide) (fun c => ?_) (fun c => ?_)
    · replace h := h.1 c
      refine ev_iconst (v := 0) dX10_isLetter_14 (by decide) ?_
      exact ev_zret dX10_isLetter_15 rfl (by decide) h
    · replace h := h.2 c
      refine ev_iconst (v := 1) dX10_isLetter_10 (by decide) ?_
      refine ev_goto (tgt := 15) dX10_isLetter_11 (by decide) ?_
      exact ev_zret dX10_isLetter_15 rfl (by decide) h
theorem dX10_isSense_0 : decode cX10_isSense 0 = .ok (.iload_n 0, 1) := by decide +kernel
theorem dX10_isSense_1 : decode cX10_isSense 1 = .ok (.ifCond .lt 13, 3) := by decide +kernel
theorem dX10_isSense_4 : decode cX10_isSense 4 = .ok (.iload_n 0, 1) := by decide +kernel
theorem dX10_isSense_5 : decode cX10_isSense 5 = .ok (.bipush 12, 2) := by decide +kernel
theorem dX10_isSense_7 : decode cX10_isSense 7 = .ok (.if_icmp .ge 7, 3) := by decide +kernel
theorem dX10_isSense_10 : decode cX10_isSense 10 = .ok (.iconst 1, 1) := by decide +kernel
theorem dX10_isSense_11 : decode cX10_isSense 11 = .ok (.goto 4, 3) := by decide +kernel
theorem dX10_isSense_14 : decode cX10_isSense 14 = .ok (.iconst 0, 1) := by decide +kernel
theorem dX10_isSense_15 : decode cX10_isSense 15 = .ok (.ireturn, 1) := by decide +kernel
theorem gX10_isSense_0 {d : Nat} {M : ev_Mem} {Q : Option Value → ev_Mem → Prop} {x0 : Int32} (h : (((x0 < 0) → (Q (some (.int 0)) M)) ∧ ((¬ x0 < 0) → (((12 ≤ x0) → (Q (some (.int 0)) M)) ∧ ((¬ 12 ≤ x0) → (Q (some (.int 1)) M)))))) : Ev LX d mX10_isSense 0 [some (.int x0)] [] M Q := by
  refine ev_iload_n dX10_isSense_0 rfl ?_
  refine ev_if_lt (tgt := 14) dX10_isSense_1 (by decide) (fun c => ?_) (fun c => ?_)
  · replace h := h.1 c
    refine ev_iconst (v := 0) dX10_isSense_14 (by decide) ?_
    exact ev_zret dX10_isSense_15 rfl (by decide) h
  · replace h := h.2 c
    refine ev_iload_n dX10_isSense_4 rfl ?_
    refine ev_bipush (v := 12) dX10_isSense_5 (by decide) ?_
    refine ev_icmp_ge (tgt := 14) dX10_isSense_7 (by decide) (fun c => ?_) (fun c => ?_)
    · replace h := h.1 c
      refine ev_iconst (v := 0) dX10_isSense_14 (by decide) ?_
      exact ev_zret dX10_isSense_15 rfl (by decide) h
    · replace h := h.2 c
      refine ev_iconst (v := 1) dX10_isSense_10 (by decide) ?_
      refine ev_goto (tgt := 15) dX10_isSense_11 (by decide) ?_
      exact ev_zret dX10_isSense_15 rfl (by decide) h
theorem dX10_has_0 : decode cX10_has 0 = .ok (.iload_n 0, 1) := by decide +kernel
theorem dX10_has_1 : decode cX10_has 1 = .ok (.iload_n 1, 1) := by decide +kernel
theorem dX10_has_2 : decode cX10_has 2 = .ok (.ishr, 1) := by decide +kernel
theorem dX10_has_3 : decode cX10_has 3 = .ok (.iconst 1, 1) := by decide +kernel
theorem dX10_has_4 : decode cX10_has 4 = .ok (.iand, 1) := by decide +kernel
theorem dX10_has_5 : decode cX10_has 5 = .ok (.ifCond .eq 7, 3) := by decide +kernel
theorem dX10_has_8 : decode cX10_has 8 = .ok (.iconst 1, 1) := by decide +kernel
theorem dX10_has_9 : decode cX10_has 9 = .ok (.goto 4, 3) := by decide +kernel
theorem dX10_has_12 : decode cX10_has 12 = .ok (.iconst 0, 1) := by decide +kernel
theorem dX10_has_13 : decode cX10_has 13 = .ok (.ireturn, 1) := by decide +kernel
theorem gX10_has_0 {d : Nat} {M : ev_Mem} {Q : Option Value → ev_Mem → Prop} {x0 x1 : Int32} (h : (((((x0 >>> (x1 &&& 31)) &&& 1) = 0) → (Q (some (.int 0)) M)) ∧ ((¬ ((x0 >>> (x1 &&& 31)) &&& 1) = 0) → (Q (some (.int 1)) M)))) : Ev LX d mX10_has 0 [some (.int x0), some (.int x1)] [] M Q := by
  refine ev_iload_n dX10_has_0 rfl ?_
  refine ev_iload_n dX10_has_1 rfl ?_
  refine ev_ishr dX10_has_2 ?_
  refine ev_iconst (v := 1) dX10_has_3 (by decide) ?_
  refine ev_iand dX10_has_4 ?_
  refine ev_if_eq (tgt := 12) dX10_has_5 (by decide) (fun c => ?_) (fun c => ?_)
  · replace h := h.1 c
    refine ev_iconst (v := 0) dX10_has_12 (by decide) ?_
    exact ev_zret dX10_has_13 rfl (by decide) h
  · replace h := h.2 c
    refine ev_iconst (v := 1) dX10_has_8 (by decide) ?_
    refine ev_goto (tgt := 13) dX10_has_9 (by decide) ?_
    exact ev_zret dX10_has_13 rfl (by decide) h
theorem dX10_isSmall_0 : decode cX10_isSmall 0 = .ok (.iload_n 0, 1) := by decide +kernel
theorem dX10_isSmall_1 : decode cX10_isSmall 1 = .ok (.bipush 97, 2) := by decide +kernel
theorem dX10_isSmall_3 : decode cX10_isSmall 3 = .ok (.if_icmp .lt 13, 3) := by decide +kernel
theorem dX10_isSmall_6 : decode cX10_isSmall 6 = .ok (.iload_n 0, 1) := by decide +kernel
theorem dX10_isSmall_7 : decode cX10_isSmall 7 = .ok (.bipush 122, 2) := by decide +kernel
theorem dX10_isSmall_9 : decode cX10_isSmall 9 = .ok (.if_icmp .gt 7, 3) := by decide +kernel
theorem dX10_isSmall_12 : decode cX10_isSmall 12 = .ok (.iconst 1, 1) := by decide +kernel
theorem dX10_isSmall_13 : decode cX10_isSmall 13 = .ok (.goto 4, 3) := by decide +kernel
theorem dX10_isSmall_16 : decode cX10_isSmall 16 = .ok (.iconst 0, 1) := by decide +kernel
theorem dX10_isSmall_17 : decode cX10_isSmall 17 = .ok (.ireturn, 1) := by decide +kernel
theorem gX10_isSmall_0 {d : Nat} {M : ev_Mem} {Q : Option Value → ev_Mem → Prop} {x0 : Int32} (h : (((x0 < 97) → (Q (some (.int 0)) M)) ∧ ((¬ x0 < 97) → (((122 < x0) → (Q (some (.int 0)) M)) ∧ ((¬ 122 < x0) → (Q (some (.int 1)) M)))))) : Ev LX d mX10_isSmall 0 [some (.int x0)] [] M Q := by
  refine ev_iload_n dX10_isSmall_0 rfl ?_
  refine ev_bipush (v := 97) dX10_isSmall_1 (by decide) ?_
  refine ev_icmp_lt (tgt := 16) dX10_isSmall_3 (by decide) (fun c => ?_) (fun c => ?_)
  · replace h := h.1 c
    refine ev_iconst (v := 0) dX10_isSmall_16 (by decide) ?_
    exact ev_zret dX10_isSmall_17 rfl (by decide) h
  · replace h := h.2 c
    refine ev_iload_n dX10_isSmall_6 rfl ?_
    refine ev_bipush (v := 122) dX10_isSmall_7 (by decide) ?_
    refine ev_icmp_gt (tgt := 16) dX10_isSmall_9 (by decide) (fun c => ?_) (fun c => ?_)
    · replace h := h.1 c
      refine ev_iconst (v := 0) dX10_isSmall_16 (by decide) ?_
      exact ev_zret dX10_isSmall_17 rfl (by decide) h
    · replace h := h.2 c
      refine ev_iconst (v := 1) dX10_isSmall_12 (by decide) ?_
      refine ev_goto (tgt := 17) dX10_isSmall_13 (by decide) ?_
      exact ev_zret dX10_isSmall_17 rfl (by decide) h
theorem dX7_put_0 : decode cX7_put 0 = .ok (.bipush 24, 2) := by decide +kernel
theorem dX7_put_2 : decode cX7_put 2 = .ok (.istore_n 2, 1) := by decide +kernel
theorem dX7_put_3 : decode cX7_put 3 = .ok (.iload_n 2, 1) := by decide +kernel
theorem dX7_put_4 : decode cX7_put 4 = .ok (.ifCond .lt 45, 3) := by decide +kernel
theorem dX7_put_7 : decode cX7_put 7 = .ok (.aload_n 0, 1) := by decide +kernel
theorem dX7_put_8 : decode cX7_put 8 = .ok (.getfield 15, 3) := by decide +kernel
theorem dX7_put_11 : decode cX7_put 11 = .ok (.sipush 300, 3) := by decide +kernel
theorem dX7_put_14 : decode cX7_put 14 = .ok (.if_icmp .ge 35, 3) := by decide +kernel
theorem dX7_put_17 : decode cX7_put 17 = .ok (.aload_n 0, 1) := by decide +kernel
theorem dX7_put_18 : decode cX7_put 18 = .ok (.getfield 9, 3) := by decide +kernel
theorem dX7_put_21 : decode cX7_put 21 = .ok (.aload_n 0, 1) := by decide +kernel
theorem dX7_put_22 : decode cX7_put 22 = .ok (.getfield 15, 3) := by decide +kernel
theorem dX7_put_25 : decode cX7_put 25 = .ok (.iload_n 1, 1) := by decide +kernel
theorem dX7_put_26 : decode cX7_put 26 = .ok (.iload_n 2, 1) := by decide +kernel
theorem dX7_put_27 : decode cX7_put 27 = .ok (.iushr, 1) := by decide +kernel
theorem dX7_put_28 : decode cX7_put 28 = .ok (.sipush 255, 3) := by decide +kernel
theorem dX7_put_31 : decode cX7_put 31 = .ok (.iand, 1) := by decide +kernel
theorem dX7_put_32 : decode cX7_put 32 = .ok (.iastore, 1) := by decide +kernel
theorem dX7_put_33 : decode cX7_put 33 = .ok (.aload_n 0, 1) := by decide +kernel
theorem dX7_put_34 : decode cX7_put 34 = .ok (.dup, 1) := by decide +kernel
theorem dX7_put_35 : decode cX7_put 35 = .ok (.getfield 15, 3) := by decide +kernel
theorem dX7_put_38 : decode cX7_put 38 = .ok (.iconst 1, 1) := by decide +kernel
theorem dX7_put_39 : decode cX7_put 39 = .ok (.iadd, 1) := by decide +kernel
theorem dX7_put_40 : decode cX7_put 40 = .ok (.putfield 15, 3) := by decide +kernel
theorem dX7_put_43 : decode cX7_put 43 = .ok (.iinc 2 (-8), 3) := by decide +kernel
theorem dX7_put_46 : decode cX7_put 46 = .ok (.goto (-43), 3) := by decide +kernel
theorem dX7_put_49 : decode cX7_put 49 = .ok (.return_, 1) := by decide +kernel
theorem gX7_put_0 {d : Nat} {M : ev_Mem} {Q : Option Value → ev_Mem → Prop} {x1 : Int32} (h : (Ev LX d mX7_put 3 [some (.ref 1), some (.int x1), some (.int 24)] [] M Q)) : Ev LX d mX7_put 0 [some (.ref 1), some (.int x1), none] [] M Q := by
  refine ev_bipush (v := 24) dX7_put_0 (by decide) ?_
  refine ev_istore_n (ls2 := [some (.ref 1), some (.int x1), some (.int 24)]) dX7_put_2 (Nat.le_of_ble_eq_true rfl) rfl ?_
  exact h
theorem gX7_put_3 {d : Nat} {M : ev_Mem} {Q : Option Value → ev_Mem → Prop} {x1 x2 : Int32} (h : (((x2 < 0) → (Q none M)) ∧ ((¬ x2 < 0) → (((300 ≤ (M.1 1 1)) → (Q none M)) ∧ ((¬ 300 ≤ (M.1 1 1)) → (vp_in (M.1 1 1) 300 ∧ (∀ M1 : ev_Mem, M1 = ev_wr M 2 (M.1 1 1).toNatClampNeg (((x1.toUInt32 >>> (((x2 : Int32)).toUInt32 &&& Int32.toUInt32 31)).toInt32) &&& 255) → (∀ M2 : ev_Mem, M2 = ev_wr M1 1 1 ((M1.1 1 1) + 1) → (Ev LX d mX7_put 3 [some (.ref 1), some (.int x1), some (.int (x2 + (-8)))] [] M2 Q))))))))) : Ev LX d mX7_put 3 [some (.ref 1), some (.int x1), some (.int x2)] [] M Q := by
  refine ev_iload_n dX7_put_3 rfl ?_
  refine ev_if_lt (tgt := 49) dX7_put_4 (by decide) (fun c => ?_) (fun c => ?_)
  · replace h := h.1 c
    exact ev_vret dX7_put_49 rfl h
  · replace h := h.2 c
    refine ev_aload_n dX7_put_7 rfl ?_
    refine ev_getI dX7_put_8 fl_WithoutE_Tape_15 lx_1 rfl ?_
    refine ev_sipush (v := 300) dX7_put_11 (by decide) ?_
    refine ev_icmp_ge (tgt := 49) dX7_put_14 (by decide) (fun c => ?_) (fun c => ?_)
    · replace h := h.1 c
      exact ev_vret dX7_put_49 rfl h
    · replace h := h.2 c
      refine ev_aload_n dX7_put_17 rfl ?_
      refine ev_getA dX7_put_18 fl_WithoutE_Tape_9 lx_1 rfl ?_
      refine ev_aload_n dX7_put_21 rfl ?_
      refine ev_getI dX7_put_22 fl_WithoutE_Tape_15 lx_1 rfl ?_
      refine ev_iload_n dX7_put_25 rfl ?_
      refine ev_iload_n dX7_put_26 rfl ?_
      refine ev_iushr (v := (x1.toUInt32 >>> (((x2 : Int32)).toUInt32 &&& Int32.toUInt32 31)).toInt32) dX7_put_27 rfl ?_
      refine ev_sipush (v := 255) dX7_put_28 (by decide) ?_
      refine ev_iand dX7_put_31 ?_
      obtain ⟨c, h⟩ := h
      refine ev_iast dX7_put_32 lx_2 c ?_
      generalize eM1 : ev_wr M 2 (M.1 1 1).toNatClampNeg (((x1.toUInt32 >>> (((x2 : Int32)).toUInt32 &&& Int32.toUInt32 31)).toInt32) &&& 255) = M1
      replace h := h M1 eM1.symm
      refine ev_aload_n dX7_put_33 rfl ?_
      refine ev_dup dX7_put_34 rfl ?_
      refine ev_getI dX7_put_35 fl_WithoutE_Tape_15 lx_1 rfl ?_
      refine ev_iconst (v := 1) dX7_put_38 (by decide) ?_
      refine ev_iadd dX7_put_39 ?_
      refine ev_putI dX7_put_40 fp_WithoutE_Tape_15 lx_1 rfl rfl rfl ?_
      generalize eM2 : ev_wr M1 1 1 ((M1.1 1 1) + 1) = M2
      replace h := h M2 eM2.symm
      refine ev_iinc (v := x2 + (-8)) (ls2 := [some (.ref 1), some (.int x1), some (.int (x2 + (-8)))]) dX7_put_43 rfl rfl rfl ?_
      refine ev_goto (tgt := 3) dX7_put_46 (by decide) ?_
      exact h
theorem dX7_spells_0 : decode cX7_spells 0 = .ok (.aload_n 0, 1) := by decide +kernel
theorem dX7_spells_1 : decode cX7_spells 1 = .ok (.getfield 15, 3) := by decide +kernel
theorem dX7_spells_4 : decode cX7_spells 4 = .ok (.iconst 1, 1) := by decide +kernel
theorem dX7_spells_5 : decode cX7_spells 5 = .ok (.if_icmp .lt 12, 3) := by decide +kernel
theorem dX7_spells_8 : decode cX7_spells 8 = .ok (.aload_n 0, 1) := by decide +kernel
theorem dX7_spells_9 : decode cX7_spells 9 = .ok (.getfield 15, 3) := by decide +kernel
theorem dX7_spells_12 : decode cX7_spells 12 = .ok (.bipush 9, 2) := by decide +kernel
theorem dX7_spells_14 : decode cX7_spells 14 = .ok (.if_icmp .le 5, 3) := by decide +kernel
theorem dX7_spells_17 : decode cX7_spells 17 = .ok (.iconst 0, 1) := by decide +kernel
theorem dX7_spells_18 : decode cX7_spells 18 = .ok (.ireturn, 1) := by decide +kernel
theorem dX7_spells_19 : decode cX7_spells 19 = .ok (.iconst 0, 1) := by decide +kernel
theorem dX7_spells_20 : decode cX7_spells 20 = .ok (.istore_n 2, 1) := by decide +kernel
theorem dX7_spells_21 : decode cX7_spells 21 = .ok (.iload_n 2, 1) := by decide +kernel
theorem dX7_spells_22 : decode cX7_spells 22 = .ok (.aload_n 0, 1) := by decide +kernel
theorem dX7_spells_23 : decode cX7_spells 23 = .ok (.getfield 15, 3) := by decide +kernel
theorem dX7_spells_26 : decode cX7_spells 26 = .ok (.if_icmp .ge 38, 3) := by decide +kernel
theorem dX7_spells_29 : decode cX7_spells 29 = .ok (.aload_n 0, 1) := by decide +kernel
theorem dX7_spells_30 : decode cX7_spells 30 = .ok (.getfield 9, 3) := by decide +kernel
theorem dX7_spells_33 : decode cX7_spells 33 = .ok (.iload_n 2, 1) := by decide +kernel
theorem dX7_spells_34 : decode cX7_spells 34 = .ok (.iaload, 1) := by decide +kernel
theorem dX7_spells_35 : decode cX7_spells 35 = .ok (.invokestatic 19, 3) := by decide +kernel
theorem dX7_spells_38 : decode cX7_spells 38 = .ok (.ifCond .ne 20, 3) := by decide +kernel
theorem dX7_spells_41 : decode cX7_spells 41 = .ok (.iload_n 1, 1) := by decide +kernel
theorem dX7_spells_42 : decode cX7_spells 42 = .ok (.ifCond .eq 14, 3) := by decide +kernel
theorem dX7_spells_45 : decode cX7_spells 45 = .ok (.aload_n 0, 1) := by decide +kernel
theorem dX7_spells_46 : decode cX7_spells 46 = .ok (.getfield 9, 3) := by decide +kernel
theorem dX7_spells_49 : decode cX7_spells 49 = .ok (.iload_n 2, 1) := by decide +kernel
theorem dX7_spells_50 : decode cX7_spells 50 = .ok (.iaload, 1) := by decide +kernel
theorem dX7_spells_51 : decode cX7_spells 51 = .ok (.bipush 45, 2) := by decide +kernel
theorem dX7_spells_53 : decode cX7_spells 53 = .ok (.if_icmp .eq 5, 3) := by decide +kernel
theorem dX7_spells_56 : decode cX7_spells 56 = .ok (.iconst 0, 1) := by decide +kernel
theorem dX7_spells_57 : decode cX7_spells 57 = .ok (.ireturn, 1) := by decide +kernel
theorem dX7_spells_58 : decode cX7_spells 58 = .ok (.iinc 2 1, 3) := by decide +kernel
theorem dX7_spells_61 : decode cX7_spells 61 = .ok (.goto (-40), 3) := by decide +kernel
theorem dX7_spells_64 : decode cX7_spells 64 = .ok (.iconst 1, 1) := by decide +kernel
theorem dX7_spells_65 : decode cX7_spells 65 = .ok (.ireturn, 1) := by decide +kernel
theorem gX7_spells_0 {d : Nat} {M : ev_Mem} {Q : Option Value → ev_Mem → Prop} {x1 : Int32} (h : ((((M.1 1 1) < 1) → (Q (some (.int 0)) M)) ∧ ((¬ (M.1 1 1) < 1) → ((((M.1 1 1) ≤ 9) → (Ev LX d mX7_spells 21 [some (.ref 1), some (.int x1), some (.int 0)] [] M Q)) ∧ ((¬ (M.1 1 1) ≤ 9) → (Q (some (.int 0)) M)))))) : Ev LX d mX7_spells 0 [some (.ref 1), some (.int x1), none] [] M Q := by
  refine ev_aload_n dX7_spells_0 rfl ?_
  refine ev_getI dX7_spells_1 fl_WithoutE_Tape_15 lx_1 rfl ?_
  refine ev_iconst (v := 1) dX7_spells_4 (by decide) ?_
  refine ev_icmp_lt (tgt := 17) dX7_spells_5 (by decide) (fun c => ?_) (fun c => ?_)
  · replace h := h.1 c
    refine ev_iconst (v := 0) dX7_spells_17 (by decide) ?_
    exact ev_zret dX7_spells_18 rfl (by decide) h
  · replace h := h.2 c
    refine ev_aload_n dX7_spells_8 rfl ?_
    refine ev_getI dX7_spells_9 fl_WithoutE_Tape_15 lx_1 rfl ?_
    refine ev_bipush (v := 9) dX7_spells_12 (by decide) ?_
    refine ev_icmp_le (tgt := 19) dX7_spells_14 (by decide) (fun c => ?_) (fun c => ?_)
    · replace h := h.1 c
      refine ev_iconst (v := 0) dX7_spells_19 (by decide) ?_
      refine ev_istore_n (ls2 := [some (.ref 1), some (.int x1), some (.int 0)]) dX7_spells_20 (Nat.le_of_ble_eq_true rfl) rfl ?_
      exact h
    · replace h := h.2 c
      refine ev_iconst (v := 0) dX7_spells_17 (by decide) ?_
      exact ev_zret dX7_spells_18 rfl (by decide) h
theorem gX7_spells_21 {d : Nat} {M : ev_Mem} {Q : Option Value → ev_Mem → Prop} {x1 x2 : Int32} (h : ((((M.1 1 1) ≤ x2) → (Q (some (.int 1)) M)) ∧ ((¬ (M.1 1 1) ≤ x2) → (vp_in x2 300 ∧ (∃ Q2 : Option Value → ev_Mem → Prop, Cl LX d mX10_isSmall [.int (M.1 2 x2.toNatClampNeg)] M Q2 ∧ ∀ (r : Option Value) (M9 : ev_Mem), Q2 r M9 → Ev LX (d + 1) mX7_spells 38 [some (.ref 1), some (.int x1), some (.int x2)] (r.toList ++ []) M9 Q))))) : Ev LX (d + 1) mX7_spells 21 [some (.ref 1), some (.int x1), some (.int x2)] [] M Q := by
  refine ev_iload_n dX7_spells_21 rfl ?_
  refine ev_aload_n dX7_spells_22 rfl ?_
  refine ev_getI dX7_spells_23 fl_WithoutE_Tape_15 lx_1 rfl ?_
  refine ev_icmp_ge (tgt := 64) dX7_spells_26 (by decide) (fun c => ?_) (fun c => ?_)
  · replace h := h.1 c
    refine ev_iconst (v := 1) dX7_spells_64 (by decide) ?_
    exact ev_zret dX7_spells_65 rfl (by decide) h
  · replace h := h.2 c
    refine ev_aload_n dX7_spells_29 rfl ?_
    refine ev_getA dX7_spells_30 fl_WithoutE_Tape_9 lx_1 rfl ?_
    refine ev_iload_n dX7_spells_33 rfl ?_
    obtain ⟨c, h⟩ := h
    refine ev_iald dX7_spells_34 lx_2 c ?_
    obtain ⟨Q2, hc, h⟩ := h
    refine ev_callN [.int (M.1 2 x2.toNatClampNeg)] dX7_spells_35 ml_WithoutE_Tape_19 rfl (Nat.le_of_ble_eq_true rfl) hc (fun r M9 q => ?_)
    exact h r M9 q
theorem gX7_spells_38 {d : Nat} {M : ev_Mem} {Q : Option Value → ev_Mem → Prop} {x1 x2 s0 : Int32} (h : (((¬ s0 = 0) → (Ev LX d mX7_spells 21 [some (.ref 1), some (.int x1), some (.int (x2 + 1))] [] M Q)) ∧ ((s0 = 0) → (((x1 = 0) → (Q (some (.int 0)) M)) ∧ ((¬ x1 = 0) → (vp_in x2 300 ∧ ((((M.1 2 x2.toNatClampNeg) = 45) → (Ev LX d mX7_spells 21 [some (.ref 1), some (.int x1), some (.int (x2 + 1))] [] M Q)) ∧ ((¬ (M.1 2 x2.toNatClampNeg) = 45) → (Q (some (.int 0)) M))))))))) : Ev LX d mX7_spells 38 [some (.ref 1), some (.int x1), some (.int x2)] [(.int s0)] M Q := by
  refine ev_if_ne (tgt := 58) dX7_spells_38 (by decide) (fun c => ?_) (fun c => ?_)
  · replace h := h.1 c
    refine ev_iinc (v := x2 + 1) (ls2 := [some (.ref 1), some (.int x1), some (.int (x2 + 1))]) dX7_spells_58 rfl rfl rfl ?_
    refine ev_goto (tgt := 21) dX7_spells_61 (by decide) ?_
    exact h
  · replace h := h.2 c
    refine ev_iload_n dX7_spells_41 rfl ?_
    refine ev_if_eq (tgt := 56) dX7_spells_42 (by decide) (fun c => ?_) (fun c => ?_)
    · replace h := h.1 c
      refine ev_iconst (v := 0) dX7_spells_56 (by decide) ?_
      exact ev_zret dX7_spells_57 rfl (by decide) h
    · replace h := h.2 c
      refine ev_aload_n dX7_spells_45 rfl ?_
      refine ev_getA dX7_spells_46 fl_WithoutE_Tape_9 lx_1 rfl ?_
      refine ev_iload_n dX7_spells_49 rfl ?_
      obtain ⟨c, h⟩ := h
      refine ev_iald dX7_spells_50 lx_2 c ?_
      refine ev_bipush (v := 45) dX7_spells_51 (by decide) ?_
      refine ev_icmp_eq (tgt := 58) dX7_spells_53 (by decide) (fun c => ?_) (fun c => ?_)
      · replace h := h.1 c
        refine ev_iinc (v := x2 + 1) (ls2 := [some (.ref 1), some (.int x1), some (.int (x2 + 1))]) dX7_spells_58 rfl rfl rfl ?_
        refine ev_goto (tgt := 21) dX7_spells_61 (by decide) ?_
        exact h
      · replace h := h.2 c
        refine ev_iconst (v := 0) dX7_spells_56 (by decide) ?_
        exact ev_zret dX7_spells_57 rfl (by decide) h
theorem dX5_holesOf_0 : decode cX5_holesOf 0 = .ok (.iconst 0, 1) := by decide +kernel
theorem dX5_holesOf_1 : decode cX5_holesOf 1 = .ok (.istore_n 3, 1) := by decide +kernel
theorem dX5_holesOf_2 : decode cX5_holesOf 2 = .ok (.iconst 0, 1) := by decide +kernel
theorem dX5_holesOf_3 : decode cX5_holesOf 3 = .ok (.istore 4, 2) := by decide +kernel
theorem dX5_holesOf_5 : decode cX5_holesOf 5 = .ok (.iload 4, 2) := by decide +kernel
theorem dX5_holesOf_7 : decode cX5_holesOf 7 = .ok (.aload_n 0, 1) := by decide +kernel
theorem dX5_holesOf_8 : decode cX5_holesOf 8 = .ok (.getfield 9, 3) := by decide +kernel
theorem dX5_holesOf_11 : decode cX5_holesOf 11 = .ok (.getfield 19, 3) := by decide +kernel
theorem dX5_holesOf_14 : decode cX5_holesOf 14 = .ok (.iload_n 1, 1) := by decide +kernel
theorem dX5_holesOf_15 : decode cX5_holesOf 15 = .ok (.iaload, 1) := by decide +kernel
theorem dX5_holesOf_16 : decode cX5_holesOf 16 = .ok (.if_icmp .ge 31, 3) := by decide +kernel
theorem dX5_holesOf_19 : decode cX5_holesOf 19 = .ok (.iload_n 2, 1) := by decide +kernel
theorem dX5_holesOf_20 : decode cX5_holesOf 20 = .ok (.aload_n 0, 1) := by decide +kernel
theorem dX5_holesOf_21 : decode cX5_holesOf 21 = .ok (.getfield 9, 3) := by decide +kernel
theorem dX5_holesOf_24 : decode cX5_holesOf 24 = .ok (.getfield 25, 3) := by decide +kernel
theorem dX5_holesOf_27 : decode cX5_holesOf 27 = .ok (.iload_n 1, 1) := by decide +kernel
theorem dX5_holesOf_28 : decode cX5_holesOf 28 = .ok (.aaload, 1) := by decide +kernel
theorem dX5_holesOf_29 : decode cX5_holesOf 29 = .ok (.iload 4, 2) := by decide +kernel
theorem dX5_holesOf_31 : decode cX5_holesOf 31 = .ok (.iaload, 1) := by decide +kernel
theorem dX5_holesOf_32 : decode cX5_holesOf 32 = .ok (.invokestatic 29, 3) := by decide +kernel
theorem dX5_holesOf_35 : decode cX5_holesOf 35 = .ok (.ifCond .eq 6, 3) := by decide +kernel
theorem dX5_holesOf_38 : decode cX5_holesOf 38 = .ok (.iinc 3 1, 3) := by decide +kernel
theorem dX5_holesOf_41 : decode cX5_holesOf 41 = .ok (.iinc 4 1, 3) := by decide +kernel
theorem dX5_holesOf_44 : decode cX5_holesOf 44 = .ok (.goto (-39), 3) := by decide +kernel
theorem dX5_holesOf_47 : decode cX5_holesOf 47 = .ok (.iload_n 3, 1) := by decide +kernel
theorem dX5_holesOf_48 : decode cX5_holesOf 48 = .ok (.ireturn, 1) := by decide +kernel
theorem gX5_holesOf_0 {d : Nat} {M : ev_Mem} {Q : Option Value → ev_Mem → Prop} {x1 x2 : Int32} (h : (Ev LX d mX5_holesOf 5 [some (.ref 82), some (.int x1), some (.int x2), some (.int 0), some (.int 0)] [] M Q)) : Ev LX d mX5_holesOf 0 [some (.ref 82), some (.int x1), some (.int x2), none, none] [] M Q := by
  refine ev_iconst (v := 0) dX5_holesOf_0 (by decide) ?_
  refine ev_istore_n (ls2 := [some (.ref 82), some (.int x1), some (.int x2), some (.int 0), none]) dX5_holesOf_1 (Nat.le_of_ble_eq_true rfl) rfl ?_
  refine ev_iconst (v := 0) dX5_holesOf_2 (by decide) ?_
  refine ev_istore (ls2 := [some (.ref 82), some (.int x1), some (.int x2), some (.int 0), some (.int 0)]) dX5_holesOf_3 (Nat.le_of_ble_eq_true rfl) rfl ?_
  exact h
theorem gX5_holesOf_5 {d : Nat} {M : ev_Mem} {Q : Option Value → ev_Mem → Prop} {x1 x2 x3 x4 : Int32} (h : (vp_in x1 24 ∧ ((((M.1 29 x1.toNatClampNeg) ≤ x4) → (Q (some (.int x3)) M)) ∧ ((¬ (M.1 29 x1.toNatClampNeg) ≤ x4) → (vp_in x1 24 ∧ (vp_in x4 9 ∧ (∃ Q2 : Option Value → ev_Mem → Prop, Cl LX d mX10_has [.int x2, .int (M.1 (5 + x1.toNatClampNeg) x4.toNatClampNeg)] M Q2 ∧ ∀ (r : Option Value) (M9 : ev_Mem), Q2 r M9 → Ev LX (d + 1) mX5_holesOf 35 [some (.ref 82), some (.int x1), some (.int x2), some (.int x3), some (.int x4)] (r.toList ++ []) M9 Q))))))) : Ev LX (d + 1) mX5_holesOf 5 [some (.ref 82), some (.int x1), some (.int x2), some (.int x3), some (.int x4)] [] M Q := by
  refine ev_iload dX5_holesOf_5 rfl ?_
  refine ev_aload_n dX5_holesOf_7 rfl ?_
  refine ev_getA dX5_holesOf_8 fl_WithoutE_Sound_9 lx_82 rfl ?_
  refine ev_getA dX5_holesOf_11 fl_WithoutE_Sound_19 lx_3 rfl ?_
  refine ev_iload_n dX5_holesOf_14 rfl ?_
  obtain ⟨c, h⟩ := h
  refine ev_iald dX5_holesOf_15 lx_29 c ?_
  refine ev_icmp_ge (tgt := 47) dX5_holesOf_16 (by decide) (fun c => ?_) (fun c => ?_)
  · replace h := h.1 c
    refine ev_iload_n dX5_holesOf_47 rfl ?_
    exact ev_iret dX5_holesOf_48 rfl h
  · replace h := h.2 c
    refine ev_iload_n dX5_holesOf_19 rfl ?_
    refine ev_aload_n dX5_holesOf_20 rfl ?_
    refine ev_getA dX5_holesOf_21 fl_WithoutE_Sound_9 lx_82 rfl ?_
    refine ev_getA dX5_holesOf_24 fl_WithoutE_Sound_25 lx_3 rfl ?_
    refine ev_iload_n dX5_holesOf_27 rfl ?_
    obtain ⟨b1, h⟩ := h
    refine ev_aald dX5_holesOf_28 lx_4 (fun _ => rfl) rfl b1 ?_
    refine ev_iload dX5_holesOf_29 rfl ?_
    obtain ⟨c, h⟩ := h
    refine ev_iald dX5_holesOf_31 (lx_sp (ev_lt b1)) c ?_
    obtain ⟨Q2, hc, h⟩ := h
    refine ev_callN [.int x2, .int (M.1 (5 + x1.toNatClampNeg) x4.toNatClampNeg)] dX5_holesOf_32 ml_WithoutE_Sound_29 rfl (Nat.le_of_ble_eq_true rfl) hc (fun r M9 q => ?_)
    exact h r M9 q
theorem gX5_holesOf_35 {d : Nat} {M : ev_Mem} {Q : Option Value → ev_Mem → Prop} {x1 x2 x3 x4 s0 : Int32} (h : (((s0 = 0) → (Ev LX d mX5_holesOf 5 [some (.ref 82), some (.int x1), some (.int x2), some (.int x3), some (.int (x4 + 1))] [] M Q)) ∧ ((¬ s0 = 0) → (Ev LX d mX5_holesOf 5 [some (.ref 82), some (.int x1), some (.int x2), some (.int (x3 + 1)), some (.int (x4 + 1))] [] M Q)))) : Ev LX d mX5_holesOf 35 [some (.ref 82), some (.int x1), some (.int x2), some (.int x3), some (.int x4)] [(.int s0)] M Q := by
  refine ev_if_eq (tgt := 41) dX5_holesOf_35 (by decide) (fun c => ?_) (fun c => ?_)
  · replace h := h.1 c
    refine ev_iinc (v := x4 + 1) (ls2 := [some (.ref 82), some (.int x1), some (.int x2), some (.int x3), some (.int (x4 + 1))]) dX5_holesOf_41 rfl rfl rfl ?_
    refine ev_goto (tgt := 5) dX5_holesOf_44 (by decide) ?_
    exact h
  · replace h := h.2 c
    refine ev_iinc (v := x3 + 1) (ls2 := [some (.ref 82), some (.int x1), some (.int x2), some (.int (x3 + 1)), some (.int x4)]) dX5_holesOf_38 rfl rfl rfl ?_
    refine ev_iinc (v := x4 + 1) (ls2 := [some (.ref 82), some (.int x1), some (.int x2), some (.int (x3 + 1)), some (.int (x4 + 1))]) dX5_holesOf_41 rfl rfl rfl ?_
    refine ev_goto (tgt := 5) dX5_holesOf_44 (by decide) ?_
    exact h
theorem dX4_sortOf_0 : decode cX4_sortOf 0 = .ok (.iload_n 0, 1) := by decide +kernel
theorem dX4_sortOf_1 : decode cX4_sortOf 1 = .ok (.bipush 97, 2) := by decide +kernel
theorem dX4_sortOf_3 : decode cX4_sortOf 3 = .ok (.if_icmp .lt 9, 3) := by decide +kernel
theorem dX4_sortOf_6 : decode cX4_sortOf 6 = .ok (.iload_n 0, 1) := by decide +kernel
theorem dX4_sortOf_7 : decode cX4_sortOf 7 = .ok (.bipush 122, 2) := by decide +kernel
theorem dX4_sortOf_9 : decode cX4_sortOf 9 = .ok (.if_icmp .le 15, 3) := by decide +kernel
theorem dX4_sortOf_12 : decode cX4_sortOf 12 = .ok (.iload_n 0, 1) := by decide +kernel
theorem dX4_sortOf_13 : decode cX4_sortOf 13 = .ok (.bipush 65, 2) := by decide +kernel
theorem dX4_sortOf_15 : decode cX4_sortOf 15 = .ok (.if_icmp .lt 11, 3) := by decide +kernel
theorem dX4_sortOf_18 : decode cX4_sortOf 18 = .ok (.iload_n 0, 1) := by decide +kernel
theorem dX4_sortOf_19 : decode cX4_sortOf 19 = .ok (.bipush 90, 2) := by decide +kernel
theorem dX4_sortOf_21 : decode cX4_sortOf 21 = .ok (.if_icmp .gt 5, 3) := by decide +kernel
theorem dX4_sortOf_24 : decode cX4_sortOf 24 = .ok (.iconst 1, 1) := by decide +kernel
theorem dX4_sortOf_25 : decode cX4_sortOf 25 = .ok (.ireturn, 1) := by decide +kernel
theorem dX4_sortOf_26 : decode cX4_sortOf 26 = .ok (.iload_n 0, 1) := by decide +kernel
theorem dX4_sortOf_27 : decode cX4_sortOf 27 = .ok (.bipush 48, 2) := by decide +kernel
theorem dX4_sortOf_29 : decode cX4_sortOf 29 = .ok (.if_icmp .lt 11, 3) := by decide +kernel
theorem dX4_sortOf_32 : decode cX4_sortOf 32 = .ok (.iload_n 0, 1) := by decide +kernel
theorem dX4_sortOf_33 : decode cX4_sortOf 33 = .ok (.bipush 57, 2) := by decide +kernel
theorem dX4_sortOf_35 : decode cX4_sortOf 35 = .ok (.if_icmp .gt 5, 3) := by decide +kernel
theorem dX4_sortOf_38 : decode cX4_sortOf 38 = .ok (.iconst 2, 1) := by decide +kernel
theorem dX4_sortOf_39 : decode cX4_sortOf 39 = .ok (.ireturn, 1) := by decide +kernel
theorem dX4_sortOf_40 : decode cX4_sortOf 40 = .ok (.iload_n 0, 1) := by decide +kernel
theorem dX4_sortOf_41 : decode cX4_sortOf 41 = .ok (.tableswitch 129 35 62 #[127, 129, 129, 129, 129, 127, 127, 127, 127, 127, 127, 129, 127, 129, 129, 129, 129, 129, 129, 129, 129, 129, 129, 129, 127, 127, 127, 127], 127) := by decide +kernel
theorem dX4_sortOf_168 : decode cX4_sortOf 168 = .ok (.iload_n 0, 1) := by decide +kernel
theorem dX4_sortOf_169 : decode cX4_sortOf 169 = .ok (.ireturn, 1) := by decide +kernel
theorem dX4_sortOf_170 : decode cX4_sortOf 170 = .ok (.iconst 3, 1) := by decide +kernel
theorem dX4_sortOf_171 : decode cX4_sortOf 171 = .ok (.ireturn, 1) := by decide +kernel
theorem gX4_sortOf_0 {d : Nat} {M : ev_Mem} {Q : Option Value → ev_Mem → Prop} {x0 : Int32} (h : (((x0 < 97) → (((x0 < 65) → (((x0 < 48) → (((x0 = 35 ∨ x0 = 40 ∨ x0 = 41 ∨ x0 = 42 ∨ x0 = 43 ∨ x0 = 44 ∨ x0 = 45 ∨ x0 = 47 ∨ x0 = 59 ∨ x0 = 60 ∨ x0 = 61 ∨ x0 = 62) → (Q (some (.int x0)) M)) ∧ ((¬ x0 = 35 ∧ ¬ x0 = 40 ∧ ¬ x0 = 41 ∧ ¬ x0 = 42 ∧ ¬ x0 = 43 ∧ ¬ x0 = 44 ∧ ¬ x0 = 45 ∧ ¬ x0 = 47 ∧ ¬ x0 = 59 ∧ ¬ x0 = 60 ∧ ¬ x0 = 61 ∧ ¬ x0 = 62) → (Q (some (.int 3)) M)))) ∧ ((¬ x0 < 48) → (((57 < x0) → (((x0 = 35 ∨ x0 = 40 ∨ x0 = 41 ∨ x0 = 42 ∨ x0 = 43 ∨ x0 = 44 ∨ x0 = 45 ∨ x0 = 47 ∨ x0 = 59 ∨ x0 = 60 ∨ x0 = 61 ∨ x0 = 62) → (Q (some (.int x0)) M)) ∧ ((¬ x0 = 35 ∧ ¬ x0 = 40 ∧ ¬ x0 = 41 ∧ ¬ x0 = 42 ∧ ¬ x0 = 43 ∧ ¬ x0 = 44 ∧ ¬ x0 = 45 ∧ ¬ x0 = 47 ∧ ¬ x0 = 59 ∧ ¬ x0 = 60 ∧ ¬ x0 = 61 ∧ ¬ x0 = 62) → (Q (some (.int 3)) M)))) ∧ ((¬ 57 < x0) → (Q (some (.int 2)) M)))))) ∧ ((¬ x0 < 65) → (((90 < x0) → (((x0 < 48) → (((x0 = 35 ∨ x0 = 40 ∨ x0 = 41 ∨ x0 = 42 ∨ x0 = 43 ∨ x0 = 44 ∨ x0 = 45 ∨ x0 = 47 ∨ x0 = 59 ∨ x0 = 60 ∨ x0 = 61 ∨ x0 = 62) → (Q (some (.int x0)) M)) ∧ ((¬ x0 = 35 ∧ ¬ x0 = 40 ∧ ¬ x0 = 41 ∧ ¬ x0 = 42 ∧ ¬ x0 = 43 ∧ ¬ x0 = 44 ∧ ¬ x0 = 45 ∧ ¬ x0 = 47 ∧ ¬ x0 = 59 ∧ ¬ x0 = 60 ∧ ¬ x0 = 61 ∧ ¬ x0 = 62) → (Q (some (.int 3)) M)))) ∧ ((¬ x0 < 48) → (((57 < x0) → (((x0 = 35 ∨ x0 = 40 ∨ x0 = 41 ∨ x0 = 42 ∨ x0 = 43 ∨ x0 = 44 ∨ x0 = 45 ∨ x0 = 47 ∨ x0 = 59 ∨ x0 = 60 ∨ x0 = 61 ∨ x0 = 62) → (Q (some (.int x0)) M)) ∧ ((¬ x0 = 35 ∧ ¬ x0 = 40 ∧ ¬ x0 = 41 ∧ ¬ x0 = 42 ∧ ¬ x0 = 43 ∧ ¬ x0 = 44 ∧ ¬ x0 = 45 ∧ ¬ x0 = 47 ∧ ¬ x0 = 59 ∧ ¬ x0 = 60 ∧ ¬ x0 = 61 ∧ ¬ x0 = 62) → (Q (some (.int 3)) M)))) ∧ ((¬ 57 < x0) → (Q (some (.int 2)) M)))))) ∧ ((¬ 90 < x0) → (Q (some (.int 1)) M)))))) ∧ ((¬ x0 < 97) → (((x0 ≤ 122) → (Q (some (.int 1)) M)) ∧ ((¬ x0 ≤ 122) → (((x0 < 65) → (((x0 < 48) → (((x0 = 35 ∨ x0 = 40 ∨ x0 = 41 ∨ x0 = 42 ∨ x0 = 43 ∨ x0 = 44 ∨ x0 = 45 ∨ x0 = 47 ∨ x0 = 59 ∨ x0 = 60 ∨ x0 = 61 ∨ x0 = 62) → (Q (some (.int x0)) M)) ∧ ((¬ x0 = 35 ∧ ¬ x0 = 40 ∧ ¬ x0 = 41 ∧ ¬ x0 = 42 ∧ ¬ x0 = 43 ∧ ¬ x0 = 44 ∧ ¬ x0 = 45 ∧ ¬ x0 = 47 ∧ ¬ x0 = 59 ∧ ¬ x0 = 60 ∧ ¬ x0 = 61 ∧ ¬ x0 = 62) → (Q (some (.int 3)) M)))) ∧ ((¬ x0 < 48) → (((57 < x0) → (((x0 = 35 ∨ x0 = 40 ∨ x0 = 41 ∨ x0 = 42 ∨ x0 = 43 ∨ x0 = 44 ∨ x0 = 45 ∨ x0 = 47 ∨ x0 = 59 ∨ x0 = 60 ∨ x0 = 61 ∨ x0 = 62) → (Q (some (.int x0)) M)) ∧ ((¬ x0 = 35 ∧ ¬ x0 = 40 ∧ ¬ x0 = 41 ∧ ¬ x0 = 42 ∧ ¬ x0 = 43 ∧ ¬ x0 = 44 ∧ ¬ x0 = 45 ∧ ¬ x0 = 47 ∧ ¬ x0 = 59 ∧ ¬ x0 = 60 ∧ ¬ x0 = 61 ∧ ¬ x0 = 62) → (Q (some (.int 3)) M)))) ∧ ((¬ 57 < x0) → (Q (some (.int 2)) M)))))) ∧ ((¬ x0 < 65) → (((90 < x0) → (((x0 < 48) → (((x0 = 35 ∨ x0 = 40 ∨ x0 = 41 ∨ x0 = 42 ∨ x0 = 43 ∨ x0 = 44 ∨ x0 = 45 ∨ x0 = 47 ∨ x0 = 59 ∨ x0 = 60 ∨ x0 = 61 ∨ x0 = 62) → (Q (some (.int x0)) M)) ∧ ((¬ x0 = 35 ∧ ¬ x0 = 40 ∧ ¬ x0 = 41 ∧ ¬ x0 = 42 ∧ ¬ x0 = 43 ∧ ¬ x0 = 44 ∧ ¬ x0 = 45 ∧ ¬ x0 = 47 ∧ ¬ x0 = 59 ∧ ¬ x0 = 60 ∧ ¬ x0 = 61 ∧ ¬ x0 = 62) → (Q (some (.int 3)) M)))) ∧ ((¬ x0 < 48) → (((57 < x0) → (((x0 = 35 ∨ x0 = 40 ∨ x0 = 41 ∨ x0 = 42 ∨ x0 = 43 ∨ x0 = 44 ∨ x0 = 45 ∨ x0 = 47 ∨ x0 = 59 ∨ x0 = 60 ∨ x0 = 61 ∨ x0 = 62) → (Q (some (.int x0)) M)) ∧ ((¬ x0 = 35 ∧ ¬ x0 = 40 ∧ ¬ x0 = 41 ∧ ¬ x0 = 42 ∧ ¬ x0 = 43 ∧ ¬ x0 = 44 ∧ ¬ x0 = 45 ∧ ¬ x0 = 47 ∧ ¬ x0 = 59 ∧ ¬ x0 = 60 ∧ ¬ x0 = 61 ∧ ¬ x0 = 62) → (Q (some (.int 3)) M)))) ∧ ((¬ 57 < x0) → (Q (some (.int 2)) M)))))) ∧ ((¬ 90 < x0) → (Q (some (.int 1)) M)))))))))) : Ev LX d mX4_sortOf 0 [some (.int x0)] [] M Q := by
  refine ev_iload_n dX4_sortOf_0 rfl ?_
  refine ev_bipush (v := 97) dX4_sortOf_1 (by decide) ?_
  refine ev_icmp_lt (tgt := 12) dX4_sortOf_3 (by decide) (fun c => ?_) (fun c => ?_)
  · replace h := h.1 c
    refine ev_iload_n dX4_sortOf_12 rfl ?_
    refine ev_bipush (v := 65) dX4_sortOf_13 (by decide) ?_
    refine ev_icmp_lt (tgt := 26) dX4_sortOf_15 (by decide) (fun c => ?_) (fun c => ?_)
    · replace h := h.1 c
      refine ev_iload_n dX4_sortOf_26 rfl ?_
      refine ev_bipush (v := 48) dX4_sortOf_27 (by decide) ?_
      refine ev_icmp_lt (tgt := 40) dX4_sortOf_29 (by decide) (fun c => ?_) (fun c => ?_)
      · replace h := h.1 c
        refine ev_iload_n dX4_sortOf_40 rfl ?_
        obtain ⟨h0, h1⟩ := h
        by_cases e0 : x0 = 35 ∨ x0 = 40 ∨ x0 = 41 ∨ x0 = 42 ∨ x0 = 43 ∨ x0 = 44 ∨ x0 = 45 ∨ x0 = 47 ∨ x0 = 59 ∨ x0 = 60 ∨ x0 = 61 ∨ x0 = 62
        · replace h := h0 e0
          have hk : ∃ off : Int, ¬ (x0 : Int32).toInt < 35 ∧ ¬ 62 < (x0 : Int32).toInt ∧ #[127, 129, 129, 129, 129, 127, 127, 127, 127, 127, 127, 129, 127, 129, 129, 129, 129, 129, 129, 129, 129, 129, 129, 129, 127, 127, 127, 127][((x0 : Int32).toInt - 35).toNat]? = some off ∧ ((41 : Nat) : Int) + off = ((168 : Nat) : Int) := by
            rcases e0 with e | e | e | e | e | e | e | e | e | e | e | e
            · rw [e]; exact ⟨127, by decide, by decide, by decide, by decide⟩
            · rw [e]; exact ⟨127, by decide, by decide, by decide, by decide⟩
            · rw [e]; exact ⟨127, by decide, by decide, by decide, by decide⟩
            · rw [e]; exact ⟨127, by decide, by decide, by decide, by decide⟩
            · rw [e]; exact ⟨127, by decide, by decide, by decide, by decide⟩
            · rw [e]; exact ⟨127, by decide, by decide, by decide, by decide⟩
            · rw [e]; exact ⟨127, by decide, by decide, by decide, by decide⟩
            · rw [e]; exact ⟨127, by decide, by decide, by decide, by decide⟩
            · rw [e]; exact ⟨127, by decide, by decide, by decide, by decide⟩
            · rw [e]; exact ⟨127, by decide, by decide, by decide, by decide⟩
            · rw [e]; exact ⟨127, by decide, by decide, by decide, by decide⟩
            · rw [e]; exact ⟨127, by decide, by decide, by decide, by decide⟩
          obtain ⟨off, k1, k2, k3, k4⟩ := hk
          refine ev_tableIn (tgt := 168) dX4_sortOf_41 k1 k2 k3 k4 ?_
          refine ev_iload_n dX4_sortOf_168 rfl ?_
          exact ev_iret dX4_sortOf_169 rfl h
        replace h := h1 ⟨fun e => e0 (Or.inl e), fun e => e0 (Or.inr (Or.inl e)), fun e => e0 (Or.inr (Or.inr (Or.inl e))), fun e => e0 (Or.inr (Or.inr (Or.inr (Or.inl e)))), fun e => e0 (Or.inr (Or.inr (Or.inr (Or.inr (Or.inl e))))), fun e => e0 (Or.inr (Or.inr (Or.inr (Or.inr (Or.inr (Or.inl e)))))), fun e => e0 (Or.inr (Or.inr (Or.inr (Or.inr (Or.inr (Or.inr (Or.inl e))))))), fun e => e0 (Or.inr (Or.inr (Or.inr (Or.inr (Or.inr (Or.inr (Or.inr (Or.inl e)))))))), fun e => e0 (Or.inr (Or.inr (Or.inr (Or.inr (Or.inr (Or.inr (Or.inr (Or.inr (Or.inl e))))))))), fun e => e0 (Or.inr (Or.inr (Or.inr (Or.inr (Or.inr (Or.inr (Or.inr (Or.inr (Or.inr (Or.inl e)))))))))), fun e => e0 (Or.inr (Or.inr (Or.inr (Or.inr (Or.inr (Or.inr (Or.inr (Or.inr (Or.inr (Or.inr (Or.inl e))))))))))), fun e => e0 (Or.inr (Or.inr (Or.inr (Or.inr (Or.inr (Or.inr (Or.inr (Or.inr (Or.inr (Or.inr (Or.inr (e))))))))))))⟩
        have hk : ((x0 : Int32).toInt < 35 ∨ 62 < (x0 : Int32).toInt) ∨ ((x0 : Int32).toInt = 36 ∨ (x0 : Int32).toInt = 37 ∨ (x0 : Int32).toInt = 38 ∨ (x0 : Int32).toInt = 39 ∨ (x0 : Int32).toInt = 46 ∨ (x0 : Int32).toInt = 48 ∨ (x0 : Int32).toInt = 49 ∨ (x0 : Int32).toInt = 50 ∨ (x0 : Int32).toInt = 51 ∨ (x0 : Int32).toInt = 52 ∨ (x0 : Int32).toInt = 53 ∨ (x0 : Int32).toInt = 54 ∨ (x0 : Int32).toInt = 55 ∨ (x0 : Int32).toInt = 56 ∨ (x0 : Int32).toInt = 57 ∨ (x0 : Int32).toInt = 58) := by
          have t : ∀ k : Int32, ¬ (x0 : Int32) = k → (x0 : Int32).toInt ≠ k.toInt := fun k hne e => hne (Int32.toInt_inj.mp e)
          have z35 : (x0 : Int32).toInt ≠ 35 := t 35 (fun e => by simp_all)
          have z40 : (x0 : Int32).toInt ≠ 40 := t 40 (fun e => by simp_all)
          have z41 : (x0 : Int32).toInt ≠ 41 := t 41 (fun e => by simp_all)
          have z42 : (x0 : Int32).toInt ≠ 42 := t 42 (fun e => by simp_all)
          have z43 : (x0 : Int32).toInt ≠ 43 := t 43 (fun e => by simp_all)
          have z44 : (x0 : Int32).toInt ≠ 44 := t 44 (fun e => by simp_all)
          have z45 : (x0 : Int32).toInt ≠ 45 := t 45 (fun e => by simp_all)
          have z47 : (x0 : Int32).toInt ≠ 47 := t 47 (fun e => by simp_all)
          have z59 : (x0 : Int32).toInt ≠ 59 := t 59 (fun e => by simp_all)
          have z60 : (x0 : Int32).toInt ≠ 60 := t 60 (fun e => by simp_all)
          have z61 : (x0 : Int32).toInt ≠ 61 := t 61 (fun e => by simp_all)
          have z62 : (x0 : Int32).toInt ≠ 62 := t 62 (fun e => by simp_all)
          omega
        rcases hk with hk | hk
        · refine ev_tableOut (tgt := 170) dX4_sortOf_41 hk (by decide) ?_
          refine ev_iconst (v := 3) dX4_sortOf_170 (by decide) ?_
          exact ev_iret dX4_sortOf_171 rfl h
        · have hk2 : ∃ off : Int, ¬ (x0 : Int32).toInt < 35 ∧ ¬ 62 < (x0 : Int32).toInt ∧ #[127, 129, 129, 129, 129, 127, 127, 127, 127, 127, 127, 129, 127, 129, 129, 129, 129, 129, 129, 129, 129, 129, 129, 129, 127, 127, 127, 127][((x0 : Int32).toInt - 35).toNat]? = some off ∧ ((41 : Nat) : Int) + off = ((170 : Nat) : Int) := by
            rcases hk with e | e | e | e | e | e | e | e | e | e | e | e | e | e | e | e
            · rw [e]; exact ⟨129, by decide, by decide, by decide, by decide⟩
            · rw [e]; exact ⟨129, by decide, by decide, by decide, by decide⟩
            · rw [e]; exact ⟨129, by decide, by decide, by decide, by decide⟩
            · rw [e]; exact ⟨129, by decide, by decide, by decide, by decide⟩
            · rw [e]; exact ⟨129, by decide, by decide, by decide, by decide⟩
            · rw [e]; exact ⟨129, by decide, by decide, by decide, by decide⟩
            · rw [e]; exact ⟨129, by decide, by decide, by decide, by decide⟩
            · rw [e]; exact ⟨129, by decide, by decide, by decide, by decide⟩
            · rw [e]; exact ⟨129, by decide, by decide, by decide, by decide⟩
            · rw [e]; exact ⟨129, by decide, by decide, by decide, by decide⟩
            · rw [e]; exact ⟨129, by decide, by decide, by decide, by decide⟩
            · rw [e]; exact ⟨129, by decide, by decide, by decide, by decide⟩
            · rw [e]; exact ⟨129, by decide, by decide, by decide, by decide⟩
            · rw [e]; exact ⟨129, by decide, by decide, by decide, by decide⟩
            · rw [e]; exact ⟨129, by decide, by decide, by decide, by decide⟩
            · rw [e]; exact ⟨129, by decide, by decide, by decide, by decide⟩
          obtain ⟨off, k1, k2, k3, k4⟩ := hk2
          refine ev_tableIn (tgt := 170) dX4_sortOf_41 k1 k2 k3 k4 ?_
          refine ev_iconst (v := 3) dX4_sortOf_170 (by decide) ?_
          exact ev_iret dX4_sortOf_171 rfl h
      · replace h := h.2 c
        refine ev_iload_n dX4_sortOf_32 rfl ?_
        refine ev_bipush (v := 57) dX4_sortOf_33 (by decide) ?_
        refine ev_icmp_gt (tgt := 40) dX4_sortOf_35 (by decide) (fun c => ?_) (fun c => ?_)
        · replace h := h.1 c
          refine ev_iload_n dX4_sortOf_40 rfl ?_
          obtain ⟨h0, h1⟩ := h
          by_cases e0 : x0 = 35 ∨ x0 = 40 ∨ x0 = 41 ∨ x0 = 42 ∨ x0 = 43 ∨ x0 = 44 ∨ x0 = 45 ∨ x0 = 47 ∨ x0 = 59 ∨ x0 = 60 ∨ x0 = 61 ∨ x0 = 62
          · replace h := h0 e0
            have hk : ∃ off : Int, ¬ (x0 : Int32).toInt < 35 ∧ ¬ 62 < (x0 : Int32).toInt ∧ #[127, 129, 129, 129, 129, 127, 127, 127, 127, 127, 127, 129, 127, 129, 129, 129, 129, 129, 129, 129, 129, 129, 129, 129, 127, 127, 127, 127][((x0 : Int32).toInt - 35).toNat]? = some off ∧ ((41 : Nat) : Int) + off = ((168 : Nat) : Int) := by
              rcases e0 with e | e | e | e | e | e | e | e | e | e | e | e
              · rw [e]; exact ⟨127, by decide, by decide, by decide, by decide⟩
              · rw [e]; exact ⟨127, by decide, by decide, by decide, by decide⟩
              · rw [e]; exact ⟨127, by decide, by decide, by decide, by decide⟩
              · rw [e]; exact ⟨127, by decide, by decide, by decide, by decide⟩
              · rw [e]; exact ⟨127, by decide, by decide, by decide, by decide⟩
              · rw [e]; exact ⟨127, by decide, by decide, by decide, by decide⟩
              · rw [e]; exact ⟨127, by decide, by decide, by decide, by decide⟩
              · rw [e]; exact ⟨127, by decide, by decide, by decide, by decide⟩
              · rw [e]; exact ⟨127, by decide, by decide, by decide, by decide⟩
              · rw [e]; exact ⟨127, by decide, by decide, by decide, by decide⟩
              · rw [e]; exact ⟨127, by decide, by decide, by decide, by decide⟩
              · rw [e]; exact ⟨127, by decide, by decide, by decide, by decide⟩
            obtain ⟨off, k1, k2, k3, k4⟩ := hk
            refine ev_tableIn (tgt := 168) dX4_sortOf_41 k1 k2 k3 k4 ?_
            refine ev_iload_n dX4_sortOf_168 rfl ?_
            exact ev_iret dX4_sortOf_169 rfl h
          replace h := h1 ⟨fun e => e0 (Or.inl e), fun e => e0 (Or.inr (Or.inl e)), fun e => e0 (Or.inr (Or.inr (Or.inl e))), fun e => e0 (Or.inr (Or.inr (Or.inr (Or.inl e)))), fun e => e0 (Or.inr (Or.inr (Or.inr (Or.inr (Or.inl e))))), fun e => e0 (Or.inr (Or.inr (Or.inr (Or.inr (Or.inr (Or.inl e)))))), fun e => e0 (Or.inr (Or.inr (Or.inr (Or.inr (Or.inr (Or.inr (Or.inl e))))))), fun e => e0 (Or.inr (Or.inr (Or.inr (Or.inr (Or.inr (Or.inr (Or.inr (Or.inl e)))))))), fun e => e0 (Or.inr (Or.inr (Or.inr (Or.inr (Or.inr (Or.inr (Or.inr (Or.inr (Or.inl e))))))))), fun e => e0 (Or.inr (Or.inr (Or.inr (Or.inr (Or.inr (Or.inr (Or.inr (Or.inr (Or.inr (Or.inl e)))))))))), fun e => e0 (Or.inr (Or.inr (Or.inr (Or.inr (Or.inr (Or.inr (Or.inr (Or.inr (Or.inr (Or.inr (Or.inl e))))))))))), fun e => e0 (Or.inr (Or.inr (Or.inr (Or.inr (Or.inr (Or.inr (Or.inr (Or.inr (Or.inr (Or.inr (Or.inr (e))))))))))))⟩
          have hk : ((x0 : Int32).toInt < 35 ∨ 62 < (x0 : Int32).toInt) ∨ ((x0 : Int32).toInt = 36 ∨ (x0 : Int32).toInt = 37 ∨ (x0 : Int32).toInt = 38 ∨ (x0 : Int32).toInt = 39 ∨ (x0 : Int32).toInt = 46 ∨ (x0 : Int32).toInt = 48 ∨ (x0 : Int32).toInt = 49 ∨ (x0 : Int32).toInt = 50 ∨ (x0 : Int32).toInt = 51 ∨ (x0 : Int32).toInt = 52 ∨ (x0 : Int32).toInt = 53 ∨ (x0 : Int32).toInt = 54 ∨ (x0 : Int32).toInt = 55 ∨ (x0 : Int32).toInt = 56 ∨ (x0 : Int32).toInt = 57 ∨ (x0 : Int32).toInt = 58) := by
            have t : ∀ k : Int32, ¬ (x0 : Int32) = k → (x0 : Int32).toInt ≠ k.toInt := fun k hne e => hne (Int32.toInt_inj.mp e)
            have z35 : (x0 : Int32).toInt ≠ 35 := t 35 (fun e => by simp_all)
            have z40 : (x0 : Int32).toInt ≠ 40 := t 40 (fun e => by simp_all)
            have z41 : (x0 : Int32).toInt ≠ 41 := t 41 (fun e => by simp_all)
            have z42 : (x0 : Int32).toInt ≠ 42 := t 42 (fun e => by simp_all)
            have z43 : (x0 : Int32).toInt ≠ 43 := t 43 (fun e => by simp_all)
            have z44 : (x0 : Int32).toInt ≠ 44 := t 44 (fun e => by simp_all)
            have z45 : (x0 : Int32).toInt ≠ 45 := t 45 (fun e => by simp_all)
            have z47 : (x0 : Int32).toInt ≠ 47 := t 47 (fun e => by simp_all)
            have z59 : (x0 : Int32).toInt ≠ 59 := t 59 (fun e => by simp_all)
            have z60 : (x0 : Int32).toInt ≠ 60 := t 60 (fun e => by simp_all)
            have z61 : (x0 : Int32).toInt ≠ 61 := t 61 (fun e => by simp_all)
            have z62 : (x0 : Int32).toInt ≠ 62 := t 62 (fun e => by simp_all)
            omega
          rcases hk with hk | hk
          · refine ev_tableOut (tgt := 170) dX4_sortOf_41 hk (by decide) ?_
            refine ev_iconst (v := 3) dX4_sortOf_170 (by decide) ?_
            exact ev_iret dX4_sortOf_171 rfl h
          · have hk2 : ∃ off : Int, ¬ (x0 : Int32).toInt < 35 ∧ ¬ 62 < (x0 : Int32).toInt ∧ #[127, 129, 129, 129, 129, 127, 127, 127, 127, 127, 127, 129, 127, 129, 129, 129, 129, 129, 129, 129, 129, 129, 129, 129, 127, 127, 127, 127][((x0 : Int32).toInt - 35).toNat]? = some off ∧ ((41 : Nat) : Int) + off = ((170 : Nat) : Int) := by
              rcases hk with e | e | e | e | e | e | e | e | e | e | e | e | e | e | e | e
              · rw [e]; exact ⟨129, by decide, by decide, by decide, by decide⟩
              · rw [e]; exact ⟨129, by decide, by decide, by decide, by decide⟩
              · rw [e]; exact ⟨129, by decide, by decide, by decide, by decide⟩
              · rw [e]; exact ⟨129, by decide, by decide, by decide, by decide⟩
              · rw [e]; exact ⟨129, by decide, by decide, by decide, by decide⟩
              · rw [e]; exact ⟨129, by decide, by decide, by decide, by decide⟩
              · rw [e]; exact ⟨129, by decide, by decide, by decide, by decide⟩
              · rw [e]; exact ⟨129, by decide, by decide, by decide, by decide⟩
              · rw [e]; exact ⟨129, by decide, by decide, by decide, by decide⟩
              · rw [e]; exact ⟨129, by decide, by decide, by decide, by decide⟩
              · rw [e]; exact ⟨129, by decide, by decide, by decide, by decide⟩
              · rw [e]; exact ⟨129, by decide, by decide, by decide, by decide⟩
              · rw [e]; exact ⟨129, by decide, by decide, by decide, by decide⟩
              · rw [e]; exact ⟨129, by decide, by decide, by decide, by decide⟩
              · rw [e]; exact ⟨129, by decide, by decide, by decide, by decide⟩
              · rw [e]; exact ⟨129, by decide, by decide, by decide, by decide⟩
            obtain ⟨off, k1, k2, k3, k4⟩ := hk2
            refine ev_tableIn (tgt := 170) dX4_sortOf_41 k1 k2 k3 k4 ?_
            refine ev_iconst (v := 3) dX4_sortOf_170 (by decide) ?_
            exact ev_iret dX4_sortOf_171 rfl h
        · replace h := h.2 c
          refine ev_iconst (v := 2) dX4_sortOf_38 (by decide) ?_
          exact ev_iret dX4_sortOf_39 rfl h
    · replace h := h.2 c
      refine ev_iload_n dX4_sortOf_18 rfl ?_
      refine ev_bipush (v := 90) dX4_sortOf_19 (by decide) ?_
      refine ev_icmp_gt (tgt := 26) dX4_sortOf_21 (by decide) (fun c => ?_) (fun c => ?_)
      · replace h := h.1 c
        refine ev_iload_n dX4_sortOf_26 rfl ?_
        refine ev_bipush (v := 48) dX4_sortOf_27 (by decide) ?_
        refine ev_icmp_lt (tgt := 40) dX4_sortOf_29 (by decide) (fun c => ?_) (fun c => ?_)
        · replace h := h.1 c
          refine ev_iload_n dX4_sortOf_40 rfl ?_
          obtain ⟨h0, h1⟩ := h
          by_cases e0 : x0 = 35 ∨ x0 = 40 ∨ x0 = 41 ∨ x0 = 42 ∨ x0 = 43 ∨ x0 = 44 ∨ x0 = 45 ∨ x0 = 47 ∨ x0 = 59 ∨ x0 = 60 ∨ x0 = 61 ∨ x0 = 62
          · replace h := h0 e0
            have hk : ∃ off : Int, ¬ (x0 : Int32).toInt < 35 ∧ ¬ 62 < (x0 : Int32).toInt ∧ #[127, 129, 129, 129, 129, 127, 127, 127, 127, 127, 127, 129, 127, 129, 129, 129, 129, 129, 129, 129, 129, 129, 129, 129, 127, 127, 127, 127][((x0 : Int32).toInt - 35).toNat]? = some off ∧ ((41 : Nat) : Int) + off = ((168 : Nat) : Int) := by
              rcases e0 with e | e | e | e | e | e | e | e | e | e | e | e
              · rw [e]; exact ⟨127, by decide, by decide, by decide, by decide⟩
              · rw [e]; exact ⟨127, by decide, by decide, by decide, by decide⟩
              · rw [e]; exact ⟨127, by decide, by decide, by decide, by decide⟩
              · rw [e]; exact ⟨127, by decide, by decide, by decide, by decide⟩
              · rw [e]; exact ⟨127, by decide, by decide, by decide, by decide⟩
              · rw [e]; exact ⟨127, by decide, by decide, by decide, by decide⟩
              · rw [e]; exact ⟨127, by decide, by decide, by decide, by decide⟩
              · rw [e]; exact ⟨127, by decide, by decide, by decide, by decide⟩
              · rw [e]; exact ⟨127, by decide, by decide, by decide, by decide⟩
              · rw [e]; exact ⟨127, by decide, by decide, by decide, by decide⟩
              · rw [e]; exact ⟨127, by decide, by decide, by decide, by decide⟩
              · rw [e]; exact ⟨127, by decide, by decide, by decide, by decide⟩
            obtain ⟨off, k1, k2, k3, k4⟩ := hk
            refine ev_tableIn (tgt := 168) dX4_sortOf_41 k1 k2 k3 k4 ?_
            refine ev_iload_n dX4_sortOf_168 rfl ?_
            exact ev_iret dX4_sortOf_169 rfl h
          replace h := h1 ⟨fun e => e0 (Or.inl e), fun e => e0 (Or.inr (Or.inl e)), fun e => e0 (Or.inr (Or.inr (Or.inl e))), fun e => e0 (Or.inr (Or.inr (Or.inr (Or.inl e)))), fun e => e0 (Or.inr (Or.inr (Or.inr (Or.inr (Or.inl e))))), fun e => e0 (Or.inr (Or.inr (Or.inr (Or.inr (Or.inr (Or.inl e)))))), fun e => e0 (Or.inr (Or.inr (Or.inr (Or.inr (Or.inr (Or.inr (Or.inl e))))))), fun e => e0 (Or.inr (Or.inr (Or.inr (Or.inr (Or.inr (Or.inr (Or.inr (Or.inl e)))))))), fun e => e0 (Or.inr (Or.inr (Or.inr (Or.inr (Or.inr (Or.inr (Or.inr (Or.inr (Or.inl e))))))))), fun e => e0 (Or.inr (Or.inr (Or.inr (Or.inr (Or.inr (Or.inr (Or.inr (Or.inr (Or.inr (Or.inl e)))))))))), fun e => e0 (Or.inr (Or.inr (Or.inr (Or.inr (Or.inr (Or.inr (Or.inr (Or.inr (Or.inr (Or.inr (Or.inl e))))))))))), fun e => e0 (Or.inr (Or.inr (Or.inr (Or.inr (Or.inr (Or.inr (Or.inr (Or.inr (Or.inr (Or.inr (Or.inr (e))))))))))))⟩
          have hk : ((x0 : Int32).toInt < 35 ∨ 62 < (x0 : Int32).toInt) ∨ ((x0 : Int32).toInt = 36 ∨ (x0 : Int32).toInt = 37 ∨ (x0 : Int32).toInt = 38 ∨ (x0 : Int32).toInt = 39 ∨ (x0 : Int32).toInt = 46 ∨ (x0 : Int32).toInt = 48 ∨ (x0 : Int32).toInt = 49 ∨ (x0 : Int32).toInt = 50 ∨ (x0 : Int32).toInt = 51 ∨ (x0 : Int32).toInt = 52 ∨ (x0 : Int32).toInt = 53 ∨ (x0 : Int32).toInt = 54 ∨ (x0 : Int32).toInt = 55 ∨ (x0 : Int32).toInt = 56 ∨ (x0 : Int32).toInt = 57 ∨ (x0 : Int32).toInt = 58) := by
            have t : ∀ k : Int32, ¬ (x0 : Int32) = k → (x0 : Int32).toInt ≠ k.toInt := fun k hne e => hne (Int32.toInt_inj.mp e)
            have z35 : (x0 : Int32).toInt ≠ 35 := t 35 (fun e => by simp_all)
            have z40 : (x0 : Int32).toInt ≠ 40 := t 40 (fun e => by simp_all)
            have z41 : (x0 : Int32).toInt ≠ 41 := t 41 (fun e => by simp_all)
            have z42 : (x0 : Int32).toInt ≠ 42 := t 42 (fun e => by simp_all)
            have z43 : (x0 : Int32).toInt ≠ 43 := t 43 (fun e => by simp_all)
            have z44 : (x0 : Int32).toInt ≠ 44 := t 44 (fun e => by simp_all)
            have z45 : (x0 : Int32).toInt ≠ 45 := t 45 (fun e => by simp_all)
            have z47 : (x0 : Int32).toInt ≠ 47 := t 47 (fun e => by simp_all)
            have z59 : (x0 : Int32).toInt ≠ 59 := t 59 (fun e => by simp_all)
            have z60 : (x0 : Int32).toInt ≠ 60 := t 60 (fun e => by simp_all)
            have z61 : (x0 : Int32).toInt ≠ 61 := t 61 (fun e => by simp_all)
            have z62 : (x0 : Int32).toInt ≠ 62 := t 62 (fun e => by simp_all)
            omega
          rcases hk with hk | hk
          · refine ev_tableOut (tgt := 170) dX4_sortOf_41 hk (by decide) ?_
            refine ev_iconst (v := 3) dX4_sortOf_170 (by decide) ?_
            exact ev_iret dX4_sortOf_171 rfl h
          · have hk2 : ∃ off : Int, ¬ (x0 : Int32).toInt < 35 ∧ ¬ 62 < (x0 : Int32).toInt ∧ #[127, 129, 129, 129, 129, 127, 127, 127, 127, 127, 127, 129, 127, 129, 129, 129, 129, 129, 129, 129, 129, 129, 129, 129, 127, 127, 127, 127][((x0 : Int32).toInt - 35).toNat]? = some off ∧ ((41 : Nat) : Int) + off = ((170 : Nat) : Int) := by
              rcases hk with e | e | e | e | e | e | e | e | e | e | e | e | e | e | e | e
              · rw [e]; exact ⟨129, by decide, by decide, by decide, by decide⟩
              · rw [e]; exact ⟨129, by decide, by decide, by decide, by decide⟩
              · rw [e]; exact ⟨129, by decide, by decide, by decide, by decide⟩
              · rw [e]; exact ⟨129, by decide, by decide, by decide, by decide⟩
              · rw [e]; exact ⟨129, by decide, by decide, by decide, by decide⟩
              · rw [e]; exact ⟨129, by decide, by decide, by decide, by decide⟩
              · rw [e]; exact ⟨129, by decide, by decide, by decide, by decide⟩
              · rw [e]; exact ⟨129, by decide, by decide, by decide, by decide⟩
              · rw [e]; exact ⟨129, by decide, by decide, by decide, by decide⟩
              · rw [e]; exact ⟨129, by decide, by decide, by decide, by decide⟩
              · rw [e]; exact ⟨129, by decide, by decide, by decide, by decide⟩
              · rw [e]; exact ⟨129, by decide, by decide, by decide, by decide⟩
              · rw [e]; exact ⟨129, by decide, by decide, by decide, by decide⟩
              · rw [e]; exact ⟨129, by decide, by decide, by decide, by decide⟩
              · rw [e]; exact ⟨129, by decide, by decide, by decide, by decide⟩
              · rw [e]; exact ⟨129, by decide, by decide, by decide, by decide⟩
            obtain ⟨off, k1, k2, k3, k4⟩ := hk2
            refine ev_tableIn (tgt := 170) dX4_sortOf_41 k1 k2 k3 k4 ?_
            refine ev_iconst (v := 3) dX4_sortOf_170 (by decide) ?_
            exact ev_iret dX4_sortOf_171 rfl h
        · replace h := h.2 c
          refine ev_iload_n dX4_sortOf_32 rfl ?_
          refine ev_bipush (v := 57) dX4_sortOf_33 (by decide) ?_
          refine ev_icmp_gt (tgt := 40) dX4_sortOf_35 (by decide) (fun c => ?_) (fun c => ?_)
          · replace h := h.1 c
            refine ev_iload_n dX4_sortOf_40 rfl ?_
            obtain ⟨h0, h1⟩ := h
            by_cases e0 : x0 = 35 ∨ x0 = 40 ∨ x0 = 41 ∨ x0 = 42 ∨ x0 = 43 ∨ x0 = 44 ∨ x0 = 45 ∨ x0 = 47 ∨ x0 = 59 ∨ x0 = 60 ∨ x0 = 61 ∨ x0 = 62
            · replace h := h0 e0
              have hk : ∃ off : Int, ¬ (x0 : Int32).toInt < 35 ∧ ¬ 62 < (x0 : Int32).toInt ∧ #[127, 129, 129, 129, 129, 127, 127, 127, 127, 127, 127, 129, 127, 129, 129, 129, 129, 129, 129, 129, 129, 129, 129, 129, 127, 127, 127, 127][((x0 : Int32).toInt - 35).toNat]? = some off ∧ ((41 : Nat) : Int) + off = ((168 : Nat) : Int) := by
                rcases e0 with e | e | e | e | e | e | e | e | e | e | e | e
                · rw [e]; exact ⟨127, by decide, by decide, by decide, by decide⟩
                · rw [e]; exact ⟨127, by decide, by decide, by decide, by decide⟩
                · rw [e]; exact ⟨127, by decide, by decide, by decide, by decide⟩
                · rw [e]; exact ⟨127, by decide, by decide, by decide, by decide⟩
                · rw [e]; exact ⟨127, by decide, by decide, by decide, by decide⟩
                · rw [e]; exact ⟨127, by decide, by decide, by decide, by decide⟩
                · rw [e]; exact ⟨127, by decide, by decide, by decide, by decide⟩
                · rw [e]; exact ⟨127, by decide, by decide, by decide, by decide⟩
                · rw [e]; exact ⟨127, by decide, by decide, by decide, by decide⟩
                · rw [e]; exact ⟨127, by decide, by decide, by decide, by decide⟩
                · rw [e]; exact ⟨127, by decide, by decide, by decide, by decide⟩
                · rw [e]; exact ⟨127, by decide, by decide, by decide, by decide⟩
              obtain ⟨off, k1, k2, k3, k4⟩ := hk
              refine ev_tableIn (tgt := 168) dX4_sortOf_41 k1 k2 k3 k4 ?_
              refine ev_iload_n dX4_sortOf_168 rfl ?_
              exact ev_iret dX4_sortOf_169 rfl h
            replace h := h1 ⟨fun e => e0 (Or.inl e), fun e => e0 (Or.inr (Or.inl e)), fun e => e0 (Or.inr (Or.inr (Or.inl e))), fun e => e0 (Or.inr (Or.inr (Or.inr (Or.inl e)))), fun e => e0 (Or.inr (Or.inr (Or.inr (Or.inr (Or.inl e))))), fun e => e0 (Or.inr (Or.inr (Or.inr (Or.inr (Or.inr (Or.inl e)))))), fun e => e0 (Or.inr (Or.inr (Or.inr (Or.inr (Or.inr (Or.inr (Or.inl e))))))), fun e => e0 (Or.inr (Or.inr (Or.inr (Or.inr (Or.inr (Or.inr (Or.inr (Or.inl e)))))))), fun e => e0 (Or.inr (Or.inr (Or.inr (Or.inr (Or.inr (Or.inr (Or.inr (Or.inr (Or.inl e))))))))), fun e => e0 (Or.inr (Or.inr (Or.inr (Or.inr (Or.inr (Or.inr (Or.inr (Or.inr (Or.inr (Or.inl e)))))))))), fun e => e0 (Or.inr (Or.inr (Or.inr (Or.inr (Or.inr (Or.inr (Or.inr (Or.inr (Or.inr (Or.inr (Or.inl e))))))))))), fun e => e0 (Or.inr (Or.inr (Or.inr (Or.inr (Or.inr (Or.inr (Or.inr (Or.inr (Or.inr (Or.inr (Or.inr (e))))))))))))⟩
            have hk : ((x0 : Int32).toInt < 35 ∨ 62 < (x0 : Int32).toInt) ∨ ((x0 : Int32).toInt = 36 ∨ (x0 : Int32).toInt = 37 ∨ (x0 : Int32).toInt = 38 ∨ (x0 : Int32).toInt = 39 ∨ (x0 : Int32).toInt = 46 ∨ (x0 : Int32).toInt = 48 ∨ (x0 : Int32).toInt = 49 ∨ (x0 : Int32).toInt = 50 ∨ (x0 : Int32).toInt = 51 ∨ (x0 : Int32).toInt = 52 ∨ (x0 : Int32).toInt = 53 ∨ (x0 : Int32).toInt = 54 ∨ (x0 : Int32).toInt = 55 ∨ (x0 : Int32).toInt = 56 ∨ (x0 : Int32).toInt = 57 ∨ (x0 : Int32).toInt = 58) := by
              have t : ∀ k : Int32, ¬ (x0 : Int32) = k → (x0 : Int32).toInt ≠ k.toInt := fun k hne e => hne (Int32.toInt_inj.mp e)
              have z35 : (x0 : Int32).toInt ≠ 35 := t 35 (fun e => by simp_all)
              have z40 : (x0 : Int32).toInt ≠ 40 := t 40 (fun e => by simp_all)
              have z41 : (x0 : Int32).toInt ≠ 41 := t 41 (fun e => by simp_all)
              have z42 : (x0 : Int32).toInt ≠ 42 := t 42 (fun e => by simp_all)
              have z43 : (x0 : Int32).toInt ≠ 43 := t 43 (fun e => by simp_all)
              have z44 : (x0 : Int32).toInt ≠ 44 := t 44 (fun e => by simp_all)
              have z45 : (x0 : Int32).toInt ≠ 45 := t 45 (fun e => by simp_all)
              have z47 : (x0 : Int32).toInt ≠ 47 := t 47 (fun e => by simp_all)
              have z59 : (x0 : Int32).toInt ≠ 59 := t 59 (fun e => by simp_all)
              have z60 : (x0 : Int32).toInt ≠ 60 := t 60 (fun e => by simp_all)
              have z61 : (x0 : Int32).toInt ≠ 61 := t 61 (fun e => by simp_all)
              have z62 : (x0 : Int32).toInt ≠ 62 := t 62 (fun e => by simp_all)
              omega
            rcases hk with hk | hk
            · refine ev_tableOut (tgt := 170) dX4_sortOf_41 hk (by decide) ?_
              refine ev_iconst (v := 3) dX4_sortOf_170 (by decide) ?_
              exact ev_iret dX4_sortOf_171 rfl h
            · have hk2 : ∃ off : Int, ¬ (x0 : Int32).toInt < 35 ∧ ¬ 62 < (x0 : Int32).toInt ∧ #[127, 129, 129, 129, 129, 127, 127, 127, 127, 127, 127, 129, 127, 129, 129, 129, 129, 129, 129, 129, 129, 129, 129, 129, 127, 127, 127, 127][((x0 : Int32).toInt - 35).toNat]? = some off ∧ ((41 : Nat) : Int) + off = ((170 : Nat) : Int) := by
                rcases hk with e | e | e | e | e | e | e | e | e | e | e | e | e | e | e | e
                · rw [e]; exact ⟨129, by decide, by decide, by decide, by decide⟩
                · rw [e]; exact ⟨129, by decide, by decide, by decide, by decide⟩
                · rw [e]; exact ⟨129, by decide, by decide, by decide, by decide⟩
                · rw [e]; exact ⟨129, by decide, by decide, by decide, by decide⟩
                · rw [e]; exact ⟨129, by decide, by decide, by decide, by decide⟩
                · rw [e]; exact ⟨129, by decide, by decide, by decide, by decide⟩
                · rw [e]; exact ⟨129, by decide, by decide, by decide, by decide⟩
                · rw [e]; exact ⟨129, by decide, by decide, by decide, by decide⟩
                · rw [e]; exact ⟨129, by decide, by decide, by decide, by decide⟩
                · rw [e]; exact ⟨129, by decide, by decide, by decide, by decide⟩
                · rw [e]; exact ⟨129, by decide, by decide, by decide, by decide⟩
                · rw [e]; exact ⟨129, by decide, by decide, by decide, by decide⟩
                · rw [e]; exact ⟨129, by decide, by decide, by decide, by decide⟩
                · rw [e]; exact ⟨129, by decide, by decide, by decide, by decide⟩
                · rw [e]; exact ⟨129, by decide, by decide, by decide, by decide⟩
                · rw [e]; exact ⟨129, by decide, by decide, by decide, by decide⟩
              obtain ⟨off, k1, k2, k3, k4⟩ := hk2
              refine ev_tableIn (tgt := 170) dX4_sortOf_41 k1 k2 k3 k4 ?_
              refine ev_iconst (v := 3) dX4_sortOf_170 (by decide) ?_
              exact ev_iret dX4_sortOf_171 rfl h
          · replace h := h.2 c
            refine ev_iconst (v := 2) dX4_sortOf_38 (by decide) ?_
            exact ev_iret dX4_sortOf_39 rfl h
      · replace h := h.2 c
        refine ev_iconst (v := 1) dX4_sortOf_24 (by decide) ?_
        exact ev_iret dX4_sortOf_25 rfl h
  · replace h := h.2 c
    refine ev_iload_n dX4_sortOf_6 rfl ?_
    refine ev_bipush (v := 122) dX4_sortOf_7 (by decide) ?_
    refine ev_icmp_le (tgt := 24) dX4_sortOf_9 (by decide) (fun c => ?_) (fun c => ?_)
    · replace h := h.1 c
      refine ev_iconst (v := 1) dX4_sortOf_24 (by decide) ?_
      exact ev_iret dX4_sortOf_25 rfl h
    · replace h := h.2 c
      refine ev_iload_n dX4_sortOf_12 rfl ?_
      refine ev_bipush (v := 65) dX4_sortOf_13 (by decide) ?_
      refine ev_icmp_lt (tgt := 26) dX4_sortOf_15 (by decide) (fun c => ?_) (fun c => ?_)
      · replace h := h.1 c
        refine ev_iload_n dX4_sortOf_26 rfl ?_
        refine ev_bipush (v := 48) dX4_sortOf_27 (by decide) ?_
        refine ev_icmp_lt (tgt := 40) dX4_sortOf_29 (by decide) (fun c => ?_) (fun c => ?_)
        · replace h := h.1 c
          refine ev_iload_n dX4_sortOf_40 rfl ?_
          obtain ⟨h0, h1⟩ := h
          by_cases e0 : x0 = 35 ∨ x0 = 40 ∨ x0 = 41 ∨ x0 = 42 ∨ x0 = 43 ∨ x0 = 44 ∨ x0 = 45 ∨ x0 = 47 ∨ x0 = 59 ∨ x0 = 60 ∨ x0 = 61 ∨ x0 = 62
          · replace h := h0 e0
            have hk : ∃ off : Int, ¬ (x0 : Int32).toInt < 35 ∧ ¬ 62 < (x0 : Int32).toInt ∧ #[127, 129, 129, 129, 129, 127, 127, 127, 127, 127, 127, 129, 127, 129, 129, 129, 129, 129, 129, 129, 129, 129, 129, 129, 127, 127, 127, 127][((x0 : Int32).toInt - 35).toNat]? = some off ∧ ((41 : Nat) : Int) + off = ((168 : Nat) : Int) := by
              rcases e0 with e | e | e | e | e | e | e | e | e | e | e | e
              · rw [e]; exact ⟨127, by decide, by decide, by decide, by decide⟩
              · rw [e]; exact ⟨127, by decide, by decide, by decide, by decide⟩
              · rw [e]; exact ⟨127, by decide, by decide, by decide, by decide⟩
              · rw [e]; exact ⟨127, by decide, by decide, by decide, by decide⟩
              · rw [e]; exact ⟨127, by decide, by decide, by decide, by decide⟩
              · rw [e]; exact ⟨127, by decide, by decide, by decide, by decide⟩
              · rw [e]; exact ⟨127, by decide, by decide, by decide, by decide⟩
              · rw [e]; exact ⟨127, by decide, by decide, by decide, by decide⟩
              · rw [e]; exact ⟨127, by decide, by decide, by decide, by decide⟩
              · rw [e]; exact ⟨127, by decide, by decide, by decide, by decide⟩
              · rw [e]; exact ⟨127, by decide, by decide, by decide, by decide⟩
              · rw [e]; exact ⟨127, by decide, by decide, by decide, by decide⟩
            obtain ⟨off, k1, k2, k3, k4⟩ := hk
            refine ev_tableIn (tgt := 168) dX4_sortOf_41 k1 k2 k3 k4 ?_
            refine ev_iload_n dX4_sortOf_168 rfl ?_
            exact ev_iret dX4_sortOf_169 rfl h
          replace h := h1 ⟨fun e => e0 (Or.inl e), fun e => e0 (Or.inr (Or.inl e)), fun e => e0 (Or.inr (Or.inr (Or.inl e))), fun e => e0 (Or.inr (Or.inr (Or.inr (Or.inl e)))), fun e => e0 (Or.inr (Or.inr (Or.inr (Or.inr (Or.inl e))))), fun e => e0 (Or.inr (Or.inr (Or.inr (Or.inr (Or.inr (Or.inl e)))))), fun e => e0 (Or.inr (Or.inr (Or.inr (Or.inr (Or.inr (Or.inr (Or.inl e))))))), fun e => e0 (Or.inr (Or.inr (Or.inr (Or.inr (Or.inr (Or.inr (Or.inr (Or.inl e)))))))), fun e => e0 (Or.inr (Or.inr (Or.inr (Or.inr (Or.inr (Or.inr (Or.inr (Or.inr (Or.inl e))))))))), fun e => e0 (Or.inr (Or.inr (Or.inr (Or.inr (Or.inr (Or.inr (Or.inr (Or.inr (Or.inr (Or.inl e)))))))))), fun e => e0 (Or.inr (Or.inr (Or.inr (Or.inr (Or.inr (Or.inr (Or.inr (Or.inr (Or.inr (Or.inr (Or.inl e))))))))))), fun e => e0 (Or.inr (Or.inr (Or.inr (Or.inr (Or.inr (Or.inr (Or.inr (Or.inr (Or.inr (Or.inr (Or.inr (e))))))))))))⟩
          have hk : ((x0 : Int32).toInt < 35 ∨ 62 < (x0 : Int32).toInt) ∨ ((x0 : Int32).toInt = 36 ∨ (x0 : Int32).toInt = 37 ∨ (x0 : Int32).toInt = 38 ∨ (x0 : Int32).toInt = 39 ∨ (x0 : Int32).toInt = 46 ∨ (x0 : Int32).toInt = 48 ∨ (x0 : Int32).toInt = 49 ∨ (x0 : Int32).toInt = 50 ∨ (x0 : Int32).toInt = 51 ∨ (x0 : Int32).toInt = 52 ∨ (x0 : Int32).toInt = 53 ∨ (x0 : Int32).toInt = 54 ∨ (x0 : Int32).toInt = 55 ∨ (x0 : Int32).toInt = 56 ∨ (x0 : Int32).toInt = 57 ∨ (x0 : Int32).toInt = 58) := by
            have t : ∀ k : Int32, ¬ (x0 : Int32) = k → (x0 : Int32).toInt ≠ k.toInt := fun k hne e => hne (Int32.toInt_inj.mp e)
            have z35 : (x0 : Int32).toInt ≠ 35 := t 35 (fun e => by simp_all)
            have z40 : (x0 : Int32).toInt ≠ 40 := t 40 (fun e => by simp_all)
            have z41 : (x0 : Int32).toInt ≠ 41 := t 41 (fun e => by simp_all)
            have z42 : (x0 : Int32).toInt ≠ 42 := t 42 (fun e => by simp_all)
            have z43 : (x0 : Int32).toInt ≠ 43 := t 43 (fun e => by simp_all)
            have z44 : (x0 : Int32).toInt ≠ 44 := t 44 (fun e => by simp_all)
            have z45 : (x0 : Int32).toInt ≠ 45 := t 45 (fun e => by simp_all)
            have z47 : (x0 : Int32).toInt ≠ 47 := t 47 (fun e => by simp_all)
            have z59 : (x0 : Int32).toInt ≠ 59 := t 59 (fun e => by simp_all)
            have z60 : (x0 : Int32).toInt ≠ 60 := t 60 (fun e => by simp_all)
            have z61 : (x0 : Int32).toInt ≠ 61 := t 61 (fun e => by simp_all)
            have z62 : (x0 : Int32).toInt ≠ 62 := t 62 (fun e => by simp_all)
            omega
          rcases hk with hk | hk
          · refine ev_tableOut (tgt := 170) dX4_sortOf_41 hk (by decide) ?_
            refine ev_iconst (v := 3) dX4_sortOf_170 (by decide) ?_
            exact ev_iret dX4_sortOf_171 rfl h
          · have hk2 : ∃ off : Int, ¬ (x0 : Int32).toInt < 35 ∧ ¬ 62 < (x0 : Int32).toInt ∧ #[127, 129, 129, 129, 129, 127, 127, 127, 127, 127, 127, 129, 127, 129, 129, 129, 129, 129, 129, 129, 129, 129, 129, 129, 127, 127, 127, 127][((x0 : Int32).toInt - 35).toNat]? = some off ∧ ((41 : Nat) : Int) + off = ((170 : Nat) : Int) := by
              rcases hk with e | e | e | e | e | e | e | e | e | e | e | e | e | e | e | e
              · rw [e]; exact ⟨129, by decide, by decide, by decide, by decide⟩
              · rw [e]; exact ⟨129, by decide, by decide, by decide, by decide⟩
              · rw [e]; exact ⟨129, by decide, by decide, by decide, by decide⟩
              · rw [e]; exact ⟨129, by decide, by decide, by decide, by decide⟩
              · rw [e]; exact ⟨129, by decide, by decide, by decide, by decide⟩
              · rw [e]; exact ⟨129, by decide, by decide, by decide, by decide⟩
              · rw [e]; exact ⟨129, by decide, by decide, by decide, by decide⟩
              · rw [e]; exact ⟨129, by decide, by decide, by decide, by decide⟩
              · rw [e]; exact ⟨129, by decide, by decide, by decide, by decide⟩
              · rw [e]; exact ⟨129, by decide, by decide, by decide, by decide⟩
              · rw [e]; exact ⟨129, by decide, by decide, by decide, by decide⟩
              · rw [e]; exact ⟨129, by decide, by decide, by decide, by decide⟩
              · rw [e]; exact ⟨129, by decide, by decide, by decide, by decide⟩
              · rw [e]; exact ⟨129, by decide, by decide, by decide, by decide⟩
              · rw [e]; exact ⟨129, by decide, by decide, by decide, by decide⟩
              · rw [e]; exact ⟨129, by decide, by decide, by decide, by decide⟩
            obtain ⟨off, k1, k2, k3, k4⟩ := hk2
            refine ev_tableIn (tgt := 170) dX4_sortOf_41 k1 k2 k3 k4 ?_
            refine ev_iconst (v := 3) dX4_sortOf_170 (by decide) ?_
            exact ev_iret dX4_sortOf_171 rfl h
        · replace h := h.2 c
          refine ev_iload_n dX4_sortOf_32 rfl ?_
          refine ev_bipush (v := 57) dX4_sortOf_33 (by decide) ?_
          refine ev_icmp_gt (tgt := 40) dX4_sortOf_35 (by decide) (fun c => ?_) (fun c => ?_)
          · replace h := h.1 c
            refine ev_iload_n dX4_sortOf_40 rfl ?_
            obtain ⟨h0, h1⟩ := h
            by_cases e0 : x0 = 35 ∨ x0 = 40 ∨ x0 = 41 ∨ x0 = 42 ∨ x0 = 43 ∨ x0 = 44 ∨ x0 = 45 ∨ x0 = 47 ∨ x0 = 59 ∨ x0 = 60 ∨ x0 = 61 ∨ x0 = 62
            · replace h := h0 e0
              have hk : ∃ off : Int, ¬ (x0 : Int32).toInt < 35 ∧ ¬ 62 < (x0 : Int32).toInt ∧ #[127, 129, 129, 129, 129, 127, 127, 127, 127, 127, 127, 129, 127, 129, 129, 129, 129, 129, 129, 129, 129, 129, 129, 129, 127, 127, 127, 127][((x0 : Int32).toInt - 35).toNat]? = some off ∧ ((41 : Nat) : Int) + off = ((168 : Nat) : Int) := by
                rcases e0 with e | e | e | e | e | e | e | e | e | e | e | e
                · rw [e]; exact ⟨127, by decide, by decide, by decide, by decide⟩
                · rw [e]; exact ⟨127, by decide, by decide, by decide, by decide⟩
                · rw [e]; exact ⟨127, by decide, by decide, by decide, by decide⟩
                · rw [e]; exact ⟨127, by decide, by decide, by decide, by decide⟩
                · rw [e]; exact ⟨127, by decide, by decide, by decide, by decide⟩
                · rw [e]; exact ⟨127, by decide, by decide, by decide, by decide⟩
                · rw [e]; exact ⟨127, by decide, by decide, by decide, by decide⟩
                · rw [e]; exact ⟨127, by decide, by decide, by decide, by decide⟩
                · rw [e]; exact ⟨127, by decide, by decide, by decide, by decide⟩
                · rw [e]; exact ⟨127, by decide, by decide, by decide, by decide⟩
                · rw [e]; exact ⟨127, by decide, by decide, by decide, by decide⟩
                · rw [e]; exact ⟨127, by decide, by decide, by decide, by decide⟩
              obtain ⟨off, k1, k2, k3, k4⟩ := hk
              refine ev_tableIn (tgt := 168) dX4_sortOf_41 k1 k2 k3 k4 ?_
              refine ev_iload_n dX4_sortOf_168 rfl ?_
              exact ev_iret dX4_sortOf_169 rfl h
            replace h := h1 ⟨fun e => e0 (Or.inl e), fun e => e0 (Or.inr (Or.inl e)), fun e => e0 (Or.inr (Or.inr (Or.inl e))), fun e => e0 (Or.inr (Or.inr (Or.inr (Or.inl e)))), fun e => e0 (Or.inr (Or.inr (Or.inr (Or.inr (Or.inl e))))), fun e => e0 (Or.inr (Or.inr (Or.inr (Or.inr (Or.inr (Or.inl e)))))), fun e => e0 (Or.inr (Or.inr (Or.inr (Or.inr (Or.inr (Or.inr (Or.inl e))))))), fun e => e0 (Or.inr (Or.inr (Or.inr (Or.inr (Or.inr (Or.inr (Or.inr (Or.inl e)))))))), fun e => e0 (Or.inr (Or.inr (Or.inr (Or.inr (Or.inr (Or.inr (Or.inr (Or.inr (Or.inl e))))))))), fun e => e0 (Or.inr (Or.inr (Or.inr (Or.inr (Or.inr (Or.inr (Or.inr (Or.inr (Or.inr (Or.inl e)))))))))), fun e => e0 (Or.inr (Or.inr (Or.inr (Or.inr (Or.inr (Or.inr (Or.inr (Or.inr (Or.inr (Or.inr (Or.inl e))))))))))), fun e => e0 (Or.inr (Or.inr (Or.inr (Or.inr (Or.inr (Or.inr (Or.inr (Or.inr (Or.inr (Or.inr (Or.inr (e))))))))))))⟩
            have hk : ((x0 : Int32).toInt < 35 ∨ 62 < (x0 : Int32).toInt) ∨ ((x0 : Int32).toInt = 36 ∨ (x0 : Int32).toInt = 37 ∨ (x0 : Int32).toInt = 38 ∨ (x0 : Int32).toInt = 39 ∨ (x0 : Int32).toInt = 46 ∨ (x0 : Int32).toInt = 48 ∨ (x0 : Int32).toInt = 49 ∨ (x0 : Int32).toInt = 50 ∨ (x0 : Int32).toInt = 51 ∨ (x0 : Int32).toInt = 52 ∨ (x0 : Int32).toInt = 53 ∨ (x0 : Int32).toInt = 54 ∨ (x0 : Int32).toInt = 55 ∨ (x0 : Int32).toInt = 56 ∨ (x0 : Int32).toInt = 57 ∨ (x0 : Int32).toInt = 58) := by
              have t : ∀ k : Int32, ¬ (x0 : Int32) = k → (x0 : Int32).toInt ≠ k.toInt := fun k hne e => hne (Int32.toInt_inj.mp e)
              have z35 : (x0 : Int32).toInt ≠ 35 := t 35 (fun e => by simp_all)
              have z40 : (x0 : Int32).toInt ≠ 40 := t 40 (fun e => by simp_all)
              have z41 : (x0 : Int32).toInt ≠ 41 := t 41 (fun e => by simp_all)
              have z42 : (x0 : Int32).toInt ≠ 42 := t 42 (fun e => by simp_all)
              have z43 : (x0 : Int32).toInt ≠ 43 := t 43 (fun e => by simp_all)
              have z44 : (x0 : Int32).toInt ≠ 44 := t 44 (fun e => by simp_all)
              have z45 : (x0 : Int32).toInt ≠ 45 := t 45 (fun e => by simp_all)
              have z47 : (x0 : Int32).toInt ≠ 47 := t 47 (fun e => by simp_all)
              have z59 : (x0 : Int32).toInt ≠ 59 := t 59 (fun e => by simp_all)
              have z60 : (x0 : Int32).toInt ≠ 60 := t 60 (fun e => by simp_all)
              have z61 : (x0 : Int32).toInt ≠ 61 := t 61 (fun e => by simp_all)
              have z62 : (x0 : Int32).toInt ≠ 62 := t 62 (fun e => by simp_all)
              omega
            rcases hk with hk | hk
            · refine ev_tableOut (tgt := 170) dX4_sortOf_41 hk (by decide) ?_
              refine ev_iconst (v := 3) dX4_sortOf_170 (by decide) ?_
              exact ev_iret dX4_sortOf_171 rfl h
            · have hk2 : ∃ off : Int, ¬ (x0 : Int32).toInt < 35 ∧ ¬ 62 < (x0 : Int32).toInt ∧ #[127, 129, 129, 129, 129, 127, 127, 127, 127, 127, 127, 129, 127, 129, 129, 129, 129, 129, 129, 129, 129, 129, 129, 129, 127, 127, 127, 127][((x0 : Int32).toInt - 35).toNat]? = some off ∧ ((41 : Nat) : Int) + off = ((170 : Nat) : Int) := by
                rcases hk with e | e | e | e | e | e | e | e | e | e | e | e | e | e | e | e
                · rw [e]; exact ⟨129, by decide, by decide, by decide, by decide⟩
                · rw [e]; exact ⟨129, by decide, by decide, by decide, by decide⟩
                · rw [e]; exact ⟨129, by decide, by decide, by decide, by decide⟩
                · rw [e]; exact ⟨129, by decide, by decide, by decide, by decide⟩
                · rw [e]; exact ⟨129, by decide, by decide, by decide, by decide⟩
                · rw [e]; exact ⟨129, by decide, by decide, by decide, by decide⟩
                · rw [e]; exact ⟨129, by decide, by decide, by decide, by decide⟩
                · rw [e]; exact ⟨129, by decide, by decide, by decide, by decide⟩
                · rw [e]; exact ⟨129, by decide, by decide, by decide, by decide⟩
                · rw [e]; exact ⟨129, by decide, by decide, by decide, by decide⟩
                · rw [e]; exact ⟨129, by decide, by decide, by decide, by decide⟩
                · rw [e]; exact ⟨129, by decide, by decide, by decide, by decide⟩
                · rw [e]; exact ⟨129, by decide, by decide, by decide, by decide⟩
                · rw [e]; exact ⟨129, by decide, by decide, by decide, by decide⟩
                · rw [e]; exact ⟨129, by decide, by decide, by decide, by decide⟩
                · rw [e]; exact ⟨129, by decide, by decide, by decide, by decide⟩
              obtain ⟨off, k1, k2, k3, k4⟩ := hk2
              refine ev_tableIn (tgt := 170) dX4_sortOf_41 k1 k2 k3 k4 ?_
              refine ev_iconst (v := 3) dX4_sortOf_170 (by decide) ?_
              exact ev_iret dX4_sortOf_171 rfl h
          · replace h := h.2 c
            refine ev_iconst (v := 2) dX4_sortOf_38 (by decide) ?_
            exact ev_iret dX4_sortOf_39 rfl h
      · replace h := h.2 c
        refine ev_iload_n dX4_sortOf_18 rfl ?_
        refine ev_bipush (v := 90) dX4_sortOf_19 (by decide) ?_
        refine ev_icmp_gt (tgt := 26) dX4_sortOf_21 (by decide) (fun c => ?_) (fun c => ?_)
        · replace h := h.1 c
          refine ev_iload_n dX4_sortOf_26 rfl ?_
          refine ev_bipush (v := 48) dX4_sortOf_27 (by decide) ?_
          refine ev_icmp_lt (tgt := 40) dX4_sortOf_29 (by decide) (fun c => ?_) (fun c => ?_)
          · replace h := h.1 c
            refine ev_iload_n dX4_sortOf_40 rfl ?_
            obtain ⟨h0, h1⟩ := h
            by_cases e0 : x0 = 35 ∨ x0 = 40 ∨ x0 = 41 ∨ x0 = 42 ∨ x0 = 43 ∨ x0 = 44 ∨ x0 = 45 ∨ x0 = 47 ∨ x0 = 59 ∨ x0 = 60 ∨ x0 = 61 ∨ x0 = 62
            · replace h := h0 e0
              have hk : ∃ off : Int, ¬ (x0 : Int32).toInt < 35 ∧ ¬ 62 < (x0 : Int32).toInt ∧ #[127, 129, 129, 129, 129, 127, 127, 127, 127, 127, 127, 129, 127, 129, 129, 129, 129, 129, 129, 129, 129, 129, 129, 129, 127, 127, 127, 127][((x0 : Int32).toInt - 35).toNat]? = some off ∧ ((41 : Nat) : Int) + off = ((168 : Nat) : Int) := by
                rcases e0 with e | e | e | e | e | e | e | e | e | e | e | e
                · rw [e]; exact ⟨127, by decide, by decide, by decide, by decide⟩
                · rw [e]; exact ⟨127, by decide, by decide, by decide, by decide⟩
                · rw [e]; exact ⟨127, by decide, by decide, by decide, by decide⟩
                · rw [e]; exact ⟨127, by decide, by decide, by decide, by decide⟩
                · rw [e]; exact ⟨127, by decide, by decide, by decide, by decide⟩
                · rw [e]; exact ⟨127, by decide, by decide, by decide, by decide⟩
                · rw [e]; exact ⟨127, by decide, by decide, by decide, by decide⟩
                · rw [e]; exact ⟨127, by decide, by decide, by decide, by decide⟩
                · rw [e]; exact ⟨127, by decide, by decide, by decide, by decide⟩
                · rw [e]; exact ⟨127, by decide, by decide, by decide, by decide⟩
                · rw [e]; exact ⟨127, by decide, by decide, by decide, by decide⟩
                · rw [e]; exact ⟨127, by decide, by decide, by decide, by decide⟩
              obtain ⟨off, k1, k2, k3, k4⟩ := hk
              refine ev_tableIn (tgt := 168) dX4_sortOf_41 k1 k2 k3 k4 ?_
              refine ev_iload_n dX4_sortOf_168 rfl ?_
              exact ev_iret dX4_sortOf_169 rfl h
            replace h := h1 ⟨fun e => e0 (Or.inl e), fun e => e0 (Or.inr (Or.inl e)), fun e => e0 (Or.inr (Or.inr (Or.inl e))), fun e => e0 (Or.inr (Or.inr (Or.inr (Or.inl e)))), fun e => e0 (Or.inr (Or.inr (Or.inr (Or.inr (Or.inl e))))), fun e => e0 (Or.inr (Or.inr (Or.inr (Or.inr (Or.inr (Or.inl e)))))), fun e => e0 (Or.inr (Or.inr (Or.inr (Or.inr (Or.inr (Or.inr (Or.inl e))))))), fun e => e0 (Or.inr (Or.inr (Or.inr (Or.inr (Or.inr (Or.inr (Or.inr (Or.inl e)))))))), fun e => e0 (Or.inr (Or.inr (Or.inr (Or.inr (Or.inr (Or.inr (Or.inr (Or.inr (Or.inl e))))))))), fun e => e0 (Or.inr (Or.inr (Or.inr (Or.inr (Or.inr (Or.inr (Or.inr (Or.inr (Or.inr (Or.inl e)))))))))), fun e => e0 (Or.inr (Or.inr (Or.inr (Or.inr (Or.inr (Or.inr (Or.inr (Or.inr (Or.inr (Or.inr (Or.inl e))))))))))), fun e => e0 (Or.inr (Or.inr (Or.inr (Or.inr (Or.inr (Or.inr (Or.inr (Or.inr (Or.inr (Or.inr (Or.inr (e))))))))))))⟩
            have hk : ((x0 : Int32).toInt < 35 ∨ 62 < (x0 : Int32).toInt) ∨ ((x0 : Int32).toInt = 36 ∨ (x0 : Int32).toInt = 37 ∨ (x0 : Int32).toInt = 38 ∨ (x0 : Int32).toInt = 39 ∨ (x0 : Int32).toInt = 46 ∨ (x0 : Int32).toInt = 48 ∨ (x0 : Int32).toInt = 49 ∨ (x0 : Int32).toInt = 50 ∨ (x0 : Int32).toInt = 51 ∨ (x0 : Int32).toInt = 52 ∨ (x0 : Int32).toInt = 53 ∨ (x0 : Int32).toInt = 54 ∨ (x0 : Int32).toInt = 55 ∨ (x0 : Int32).toInt = 56 ∨ (x0 : Int32).toInt = 57 ∨ (x0 : Int32).toInt = 58) := by
              have t : ∀ k : Int32, ¬ (x0 : Int32) = k → (x0 : Int32).toInt ≠ k.toInt := fun k hne e => hne (Int32.toInt_inj.mp e)
              have z35 : (x0 : Int32).toInt ≠ 35 := t 35 (fun e => by simp_all)
              have z40 : (x0 : Int32).toInt ≠ 40 := t 40 (fun e => by simp_all)
              have z41 : (x0 : Int32).toInt ≠ 41 := t 41 (fun e => by simp_all)
              have z42 : (x0 : Int32).toInt ≠ 42 := t 42 (fun e => by simp_all)
              have z43 : (x0 : Int32).toInt ≠ 43 := t 43 (fun e => by simp_all)
              have z44 : (x0 : Int32).toInt ≠ 44 := t 44 (fun e => by simp_all)
              have z45 : (x0 : Int32).toInt ≠ 45 := t 45 (fun e => by simp_all)
              have z47 : (x0 : Int32).toInt ≠ 47 := t 47 (fun e => by simp_all)
              have z59 : (x0 : Int32).toInt ≠ 59 := t 59 (fun e => by simp_all)
              have z60 : (x0 : Int32).toInt ≠ 60 := t 60 (fun e => by simp_all)
              have z61 : (x0 : Int32).toInt ≠ 61 := t 61 (fun e => by simp_all)
              have z62 : (x0 : Int32).toInt ≠ 62 := t 62 (fun e => by simp_all)
              omega
            rcases hk with hk | hk
            · refine ev_tableOut (tgt := 170) dX4_sortOf_41 hk (by decide) ?_
              refine ev_iconst (v := 3) dX4_sortOf_170 (by decide) ?_
              exact ev_iret dX4_sortOf_171 rfl h
            · have hk2 : ∃ off : Int, ¬ (x0 : Int32).toInt < 35 ∧ ¬ 62 < (x0 : Int32).toInt ∧ #[127, 129, 129, 129, 129, 127, 127, 127, 127, 127, 127, 129, 127, 129, 129, 129, 129, 129, 129, 129, 129, 129, 129, 129, 127, 127, 127, 127][((x0 : Int32).toInt - 35).toNat]? = some off ∧ ((41 : Nat) : Int) + off = ((170 : Nat) : Int) := by
                rcases hk with e | e | e | e | e | e | e | e | e | e | e | e | e | e | e | e
                · rw [e]; exact ⟨129, by decide, by decide, by decide, by decide⟩
                · rw [e]; exact ⟨129, by decide, by decide, by decide, by decide⟩
                · rw [e]; exact ⟨129, by decide, by decide, by decide, by decide⟩
                · rw [e]; exact ⟨129, by decide, by decide, by decide, by decide⟩
                · rw [e]; exact ⟨129, by decide, by decide, by decide, by decide⟩
                · rw [e]; exact ⟨129, by decide, by decide, by decide, by decide⟩
                · rw [e]; exact ⟨129, by decide, by decide, by decide, by decide⟩
                · rw [e]; exact ⟨129, by decide, by decide, by decide, by decide⟩
                · rw [e]; exact ⟨129, by decide, by decide, by decide, by decide⟩
                · rw [e]; exact ⟨129, by decide, by decide, by decide, by decide⟩
                · rw [e]; exact ⟨129, by decide, by decide, by decide, by decide⟩
                · rw [e]; exact ⟨129, by decide, by decide, by decide, by decide⟩
                · rw [e]; exact ⟨129, by decide, by decide, by decide, by decide⟩
                · rw [e]; exact ⟨129, by decide, by decide, by decide, by decide⟩
                · rw [e]; exact ⟨129, by decide, by decide, by decide, by decide⟩
                · rw [e]; exact ⟨129, by decide, by decide, by decide, by decide⟩
              obtain ⟨off, k1, k2, k3, k4⟩ := hk2
              refine ev_tableIn (tgt := 170) dX4_sortOf_41 k1 k2 k3 k4 ?_
              refine ev_iconst (v := 3) dX4_sortOf_170 (by decide) ?_
              exact ev_iret dX4_sortOf_171 rfl h
          · replace h := h.2 c
            refine ev_iload_n dX4_sortOf_32 rfl ?_
            refine ev_bipush (v := 57) dX4_sortOf_33 (by decide) ?_
            refine ev_icmp_gt (tgt := 40) dX4_sortOf_35 (by decide) (fun c => ?_) (fun c => ?_)
            · replace h := h.1 c
              refine ev_iload_n dX4_sortOf_40 rfl ?_
              obtain ⟨h0, h1⟩ := h
              by_cases e0 : x0 = 35 ∨ x0 = 40 ∨ x0 = 41 ∨ x0 = 42 ∨ x0 = 43 ∨ x0 = 44 ∨ x0 = 45 ∨ x0 = 47 ∨ x0 = 59 ∨ x0 = 60 ∨ x0 = 61 ∨ x0 = 62
              · replace h := h0 e0
                have hk : ∃ off : Int, ¬ (x0 : Int32).toInt < 35 ∧ ¬ 62 < (x0 : Int32).toInt ∧ #[127, 129, 129, 129, 129, 127, 127, 127, 127, 127, 127, 129, 127, 129, 129, 129, 129, 129, 129, 129, 129, 129, 129, 129, 127, 127, 127, 127][((x0 : Int32).toInt - 35).toNat]? = some off ∧ ((41 : Nat) : Int) + off = ((168 : Nat) : Int) := by
                  rcases e0 with e | e | e | e | e | e | e | e | e | e | e | e
                  · rw [e]; exact ⟨127, by decide, by decide, by decide, by decide⟩
                  · rw [e]; exact ⟨127, by decide, by decide, by decide, by decide⟩
                  · rw [e]; exact ⟨127, by decide, by decide, by decide, by decide⟩
                  · rw [e]; exact ⟨127, by decide, by decide, by decide, by decide⟩
                  · rw [e]; exact ⟨127, by decide, by decide, by decide, by decide⟩
                  · rw [e]; exact ⟨127, by decide, by decide, by decide, by decide⟩
                  · rw [e]; exact ⟨127, by decide, by decide, by decide, by decide⟩
                  · rw [e]; exact ⟨127, by decide, by decide, by decide, by decide⟩
                  · rw [e]; exact ⟨127, by decide, by decide, by decide, by decide⟩
                  · rw [e]; exact ⟨127, by decide, by decide, by decide, by decide⟩
                  · rw [e]; exact ⟨127, by decide, by decide, by decide, by decide⟩
                  · rw [e]; exact ⟨127, by decide, by decide, by decide, by decide⟩
                obtain ⟨off, k1, k2, k3, k4⟩ := hk
                refine ev_tableIn (tgt := 168) dX4_sortOf_41 k1 k2 k3 k4 ?_
                refine ev_iload_n dX4_sortOf_168 rfl ?_
                exact ev_iret dX4_sortOf_169 rfl h
              replace h := h1 ⟨fun e => e0 (Or.inl e), fun e => e0 (Or.inr (Or.inl e)), fun e => e0 (Or.inr (Or.inr (Or.inl e))), fun e => e0 (Or.inr (Or.inr (Or.inr (Or.inl e)))), fun e => e0 (Or.inr (Or.inr (Or.inr (Or.inr (Or.inl e))))), fun e => e0 (Or.inr (Or.inr (Or.inr (Or.inr (Or.inr (Or.inl e)))))), fun e => e0 (Or.inr (Or.inr (Or.inr (Or.inr (Or.inr (Or.inr (Or.inl e))))))), fun e => e0 (Or.inr (Or.inr (Or.inr (Or.inr (Or.inr (Or.inr (Or.inr (Or.inl e)))))))), fun e => e0 (Or.inr (Or.inr (Or.inr (Or.inr (Or.inr (Or.inr (Or.inr (Or.inr (Or.inl e))))))))), fun e => e0 (Or.inr (Or.inr (Or.inr (Or.inr (Or.inr (Or.inr (Or.inr (Or.inr (Or.inr (Or.inl e)))))))))), fun e => e0 (Or.inr (Or.inr (Or.inr (Or.inr (Or.inr (Or.inr (Or.inr (Or.inr (Or.inr (Or.inr (Or.inl e))))))))))), fun e => e0 (Or.inr (Or.inr (Or.inr (Or.inr (Or.inr (Or.inr (Or.inr (Or.inr (Or.inr (Or.inr (Or.inr (e))))))))))))⟩
              have hk : ((x0 : Int32).toInt < 35 ∨ 62 < (x0 : Int32).toInt) ∨ ((x0 : Int32).toInt = 36 ∨ (x0 : Int32).toInt = 37 ∨ (x0 : Int32).toInt = 38 ∨ (x0 : Int32).toInt = 39 ∨ (x0 : Int32).toInt = 46 ∨ (x0 : Int32).toInt = 48 ∨ (x0 : Int32).toInt = 49 ∨ (x0 : Int32).toInt = 50 ∨ (x0 : Int32).toInt = 51 ∨ (x0 : Int32).toInt = 52 ∨ (x0 : Int32).toInt = 53 ∨ (x0 : Int32).toInt = 54 ∨ (x0 : Int32).toInt = 55 ∨ (x0 : Int32).toInt = 56 ∨ (x0 : Int32).toInt = 57 ∨ (x0 : Int32).toInt = 58) := by
                have t : ∀ k : Int32, ¬ (x0 : Int32) = k → (x0 : Int32).toInt ≠ k.toInt := fun k hne e => hne (Int32.toInt_inj.mp e)
                have z35 : (x0 : Int32).toInt ≠ 35 := t 35 (fun e => by simp_all)
                have z40 : (x0 : Int32).toInt ≠ 40 := t 40 (fun e => by simp_all)
                have z41 : (x0 : Int32).toInt ≠ 41 := t 41 (fun e => by simp_all)
                have z42 : (x0 : Int32).toInt ≠ 42 := t 42 (fun e => by simp_all)
                have z43 : (x0 : Int32).toInt ≠ 43 := t 43 (fun e => by simp_all)
                have z44 : (x0 : Int32).toInt ≠ 44 := t 44 (fun e => by simp_all)
                have z45 : (x0 : Int32).toInt ≠ 45 := t 45 (fun e => by simp_all)
                have z47 : (x0 : Int32).toInt ≠ 47 := t 47 (fun e => by simp_all)
                have z59 : (x0 : Int32).toInt ≠ 59 := t 59 (fun e => by simp_all)
                have z60 : (x0 : Int32).toInt ≠ 60 := t 60 (fun e => by simp_all)
                have z61 : (x0 : Int32).toInt ≠ 61 := t 61 (fun e => by simp_all)
                have z62 : (x0 : Int32).toInt ≠ 62 := t 62 (fun e => by simp_all)
                omega
              rcases hk with hk | hk
              · refine ev_tableOut (tgt := 170) dX4_sortOf_41 hk (by decide) ?_
                refine ev_iconst (v := 3) dX4_sortOf_170 (by decide) ?_
                exact ev_iret dX4_sortOf_171 rfl h
              · have hk2 : ∃ off : Int, ¬ (x0 : Int32).toInt < 35 ∧ ¬ 62 < (x0 : Int32).toInt ∧ #[127, 129, 129, 129, 129, 127, 127, 127, 127, 127, 127, 129, 127, 129, 129, 129, 129, 129, 129, 129, 129, 129, 129, 129, 127, 127, 127, 127][((x0 : Int32).toInt - 35).toNat]? = some off ∧ ((41 : Nat) : Int) + off = ((170 : Nat) : Int) := by
                  rcases hk with e | e | e | e | e | e | e | e | e | e | e | e | e | e | e | e
                  · rw [e]; exact ⟨129, by decide, by decide, by decide, by decide⟩
                  · rw [e]; exact ⟨129, by decide, by decide, by decide, by decide⟩
                  · rw [e]; exact ⟨129, by decide, by decide, by decide, by decide⟩
                  · rw [e]; exact ⟨129, by decide, by decide, by decide, by decide⟩
                  · rw [e]; exact ⟨129, by decide, by decide, by decide, by decide⟩
                  · rw [e]; exact ⟨129, by decide, by decide, by decide, by decide⟩
                  · rw [e]; exact ⟨129, by decide, by decide, by decide, by decide⟩
                  · rw [e]; exact ⟨129, by decide, by decide, by decide, by decide⟩
                  · rw [e]; exact ⟨129, by decide, by decide, by decide, by decide⟩
                  · rw [e]; exact ⟨129, by decide, by decide, by decide, by decide⟩
                  · rw [e]; exact ⟨129, by decide, by decide, by decide, by decide⟩
                  · rw [e]; exact ⟨129, by decide, by decide, by decide, by decide⟩
                  · rw [e]; exact ⟨129, by decide, by decide, by decide, by decide⟩
                  · rw [e]; exact ⟨129, by decide, by decide, by decide, by decide⟩
                  · rw [e]; exact ⟨129, by decide, by decide, by decide, by decide⟩
                  · rw [e]; exact ⟨129, by decide, by decide, by decide, by decide⟩
                obtain ⟨off, k1, k2, k3, k4⟩ := hk2
                refine ev_tableIn (tgt := 170) dX4_sortOf_41 k1 k2 k3 k4 ?_
                refine ev_iconst (v := 3) dX4_sortOf_170 (by decide) ?_
                exact ev_iret dX4_sortOf_171 rfl h
            · replace h := h.2 c
              refine ev_iconst (v := 2) dX4_sortOf_38 (by decide) ?_
              exact ev_iret dX4_sortOf_39 rfl h
        · replace h := h.2 c
          refine ev_iconst (v := 1) dX4_sortOf_24 (by decide) ?_
          exact ev_iret dX4_sortOf_25 rfl h
theorem dX8_put_0 : decode cX8_put 0 = .ok (.aload_n 0, 1) := by decide +kernel
theorem dX8_put_1 : decode cX8_put 1 = .ok (.getfield 24, 3) := by decide +kernel
theorem dX8_put_4 : decode cX8_put 4 = .ok (.sipush 300, 3) := by decide +kernel
theorem dX8_put_7 : decode cX8_put 7 = .ok (.if_icmp .ge 23, 3) := by decide +kernel
theorem dX8_put_10 : decode cX8_put 10 = .ok (.aload_n 0, 1) := by decide +kernel
theorem dX8_put_11 : decode cX8_put 11 = .ok (.getfield 9, 3) := by decide +kernel
theorem dX8_put_14 : decode cX8_put 14 = .ok (.aload_n 0, 1) := by decide +kernel
theorem dX8_put_15 : decode cX8_put 15 = .ok (.getfield 24, 3) := by decide +kernel
theorem dX8_put_18 : decode cX8_put 18 = .ok (.iload_n 1, 1) := by decide +kernel
theorem dX8_put_19 : decode cX8_put 19 = .ok (.iastore, 1) := by decide +kernel
theorem dX8_put_20 : decode cX8_put 20 = .ok (.aload_n 0, 1) := by decide +kernel
theorem dX8_put_21 : decode cX8_put 21 = .ok (.dup, 1) := by decide +kernel
theorem dX8_put_22 : decode cX8_put 22 = .ok (.getfield 24, 3) := by decide +kernel
theorem dX8_put_25 : decode cX8_put 25 = .ok (.iconst 1, 1) := by decide +kernel
theorem dX8_put_26 : decode cX8_put 26 = .ok (.iadd, 1) := by decide +kernel
theorem dX8_put_27 : decode cX8_put 27 = .ok (.putfield 24, 3) := by decide +kernel
theorem dX8_put_30 : decode cX8_put 30 = .ok (.return_, 1) := by decide +kernel
theorem gX8_put_0 {d : Nat} {M : ev_Mem} {Q : Option Value → ev_Mem → Prop} {x1 : Int32} {k : Nat} (hk : ev_isT k) (h : (((300 ≤ (M.1 k 1)) → (Q none M)) ∧ ((¬ 300 ≤ (M.1 k 1)) → (vp_in (M.1 k 1) 300 ∧ (∀ M1 : ev_Mem, M1 = ev_wr M (k + 1) (M.1 k 1).toNatClampNeg x1 → (∀ M2 : ev_Mem, M2 = ev_wr M1 k 1 ((M1.1 k 1) + 1) → (Q none M2))))))) : Ev LX d mX8_put 0 [some (.ref k), some (.int x1)] [] M Q := by
  refine ev_aload_n dX8_put_0 rfl ?_
  refine ev_getI dX8_put_1 fl_WithoutE_Text_24 (lx_T hk) rfl ?_
  refine ev_sipush (v := 300) dX8_put_4 (by decide) ?_
  refine ev_icmp_ge (tgt := 30) dX8_put_7 (by decide) (fun c => ?_) (fun c => ?_)
  · replace h := h.1 c
    exact ev_vret dX8_put_30 rfl h
  · replace h := h.2 c
    refine ev_aload_n dX8_put_10 rfl ?_
    refine ev_getA dX8_put_11 fl_WithoutE_Text_9 (lx_T hk) rfl ?_
    refine ev_aload_n dX8_put_14 rfl ?_
    refine ev_getI dX8_put_15 fl_WithoutE_Text_24 (lx_T hk) rfl ?_
    refine ev_iload_n dX8_put_18 rfl ?_
    obtain ⟨c, h⟩ := h
    refine ev_iast dX8_put_19 (lx_T1 hk) c ?_
    generalize eM1 : ev_wr M (k + 1) (M.1 k 1).toNatClampNeg x1 = M1
    replace h := h M1 eM1.symm
    refine ev_aload_n dX8_put_20 rfl ?_
    refine ev_dup dX8_put_21 rfl ?_
    refine ev_getI dX8_put_22 fl_WithoutE_Text_24 (lx_T hk) rfl ?_
    refine ev_iconst (v := 1) dX8_put_25 (by decide) ?_
    refine ev_iadd dX8_put_26 ?_
    refine ev_putI dX8_put_27 fp_WithoutE_Text_24 (lx_T hk) rfl rfl rfl ?_
    generalize eM2 : ev_wr M1 k 1 ((M1.1 k 1) + 1) = M2
    replace h := h M2 eM2.symm
    exact ev_vret dX8_put_30 rfl h
theorem dX4_number_0 : decode cX4_number 0 = .ok (.iconst 0, 1) := by decide +kernel
theorem dX4_number_1 : decode cX4_number 1 = .ok (.istore_n 1, 1) := by decide +kernel
theorem dX4_number_2 : decode cX4_number 2 = .ok (.aload_n 0, 1) := by decide +kernel
theorem dX4_number_3 : decode cX4_number 3 = .ok (.getfield 48, 3) := by decide +kernel
theorem dX4_number_6 : decode cX4_number 6 = .ok (.istore_n 2, 1) := by decide +kernel
theorem dX4_number_7 : decode cX4_number 7 = .ok (.iload_n 2, 1) := by decide +kernel
theorem dX4_number_8 : decode cX4_number 8 = .ok (.aload_n 0, 1) := by decide +kernel
theorem dX4_number_9 : decode cX4_number 9 = .ok (.getfield 35, 3) := by decide +kernel
theorem dX4_number_12 : decode cX4_number 12 = .ok (.if_icmp .ge 33, 3) := by decide +kernel
theorem dX4_number_15 : decode cX4_number 15 = .ok (.iload_n 1, 1) := by decide +kernel
theorem dX4_number_16 : decode cX4_number 16 = .ok (.bipush 10, 2) := by decide +kernel
theorem dX4_number_18 : decode cX4_number 18 = .ok (.imul, 1) := by decide +kernel
theorem dX4_number_19 : decode cX4_number 19 = .ok (.aload_n 0, 1) := by decide +kernel
theorem dX4_number_20 : decode cX4_number 20 = .ok (.getfield 15, 3) := by decide +kernel
theorem dX4_number_23 : decode cX4_number 23 = .ok (.getfield 56, 3) := by decide +kernel
theorem dX4_number_26 : decode cX4_number 26 = .ok (.iload_n 2, 1) := by decide +kernel
theorem dX4_number_27 : decode cX4_number 27 = .ok (.iaload, 1) := by decide +kernel
theorem dX4_number_28 : decode cX4_number 28 = .ok (.iadd, 1) := by decide +kernel
theorem dX4_number_29 : decode cX4_number 29 = .ok (.bipush 48, 2) := by decide +kernel
theorem dX4_number_31 : decode cX4_number 31 = .ok (.isub, 1) := by decide +kernel
theorem dX4_number_32 : decode cX4_number 32 = .ok (.sipush 10000, 3) := by decide +kernel
theorem dX4_number_35 : decode cX4_number 35 = .ok (.invokestatic 64, 3) := by decide +kernel
theorem dX4_number_38 : decode cX4_number 38 = .ok (.istore_n 1, 1) := by decide +kernel
theorem dX4_number_39 : decode cX4_number 39 = .ok (.iinc 2 1, 3) := by decide +kernel
theorem dX4_number_42 : decode cX4_number 42 = .ok (.goto (-35), 3) := by decide +kernel
theorem dX4_number_45 : decode cX4_number 45 = .ok (.iload_n 1, 1) := by decide +kernel
theorem dX4_number_46 : decode cX4_number 46 = .ok (.ireturn, 1) := by decide +kernel
theorem gX4_number_0 {d : Nat} {M : ev_Mem} {Q : Option Value → ev_Mem → Prop} (h : (Ev LX d mX4_number 7 [some (.ref 81), some (.int 0), some (.int (M.1 81 6))] [] M Q)) : Ev LX d mX4_number 0 [some (.ref 81), none, none] [] M Q := by
  refine ev_iconst (v := 0) dX4_number_0 (by decide) ?_
  refine ev_istore_n (ls2 := [some (.ref 81), some (.int 0), none]) dX4_number_1 (Nat.le_of_ble_eq_true rfl) rfl ?_
  refine ev_aload_n dX4_number_2 rfl ?_
  refine ev_getI dX4_number_3 fl_WithoutE_Reader_48 lx_81 rfl ?_
  refine ev_istore_n (ls2 := [some (.ref 81), some (.int 0), some (.int (M.1 81 6))]) dX4_number_6 (Nat.le_of_ble_eq_true rfl) rfl ?_
  exact h
theorem gX4_number_7 {d : Nat} {M : ev_Mem} {Q : Option Value → ev_Mem → Prop} {x1 x2 : Int32} (h : ((((M.1 81 7) ≤ x2) → (Q (some (.int x1)) M)) ∧ ((¬ (M.1 81 7) ≤ x2) → (vp_in x2 300 ∧ (∃ Q2 : Option Value → ev_Mem → Prop, Cl LX d mJ9_min_7cf53 [.int (((x1 * 10) + (M.1 2 x2.toNatClampNeg)) - 48), .int 10000] M Q2 ∧ ∀ (r : Option Value) (M9 : ev_Mem), Q2 r M9 → Ev LX (d + 1) mX4_number 38 [some (.ref 81), none, some (.int x2)] (r.toList ++ []) M9 Q))))) : Ev LX (d + 1) mX4_number 7 [some (.ref 81), some (.int x1), some (.int x2)] [] M Q := by
  refine ev_iload_n dX4_number_7 rfl ?_
  refine ev_aload_n dX4_number_8 rfl ?_
  refine ev_getI dX4_number_9 fl_WithoutE_Reader_35 lx_81 rfl ?_
  refine ev_icmp_ge (tgt := 45) dX4_number_12 (by decide) (fun c => ?_) (fun c => ?_)
  · replace h := h.1 c
    refine ev_iload_n dX4_number_45 rfl ?_
    exact ev_iret dX4_number_46 rfl h
  · replace h := h.2 c
    refine ev_iload_n dX4_number_15 rfl ?_
    refine ev_bipush (v := 10) dX4_number_16 (by decide) ?_
    refine ev_imul dX4_number_18 ?_
    refine ev_aload_n dX4_number_19 rfl ?_
    refine ev_getA dX4_number_20 fl_WithoutE_Reader_15 lx_81 rfl ?_
    refine ev_getA dX4_number_23 fl_WithoutE_Reader_56 lx_1 rfl ?_
    refine ev_iload_n dX4_number_26 rfl ?_
    obtain ⟨c, h⟩ := h
    refine ev_iald dX4_number_27 lx_2 c ?_
    refine ev_iadd dX4_number_28 ?_
    refine ev_bipush (v := 48) dX4_number_29 (by decide) ?_
    refine ev_isub dX4_number_31 ?_
    refine ev_sipush (v := 10000) dX4_number_32 (by decide) ?_
    obtain ⟨Q2, hc, h⟩ := h
    refine ev_callS [.int (((x1 * 10) + (M.1 2 x2.toNatClampNeg)) - 48), .int 10000] dX4_number_35 ml_WithoutE_Reader_64 rfl (Nat.le_of_ble_eq_true rfl) hc (fun r M9 q => ?_)
    refine Ev.weak (ls := [some (.ref 81), none, some (.int x2)]) ⟨rfl, rfl, trivial⟩ ?_
    exact h r M9 q
theorem gX4_number_38 {d : Nat} {M : ev_Mem} {Q : Option Value → ev_Mem → Prop} {x2 s0 : Int32} (h : (Ev LX d mX4_number 7 [some (.ref 81), some (.int s0), some (.int (x2 + 1))] [] M Q)) : Ev LX d mX4_number 38 [some (.ref 81), none, some (.int x2)] [(.int s0)] M Q := by
  refine ev_istore_n (ls2 := [some (.ref 81), some (.int s0), some (.int x2)]) dX4_number_38 (Nat.le_of_ble_eq_true rfl) rfl ?_
  refine ev_iinc (v := x2 + 1) (ls2 := [some (.ref 81), some (.int s0), some (.int (x2 + 1))]) dX4_number_39 rfl rfl rfl ?_
  refine ev_goto (tgt := 7) dX4_number_42 (by decide) ?_
  exact h
theorem dX9_markStep_0 : decode cX9_markStep 0 = .ok (.aload_n 0, 1) := by decide +kernel
theorem dX9_markStep_1 : decode cX9_markStep 1 = .ok (.getfield 43, 3) := by decide +kernel
theorem dX9_markStep_4 : decode cX9_markStep 4 = .ok (.aload_n 0, 1) := by decide +kernel
theorem dX9_markStep_5 : decode cX9_markStep 5 = .ok (.getfield 46, 3) := by decide +kernel
theorem dX9_markStep_8 : decode cX9_markStep 8 = .ok (.iadd, 1) := by decide +kernel
theorem dX9_markStep_9 : decode cX9_markStep 9 = .ok (.bipush 30, 2) := by decide +kernel
theorem dX9_markStep_11 : decode cX9_markStep 11 = .ok (.irem, 1) := by decide +kernel
theorem dX9_markStep_12 : decode cX9_markStep 12 = .ok (.bipush 31, 2) := by decide +kernel
theorem dX9_markStep_14 : decode cX9_markStep 14 = .ok (.imul, 1) := by decide +kernel
theorem dX9_markStep_15 : decode cX9_markStep 15 = .ok (.istore_n 1, 1) := by decide +kernel
theorem dX9_markStep_16 : decode cX9_markStep 16 = .ok (.aload_n 0, 1) := by decide +kernel
theorem dX9_markStep_17 : decode cX9_markStep 17 = .ok (.getfield 46, 3) := by decide +kernel
theorem dX9_markStep_20 : decode cX9_markStep 20 = .ok (.bipush 30, 2) := by decide +kernel
theorem dX9_markStep_22 : decode cX9_markStep 22 = .ok (.if_icmp .ne 19, 3) := by decide +kernel
theorem dX9_markStep_25 : decode cX9_markStep 25 = .ok (.aload_n 0, 1) := by decide +kernel
theorem dX9_markStep_26 : decode cX9_markStep 26 = .ok (.aload_n 0, 1) := by decide +kernel
theorem dX9_markStep_27 : decode cX9_markStep 27 = .ok (.getfield 43, 3) := by decide +kernel
theorem dX9_markStep_30 : decode cX9_markStep 30 = .ok (.iconst 1, 1) := by decide +kernel
theorem dX9_markStep_31 : decode cX9_markStep 31 = .ok (.iadd, 1) := by decide +kernel
theorem dX9_markStep_32 : decode cX9_markStep 32 = .ok (.bipush 30, 2) := by decide +kernel
theorem dX9_markStep_34 : decode cX9_markStep 34 = .ok (.irem, 1) := by decide +kernel
theorem dX9_markStep_35 : decode cX9_markStep 35 = .ok (.putfield 43, 3) := by decide +kernel
theorem dX9_markStep_38 : decode cX9_markStep 38 = .ok (.goto 13, 3) := by decide +kernel
theorem dX9_markStep_41 : decode cX9_markStep 41 = .ok (.aload_n 0, 1) := by decide +kernel
theorem dX9_markStep_42 : decode cX9_markStep 42 = .ok (.dup, 1) := by decide +kernel
theorem dX9_markStep_43 : decode cX9_markStep 43 = .ok (.getfield 46, 3) := by decide +kernel
theorem dX9_markStep_46 : decode cX9_markStep 46 = .ok (.iconst 1, 1) := by decide +kernel
theorem dX9_markStep_47 : decode cX9_markStep 47 = .ok (.iadd, 1) := by decide +kernel
theorem dX9_markStep_48 : decode cX9_markStep 48 = .ok (.putfield 46, 3) := by decide +kernel
theorem dX9_markStep_51 : decode cX9_markStep 51 = .ok (.aload_n 0, 1) := by decide +kernel
theorem dX9_markStep_52 : decode cX9_markStep 52 = .ok (.getfield 9, 3) := by decide +kernel
theorem dX9_markStep_55 : decode cX9_markStep 55 = .ok (.iconst 0, 1) := by decide +kernel
theorem dX9_markStep_56 : decode cX9_markStep 56 = .ok (.aload_n 0, 1) := by decide +kernel
theorem dX9_markStep_57 : decode cX9_markStep 57 = .ok (.getfield 22, 3) := by decide +kernel
theorem dX9_markStep_60 : decode cX9_markStep 60 = .ok (.iload_n 1, 1) := by decide +kernel
theorem dX9_markStep_61 : decode cX9_markStep 61 = .ok (.bipush 26, 2) := by decide +kernel
theorem dX9_markStep_63 : decode cX9_markStep 63 = .ok (.invokestatic 28, 3) := by decide +kernel
theorem dX9_markStep_66 : decode cX9_markStep 66 = .ok (.aload_n 0, 1) := by decide +kernel
theorem dX9_markStep_67 : decode cX9_markStep 67 = .ok (.getfield 22, 3) := by decide +kernel
theorem dX9_markStep_70 : decode cX9_markStep 70 = .ok (.iload_n 1, 1) := by decide +kernel
theorem dX9_markStep_71 : decode cX9_markStep 71 = .ok (.bipush 26, 2) := by decide +kernel
theorem dX9_markStep_73 : decode cX9_markStep 73 = .ok (.iadd, 1) := by decide +kernel
theorem dX9_markStep_74 : decode cX9_markStep 74 = .ok (.aload_n 0, 1) := by decide +kernel
theorem dX9_markStep_75 : decode cX9_markStep 75 = .ok (.getfield 25, 3) := by decide +kernel
theorem dX9_markStep_78 : decode cX9_markStep 78 = .ok (.iastore, 1) := by decide +kernel
theorem dX9_markStep_79 : decode cX9_markStep 79 = .ok (.aload_n 0, 1) := by decide +kernel
theorem dX9_markStep_80 : decode cX9_markStep 80 = .ok (.getfield 22, 3) := by decide +kernel
theorem dX9_markStep_83 : decode cX9_markStep 83 = .ok (.iload_n 1, 1) := by decide +kernel
theorem dX9_markStep_84 : decode cX9_markStep 84 = .ok (.bipush 26, 2) := by decide +kernel
theorem dX9_markStep_86 : decode cX9_markStep 86 = .ok (.iadd, 1) := by decide +kernel
theorem dX9_markStep_87 : decode cX9_markStep 87 = .ok (.iconst 1, 1) := by decide +kernel
theorem dX9_markStep_88 : decode cX9_markStep 88 = .ok (.iadd, 1) := by decide +kernel
theorem dX9_markStep_89 : decode cX9_markStep 89 = .ok (.aload_n 0, 1) := by decide +kernel
theorem dX9_markStep_90 : decode cX9_markStep 90 = .ok (.getfield 34, 3) := by decide +kernel
theorem dX9_markStep_93 : decode cX9_markStep 93 = .ok (.iastore, 1) := by decide +kernel
theorem dX9_markStep_94 : decode cX9_markStep 94 = .ok (.aload_n 0, 1) := by decide +kernel
theorem dX9_markStep_95 : decode cX9_markStep 95 = .ok (.getfield 22, 3) := by decide +kernel
theorem dX9_markStep_98 : decode cX9_markStep 98 = .ok (.iload_n 1, 1) := by decide +kernel
theorem dX9_markStep_99 : decode cX9_markStep 99 = .ok (.bipush 26, 2) := by decide +kernel
theorem dX9_markStep_101 : decode cX9_markStep 101 = .ok (.iadd, 1) := by decide +kernel
theorem dX9_markStep_102 : decode cX9_markStep 102 = .ok (.iconst 2, 1) := by decide +kernel
theorem dX9_markStep_103 : decode cX9_markStep 103 = .ok (.iadd, 1) := by decide +kernel
theorem dX9_markStep_104 : decode cX9_markStep 104 = .ok (.aload_n 0, 1) := by decide +kernel
theorem dX9_markStep_105 : decode cX9_markStep 105 = .ok (.getfield 37, 3) := by decide +kernel
theorem dX9_markStep_108 : decode cX9_markStep 108 = .ok (.iastore, 1) := by decide +kernel
theorem dX9_markStep_109 : decode cX9_markStep 109 = .ok (.aload_n 0, 1) := by decide +kernel
theorem dX9_markStep_110 : decode cX9_markStep 110 = .ok (.getfield 22, 3) := by decide +kernel
theorem dX9_markStep_113 : decode cX9_markStep 113 = .ok (.iload_n 1, 1) := by decide +kernel
theorem dX9_markStep_114 : decode cX9_markStep 114 = .ok (.bipush 26, 2) := by decide +kernel
theorem dX9_markStep_116 : decode cX9_markStep 116 = .ok (.iadd, 1) := by decide +kernel
theorem dX9_markStep_117 : decode cX9_markStep 117 = .ok (.iconst 3, 1) := by decide +kernel
theorem dX9_markStep_118 : decode cX9_markStep 118 = .ok (.iadd, 1) := by decide +kernel
theorem dX9_markStep_119 : decode cX9_markStep 119 = .ok (.aload_n 0, 1) := by decide +kernel
theorem dX9_markStep_120 : decode cX9_markStep 120 = .ok (.getfield 15, 3) := by decide +kernel
theorem dX9_markStep_123 : decode cX9_markStep 123 = .ok (.iastore, 1) := by decide +kernel
theorem dX9_markStep_124 : decode cX9_markStep 124 = .ok (.aload_n 0, 1) := by decide +kernel
theorem dX9_markStep_125 : decode cX9_markStep 125 = .ok (.getfield 22, 3) := by decide +kernel
theorem dX9_markStep_128 : decode cX9_markStep 128 = .ok (.iload_n 1, 1) := by decide +kernel
theorem dX9_markStep_129 : decode cX9_markStep 129 = .ok (.bipush 26, 2) := by decide +kernel
theorem dX9_markStep_131 : decode cX9_markStep 131 = .ok (.iadd, 1) := by decide +kernel
theorem dX9_markStep_132 : decode cX9_markStep 132 = .ok (.iconst 4, 1) := by decide +kernel
theorem dX9_markStep_133 : decode cX9_markStep 133 = .ok (.iadd, 1) := by decide +kernel
theorem dX9_markStep_134 : decode cX9_markStep 134 = .ok (.aload_n 0, 1) := by decide +kernel
theorem dX9_markStep_135 : decode cX9_markStep 135 = .ok (.getfield 40, 3) := by decide +kernel
theorem dX9_markStep_138 : decode cX9_markStep 138 = .ok (.iastore, 1) := by decide +kernel
theorem dX9_markStep_139 : decode cX9_markStep 139 = .ok (.return_, 1) := by decide +kernel
theorem gX9_markStep_0 {d : Nat} {M : ev_Mem} {Q : Option Value → ev_Mem → Prop} (h : (((¬ (M.1 43 9) = 30) → (∀ M1 : ev_Mem, M1 = ev_wr M 43 9 ((M.1 43 9) + 1) → ((¬ (0 : Int32) < 0 ∧ ¬ ((((M.1 43 8) + (M.1 43 9)) - ((M.1 43 8) + (M.1 43 9)) / 30 * 30) * 31) < 0 ∧ ¬ (26 : Int32) < 0 ∧ (0 : Int32).toNatClampNeg + (26 : Int32).toNatClampNeg ≤ 26 ∧ ((((M.1 43 8) + (M.1 43 9)) - ((M.1 43 8) + (M.1 43 9)) / 30 * 30) * 31).toNatClampNeg + (26 : Int32).toNatClampNeg ≤ 930) ∧ (∀ M2 : ev_Mem, M2 = ev_cp M1 44 46 (0 : Int32).toNatClampNeg ((((M.1 43 8) + (M.1 43 9)) - ((M.1 43 8) + (M.1 43 9)) / 30 * 30) * 31).toNatClampNeg (26 : Int32).toNatClampNeg → (vp_in (((((M.1 43 8) + (M.1 43 9)) - ((M.1 43 8) + (M.1 43 9)) / 30 * 30) * 31) + 26) 930 ∧ (∀ M3 : ev_Mem, M3 = ev_wr M2 46 (((((M.1 43 8) + (M.1 43 9)) - ((M.1 43 8) + (M.1 43 9)) / 30 * 30) * 31) + 26).toNatClampNeg (M2.1 43 0) → (vp_in ((((((M.1 43 8) + (M.1 43 9)) - ((M.1 43 8) + (M.1 43 9)) / 30 * 30) * 31) + 26) + 1) 930 ∧ (∀ M4 : ev_Mem, M4 = ev_wr M3 46 ((((((M.1 43 8) + (M.1 43 9)) - ((M.1 43 8) + (M.1 43 9)) / 30 * 30) * 31) + 26) + 1).toNatClampNeg (M3.1 43 2) → (vp_in ((((((M.1 43 8) + (M.1 43 9)) - ((M.1 43 8) + (M.1 43 9)) / 30 * 30) * 31) + 26) + 2) 930 ∧ (∀ M5 : ev_Mem, M5 = ev_wr M4 46 ((((((M.1 43 8) + (M.1 43 9)) - ((M.1 43 8) + (M.1 43 9)) / 30 * 30) * 31) + 26) + 2).toNatClampNeg (M4.1 43 3) → (vp_in ((((((M.1 43 8) + (M.1 43 9)) - ((M.1 43 8) + (M.1 43 9)) / 30 * 30) * 31) + 26) + 3) 930 ∧ (∀ M6 : ev_Mem, M6 = ev_wr M5 46 ((((((M.1 43 8) + (M.1 43 9)) - ((M.1 43 8) + (M.1 43 9)) / 30 * 30) * 31) + 26) + 3).toNatClampNeg (M5.1 43 4) → (vp_in ((((((M.1 43 8) + (M.1 43 9)) - ((M.1 43 8) + (M.1 43 9)) / 30 * 30) * 31) + 26) + 4) 930 ∧ (∀ M7 : ev_Mem, M7 = ev_wr M6 46 ((((((M.1 43 8) + (M.1 43 9)) - ((M.1 43 8) + (M.1 43 9)) / 30 * 30) * 31) + 26) + 4).toNatClampNeg (M6.1 43 6) → (Q none M7))))))))))))))) ∧ (((M.1 43 9) = 30) → (∀ M8 : ev_Mem, M8 = ev_wr M 43 8 (((M.1 43 8) + 1) - ((M.1 43 8) + 1) / 30 * 30) → ((¬ (0 : Int32) < 0 ∧ ¬ ((((M.1 43 8) + (M.1 43 9)) - ((M.1 43 8) + (M.1 43 9)) / 30 * 30) * 31) < 0 ∧ ¬ (26 : Int32) < 0 ∧ (0 : Int32).toNatClampNeg + (26 : Int32).toNatClampNeg ≤ 26 ∧ ((((M.1 43 8) + (M.1 43 9)) - ((M.1 43 8) + (M.1 43 9)) / 30 * 30) * 31).toNatClampNeg + (26 : Int32).toNatClampNeg ≤ 930) ∧ (∀ M9 : ev_Mem, M9 = ev_cp M8 44 46 (0 : Int32).toNatClampNeg ((((M.1 43 8) + (M.1 43 9)) - ((M.1 43 8) + (M.1 43 9)) / 30 * 30) * 31).toNatClampNeg (26 : Int32).toNatClampNeg → (vp_in (((((M.1 43 8) + (M.1 43 9)) - ((M.1 43 8) + (M.1 43 9)) / 30 * 30) * 31) + 26) 930 ∧ (∀ M10 : ev_Mem, M10 = ev_wr M9 46 (((((M.1 43 8) + (M.1 43 9)) - ((M.1 43 8) + (M.1 43 9)) / 30 * 30) * 31) + 26).toNatClampNeg (M9.1 43 0) → (vp_in ((((((M.1 43 8) + (M.1 43 9)) - ((M.1 43 8) + (M.1 43 9)) / 30 * 30) * 31) + 26) + 1) 930 ∧ (∀ M11 : ev_Mem, M11 = ev_wr M10 46 ((((((M.1 43 8) + (M.1 43 9)) - ((M.1 43 8) + (M.1 43 9)) / 30 * 30) * 31) + 26) + 1).toNatClampNeg (M10.1 43 2) → (vp_in ((((((M.1 43 8) + (M.1 43 9)) - ((M.1 43 8) + (M.1 43 9)) / 30 * 30) * 31) + 26) + 2) 930 ∧ (∀ M12 : ev_Mem, M12 = ev_wr M11 46 ((((((M.1 43 8) + (M.1 43 9)) - ((M.1 43 8) + (M.1 43 9)) / 30 * 30) * 31) + 26) + 2).toNatClampNeg (M11.1 43 3) → (vp_in ((((((M.1 43 8) + (M.1 43 9)) - ((M.1 43 8) + (M.1 43 9)) / 30 * 30) * 31) + 26) + 3) 930 ∧ (∀ M13 : ev_Mem, M13 = ev_wr M12 46 ((((((M.1 43 8) + (M.1 43 9)) - ((M.1 43 8) + (M.1 43 9)) / 30 * 30) * 31) + 26) + 3).toNatClampNeg (M12.1 43 4) → (vp_in ((((((M.1 43 8) + (M.1 43 9)) - ((M.1 43 8) + (M.1 43 9)) / 30 * 30) * 31) + 26) + 4) 930 ∧ (∀ M14 : ev_Mem, M14 = ev_wr M13 46 ((((((M.1 43 8) + (M.1 43 9)) - ((M.1 43 8) + (M.1 43 9)) / 30 * 30) * 31) + 26) + 4).toNatClampNeg (M13.1 43 6) → (Q none M14))))))))))))))))) : Ev LX (d + 1) mX9_markStep 0 [some (.ref 43), none] [] M Q := by
  refine ev_aload_n dX9_markStep_0 rfl ?_
  refine ev_getI dX9_markStep_1 fl_WithoutE_Typewriter_43 lx_43 rfl ?_
  refine ev_aload_n dX9_markStep_4 rfl ?_
  refine ev_getI dX9_markStep_5 fl_WithoutE_Typewriter_46 lx_43 rfl ?_
  refine ev_iadd dX9_markStep_8 ?_
  refine ev_bipush (v := 30) dX9_markStep_9 (by decide) ?_
  refine ev_irem dX9_markStep_11 (by decide) ?_
  refine ev_bipush (v := 31) dX9_markStep_12 (by decide) ?_
  refine ev_imul dX9_markStep_14 ?_
  refine ev_istore_n (ls2 := [some (.ref 43), some (.int ((((M.1 43 8) + (M.1 43 9)) - ((M.1 43 8) + (M.1 43 9)) / 30 * 30) * 31))]) dX9_markStep_15 (Nat.le_of_ble_eq_true rfl) rfl ?_
  refine ev_aload_n dX9_markStep_16 rfl ?_
  refine ev_getI dX9_markStep_17 fl_WithoutE_Typewriter_46 lx_43 rfl ?_
  refine ev_bipush (v := 30) dX9_markStep_20 (by decide) ?_
  refine ev_icmp_ne (tgt := 41) dX9_markStep_22 (by decide) (fun c => ?_) (fun c => ?_)
  · replace h := h.1 c
    refine ev_aload_n dX9_markStep_41 rfl ?_
    refine ev_dup dX9_markStep_42 rfl ?_
    refine ev_getI dX9_markStep_43 fl_WithoutE_Typewriter_46 lx_43 rfl ?_
    refine ev_iconst (v := 1) dX9_markStep_46 (by decide) ?_
    refine ev_iadd dX9_markStep_47 ?_
    refine ev_putI dX9_markStep_48 fp_WithoutE_Typewriter_46 lx_43 rfl rfl rfl ?_
    generalize eM1 : ev_wr M 43 9 ((M.1 43 9) + 1) = M1
    replace h := h M1 eM1.symm
    refine ev_aload_n dX9_markStep_51 rfl ?_
    refine ev_getA dX9_markStep_52 fl_WithoutE_Typewriter_9 lx_43 rfl ?_
    refine ev_iconst (v := 0) dX9_markStep_55 (by decide) ?_
    refine ev_aload_n dX9_markStep_56 rfl ?_
    refine ev_getA dX9_markStep_57 fl_WithoutE_Typewriter_22 lx_43 rfl ?_
    refine ev_iload_n dX9_markStep_60 rfl ?_
    refine ev_bipush (v := 26) dX9_markStep_61 (by decide) ?_
    obtain ⟨⟨c, c2, c3, c4, c5⟩, h⟩ := h
    refine ev_copy dX9_markStep_63 (cpw cp_WithoutE_Typewriter_28) lx_44 lx_46 (by omega) rfl c c2 c3 c4 c5 ?_
    generalize eM2 : ev_cp M1 44 46 (0 : Int32).toNatClampNeg ((((M.1 43 8) + (M.1 43 9)) - ((M.1 43 8) + (M.1 43 9)) / 30 * 30) * 31).toNatClampNeg (26 : Int32).toNatClampNeg = M2
    replace h := h M2 eM2.symm
    refine ev_aload_n dX9_markStep_66 rfl ?_
    refine ev_getA dX9_markStep_67 fl_WithoutE_Typewriter_22 lx_43 rfl ?_
    refine ev_iload_n dX9_markStep_70 rfl ?_
    refine ev_bipush (v := 26) dX9_markStep_71 (by decide) ?_
    refine ev_iadd dX9_markStep_73 ?_
    refine ev_aload_n dX9_markStep_74 rfl ?_
    refine ev_getI dX9_markStep_75 fl_WithoutE_Typewriter_25 lx_43 rfl ?_
    obtain ⟨c, h⟩ := h
    refine ev_iast dX9_markStep_78 lx_46 c ?_
    generalize eM3 : ev_wr M2 46 (((((M.1 43 8) + (M.1 43 9)) - ((M.1 43 8) + (M.1 43 9)) / 30 * 30) * 31) + 26).toNatClampNeg (M2.1 43 0) = M3
    replace h := h M3 eM3.symm
    refine ev_aload_n dX9_markStep_79 rfl ?_
    refine ev_getA dX9_markStep_80 fl_WithoutE_Typewriter_22 lx_43 rfl ?_
    refine ev_iload_n dX9_markStep_83 rfl ?_
    refine ev_bipush (v := 26) dX9_markStep_84 (by decide) ?_
    refine ev_iadd dX9_markStep_86 ?_
    refine ev_iconst (v := 1) dX9_markStep_87 (by decide) ?_
    refine ev_iadd dX9_markStep_88 ?_
    refine ev_aload_n dX9_markStep_89 rfl ?_
    refine ev_getI dX9_markStep_90 fl_WithoutE_Typewriter_34 lx_43 rfl ?_
    obtain ⟨c, h⟩ := h
    refine ev_iast dX9_markStep_93 lx_46 c ?_
    generalize eM4 : ev_wr M3 46 ((((((M.1 43 8) + (M.1 43 9)) - ((M.1 43 8) + (M.1 43 9)) / 30 * 30) * 31) + 26) + 1).toNatClampNeg (M3.1 43 2) = M4
    replace h := h M4 eM4.symm
    refine ev_aload_n dX9_markStep_94 rfl ?_
    refine ev_getA dX9_markStep_95 fl_WithoutE_Typewriter_22 lx_43 rfl ?_
    refine ev_iload_n dX9_markStep_98 rfl ?_
    refine ev_bipush (v := 26) dX9_markStep_99 (by decide) ?_
    refine ev_iadd dX9_markStep_101 ?_
    refine ev_iconst (v := 2) dX9_markStep_102 (by decide) ?_
    refine ev_iadd dX9_markStep_103 ?_
    refine ev_aload_n dX9_markStep_104 rfl ?_
    refine ev_getI dX9_markStep_105 fl_WithoutE_Typewriter_37 lx_43 rfl ?_
    obtain ⟨c, h⟩ := h
    refine ev_iast dX9_markStep_108 lx_46 c ?_
    generalize eM5 : ev_wr M4 46 ((((((M.1 43 8) + (M.1 43 9)) - ((M.1 43 8) + (M.1 43 9)) / 30 * 30) * 31) + 26) + 2).toNatClampNeg (M4.1 43 3) = M5
    replace h := h M5 eM5.symm
    refine ev_aload_n dX9_markStep_109 rfl ?_
    refine ev_getA dX9_markStep_110 fl_WithoutE_Typewriter_22 lx_43 rfl ?_
    refine ev_iload_n dX9_markStep_113 rfl ?_
    refine ev_bipush (v := 26) dX9_markStep_114 (by decide) ?_
    refine ev_iadd dX9_markStep_116 ?_
    refine ev_iconst (v := 3) dX9_markStep_117 (by decide) ?_
    refine ev_iadd dX9_markStep_118 ?_
    refine ev_aload_n dX9_markStep_119 rfl ?_
    refine ev_getI dX9_markStep_120 fl_WithoutE_Typewriter_15 lx_43 rfl ?_
    obtain ⟨c, h⟩ := h
    refine ev_iast dX9_markStep_123 lx_46 c ?_
    generalize eM6 : ev_wr M5 46 ((((((M.1 43 8) + (M.1 43 9)) - ((M.1 43 8) + (M.1 43 9)) / 30 * 30) * 31) + 26) + 3).toNatClampNeg (M5.1 43 4) = M6
    replace h := h M6 eM6.symm
    refine ev_aload_n dX9_markStep_124 rfl ?_
    refine ev_getA dX9_markStep_125 fl_WithoutE_Typewriter_22 lx_43 rfl ?_
    refine ev_iload_n dX9_markStep_128 rfl ?_
    refine ev_bipush (v := 26) dX9_markStep_129 (by decide) ?_
    refine ev_iadd dX9_markStep_131 ?_
    refine ev_iconst (v := 4) dX9_markStep_132 (by decide) ?_
    refine ev_iadd dX9_markStep_133 ?_
    refine ev_aload_n dX9_markStep_134 rfl ?_
    refine ev_getI dX9_markStep_135 fl_WithoutE_Typewriter_40 lx_43 rfl ?_
    obtain ⟨c, h⟩ := h
    refine ev_iast dX9_markStep_138 lx_46 c ?_
    generalize eM7 : ev_wr M6 46 ((((((M.1 43 8) + (M.1 43 9)) - ((M.1 43 8) + (M.1 43 9)) / 30 * 30) * 31) + 26) + 4).toNatClampNeg (M6.1 43 6) = M7
    replace h := h M7 eM7.symm
    exact ev_vret dX9_markStep_139 rfl h
  · replace h := h.2 c
    refine ev_aload_n dX9_markStep_25 rfl ?_
    refine ev_aload_n dX9_markStep_26 rfl ?_
    refine ev_getI dX9_markStep_27 fl_WithoutE_Typewriter_43 lx_43 rfl ?_
    refine ev_iconst (v := 1) dX9_markStep_30 (by decide) ?_
    refine ev_iadd dX9_markStep_31 ?_
    refine ev_bipush (v := 30) dX9_markStep_32 (by decide) ?_
    refine ev_irem dX9_markStep_34 (by decide) ?_
    refine ev_putI dX9_markStep_35 fp_WithoutE_Typewriter_43 lx_43 rfl rfl rfl ?_
    generalize eM8 : ev_wr M 43 8 (((M.1 43 8) + 1) - ((M.1 43 8) + 1) / 30 * 30) = M8
    replace h := h M8 eM8.symm
    refine ev_goto (tgt := 51) dX9_markStep_38 (by decide) ?_
    refine ev_aload_n dX9_markStep_51 rfl ?_
    refine ev_getA dX9_markStep_52 fl_WithoutE_Typewriter_9 lx_43 rfl ?_
    refine ev_iconst (v := 0) dX9_markStep_55 (by decide) ?_
    refine ev_aload_n dX9_markStep_56 rfl ?_
    refine ev_getA dX9_markStep_57 fl_WithoutE_Typewriter_22 lx_43 rfl ?_
    refine ev_iload_n dX9_markStep_60 rfl ?_
    refine ev_bipush (v := 26) dX9_markStep_61 (by decide) ?_
    obtain ⟨⟨c, c2, c3, c4, c5⟩, h⟩ := h
    refine ev_copy dX9_markStep_63 (cpw cp_WithoutE_Typewriter_28) lx_44 lx_46 (by omega) rfl c c2 c3 c4 c5 ?_
    generalize eM9 : ev_cp M8 44 46 (0 : Int32).toNatClampNeg ((((M.1 43 8) + (M.1 43 9)) - ((M.1 43 8) + (M.1 43 9)) / 30 * 30) * 31).toNatClampNeg (26 : Int32).toNatClampNeg = M9
    replace h := h M9 eM9.symm
    refine ev_aload_n dX9_markStep_66 rfl ?_
    refine ev_getA dX9_markStep_67 fl_WithoutE_Typewriter_22 lx_43 rfl ?_
    refine ev_iload_n dX9_markStep_70 rfl ?_
    refine ev_bipush (v := 26) dX9_markStep_71 (by decide) ?_
    refine ev_iadd dX9_markStep_73 ?_
    refine ev_aload_n dX9_markStep_74 rfl ?_
    refine ev_getI dX9_markStep_75 fl_WithoutE_Typewriter_25 lx_43 rfl ?_
    obtain ⟨c, h⟩ := h
    refine ev_iast dX9_markStep_78 lx_46 c ?_
    generalize eM10 : ev_wr M9 46 (((((M.1 43 8) + (M.1 43 9)) - ((M.1 43 8) + (M.1 43 9)) / 30 * 30) * 31) + 26).toNatClampNeg (M9.1 43 0) = M10
    replace h := h M10 eM10.symm
    refine ev_aload_n dX9_markStep_79 rfl ?_
    refine ev_getA dX9_markStep_80 fl_WithoutE_Typewriter_22 lx_43 rfl ?_
    refine ev_iload_n dX9_markStep_83 rfl ?_
    refine ev_bipush (v := 26) dX9_markStep_84 (by decide) ?_
    refine ev_iadd dX9_markStep_86 ?_
    refine ev_iconst (v := 1) dX9_markStep_87 (by decide) ?_
    refine ev_iadd dX9_markStep_88 ?_
    refine ev_aload_n dX9_markStep_89 rfl ?_
    refine ev_getI dX9_markStep_90 fl_WithoutE_Typewriter_34 lx_43 rfl ?_
    obtain ⟨c, h⟩ := h
    refine ev_iast dX9_markStep_93 lx_46 c ?_
    generalize eM11 : ev_wr M10 46 ((((((M.1 43 8) + (M.1 43 9)) - ((M.1 43 8) + (M.1 43 9)) / 30 * 30) * 31) + 26) + 1).toNatClampNeg (M10.1 43 2) = M11
    replace h := h M11 eM11.symm
    refine ev_aload_n dX9_markStep_94 rfl ?_
    refine ev_getA dX9_markStep_95 fl_WithoutE_Typewriter_22 lx_43 rfl ?_
    refine ev_iload_n dX9_markStep_98 rfl ?_
    refine ev_bipush (v := 26) dX9_markStep_99 (by decide) ?_
    refine ev_iadd dX9_markStep_101 ?_
    refine ev_iconst (v := 2) dX9_markStep_102 (by decide) ?_
    refine ev_iadd dX9_markStep_103 ?_
    refine ev_aload_n dX9_markStep_104 rfl ?_
    refine ev_getI dX9_markStep_105 fl_WithoutE_Typewriter_37 lx_43 rfl ?_
    obtain ⟨c, h⟩ := h
    refine ev_iast dX9_markStep_108 lx_46 c ?_
    generalize eM12 : ev_wr M11 46 ((((((M.1 43 8) + (M.1 43 9)) - ((M.1 43 8) + (M.1 43 9)) / 30 * 30) * 31) + 26) + 2).toNatClampNeg (M11.1 43 3) = M12
    replace h := h M12 eM12.symm
    refine ev_aload_n dX9_markStep_109 rfl ?_
    refine ev_getA dX9_markStep_110 fl_WithoutE_Typewriter_22 lx_43 rfl ?_
    refine ev_iload_n dX9_markStep_113 rfl ?_
    refine ev_bipush (v := 26) dX9_markStep_114 (by decide) ?_
    refine ev_iadd dX9_markStep_116 ?_
    refine ev_iconst (v := 3) dX9_markStep_117 (by decide) ?_
    refine ev_iadd dX9_markStep_118 ?_
    refine ev_aload_n dX9_markStep_119 rfl ?_
    refine ev_getI dX9_markStep_120 fl_WithoutE_Typewriter_15 lx_43 rfl ?_
    obtain ⟨c, h⟩ := h
    refine ev_iast dX9_markStep_123 lx_46 c ?_
    generalize eM13 : ev_wr M12 46 ((((((M.1 43 8) + (M.1 43 9)) - ((M.1 43 8) + (M.1 43 9)) / 30 * 30) * 31) + 26) + 3).toNatClampNeg (M12.1 43 4) = M13
    replace h := h M13 eM13.symm
    refine ev_aload_n dX9_markStep_124 rfl ?_
    refine ev_getA dX9_markStep_125 fl_WithoutE_Typewriter_22 lx_43 rfl ?_
    refine ev_iload_n dX9_markStep_128 rfl ?_
    refine ev_bipush (v := 26) dX9_markStep_129 (by decide) ?_
    refine ev_iadd dX9_markStep_131 ?_
    refine ev_iconst (v := 4) dX9_markStep_132 (by decide) ?_
    refine ev_iadd dX9_markStep_133 ?_
    refine ev_aload_n dX9_markStep_134 rfl ?_
    refine ev_getI dX9_markStep_135 fl_WithoutE_Typewriter_40 lx_43 rfl ?_
    obtain ⟨c, h⟩ := h
    refine ev_iast dX9_markStep_138 lx_46 c ?_
    generalize eM14 : ev_wr M13 46 ((((((M.1 43 8) + (M.1 43 9)) - ((M.1 43 8) + (M.1 43 9)) / 30 * 30) * 31) + 26) + 4).toNatClampNeg (M13.1 43 6) = M14
    replace h := h M14 eM14.symm
    exact ev_vret dX9_markStep_139 rfl h
theorem dX2_see_0 : decode cX2_see 0 = .ok (.iload_n 2, 1) := by decide +kernel
theorem dX2_see_1 : decode cX2_see 1 = .ok (.aload_n 0, 1) := by decide +kernel
theorem dX2_see_2 : decode cX2_see 2 = .ok (.getfield 10, 3) := by decide +kernel
theorem dX2_see_5 : decode cX2_see 5 = .ok (.if_icmp .ge 24, 3) := by decide +kernel
theorem dX2_see_8 : decode cX2_see 8 = .ok (.aload_n 0, 1) := by decide +kernel
theorem dX2_see_9 : decode cX2_see 9 = .ok (.aload_n 0, 1) := by decide +kernel
theorem dX2_see_10 : decode cX2_see 10 = .ok (.getfield 10, 3) := by decide +kernel
theorem dX2_see_13 : decode cX2_see 13 = .ok (.putfield 16, 3) := by decide +kernel
theorem dX2_see_16 : decode cX2_see 16 = .ok (.aload_n 0, 1) := by decide +kernel
theorem dX2_see_17 : decode cX2_see 17 = .ok (.iload_n 2, 1) := by decide +kernel
theorem dX2_see_18 : decode cX2_see 18 = .ok (.putfield 10, 3) := by decide +kernel
theorem dX2_see_21 : decode cX2_see 21 = .ok (.aload_n 0, 1) := by decide +kernel
theorem dX2_see_22 : decode cX2_see 22 = .ok (.iload_n 1, 1) := by decide +kernel
theorem dX2_see_23 : decode cX2_see 23 = .ok (.putfield 19, 3) := by decide +kernel
theorem dX2_see_26 : decode cX2_see 26 = .ok (.goto 16, 3) := by decide +kernel
theorem dX2_see_29 : decode cX2_see 29 = .ok (.iload_n 2, 1) := by decide +kernel
theorem dX2_see_30 : decode cX2_see 30 = .ok (.aload_n 0, 1) := by decide +kernel
theorem dX2_see_31 : decode cX2_see 31 = .ok (.getfield 16, 3) := by decide +kernel
theorem dX2_see_34 : decode cX2_see 34 = .ok (.if_icmp .ge 8, 3) := by decide +kernel
theorem dX2_see_37 : decode cX2_see 37 = .ok (.aload_n 0, 1) := by decide +kernel
theorem dX2_see_38 : decode cX2_see 38 = .ok (.iload_n 2, 1) := by decide +kernel
theorem dX2_see_39 : decode cX2_see 39 = .ok (.putfield 16, 3) := by decide +kernel
theorem dX2_see_42 : decode cX2_see 42 = .ok (.return_, 1) := by decide +kernel
theorem gX2_seet_0 {d : Nat} {M : ev_Mem} {Q : Option Value → ev_Mem → Prop} {x1 x2 : Int32} (h : ((((M.1 97 0) ≤ x2) → ((((M.1 97 1) ≤ x2) → (Q none M)) ∧ ((¬ (M.1 97 1) ≤ x2) → (∀ M1 : ev_Mem, M1 = ev_wr M 97 1 x2 → (Q none M1))))) ∧ ((¬ (M.1 97 0) ≤ x2) → (∀ M2 : ev_Mem, M2 = ev_wr M 97 1 (M.1 97 0) → (∀ M3 : ev_Mem, M3 = ev_wr M2 97 0 x2 → (∀ M4 : ev_Mem, M4 = ev_wr M3 97 2 x1 → (Q none M4))))))) : Ev LX d mX2_see 0 [some (.ref 97), some (.int x1), some (.int x2)] [] M Q := by
  refine ev_iload_n dX2_see_0 rfl ?_
  refine ev_aload_n dX2_see_1 rfl ?_
  refine ev_getI dX2_see_2 fl_WithoutE_Lowest_10 lx_97 rfl ?_
  refine ev_icmp_ge (tgt := 29) dX2_see_5 (by decide) (fun c => ?_) (fun c => ?_)
  · replace h := h.1 c
    refine ev_iload_n dX2_see_29 rfl ?_
    refine ev_aload_n dX2_see_30 rfl ?_
    refine ev_getI dX2_see_31 fl_WithoutE_Lowest_16 lx_97 rfl ?_
    refine ev_icmp_ge (tgt := 42) dX2_see_34 (by decide) (fun c => ?_) (fun c => ?_)
    · replace h := h.1 c
      exact ev_vret dX2_see_42 rfl h
    · replace h := h.2 c
      refine ev_aload_n dX2_see_37 rfl ?_
      refine ev_iload_n dX2_see_38 rfl ?_
      refine ev_putI dX2_see_39 fp_WithoutE_Lowest_16 lx_97 rfl rfl rfl ?_
      generalize eM1 : ev_wr M 97 1 x2 = M1
      replace h := h M1 eM1.symm
      exact ev_vret dX2_see_42 rfl h
  · replace h := h.2 c
    refine ev_aload_n dX2_see_8 rfl ?_
    refine ev_aload_n dX2_see_9 rfl ?_
    refine ev_getI dX2_see_10 fl_WithoutE_Lowest_10 lx_97 rfl ?_
    refine ev_putI dX2_see_13 fp_WithoutE_Lowest_16 lx_97 rfl rfl rfl ?_
    generalize eM2 : ev_wr M 97 1 (M.1 97 0) = M2
    replace h := h M2 eM2.symm
    refine ev_aload_n dX2_see_16 rfl ?_
    refine ev_iload_n dX2_see_17 rfl ?_
    refine ev_putI dX2_see_18 fp_WithoutE_Lowest_10 lx_97 rfl rfl rfl ?_
    generalize eM3 : ev_wr M2 97 0 x2 = M3
    replace h := h M3 eM3.symm
    refine ev_aload_n dX2_see_21 rfl ?_
    refine ev_iload_n dX2_see_22 rfl ?_
    refine ev_putI dX2_see_23 fp_WithoutE_Lowest_19 lx_97 rfl rfl rfl ?_
    generalize eM4 : ev_wr M3 97 2 x1 = M4
    replace h := h M4 eM4.symm
    refine ev_goto (tgt := 42) dX2_see_26 (by decide) ?_
    exact ev_vret dX2_see_42 rfl h
