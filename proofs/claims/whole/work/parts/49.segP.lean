theorem dX6_forget_0 : decode cX6_forget 0 = .ok (.aload_n 0, 1) := by decide +kernel
theorem dX6_forget_1 : decode cX6_forget 1 = .ok (.iconst (-1), 1) := by decide +kernel
theorem dX6_forget_2 : decode cX6_forget 2 = .ok (.putfield 25, 3) := by decide +kernel
theorem dX6_forget_5 : decode cX6_forget 5 = .ok (.return_, 1) := by decide +kernel
theorem gX6_forget_0 {d : Nat} {M : ev_Mem} {Q : Option Value → ev_Mem → Prop} (h : (∀ M1 : ev_Mem, M1 = ev_wr M 86 8 (-1) → (Q none M1))) : Ev LX d mX6_forget 0 [some (.ref 86)] [] M Q := by
  refine ev_aload_n dX6_forget_0 rfl ?_
  refine ev_iconst (v := -1) dX6_forget_1 (by decide) ?_
  refine ev_putI dX6_forget_2 fp_WithoutE_Speech_25 lx_86 rfl rfl rfl ?_
  generalize eM1 : ev_wr M 86 8 (-1) = M1
  replace h := h M1 eM1.symm
  exact ev_vret dX6_forget_5 rfl h
theorem dX6_seeCosts_0 : decode cX6_seeCosts 0 = .ok (.aload_n 0, 1) := by decide +kernel
theorem dX6_seeCosts_1 : decode cX6_seeCosts 1 = .ok (.getfield 37, 3) := by decide +kernel
theorem dX6_seeCosts_4 : decode cX6_seeCosts 4 = .ok (.invokevirtual 123, 3) := by decide +kernel
theorem dX6_seeCosts_7 : decode cX6_seeCosts 7 = .ok (.aload_n 0, 1) := by decide +kernel
theorem dX6_seeCosts_8 : decode cX6_seeCosts 8 = .ok (.getfield 41, 3) := by decide +kernel
theorem dX6_seeCosts_11 : decode cX6_seeCosts 11 = .ok (.invokevirtual 123, 3) := by decide +kernel
theorem dX6_seeCosts_14 : decode cX6_seeCosts 14 = .ok (.iconst 0, 1) := by decide +kernel
theorem dX6_seeCosts_15 : decode cX6_seeCosts 15 = .ok (.istore_n 2, 1) := by decide +kernel
theorem dX6_seeCosts_16 : decode cX6_seeCosts 16 = .ok (.iload_n 2, 1) := by decide +kernel
theorem dX6_seeCosts_17 : decode cX6_seeCosts 17 = .ok (.aload_n 0, 1) := by decide +kernel
theorem dX6_seeCosts_18 : decode cX6_seeCosts 18 = .ok (.getfield 47, 3) := by decide +kernel
theorem dX6_seeCosts_21 : decode cX6_seeCosts 21 = .ok (.getfield 74, 3) := by decide +kernel
theorem dX6_seeCosts_24 : decode cX6_seeCosts 24 = .ok (.if_icmp .ge 57, 3) := by decide +kernel
theorem dX6_seeCosts_27 : decode cX6_seeCosts 27 = .ok (.aload_n 0, 1) := by decide +kernel
theorem dX6_seeCosts_28 : decode cX6_seeCosts 28 = .ok (.getfield 47, 3) := by decide +kernel
theorem dX6_seeCosts_31 : decode cX6_seeCosts 31 = .ok (.getfield 126, 3) := by decide +kernel
theorem dX6_seeCosts_34 : decode cX6_seeCosts 34 = .ok (.iload_n 2, 1) := by decide +kernel
theorem dX6_seeCosts_35 : decode cX6_seeCosts 35 = .ok (.iaload, 1) := by decide +kernel
theorem dX6_seeCosts_36 : decode cX6_seeCosts 36 = .ok (.iconst 2, 1) := by decide +kernel
theorem dX6_seeCosts_37 : decode cX6_seeCosts 37 = .ok (.if_icmp .ne 22, 3) := by decide +kernel
theorem dX6_seeCosts_40 : decode cX6_seeCosts 40 = .ok (.aload_n 0, 1) := by decide +kernel
theorem dX6_seeCosts_41 : decode cX6_seeCosts 41 = .ok (.getfield 37, 3) := by decide +kernel
theorem dX6_seeCosts_44 : decode cX6_seeCosts 44 = .ok (.iload_n 2, 1) := by decide +kernel
theorem dX6_seeCosts_45 : decode cX6_seeCosts 45 = .ok (.aload_n 0, 1) := by decide +kernel
theorem dX6_seeCosts_46 : decode cX6_seeCosts 46 = .ok (.getfield 31, 3) := by decide +kernel
theorem dX6_seeCosts_49 : decode cX6_seeCosts 49 = .ok (.iload_n 1, 1) := by decide +kernel
theorem dX6_seeCosts_50 : decode cX6_seeCosts 50 = .ok (.aaload, 1) := by decide +kernel
theorem dX6_seeCosts_51 : decode cX6_seeCosts 51 = .ok (.iload_n 2, 1) := by decide +kernel
theorem dX6_seeCosts_52 : decode cX6_seeCosts 52 = .ok (.iaload, 1) := by decide +kernel
theorem dX6_seeCosts_53 : decode cX6_seeCosts 53 = .ok (.invokevirtual 129, 3) := by decide +kernel
theorem dX6_seeCosts_56 : decode cX6_seeCosts 56 = .ok (.goto 19, 3) := by decide +kernel
theorem dX6_seeCosts_59 : decode cX6_seeCosts 59 = .ok (.aload_n 0, 1) := by decide +kernel
theorem dX6_seeCosts_60 : decode cX6_seeCosts 60 = .ok (.getfield 41, 3) := by decide +kernel
theorem dX6_seeCosts_63 : decode cX6_seeCosts 63 = .ok (.iload_n 2, 1) := by decide +kernel
theorem dX6_seeCosts_64 : decode cX6_seeCosts 64 = .ok (.aload_n 0, 1) := by decide +kernel
theorem dX6_seeCosts_65 : decode cX6_seeCosts 65 = .ok (.getfield 31, 3) := by decide +kernel
theorem dX6_seeCosts_68 : decode cX6_seeCosts 68 = .ok (.iload_n 1, 1) := by decide +kernel
theorem dX6_seeCosts_69 : decode cX6_seeCosts 69 = .ok (.aaload, 1) := by decide +kernel
theorem dX6_seeCosts_70 : decode cX6_seeCosts 70 = .ok (.iload_n 2, 1) := by decide +kernel
theorem dX6_seeCosts_71 : decode cX6_seeCosts 71 = .ok (.iaload, 1) := by decide +kernel
theorem dX6_seeCosts_72 : decode cX6_seeCosts 72 = .ok (.invokevirtual 129, 3) := by decide +kernel
theorem dX6_seeCosts_75 : decode cX6_seeCosts 75 = .ok (.iinc 2 1, 3) := by decide +kernel
theorem dX6_seeCosts_78 : decode cX6_seeCosts 78 = .ok (.goto (-62), 3) := by decide +kernel
theorem dX6_seeCosts_81 : decode cX6_seeCosts 81 = .ok (.return_, 1) := by decide +kernel
theorem gX6_seeCosts_0 {d : Nat} {M : ev_Mem} {Q : Option Value → ev_Mem → Prop} {x1 : Int32} (h : (∀ M1 : ev_Mem, M1 = loM M 97 → (∀ M2 : ev_Mem, M2 = loM M1 98 → (Ev LX (d + 1) mX6_seeCosts 16 [some (.ref 86), some (.int x1), some (.int 0)] [] M2 Q)))) : Ev LX (d + 1) mX6_seeCosts 0 [some (.ref 86), some (.int x1), none] [] M Q := by
  refine ev_aload_n dX6_seeCosts_0 rfl ?_
  refine ev_getA dX6_seeCosts_1 fl_WithoutE_Speech_37 lx_86 rfl ?_
  refine ev_callV [] dX6_seeCosts_4 ml_WithoutE_Speech_123 lx_97 rfl rfl (Nat.le_of_ble_eq_true rfl) (kX2_start97) ?_
  rintro zr zM ⟨q1, q2⟩
  rw [q1, q2]
  generalize eM1 : loM M 97 = M1
  replace h := h M1 eM1.symm
  show Ev LX (d + 1) mX6_seeCosts 7 [some (.ref 86), some (.int x1), none] [] M1 Q
  refine ev_aload_n dX6_seeCosts_7 rfl ?_
  refine ev_getA dX6_seeCosts_8 fl_WithoutE_Speech_41 lx_86 rfl ?_
  refine ev_callV [] dX6_seeCosts_11 ml_WithoutE_Speech_123 lx_98 rfl rfl (Nat.le_of_ble_eq_true rfl) (kX2_start98) ?_
  rintro zr zM ⟨q1, q2⟩
  rw [q1, q2]
  generalize eM2 : loM M1 98 = M2
  replace h := h M2 eM2.symm
  show Ev LX (d + 1) mX6_seeCosts 14 [some (.ref 86), some (.int x1), none] [] M2 Q
  refine ev_iconst (v := 0) dX6_seeCosts_14 (by decide) ?_
  refine ev_istore_n (ls2 := [some (.ref 86), some (.int x1), some (.int 0)]) dX6_seeCosts_15 (Nat.le_of_ble_eq_true rfl) rfl ?_
  exact h
theorem gX6_seeCosts_16 {d : Nat} {M : ev_Mem} {Q : Option Value → ev_Mem → Prop} {x1 x2 : Int32} (h : ((((M.1 3 5) ≤ x2) → (Q none M)) ∧ ((¬ (M.1 3 5) ≤ x2) → (vp_in x2 24 ∧ (((¬ (M.1 30 x2.toNatClampNeg) = 2) → (vp_in x1 5 ∧ (vp_in x2 24 ∧ (∀ M1 : ev_Mem, M1 = seeM M 98 x2 (M.1 (92 + x1.toNatClampNeg) x2.toNatClampNeg) → (Ev LX (d + 1) mX6_seeCosts 16 [some (.ref 86), some (.int x1), some (.int (x2 + 1))] [] M1 Q))))) ∧ (((M.1 30 x2.toNatClampNeg) = 2) → (vp_in x1 5 ∧ (vp_in x2 24 ∧ (∀ M2 : ev_Mem, M2 = seeM M 97 x2 (M.1 (92 + x1.toNatClampNeg) x2.toNatClampNeg) → (Ev LX (d + 1) mX6_seeCosts 16 [some (.ref 86), some (.int x1), some (.int (x2 + 1))] [] M2 Q)))))))))) : Ev LX (d + 1) mX6_seeCosts 16 [some (.ref 86), some (.int x1), some (.int x2)] [] M Q := by
  refine ev_iload_n dX6_seeCosts_16 rfl ?_
  refine ev_aload_n dX6_seeCosts_17 rfl ?_
  refine ev_getA dX6_seeCosts_18 fl_WithoutE_Speech_47 lx_86 rfl ?_
  refine ev_getI dX6_seeCosts_21 fl_WithoutE_Speech_74 lx_3 rfl ?_
  refine ev_icmp_ge (tgt := 81) dX6_seeCosts_24 (by decide) (fun c => ?_) (fun c => ?_)
  · replace h := h.1 c
    exact ev_vret dX6_seeCosts_81 rfl h
  · replace h := h.2 c
    refine ev_aload_n dX6_seeCosts_27 rfl ?_
    refine ev_getA dX6_seeCosts_28 fl_WithoutE_Speech_47 lx_86 rfl ?_
    refine ev_getA dX6_seeCosts_31 fl_WithoutE_Speech_126 lx_3 rfl ?_
    refine ev_iload_n dX6_seeCosts_34 rfl ?_
    obtain ⟨c, h⟩ := h
    refine ev_iald dX6_seeCosts_35 lx_30 c ?_
    refine ev_iconst (v := 2) dX6_seeCosts_36 (by decide) ?_
    refine ev_icmp_ne (tgt := 59) dX6_seeCosts_37 (by decide) (fun c => ?_) (fun c => ?_)
    · replace h := h.1 c
      refine ev_aload_n dX6_seeCosts_59 rfl ?_
      refine ev_getA dX6_seeCosts_60 fl_WithoutE_Speech_41 lx_86 rfl ?_
      refine ev_iload_n dX6_seeCosts_63 rfl ?_
      refine ev_aload_n dX6_seeCosts_64 rfl ?_
      refine ev_getA dX6_seeCosts_65 fl_WithoutE_Speech_31 lx_86 rfl ?_
      refine ev_iload_n dX6_seeCosts_68 rfl ?_
      obtain ⟨b1, h⟩ := h
      refine ev_aald dX6_seeCosts_69 lx_91 (fun _ => rfl) rfl b1 ?_
      refine ev_iload_n dX6_seeCosts_70 rfl ?_
      obtain ⟨c, h⟩ := h
      refine ev_iald dX6_seeCosts_71 (lx_co (ev_lt b1)) c ?_
      refine ev_callV [.int x2, .int (M.1 (92 + x1.toNatClampNeg) x2.toNatClampNeg)] dX6_seeCosts_72 ml_WithoutE_Speech_129 lx_98 rfl rfl (Nat.le_of_ble_eq_true rfl) (kX2_see98) ?_
      rintro zr zM ⟨q1, q2⟩
      rw [q1, q2]
      generalize eM1 : seeM M 98 x2 (M.1 (92 + x1.toNatClampNeg) x2.toNatClampNeg) = M1
      replace h := h M1 eM1.symm
      show Ev LX (d + 1) mX6_seeCosts 75 [some (.ref 86), some (.int x1), some (.int x2)] [] M1 Q
      refine ev_iinc (v := x2 + 1) (ls2 := [some (.ref 86), some (.int x1), some (.int (x2 + 1))]) dX6_seeCosts_75 rfl rfl rfl ?_
      refine ev_goto (tgt := 16) dX6_seeCosts_78 (by decide) ?_
      exact h
    · replace h := h.2 c
      refine ev_aload_n dX6_seeCosts_40 rfl ?_
      refine ev_getA dX6_seeCosts_41 fl_WithoutE_Speech_37 lx_86 rfl ?_
      refine ev_iload_n dX6_seeCosts_44 rfl ?_
      refine ev_aload_n dX6_seeCosts_45 rfl ?_
      refine ev_getA dX6_seeCosts_46 fl_WithoutE_Speech_31 lx_86 rfl ?_
      refine ev_iload_n dX6_seeCosts_49 rfl ?_
      obtain ⟨b2, h⟩ := h
      refine ev_aald dX6_seeCosts_50 lx_91 (fun _ => rfl) rfl b2 ?_
      refine ev_iload_n dX6_seeCosts_51 rfl ?_
      obtain ⟨c, h⟩ := h
      refine ev_iald dX6_seeCosts_52 (lx_co (ev_lt b2)) c ?_
      refine ev_callV [.int x2, .int (M.1 (92 + x1.toNatClampNeg) x2.toNatClampNeg)] dX6_seeCosts_53 ml_WithoutE_Speech_129 lx_97 rfl rfl (Nat.le_of_ble_eq_true rfl) (kX2_see97) ?_
      rintro zr zM ⟨q1, q2⟩
      rw [q1, q2]
      generalize eM2 : seeM M 97 x2 (M.1 (92 + x1.toNatClampNeg) x2.toNatClampNeg) = M2
      replace h := h M2 eM2.symm
      show Ev LX (d + 1) mX6_seeCosts 56 [some (.ref 86), some (.int x1), some (.int x2)] [] M2 Q
      refine ev_goto (tgt := 75) dX6_seeCosts_56 (by decide) ?_
      refine ev_iinc (v := x2 + 1) (ls2 := [some (.ref 86), some (.int x1), some (.int (x2 + 1))]) dX6_seeCosts_75 rfl rfl rfl ?_
      refine ev_goto (tgt := 16) dX6_seeCosts_78 (by decide) ?_
      exact h
theorem dX6_leastBeside_0 : decode cX6_leastBeside 0 = .ok (.aload_n 0, 1) := by decide +kernel
theorem dX6_leastBeside_1 : decode cX6_leastBeside 1 = .ok (.getfield 47, 3) := by decide +kernel
theorem dX6_leastBeside_4 : decode cX6_leastBeside 4 = .ok (.getfield 126, 3) := by decide +kernel
theorem dX6_leastBeside_7 : decode cX6_leastBeside 7 = .ok (.iload_n 1, 1) := by decide +kernel
theorem dX6_leastBeside_8 : decode cX6_leastBeside 8 = .ok (.iaload, 1) := by decide +kernel
theorem dX6_leastBeside_9 : decode cX6_leastBeside 9 = .ok (.iconst 2, 1) := by decide +kernel
theorem dX6_leastBeside_10 : decode cX6_leastBeside 10 = .ok (.if_icmp .ne 26, 3) := by decide +kernel
theorem dX6_leastBeside_13 : decode cX6_leastBeside 13 = .ok (.aload_n 0, 1) := by decide +kernel
theorem dX6_leastBeside_14 : decode cX6_leastBeside 14 = .ok (.getfield 41, 3) := by decide +kernel
theorem dX6_leastBeside_17 : decode cX6_leastBeside 17 = .ok (.getfield 133, 3) := by decide +kernel
theorem dX6_leastBeside_20 : decode cX6_leastBeside 20 = .ok (.aload_n 0, 1) := by decide +kernel
theorem dX6_leastBeside_21 : decode cX6_leastBeside 21 = .ok (.getfield 37, 3) := by decide +kernel
theorem dX6_leastBeside_24 : decode cX6_leastBeside 24 = .ok (.iload_n 1, 1) := by decide +kernel
theorem dX6_leastBeside_25 : decode cX6_leastBeside 25 = .ok (.invokevirtual 136, 3) := by decide +kernel
theorem dX6_leastBeside_28 : decode cX6_leastBeside 28 = .ok (.iconst 1, 1) := by decide +kernel
theorem dX6_leastBeside_29 : decode cX6_leastBeside 29 = .ok (.iadd, 1) := by decide +kernel
theorem dX6_leastBeside_30 : decode cX6_leastBeside 30 = .ok (.invokestatic 105, 3) := by decide +kernel
theorem dX6_leastBeside_33 : decode cX6_leastBeside 33 = .ok (.goto 21, 3) := by decide +kernel
theorem dX6_leastBeside_36 : decode cX6_leastBeside 36 = .ok (.aload_n 0, 1) := by decide +kernel
theorem dX6_leastBeside_37 : decode cX6_leastBeside 37 = .ok (.getfield 41, 3) := by decide +kernel
theorem dX6_leastBeside_40 : decode cX6_leastBeside 40 = .ok (.iload_n 1, 1) := by decide +kernel
theorem dX6_leastBeside_41 : decode cX6_leastBeside 41 = .ok (.invokevirtual 136, 3) := by decide +kernel
theorem dX6_leastBeside_44 : decode cX6_leastBeside 44 = .ok (.aload_n 0, 1) := by decide +kernel
theorem dX6_leastBeside_45 : decode cX6_leastBeside 45 = .ok (.getfield 37, 3) := by decide +kernel
theorem dX6_leastBeside_48 : decode cX6_leastBeside 48 = .ok (.getfield 133, 3) := by decide +kernel
theorem dX6_leastBeside_51 : decode cX6_leastBeside 51 = .ok (.invokestatic 105, 3) := by decide +kernel
theorem dX6_leastBeside_54 : decode cX6_leastBeside 54 = .ok (.istore_n 3, 1) := by decide +kernel
theorem dX6_leastBeside_55 : decode cX6_leastBeside 55 = .ok (.iload_n 3, 1) := by decide +kernel
theorem dX6_leastBeside_56 : decode cX6_leastBeside 56 = .ok (.iload_n 2, 1) := by decide +kernel
theorem dX6_leastBeside_57 : decode cX6_leastBeside 57 = .ok (.iconst 3, 1) := by decide +kernel
theorem dX6_leastBeside_58 : decode cX6_leastBeside 58 = .ok (.iadd, 1) := by decide +kernel
theorem dX6_leastBeside_59 : decode cX6_leastBeside 59 = .ok (.invokestatic 105, 3) := by decide +kernel
theorem dX6_leastBeside_62 : decode cX6_leastBeside 62 = .ok (.ireturn, 1) := by decide +kernel
theorem gX6_leastBeside_0 {d : Nat} {M : ev_Mem} {Q : Option Value → ev_Mem → Prop} {x1 x2 : Int32} (h : (vp_in x1 24 ∧ (((¬ (M.1 30 x1.toNatClampNeg) = 2) → (∀ v1 : Int32, v1 = imin (wou M 98 x1) (M.1 97 0) → (Q (some (.int (imin v1 (x2 + 3)))) M))) ∧ (((M.1 30 x1.toNatClampNeg) = 2) → (∀ v2 : Int32, v2 = imin (M.1 98 0) ((wou M 97 x1) + 1) → (Q (some (.int (imin v2 (x2 + 3)))) M)))))) : Ev LX (d + 1) mX6_leastBeside 0 [some (.ref 86), some (.int x1), some (.int x2), none] [] M Q := by
  refine ev_aload_n dX6_leastBeside_0 rfl ?_
  refine ev_getA dX6_leastBeside_1 fl_WithoutE_Speech_47 lx_86 rfl ?_
  refine ev_getA dX6_leastBeside_4 fl_WithoutE_Speech_126 lx_3 rfl ?_
  refine ev_iload_n dX6_leastBeside_7 rfl ?_
  obtain ⟨c, h⟩ := h
  refine ev_iald dX6_leastBeside_8 lx_30 c ?_
  refine ev_iconst (v := 2) dX6_leastBeside_9 (by decide) ?_
  refine ev_icmp_ne (tgt := 36) dX6_leastBeside_10 (by decide) (fun c => ?_) (fun c => ?_)
  · replace h := h.1 c
    refine ev_aload_n dX6_leastBeside_36 rfl ?_
    refine ev_getA dX6_leastBeside_37 fl_WithoutE_Speech_41 lx_86 rfl ?_
    refine ev_iload_n dX6_leastBeside_40 rfl ?_
    refine ev_callV [.int x1] dX6_leastBeside_41 ml_WithoutE_Speech_136 lx_98 rfl rfl (Nat.le_of_ble_eq_true rfl) (kX2_without98) ?_
    rintro zr zM ⟨q1, q2⟩
    rw [q1, q2]
    show Ev LX (d + 1) mX6_leastBeside 44 [some (.ref 86), some (.int x1), some (.int x2), none] [(.int (wou M 98 x1))] M Q
    refine ev_aload_n dX6_leastBeside_44 rfl ?_
    refine ev_getA dX6_leastBeside_45 fl_WithoutE_Speech_37 lx_86 rfl ?_
    refine ev_getI dX6_leastBeside_48 fl_WithoutE_Speech_133 lx_97 rfl ?_
    refine ev_min dX6_leastBeside_51 ml_WithoutE_Speech_105 (by omega) (Nat.le_of_ble_eq_true rfl) ?_
    refine ev_istore_n (ls2 := [some (.ref 86), some (.int x1), some (.int x2), some (.int (imin (wou M 98 x1) (M.1 97 0)))]) dX6_leastBeside_54 (Nat.le_of_ble_eq_true rfl) rfl ?_
    generalize ev1 : imin (wou M 98 x1) (M.1 97 0) = v1
    replace h := h v1 ev1.symm
    refine ev_iload_n dX6_leastBeside_55 rfl ?_
    refine ev_iload_n dX6_leastBeside_56 rfl ?_
    refine ev_iconst (v := 3) dX6_leastBeside_57 (by decide) ?_
    refine ev_iadd dX6_leastBeside_58 ?_
    refine ev_min dX6_leastBeside_59 ml_WithoutE_Speech_105 (by omega) (Nat.le_of_ble_eq_true rfl) ?_
    exact ev_iret dX6_leastBeside_62 rfl h
  · replace h := h.2 c
    refine ev_aload_n dX6_leastBeside_13 rfl ?_
    refine ev_getA dX6_leastBeside_14 fl_WithoutE_Speech_41 lx_86 rfl ?_
    refine ev_getI dX6_leastBeside_17 fl_WithoutE_Speech_133 lx_98 rfl ?_
    refine ev_aload_n dX6_leastBeside_20 rfl ?_
    refine ev_getA dX6_leastBeside_21 fl_WithoutE_Speech_37 lx_86 rfl ?_
    refine ev_iload_n dX6_leastBeside_24 rfl ?_
    refine ev_callV [.int x1] dX6_leastBeside_25 ml_WithoutE_Speech_136 lx_97 rfl rfl (Nat.le_of_ble_eq_true rfl) (kX2_without97) ?_
    rintro zr zM ⟨q1, q2⟩
    rw [q1, q2]
    show Ev LX (d + 1) mX6_leastBeside 28 [some (.ref 86), some (.int x1), some (.int x2), none] [(.int (wou M 97 x1)), (.int (M.1 98 0))] M Q
    refine ev_iconst (v := 1) dX6_leastBeside_28 (by decide) ?_
    refine ev_iadd dX6_leastBeside_29 ?_
    refine ev_min dX6_leastBeside_30 ml_WithoutE_Speech_105 (by omega) (Nat.le_of_ble_eq_true rfl) ?_
    refine ev_goto (tgt := 54) dX6_leastBeside_33 (by decide) ?_
    refine ev_istore_n (ls2 := [some (.ref 86), some (.int x1), some (.int x2), some (.int (imin (M.1 98 0) ((wou M 97 x1) + 1)))]) dX6_leastBeside_54 (Nat.le_of_ble_eq_true rfl) rfl ?_
    generalize ev2 : imin (M.1 98 0) ((wou M 97 x1) + 1) = v2
    replace h := h v2 ev2.symm
    refine ev_iload_n dX6_leastBeside_55 rfl ?_
    refine ev_iload_n dX6_leastBeside_56 rfl ?_
    refine ev_iconst (v := 3) dX6_leastBeside_57 (by decide) ?_
    refine ev_iadd dX6_leastBeside_58 ?_
    refine ev_min dX6_leastBeside_59 ml_WithoutE_Speech_105 (by omega) (Nat.le_of_ble_eq_true rfl) ?_
    exact ev_iret dX6_leastBeside_62 rfl h
theorem dX6_lowestBehind_0 : decode cX6_lowestBehind 0 = .ok (.iconst (-1), 1) := by decide +kernel
theorem dX6_lowestBehind_1 : decode cX6_lowestBehind 1 = .ok (.istore_n 3, 1) := by decide +kernel
theorem dX6_lowestBehind_2 : decode cX6_lowestBehind 2 = .ok (.ldc 104, 2) := by decide +kernel
theorem dX6_lowestBehind_4 : decode cX6_lowestBehind 4 = .ok (.istore 4, 2) := by decide +kernel
theorem dX6_lowestBehind_6 : decode cX6_lowestBehind 6 = .ok (.iconst 0, 1) := by decide +kernel
theorem dX6_lowestBehind_7 : decode cX6_lowestBehind 7 = .ok (.istore 5, 2) := by decide +kernel
theorem dX6_lowestBehind_9 : decode cX6_lowestBehind 9 = .ok (.iload 5, 2) := by decide +kernel
theorem dX6_lowestBehind_11 : decode cX6_lowestBehind 11 = .ok (.aload_n 0, 1) := by decide +kernel
theorem dX6_lowestBehind_12 : decode cX6_lowestBehind 12 = .ok (.getfield 47, 3) := by decide +kernel
theorem dX6_lowestBehind_15 : decode cX6_lowestBehind 15 = .ok (.getfield 74, 3) := by decide +kernel
theorem dX6_lowestBehind_18 : decode cX6_lowestBehind 18 = .ok (.if_icmp .ge 42, 3) := by decide +kernel
theorem dX6_lowestBehind_21 : decode cX6_lowestBehind 21 = .ok (.aload_n 0, 1) := by decide +kernel
theorem dX6_lowestBehind_22 : decode cX6_lowestBehind 22 = .ok (.getfield 31, 3) := by decide +kernel
theorem dX6_lowestBehind_25 : decode cX6_lowestBehind 25 = .ok (.iload_n 2, 1) := by decide +kernel
theorem dX6_lowestBehind_26 : decode cX6_lowestBehind 26 = .ok (.aaload, 1) := by decide +kernel
theorem dX6_lowestBehind_27 : decode cX6_lowestBehind 27 = .ok (.iload 5, 2) := by decide +kernel
theorem dX6_lowestBehind_29 : decode cX6_lowestBehind 29 = .ok (.iaload, 1) := by decide +kernel
theorem dX6_lowestBehind_30 : decode cX6_lowestBehind 30 = .ok (.aload_n 0, 1) := by decide +kernel
theorem dX6_lowestBehind_31 : decode cX6_lowestBehind 31 = .ok (.iload_n 1, 1) := by decide +kernel
theorem dX6_lowestBehind_32 : decode cX6_lowestBehind 32 = .ok (.iload 5, 2) := by decide +kernel
theorem dX6_lowestBehind_34 : decode cX6_lowestBehind 34 = .ok (.invokevirtual 165, 3) := by decide +kernel
theorem dX6_lowestBehind_37 : decode cX6_lowestBehind 37 = .ok (.iadd, 1) := by decide +kernel
theorem dX6_lowestBehind_38 : decode cX6_lowestBehind 38 = .ok (.istore 6, 2) := by decide +kernel
theorem dX6_lowestBehind_40 : decode cX6_lowestBehind 40 = .ok (.iload 6, 2) := by decide +kernel
theorem dX6_lowestBehind_42 : decode cX6_lowestBehind 42 = .ok (.iload 4, 2) := by decide +kernel
theorem dX6_lowestBehind_44 : decode cX6_lowestBehind 44 = .ok (.if_icmp .ge 10, 3) := by decide +kernel
theorem dX6_lowestBehind_47 : decode cX6_lowestBehind 47 = .ok (.iload 6, 2) := by decide +kernel
theorem dX6_lowestBehind_49 : decode cX6_lowestBehind 49 = .ok (.istore 4, 2) := by decide +kernel
theorem dX6_lowestBehind_51 : decode cX6_lowestBehind 51 = .ok (.iload 5, 2) := by decide +kernel
theorem dX6_lowestBehind_53 : decode cX6_lowestBehind 53 = .ok (.istore_n 3, 1) := by decide +kernel
theorem dX6_lowestBehind_54 : decode cX6_lowestBehind 54 = .ok (.iinc 5 1, 3) := by decide +kernel
theorem dX6_lowestBehind_57 : decode cX6_lowestBehind 57 = .ok (.goto (-48), 3) := by decide +kernel
theorem dX6_lowestBehind_60 : decode cX6_lowestBehind 60 = .ok (.iload_n 3, 1) := by decide +kernel
theorem dX6_lowestBehind_61 : decode cX6_lowestBehind 61 = .ok (.ireturn, 1) := by decide +kernel
theorem gX6_lowestBehind_0 {d : Nat} {M : ev_Mem} {Q : Option Value → ev_Mem → Prop} {x1 x2 : Int32} (h : (Ev LX d mX6_lowestBehind 9 [some (.ref 86), some (.int x1), some (.int x2), some (.int (-1)), some (.int 1000000), some (.int 0), none] [] M Q)) : Ev LX d mX6_lowestBehind 0 [some (.ref 86), some (.int x1), some (.int x2), none, none, none, none] [] M Q := by
  refine ev_iconst (v := -1) dX6_lowestBehind_0 (by decide) ?_
  refine ev_istore_n (ls2 := [some (.ref 86), some (.int x1), some (.int x2), some (.int (-1)), none, none, none]) dX6_lowestBehind_1 (Nat.le_of_ble_eq_true rfl) rfl ?_
  refine ev_ldc (v := 1000000) dX6_lowestBehind_2 cw_WithoutE_Speech_104 ?_
  refine ev_istore (ls2 := [some (.ref 86), some (.int x1), some (.int x2), some (.int (-1)), some (.int 1000000), none, none]) dX6_lowestBehind_4 (Nat.le_of_ble_eq_true rfl) rfl ?_
  refine ev_iconst (v := 0) dX6_lowestBehind_6 (by decide) ?_
  refine ev_istore (ls2 := [some (.ref 86), some (.int x1), some (.int x2), some (.int (-1)), some (.int 1000000), some (.int 0), none]) dX6_lowestBehind_7 (Nat.le_of_ble_eq_true rfl) rfl ?_
  exact h
theorem gX6_lowestBehind_9 {d : Nat} {M : ev_Mem} {Q : Option Value → ev_Mem → Prop} {x1 x2 x3 x4 x5 : Int32} (h : ((((M.1 3 5) ≤ x5) → (Q (some (.int x3)) M)) ∧ ((¬ (M.1 3 5) ≤ x5) → (vp_in x2 5 ∧ (vp_in x5 24 ∧ (((x1 = -1 ∨ vp_in x1 24) ∧ vp_in x5 24) ∧ (∀ v1 : Int32, v1 = (M.1 (92 + x2.toNatClampNeg) x5.toNatClampNeg) + (btI M x1 x5) → (((x4 ≤ v1) → (Ev LX (d + 1) mX6_lowestBehind 9 [some (.ref 86), some (.int x1), some (.int x2), some (.int x3), some (.int x4), some (.int (x5 + 1)), none] [] M Q)) ∧ ((¬ x4 ≤ v1) → (Ev LX (d + 1) mX6_lowestBehind 9 [some (.ref 86), some (.int x1), some (.int x2), some (.int x5), some (.int v1), some (.int (x5 + 1)), none] [] M Q)))))))))) : Ev LX (d + 1) mX6_lowestBehind 9 [some (.ref 86), some (.int x1), some (.int x2), some (.int x3), some (.int x4), some (.int x5), none] [] M Q := by
  refine ev_iload dX6_lowestBehind_9 rfl ?_
  refine ev_aload_n dX6_lowestBehind_11 rfl ?_
  refine ev_getA dX6_lowestBehind_12 fl_WithoutE_Speech_47 lx_86 rfl ?_
  refine ev_getI dX6_lowestBehind_15 fl_WithoutE_Speech_74 lx_3 rfl ?_
  refine ev_icmp_ge (tgt := 60) dX6_lowestBehind_18 (by decide) (fun c => ?_) (fun c => ?_)
  · replace h := h.1 c
    refine ev_iload_n dX6_lowestBehind_60 rfl ?_
    exact ev_iret dX6_lowestBehind_61 rfl h
  · replace h := h.2 c
    refine ev_aload_n dX6_lowestBehind_21 rfl ?_
    refine ev_getA dX6_lowestBehind_22 fl_WithoutE_Speech_31 lx_86 rfl ?_
    refine ev_iload_n dX6_lowestBehind_25 rfl ?_
    obtain ⟨b1, h⟩ := h
    refine ev_aald dX6_lowestBehind_26 lx_91 (fun _ => rfl) rfl b1 ?_
    refine ev_iload dX6_lowestBehind_27 rfl ?_
    obtain ⟨c, h⟩ := h
    refine ev_iald dX6_lowestBehind_29 (lx_co (ev_lt b1)) c ?_
    refine ev_aload_n dX6_lowestBehind_30 rfl ?_
    refine ev_iload_n dX6_lowestBehind_31 rfl ?_
    refine ev_iload dX6_lowestBehind_32 rfl ?_
    obtain ⟨p1, h⟩ := h
    refine ev_callV [.int x1, .int x5] dX6_lowestBehind_34 ml_WithoutE_Speech_165 lx_86 rfl rfl (Nat.le_of_ble_eq_true rfl) (kX6_costBetween p1) ?_
    rintro zr zM ⟨q1, q2⟩
    rw [q1, q2]
    show Ev LX (d + 1) mX6_lowestBehind 37 [some (.ref 86), some (.int x1), some (.int x2), some (.int x3), some (.int x4), some (.int x5), none] [(.int (btI M x1 x5)), (.int (M.1 (92 + x2.toNatClampNeg) x5.toNatClampNeg))] M Q
    refine ev_iadd dX6_lowestBehind_37 ?_
    refine ev_istore (ls2 := [some (.ref 86), some (.int x1), some (.int x2), some (.int x3), some (.int x4), some (.int x5), some (.int ((M.1 (92 + x2.toNatClampNeg) x5.toNatClampNeg) + (btI M x1 x5)))]) dX6_lowestBehind_38 (Nat.le_of_ble_eq_true rfl) rfl ?_
    generalize ev1 : (M.1 (92 + x2.toNatClampNeg) x5.toNatClampNeg) + (btI M x1 x5) = v1
    replace h := h v1 ev1.symm
    refine ev_iload dX6_lowestBehind_40 rfl ?_
    refine ev_iload dX6_lowestBehind_42 rfl ?_
    refine ev_icmp_ge (tgt := 54) dX6_lowestBehind_44 (by decide) (fun c => ?_) (fun c => ?_)
    · replace h := h.1 c
      refine ev_iinc (v := x5 + 1) (ls2 := [some (.ref 86), some (.int x1), some (.int x2), some (.int x3), some (.int x4), some (.int (x5 + 1)), some (.int v1)]) dX6_lowestBehind_54 rfl rfl rfl ?_
      refine ev_goto (tgt := 9) dX6_lowestBehind_57 (by decide) ?_
      refine Ev.weak (ls := [some (.ref 86), some (.int x1), some (.int x2), some (.int x3), some (.int x4), some (.int (x5 + 1)), none]) ⟨rfl, rfl, rfl, rfl, rfl, rfl, trivial⟩ ?_
      exact h
    · replace h := h.2 c
      refine ev_iload dX6_lowestBehind_47 rfl ?_
      refine ev_istore (ls2 := [some (.ref 86), some (.int x1), some (.int x2), some (.int x3), some (.int v1), some (.int x5), some (.int v1)]) dX6_lowestBehind_49 (Nat.le_of_ble_eq_true rfl) rfl ?_
      refine ev_iload dX6_lowestBehind_51 rfl ?_
      refine ev_istore_n (ls2 := [some (.ref 86), some (.int x1), some (.int x2), some (.int x5), some (.int v1), some (.int x5), some (.int v1)]) dX6_lowestBehind_53 (Nat.le_of_ble_eq_true rfl) rfl ?_
      refine ev_iinc (v := x5 + 1) (ls2 := [some (.ref 86), some (.int x1), some (.int x2), some (.int x5), some (.int v1), some (.int (x5 + 1)), some (.int v1)]) dX6_lowestBehind_54 rfl rfl rfl ?_
      refine ev_goto (tgt := 9) dX6_lowestBehind_57 (by decide) ?_
      refine Ev.weak (ls := [some (.ref 86), some (.int x1), some (.int x2), some (.int x5), some (.int v1), some (.int (x5 + 1)), none]) ⟨rfl, rfl, rfl, rfl, rfl, rfl, trivial⟩ ?_
      exact h
