theorem dX11_says_0 : decode cX11_says 0 = .ok (.iconst 0, 1) := by decide +kernel
theorem dX11_says_1 : decode cX11_says 1 = .ok (.istore 5, 2) := by decide +kernel
theorem dX11_says_3 : decode cX11_says 3 = .ok (.iload_n 1, 1) := by decide +kernel
theorem dX11_says_4 : decode cX11_says 4 = .ok (.ifCond .lt 60, 3) := by decide +kernel
theorem dX11_says_7 : decode cX11_says 7 = .ok (.iload 5, 2) := by decide +kernel
theorem dX11_says_9 : decode cX11_says 9 = .ok (.aload_n 0, 1) := by decide +kernel
theorem dX11_says_10 : decode cX11_says 10 = .ok (.getfield 19, 3) := by decide +kernel
theorem dX11_says_13 : decode cX11_says 13 = .ok (.sipush 945, 3) := by decide +kernel
theorem dX11_says_16 : decode cX11_says 16 = .ok (.iload_n 1, 1) := by decide +kernel
theorem dX11_says_17 : decode cX11_says 17 = .ok (.imul, 1) := by decide +kernel
theorem dX11_says_18 : decode cX11_says 18 = .ok (.iaload, 1) := by decide +kernel
theorem dX11_says_19 : decode cX11_says 19 = .ok (.if_icmp .ge 45, 3) := by decide +kernel
theorem dX11_says_22 : decode cX11_says 22 = .ok (.aload_n 0, 1) := by decide +kernel
theorem dX11_says_23 : decode cX11_says 23 = .ok (.getfield 19, 3) := by decide +kernel
theorem dX11_says_26 : decode cX11_says 26 = .ok (.sipush 945, 3) := by decide +kernel
theorem dX11_says_29 : decode cX11_says 29 = .ok (.iload_n 1, 1) := by decide +kernel
theorem dX11_says_30 : decode cX11_says 30 = .ok (.imul, 1) := by decide +kernel
theorem dX11_says_31 : decode cX11_says 31 = .ok (.iconst 1, 1) := by decide +kernel
theorem dX11_says_32 : decode cX11_says 32 = .ok (.iadd, 1) := by decide +kernel
theorem dX11_says_33 : decode cX11_says 33 = .ok (.bipush 14, 2) := by decide +kernel
theorem dX11_says_35 : decode cX11_says 35 = .ok (.iload 5, 2) := by decide +kernel
theorem dX11_says_37 : decode cX11_says 37 = .ok (.imul, 1) := by decide +kernel
theorem dX11_says_38 : decode cX11_says 38 = .ok (.iadd, 1) := by decide +kernel
theorem dX11_says_39 : decode cX11_says 39 = .ok (.iaload, 1) := by decide +kernel
theorem dX11_says_40 : decode cX11_says 40 = .ok (.iload_n 2, 1) := by decide +kernel
theorem dX11_says_41 : decode cX11_says 41 = .ok (.if_icmp .ne 17, 3) := by decide +kernel
theorem dX11_says_44 : decode cX11_says 44 = .ok (.aload_n 0, 1) := by decide +kernel
theorem dX11_says_45 : decode cX11_says 45 = .ok (.iload_n 1, 1) := by decide +kernel
theorem dX11_says_46 : decode cX11_says 46 = .ok (.iload 5, 2) := by decide +kernel
theorem dX11_says_48 : decode cX11_says 48 = .ok (.invokevirtual 305, 3) := by decide +kernel
theorem dX11_says_51 : decode cX11_says 51 = .ok (.iconst 0, 1) := by decide +kernel
theorem dX11_says_52 : decode cX11_says 52 = .ok (.iload 4, 2) := by decide +kernel
theorem dX11_says_54 : decode cX11_says 54 = .ok (.invokestatic 308, 3) := by decide +kernel
theorem dX11_says_57 : decode cX11_says 57 = .ok (.ireturn, 1) := by decide +kernel
theorem dX11_says_58 : decode cX11_says 58 = .ok (.iinc 5 1, 3) := by decide +kernel
theorem dX11_says_61 : decode cX11_says 61 = .ok (.goto (-58), 3) := by decide +kernel
theorem dX11_says_64 : decode cX11_says 64 = .ok (.iload_n 3, 1) := by decide +kernel
theorem dX11_says_65 : decode cX11_says 65 = .ok (.i2l, 1) := by decide +kernel
theorem dX11_says_66 : decode cX11_says 66 = .ok (.iconst 0, 1) := by decide +kernel
theorem dX11_says_67 : decode cX11_says 67 = .ok (.iload 4, 2) := by decide +kernel
theorem dX11_says_69 : decode cX11_says 69 = .ok (.invokestatic 308, 3) := by decide +kernel
theorem dX11_says_72 : decode cX11_says 72 = .ok (.ireturn, 1) := by decide +kernel
theorem gX11_says_0 {d : Nat} {M : ev_Mem} {Q : Option Value → ev_Mem → Prop} {x1 x2 x3 x4 : Int32} (h : (Ev LM d mX11_says 3 [some (.ref 0), some (.int x1), some (.int x2), some (.int x3), some (.int x4), some (.int 0)] [] M Q)) : Ev LM d mX11_says 0 [some (.ref 0), some (.int x1), some (.int x2), some (.int x3), some (.int x4), none] [] M Q := by
  refine ev_iconst (v := 0) dX11_says_0 (by decide) ?_
  refine ev_istore (ls2 := [some (.ref 0), some (.int x1), some (.int x2), some (.int x3), some (.int x4), some (.int 0)]) dX11_says_1 (Nat.le_of_ble_eq_true rfl) rfl ?_
  exact h
theorem gX11_says_3 {d : Nat} {M : ev_Mem} {Q : Option Value → ev_Mem → Prop} {x1 x2 x3 x4 x5 : Int32} (h : (((x1 < 0) → (Q (some (.int (bnd ((x3 : Int32).toInt64) (0 : Int32) x4))) M)) ∧ ((¬ x1 < 0) → (vp_in (945 * x1) 3780 ∧ ((((M.1 4 (945 * x1).toNatClampNeg) ≤ x5) → (Q (some (.int (bnd ((x3 : Int32).toInt64) (0 : Int32) x4))) M)) ∧ ((¬ (M.1 4 (945 * x1).toNatClampNeg) ≤ x5) → (vp_in (((945 * x1) + 1) + (14 * x5)) 3780 ∧ (((¬ (M.1 4 (((945 * x1) + 1) + (14 * x5)).toNatClampNeg) = x2) → (Ev LM (d + 3) mX11_says 3 [some (.ref 0), some (.int x1), some (.int x2), some (.int x3), some (.int x4), some (.int (x5 + 1))] [] M Q)) ∧ (((M.1 4 (((945 * x1) + 1) + (14 * x5)).toNatClampNeg) = x2) → ((lwOK M x1 x5) ∧ (∀ M1 : ev_Mem, mfr M M1 → (Q (some (.int (bnd (lwV M x1 x5) (0 : Int32) x4))) M1)))))))))))) : Ev LM (d + 3) mX11_says 3 [some (.ref 0), some (.int x1), some (.int x2), some (.int x3), some (.int x4), some (.int x5)] [] M Q := by
  refine ev_iload_n dX11_says_3 rfl ?_
  refine ev_if_lt (tgt := 64) dX11_says_4 (by decide) (fun c => ?_) (fun c => ?_)
  · replace h := h.1 c
    refine ev_iload_n dX11_says_64 rfl ?_
    refine ev_i2l dX11_says_65 ?_
    refine ev_iconst (v := 0) dX11_says_66 (by decide) ?_
    refine ev_iload dX11_says_67 rfl ?_
    refine ev_callS [.long ((x3 : Int32).toInt64), .int 0, .int x4] dX11_says_69 ml_WithoutEModel_308 rfl (Nat.le_of_ble_eq_true rfl) (kX11_bound) ?_
    rintro zr zM ⟨q1, q2⟩
    rw [q1, q2]
    show Ev LM (d + 3) mX11_says 72 [some (.ref 0), some (.int x1), some (.int x2), some (.int x3), some (.int x4), some (.int x5)] [(.int (bnd ((x3 : Int32).toInt64) (0 : Int32) x4))] M Q
    exact ev_iret dX11_says_72 rfl h
  · replace h := h.2 c
    refine ev_iload dX11_says_7 rfl ?_
    refine ev_aload_n dX11_says_9 rfl ?_
    refine ev_getA dX11_says_10 fl_WithoutEModel_19 lm_0 rfl ?_
    refine ev_sipush (v := 945) dX11_says_13 (by decide) ?_
    refine ev_iload_n dX11_says_16 rfl ?_
    refine ev_imul dX11_says_17 ?_
    obtain ⟨c, h⟩ := h
    refine ev_iald dX11_says_18 lm_4 c ?_
    refine ev_icmp_ge (tgt := 64) dX11_says_19 (by decide) (fun c => ?_) (fun c => ?_)
    · replace h := h.1 c
      refine ev_iload_n dX11_says_64 rfl ?_
      refine ev_i2l dX11_says_65 ?_
      refine ev_iconst (v := 0) dX11_says_66 (by decide) ?_
      refine ev_iload dX11_says_67 rfl ?_
      refine ev_callS [.long ((x3 : Int32).toInt64), .int 0, .int x4] dX11_says_69 ml_WithoutEModel_308 rfl (Nat.le_of_ble_eq_true rfl) (kX11_bound) ?_
      rintro zr zM ⟨q1, q2⟩
      rw [q1, q2]
      show Ev LM (d + 3) mX11_says 72 [some (.ref 0), some (.int x1), some (.int x2), some (.int x3), some (.int x4), some (.int x5)] [(.int (bnd ((x3 : Int32).toInt64) (0 : Int32) x4))] M Q
      exact ev_iret dX11_says_72 rfl h
    · replace h := h.2 c
      refine ev_aload_n dX11_says_22 rfl ?_
      refine ev_getA dX11_says_23 fl_WithoutEModel_19 lm_0 rfl ?_
      refine ev_sipush (v := 945) dX11_says_26 (by decide) ?_
      refine ev_iload_n dX11_says_29 rfl ?_
      refine ev_imul dX11_says_30 ?_
      refine ev_iconst (v := 1) dX11_says_31 (by decide) ?_
      refine ev_iadd dX11_says_32 ?_
      refine ev_bipush (v := 14) dX11_says_33 (by decide) ?_
      refine ev_iload dX11_says_35 rfl ?_
      refine ev_imul dX11_says_37 ?_
      refine ev_iadd dX11_says_38 ?_
      obtain ⟨c, h⟩ := h
      refine ev_iald dX11_says_39 lm_4 c ?_
      refine ev_iload_n dX11_says_40 rfl ?_
      refine ev_icmp_ne (tgt := 58) dX11_says_41 (by decide) (fun c => ?_) (fun c => ?_)
      · replace h := h.1 c
        refine ev_iinc (v := x5 + 1) (ls2 := [some (.ref 0), some (.int x1), some (.int x2), some (.int x3), some (.int x4), some (.int (x5 + 1))]) dX11_says_58 rfl rfl rfl ?_
        refine ev_goto (tgt := 3) dX11_says_61 (by decide) ?_
        exact h
      · replace h := h.2 c
        refine ev_aload_n dX11_says_44 rfl ?_
        refine ev_iload_n dX11_says_45 rfl ?_
        refine ev_iload dX11_says_46 rfl ?_
        obtain ⟨p1, h⟩ := h
        refine ev_callV [.int x1, .int x5] dX11_says_48 ml_WithoutEModel_305 lm_0 rfl rfl (Nat.le_of_ble_eq_true rfl) (qX11_summedUp p1) ?_
        rintro zr M1 ⟨q1, q⟩
        rw [q1]
        replace h := h M1 q
        show Ev LM (d + 3) mX11_says 51 [some (.ref 0), some (.int x1), some (.int x2), some (.int x3), some (.int x4), some (.int x5)] [(.long (lwV M x1 x5))] M1 Q
        refine ev_iconst (v := 0) dX11_says_51 (by decide) ?_
        refine ev_iload dX11_says_52 rfl ?_
        refine ev_callS [.long (lwV M x1 x5), .int 0, .int x4] dX11_says_54 ml_WithoutEModel_308 rfl (Nat.le_of_ble_eq_true rfl) (kX11_bound) ?_
        rintro zr zM ⟨q1, q2⟩
        rw [q1, q2]
        show Ev LM (d + 3) mX11_says 57 [some (.ref 0), some (.int x1), some (.int x2), some (.int x3), some (.int x4), some (.int x5)] [(.int (bnd (lwV M x1 x5) (0 : Int32) x4))] M1 Q
        exact ev_iret dX11_says_57 rfl h
