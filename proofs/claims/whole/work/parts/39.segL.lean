theorem dX11_layStiffs_0 : decode cX11_layStiffs 0 = .ok (.iconst 0, 1) := by decide +kernel
theorem dX11_layStiffs_1 : decode cX11_layStiffs 1 = .ok (.istore_n 1, 1) := by decide +kernel
theorem dX11_layStiffs_2 : decode cX11_layStiffs 2 = .ok (.iload_n 1, 1) := by decide +kernel
theorem dX11_layStiffs_3 : decode cX11_layStiffs 3 = .ok (.aload_n 0, 1) := by decide +kernel
theorem dX11_layStiffs_4 : decode cX11_layStiffs 4 = .ok (.getfield 7, 3) := by decide +kernel
theorem dX11_layStiffs_7 : decode cX11_layStiffs 7 = .ok (.iconst 0, 1) := by decide +kernel
theorem dX11_layStiffs_8 : decode cX11_layStiffs 8 = .ok (.iaload, 1) := by decide +kernel
theorem dX11_layStiffs_9 : decode cX11_layStiffs 9 = .ok (.if_icmp .ge 40, 3) := by decide +kernel
theorem dX11_layStiffs_12 : decode cX11_layStiffs 12 = .ok (.aload_n 0, 1) := by decide +kernel
theorem dX11_layStiffs_13 : decode cX11_layStiffs 13 = .ok (.getfield 49, 3) := by decide +kernel
theorem dX11_layStiffs_16 : decode cX11_layStiffs 16 = .ok (.iload_n 1, 1) := by decide +kernel
theorem dX11_layStiffs_17 : decode cX11_layStiffs 17 = .ok (.aload_n 0, 1) := by decide +kernel
theorem dX11_layStiffs_18 : decode cX11_layStiffs 18 = .ok (.iload_n 1, 1) := by decide +kernel
theorem dX11_layStiffs_19 : decode cX11_layStiffs 19 = .ok (.invokevirtual 346, 3) := by decide +kernel
theorem dX11_layStiffs_22 : decode cX11_layStiffs 22 = .ok (.ifCond .eq 17, 3) := by decide +kernel
theorem dX11_layStiffs_25 : decode cX11_layStiffs 25 = .ok (.aload_n 0, 1) := by decide +kernel
theorem dX11_layStiffs_26 : decode cX11_layStiffs 26 = .ok (.aload_n 0, 1) := by decide +kernel
theorem dX11_layStiffs_27 : decode cX11_layStiffs 27 = .ok (.getfield 7, 3) := by decide +kernel
theorem dX11_layStiffs_30 : decode cX11_layStiffs 30 = .ok (.iconst 3, 1) := by decide +kernel
theorem dX11_layStiffs_31 : decode cX11_layStiffs 31 = .ok (.iaload, 1) := by decide +kernel
theorem dX11_layStiffs_32 : decode cX11_layStiffs 32 = .ok (.iload_n 1, 1) := by decide +kernel
theorem dX11_layStiffs_33 : decode cX11_layStiffs 33 = .ok (.invokevirtual 349, 3) := by decide +kernel
theorem dX11_layStiffs_36 : decode cX11_layStiffs 36 = .ok (.goto 6, 3) := by decide +kernel
theorem dX11_layStiffs_39 : decode cX11_layStiffs 39 = .ok (.ldc_w 352, 3) := by decide +kernel
theorem dX11_layStiffs_42 : decode cX11_layStiffs 42 = .ok (.iastore, 1) := by decide +kernel
theorem dX11_layStiffs_43 : decode cX11_layStiffs 43 = .ok (.iinc 1 1, 3) := by decide +kernel
theorem dX11_layStiffs_46 : decode cX11_layStiffs 46 = .ok (.goto (-44), 3) := by decide +kernel
theorem dX11_layStiffs_49 : decode cX11_layStiffs 49 = .ok (.return_, 1) := by decide +kernel
theorem gX11_layStiffs_0 {d : Nat} {M : ev_Mem} {Q : Option Value → ev_Mem → Prop} (h : (Ev LM d mX11_layStiffs 2 [some (.ref 0), some (.int 0)] [] M Q)) : Ev LM d mX11_layStiffs 0 [some (.ref 0), none] [] M Q := by
  refine ev_iconst (v := 0) dX11_layStiffs_0 (by decide) ?_
  refine ev_istore_n (ls2 := [some (.ref 0), some (.int 0)]) dX11_layStiffs_1 (Nat.le_of_ble_eq_true rfl) rfl ?_
  exact h
theorem gX11_layStiffs_2 {d : Nat} {M : ev_Mem} {Q : Option Value → ev_Mem → Prop} {x1 : Int32} (h : ((((M.1 1 0) ≤ x1) → (Q none M)) ∧ ((¬ (M.1 1 0) ≤ x1) → ((wm M x1) ∧ ((okMd M) ∧ ((((mC M x1) = false) → (vp_in x1 24 ∧ (∀ M1 : ev_Mem, M1 = ev_wr M 11 x1.toNatClampNeg 1000000 → (Ev LM (d + 5) mX11_layStiffs 2 [some (.ref 0), some (.int (x1 + 1))] [] M1 Q)))) ∧ (((mC M x1) = true) → ((stOK M (M.1 1 3) x1) ∧ (∀ M2 : ev_Mem, nfr M M2 → (vp_in x1 24 ∧ (∀ M3 : ev_Mem, M3 = ev_wr M2 11 x1.toNatClampNeg (stN M (M.1 1 3) x1.toNatClampNeg) → (Ev LM (d + 5) mX11_layStiffs 2 [some (.ref 0), some (.int (x1 + 1))] [] M3 Q)))))))))))) : Ev LM (d + 5) mX11_layStiffs 2 [some (.ref 0), some (.int x1)] [] M Q := by
  refine ev_iload_n dX11_layStiffs_2 rfl ?_
  refine ev_aload_n dX11_layStiffs_3 rfl ?_
  refine ev_getA dX11_layStiffs_4 fl_WithoutEModel_7 lm_0 rfl ?_
  refine ev_iconst (v := 0) dX11_layStiffs_7 (by decide) ?_
  refine ev_iaN (j := 0) dX11_layStiffs_8 lm_1 (by decide) (by decide) ?_
  refine ev_icmp_ge (tgt := 49) dX11_layStiffs_9 (by decide) (fun c => ?_) (fun c => ?_)
  · replace h := h.1 c
    exact ev_vret dX11_layStiffs_49 rfl h
  · replace h := h.2 c
    refine ev_aload_n dX11_layStiffs_12 rfl ?_
    refine ev_getA dX11_layStiffs_13 fl_WithoutEModel_49 lm_0 rfl ?_
    refine ev_iload_n dX11_layStiffs_16 rfl ?_
    refine ev_aload_n dX11_layStiffs_17 rfl ?_
    refine ev_iload_n dX11_layStiffs_18 rfl ?_
    obtain ⟨p1, h⟩ := h
    obtain ⟨p2, h⟩ := h
    refine ev_callV [.int x1] dX11_layStiffs_19 ml_WithoutEModel_346 lm_0 rfl rfl (Nat.le_of_ble_eq_true rfl) (kX11_canBe p1 p2) ?_
    rintro zr zM ⟨q1, q2⟩
    rw [q1, q2]
    show Ev LM (d + 5) mX11_layStiffs 22 [some (.ref 0), some (.int x1)] [(.int (bi (mC M x1))), (.int x1), (.ref 11)] M Q
    refine ev_if_eq (tgt := 39) dX11_layStiffs_22 (by decide) (fun c => ?_) (fun c => ?_)
    · replace h := h.1 ((bi_0 _).mp c)
      refine ev_ldcw (v := 1000000) dX11_layStiffs_39 cw_WithoutEModel_352 ?_
      obtain ⟨c, h⟩ := h
      refine ev_iast dX11_layStiffs_42 lm_11 c ?_
      generalize eM1 : ev_wr M 11 x1.toNatClampNeg 1000000 = M1
      replace h := h M1 eM1.symm
      refine ev_iinc (v := x1 + 1) (ls2 := [some (.ref 0), some (.int (x1 + 1))]) dX11_layStiffs_43 rfl rfl rfl ?_
      refine ev_goto (tgt := 2) dX11_layStiffs_46 (by decide) ?_
      exact h
    · replace h := h.2 ((bi_n0 _).mp c)
      refine ev_aload_n dX11_layStiffs_25 rfl ?_
      refine ev_aload_n dX11_layStiffs_26 rfl ?_
      refine ev_getA dX11_layStiffs_27 fl_WithoutEModel_7 lm_0 rfl ?_
      refine ev_iconst (v := 3) dX11_layStiffs_30 (by decide) ?_
      refine ev_iaN (j := 3) dX11_layStiffs_31 lm_1 (by decide) (by decide) ?_
      refine ev_iload_n dX11_layStiffs_32 rfl ?_
      obtain ⟨p1, h⟩ := h
      refine ev_callV [.int (M.1 1 3), .int x1] dX11_layStiffs_33 ml_WithoutEModel_349 lm_0 rfl rfl (Nat.le_of_ble_eq_true rfl) (qX11_stiffOf p1) ?_
      rintro zr M2 ⟨q1, q⟩
      rw [q1]
      replace h := h M2 q
      show Ev LM (d + 5) mX11_layStiffs 36 [some (.ref 0), some (.int x1)] [(.int (stN M (M.1 1 3) x1.toNatClampNeg)), (.int x1), (.ref 11)] M2 Q
      refine ev_goto (tgt := 42) dX11_layStiffs_36 (by decide) ?_
      obtain ⟨c, h⟩ := h
      refine ev_iast dX11_layStiffs_42 lm_11 c ?_
      generalize eM3 : ev_wr M2 11 x1.toNatClampNeg (stN M (M.1 1 3) x1.toNatClampNeg) = M3
      replace h := h M3 eM3.symm
      refine ev_iinc (v := x1 + 1) (ls2 := [some (.ref 0), some (.int (x1 + 1))]) dX11_layStiffs_43 rfl rfl rfl ?_
      refine ev_goto (tgt := 2) dX11_layStiffs_46 (by decide) ?_
      exact h
theorem dX11_behind_0 : decode cX11_behind 0 = .ok (.iload_n 1, 1) := by decide +kernel
theorem dX11_behind_1 : decode cX11_behind 1 = .ok (.iload_n 2, 1) := by decide +kernel
theorem dX11_behind_2 : decode cX11_behind 2 = .ok (.if_icmp .ne 7, 3) := by decide +kernel
theorem dX11_behind_5 : decode cX11_behind 5 = .ok (.iconst 3, 1) := by decide +kernel
theorem dX11_behind_6 : decode cX11_behind 6 = .ok (.goto 28, 3) := by decide +kernel
theorem dX11_behind_9 : decode cX11_behind 9 = .ok (.aload_n 0, 1) := by decide +kernel
theorem dX11_behind_10 : decode cX11_behind 10 = .ok (.iload_n 1, 1) := by decide +kernel
theorem dX11_behind_11 : decode cX11_behind 11 = .ok (.iconst 0, 1) := by decide +kernel
theorem dX11_behind_12 : decode cX11_behind 12 = .ok (.invokevirtual 92, 3) := by decide +kernel
theorem dX11_behind_15 : decode cX11_behind 15 = .ok (.iconst 2, 1) := by decide +kernel
theorem dX11_behind_16 : decode cX11_behind 16 = .ok (.if_icmp .ne 17, 3) := by decide +kernel
theorem dX11_behind_19 : decode cX11_behind 19 = .ok (.aload_n 0, 1) := by decide +kernel
theorem dX11_behind_20 : decode cX11_behind 20 = .ok (.iload_n 2, 1) := by decide +kernel
theorem dX11_behind_21 : decode cX11_behind 21 = .ok (.iconst 0, 1) := by decide +kernel
theorem dX11_behind_22 : decode cX11_behind 22 = .ok (.invokevirtual 92, 3) := by decide +kernel
theorem dX11_behind_25 : decode cX11_behind 25 = .ok (.iconst 2, 1) := by decide +kernel
theorem dX11_behind_26 : decode cX11_behind 26 = .ok (.if_icmp .ne 7, 3) := by decide +kernel
theorem dX11_behind_29 : decode cX11_behind 29 = .ok (.iconst 1, 1) := by decide +kernel
theorem dX11_behind_30 : decode cX11_behind 30 = .ok (.goto 4, 3) := by decide +kernel
theorem dX11_behind_33 : decode cX11_behind 33 = .ok (.iconst 0, 1) := by decide +kernel
theorem dX11_behind_34 : decode cX11_behind 34 = .ok (.ireturn, 1) := by decide +kernel
theorem gX11_behind_0 {d : Nat} {M : ev_Mem} {Q : Option Value → ev_Mem → Prop} {x1 x2 : Int32} (h : (((¬ x1 = x2) → ((vp_in (39 + 13 * x1 + (0 : Int32)) 3315) ∧ (((¬ (M.1 1 (39 + 13 * x1 + (0 : Int32)).toNatClampNeg) = 2) → (Q (some (.int 0)) M)) ∧ (((M.1 1 (39 + 13 * x1 + (0 : Int32)).toNatClampNeg) = 2) → ((vp_in (39 + 13 * x2 + (0 : Int32)) 3315) ∧ (((¬ (M.1 1 (39 + 13 * x2 + (0 : Int32)).toNatClampNeg) = 2) → (Q (some (.int 0)) M)) ∧ (((M.1 1 (39 + 13 * x2 + (0 : Int32)).toNatClampNeg) = 2) → (Q (some (.int 1)) M)))))))) ∧ ((x1 = x2) → (Q (some (.int 3)) M)))) : Ev LM (d + 1) mX11_behind 0 [some (.ref 0), some (.int x1), some (.int x2)] [] M Q := by
  refine ev_iload_n dX11_behind_0 rfl ?_
  refine ev_iload_n dX11_behind_1 rfl ?_
  refine ev_icmp_ne (tgt := 9) dX11_behind_2 (by decide) (fun c => ?_) (fun c => ?_)
  · replace h := h.1 c
    refine ev_aload_n dX11_behind_9 rfl ?_
    refine ev_iload_n dX11_behind_10 rfl ?_
    refine ev_iconst (v := 0) dX11_behind_11 (by decide) ?_
    obtain ⟨p1, h⟩ := h
    refine ev_callV [.int x1, .int 0] dX11_behind_12 ml_WithoutEModel_92 lm_0 rfl rfl (Nat.le_of_ble_eq_true rfl) (kX11_get p1) ?_
    rintro zr zM ⟨q1, q2⟩
    rw [q1, q2]
    show Ev LM (d + 1) mX11_behind 15 [some (.ref 0), some (.int x1), some (.int x2)] [(.int (M.1 1 (39 + 13 * x1 + (0 : Int32)).toNatClampNeg))] M Q
    refine ev_iconst (v := 2) dX11_behind_15 (by decide) ?_
    refine ev_icmp_ne (tgt := 33) dX11_behind_16 (by decide) (fun c => ?_) (fun c => ?_)
    · replace h := h.1 c
      refine ev_iconst (v := 0) dX11_behind_33 (by decide) ?_
      exact ev_iret dX11_behind_34 rfl h
    · replace h := h.2 c
      refine ev_aload_n dX11_behind_19 rfl ?_
      refine ev_iload_n dX11_behind_20 rfl ?_
      refine ev_iconst (v := 0) dX11_behind_21 (by decide) ?_
      obtain ⟨p1, h⟩ := h
      refine ev_callV [.int x2, .int 0] dX11_behind_22 ml_WithoutEModel_92 lm_0 rfl rfl (Nat.le_of_ble_eq_true rfl) (kX11_get p1) ?_
      rintro zr zM ⟨q1, q2⟩
      rw [q1, q2]
      show Ev LM (d + 1) mX11_behind 25 [some (.ref 0), some (.int x1), some (.int x2)] [(.int (M.1 1 (39 + 13 * x2 + (0 : Int32)).toNatClampNeg))] M Q
      refine ev_iconst (v := 2) dX11_behind_25 (by decide) ?_
      refine ev_icmp_ne (tgt := 33) dX11_behind_26 (by decide) (fun c => ?_) (fun c => ?_)
      · replace h := h.1 c
        refine ev_iconst (v := 0) dX11_behind_33 (by decide) ?_
        exact ev_iret dX11_behind_34 rfl h
      · replace h := h.2 c
        refine ev_iconst (v := 1) dX11_behind_29 (by decide) ?_
        refine ev_goto (tgt := 34) dX11_behind_30 (by decide) ?_
        exact ev_iret dX11_behind_34 rfl h
  · replace h := h.2 c
    refine ev_iconst (v := 3) dX11_behind_5 (by decide) ?_
    refine ev_goto (tgt := 34) dX11_behind_6 (by decide) ?_
    exact ev_iret dX11_behind_34 rfl h
theorem dX11_isAt_0 : decode cX11_isAt 0 = .ok (.aload_n 0, 1) := by decide +kernel
theorem dX11_isAt_1 : decode cX11_isAt 1 = .ok (.iload_n 3, 1) := by decide +kernel
theorem dX11_isAt_2 : decode cX11_isAt 2 = .ok (.iconst 1, 1) := by decide +kernel
theorem dX11_isAt_3 : decode cX11_isAt 3 = .ok (.invokevirtual 92, 3) := by decide +kernel
theorem dX11_isAt_6 : decode cX11_isAt 6 = .ok (.aload_n 0, 1) := by decide +kernel
theorem dX11_isAt_7 : decode cX11_isAt 7 = .ok (.getfield 7, 3) := by decide +kernel
theorem dX11_isAt_10 : decode cX11_isAt 10 = .ok (.sipush 351, 3) := by decide +kernel
theorem dX11_isAt_13 : decode cX11_isAt 13 = .ok (.bipush 6, 2) := by decide +kernel
theorem dX11_isAt_15 : decode cX11_isAt 15 = .ok (.iload_n 1, 1) := by decide +kernel
theorem dX11_isAt_16 : decode cX11_isAt 16 = .ok (.imul, 1) := by decide +kernel
theorem dX11_isAt_17 : decode cX11_isAt 17 = .ok (.iadd, 1) := by decide +kernel
theorem dX11_isAt_18 : decode cX11_isAt 18 = .ok (.iconst 1, 1) := by decide +kernel
theorem dX11_isAt_19 : decode cX11_isAt 19 = .ok (.iadd, 1) := by decide +kernel
theorem dX11_isAt_20 : decode cX11_isAt 20 = .ok (.iload_n 2, 1) := by decide +kernel
theorem dX11_isAt_21 : decode cX11_isAt 21 = .ok (.iadd, 1) := by decide +kernel
theorem dX11_isAt_22 : decode cX11_isAt 22 = .ok (.iaload, 1) := by decide +kernel
theorem dX11_isAt_23 : decode cX11_isAt 23 = .ok (.if_icmp .ne 19, 3) := by decide +kernel
theorem dX11_isAt_26 : decode cX11_isAt 26 = .ok (.aload_n 0, 1) := by decide +kernel
theorem dX11_isAt_27 : decode cX11_isAt 27 = .ok (.getfield 49, 3) := by decide +kernel
theorem dX11_isAt_30 : decode cX11_isAt 30 = .ok (.iload_n 3, 1) := by decide +kernel
theorem dX11_isAt_31 : decode cX11_isAt 31 = .ok (.iaload, 1) := by decide +kernel
theorem dX11_isAt_32 : decode cX11_isAt 32 = .ok (.ldc_w 352, 3) := by decide +kernel
theorem dX11_isAt_35 : decode cX11_isAt 35 = .ok (.if_icmp .ge 7, 3) := by decide +kernel
theorem dX11_isAt_38 : decode cX11_isAt 38 = .ok (.iconst 1, 1) := by decide +kernel
theorem dX11_isAt_39 : decode cX11_isAt 39 = .ok (.goto 4, 3) := by decide +kernel
theorem dX11_isAt_42 : decode cX11_isAt 42 = .ok (.iconst 0, 1) := by decide +kernel
theorem dX11_isAt_43 : decode cX11_isAt 43 = .ok (.ireturn, 1) := by decide +kernel
theorem gX11_isAt_0 {d : Nat} {M : ev_Mem} {Q : Option Value → ev_Mem → Prop} {x1 x2 x3 : Int32} (h : ((vp_in (39 + 13 * x3 + (1 : Int32)) 3315) ∧ (vp_in (((351 + (6 * x1)) + 1) + x2) 3315 ∧ (((¬ (M.1 1 (39 + 13 * x3 + (1 : Int32)).toNatClampNeg) = (M.1 1 (((351 + (6 * x1)) + 1) + x2).toNatClampNeg)) → (Q (some (.int 0)) M)) ∧ (((M.1 1 (39 + 13 * x3 + (1 : Int32)).toNatClampNeg) = (M.1 1 (((351 + (6 * x1)) + 1) + x2).toNatClampNeg)) → (vp_in x3 24 ∧ (((1000000 ≤ (M.1 11 x3.toNatClampNeg)) → (Q (some (.int 0)) M)) ∧ ((¬ 1000000 ≤ (M.1 11 x3.toNatClampNeg)) → (Q (some (.int 1)) M))))))))) : Ev LM (d + 1) mX11_isAt 0 [some (.ref 0), some (.int x1), some (.int x2), some (.int x3)] [] M Q := by
  refine ev_aload_n dX11_isAt_0 rfl ?_
  refine ev_iload_n dX11_isAt_1 rfl ?_
  refine ev_iconst (v := 1) dX11_isAt_2 (by decide) ?_
  obtain ⟨p1, h⟩ := h
  refine ev_callV [.int x3, .int 1] dX11_isAt_3 ml_WithoutEModel_92 lm_0 rfl rfl (Nat.le_of_ble_eq_true rfl) (kX11_get p1) ?_
  rintro zr zM ⟨q1, q2⟩
  rw [q1, q2]
  show Ev LM (d + 1) mX11_isAt 6 [some (.ref 0), some (.int x1), some (.int x2), some (.int x3)] [(.int (M.1 1 (39 + 13 * x3 + (1 : Int32)).toNatClampNeg))] M Q
  refine ev_aload_n dX11_isAt_6 rfl ?_
  refine ev_getA dX11_isAt_7 fl_WithoutEModel_7 lm_0 rfl ?_
  refine ev_sipush (v := 351) dX11_isAt_10 (by decide) ?_
  refine ev_bipush (v := 6) dX11_isAt_13 (by decide) ?_
  refine ev_iload_n dX11_isAt_15 rfl ?_
  refine ev_imul dX11_isAt_16 ?_
  refine ev_iadd dX11_isAt_17 ?_
  refine ev_iconst (v := 1) dX11_isAt_18 (by decide) ?_
  refine ev_iadd dX11_isAt_19 ?_
  refine ev_iload_n dX11_isAt_20 rfl ?_
  refine ev_iadd dX11_isAt_21 ?_
  obtain ⟨c, h⟩ := h
  refine ev_iald dX11_isAt_22 lm_1 c ?_
  refine ev_icmp_ne (tgt := 42) dX11_isAt_23 (by decide) (fun c => ?_) (fun c => ?_)
  · replace h := h.1 c
    refine ev_iconst (v := 0) dX11_isAt_42 (by decide) ?_
    exact ev_zret dX11_isAt_43 rfl (by decide) h
  · replace h := h.2 c
    refine ev_aload_n dX11_isAt_26 rfl ?_
    refine ev_getA dX11_isAt_27 fl_WithoutEModel_49 lm_0 rfl ?_
    refine ev_iload_n dX11_isAt_30 rfl ?_
    obtain ⟨c, h⟩ := h
    refine ev_iald dX11_isAt_31 lm_11 c ?_
    refine ev_ldcw (v := 1000000) dX11_isAt_32 cw_WithoutEModel_352 ?_
    refine ev_icmp_ge (tgt := 42) dX11_isAt_35 (by decide) (fun c => ?_) (fun c => ?_)
    · replace h := h.1 c
      refine ev_iconst (v := 0) dX11_isAt_42 (by decide) ?_
      exact ev_zret dX11_isAt_43 rfl (by decide) h
    · replace h := h.2 c
      refine ev_iconst (v := 1) dX11_isAt_38 (by decide) ?_
      refine ev_goto (tgt := 43) dX11_isAt_39 (by decide) ?_
      exact ev_zret dX11_isAt_43 rfl (by decide) h
