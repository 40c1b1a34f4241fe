theorem dX11_isMadeOfLeft_0 : decode cX11_isMadeOfLeft 0 = .ok (.aload_n 0, 1) := by decide +kernel
theorem dX11_isMadeOfLeft_1 : decode cX11_isMadeOfLeft 1 = .ok (.getfield 7, 3) := by decide +kernel
theorem dX11_isMadeOfLeft_4 : decode cX11_isMadeOfLeft 4 = .ok (.sipush 399, 3) := by decide +kernel
theorem dX11_isMadeOfLeft_7 : decode cX11_isMadeOfLeft 7 = .ok (.iconst 2, 1) := by decide +kernel
theorem dX11_isMadeOfLeft_8 : decode cX11_isMadeOfLeft 8 = .ok (.iload_n 1, 1) := by decide +kernel
theorem dX11_isMadeOfLeft_9 : decode cX11_isMadeOfLeft 9 = .ok (.imul, 1) := by decide +kernel
theorem dX11_isMadeOfLeft_10 : decode cX11_isMadeOfLeft 10 = .ok (.iadd, 1) := by decide +kernel
theorem dX11_isMadeOfLeft_11 : decode cX11_isMadeOfLeft 11 = .ok (.iaload, 1) := by decide +kernel
theorem dX11_isMadeOfLeft_12 : decode cX11_isMadeOfLeft 12 = .ok (.iconst (-1), 1) := by decide +kernel
theorem dX11_isMadeOfLeft_13 : decode cX11_isMadeOfLeft 13 = .ok (.if_icmp .eq 26, 3) := by decide +kernel
theorem dX11_isMadeOfLeft_16 : decode cX11_isMadeOfLeft 16 = .ok (.aload_n 0, 1) := by decide +kernel
theorem dX11_isMadeOfLeft_17 : decode cX11_isMadeOfLeft 17 = .ok (.aload_n 0, 1) := by decide +kernel
theorem dX11_isMadeOfLeft_18 : decode cX11_isMadeOfLeft 18 = .ok (.getfield 7, 3) := by decide +kernel
theorem dX11_isMadeOfLeft_21 : decode cX11_isMadeOfLeft 21 = .ok (.sipush 399, 3) := by decide +kernel
theorem dX11_isMadeOfLeft_24 : decode cX11_isMadeOfLeft 24 = .ok (.iconst 2, 1) := by decide +kernel
theorem dX11_isMadeOfLeft_25 : decode cX11_isMadeOfLeft 25 = .ok (.iload_n 1, 1) := by decide +kernel
theorem dX11_isMadeOfLeft_26 : decode cX11_isMadeOfLeft 26 = .ok (.imul, 1) := by decide +kernel
theorem dX11_isMadeOfLeft_27 : decode cX11_isMadeOfLeft 27 = .ok (.iadd, 1) := by decide +kernel
theorem dX11_isMadeOfLeft_28 : decode cX11_isMadeOfLeft 28 = .ok (.iaload, 1) := by decide +kernel
theorem dX11_isMadeOfLeft_29 : decode cX11_isMadeOfLeft 29 = .ok (.invokevirtual 88, 3) := by decide +kernel
theorem dX11_isMadeOfLeft_32 : decode cX11_isMadeOfLeft 32 = .ok (.ifCond .ne 7, 3) := by decide +kernel
theorem dX11_isMadeOfLeft_35 : decode cX11_isMadeOfLeft 35 = .ok (.iconst 1, 1) := by decide +kernel
theorem dX11_isMadeOfLeft_36 : decode cX11_isMadeOfLeft 36 = .ok (.goto 4, 3) := by decide +kernel
theorem dX11_isMadeOfLeft_39 : decode cX11_isMadeOfLeft 39 = .ok (.iconst 0, 1) := by decide +kernel
theorem dX11_isMadeOfLeft_40 : decode cX11_isMadeOfLeft 40 = .ok (.ireturn, 1) := by decide +kernel
theorem gX11_isMadeOfLeft_0 {d : Nat} {M : ev_Mem} {Q : Option Value → ev_Mem → Prop} {x1 : Int32} (h : (vp_in (399 + (2 * x1)) 3315 ∧ ((((M.1 1 (399 + (2 * x1)).toNatClampNeg) = (-1)) → (Q (some (.int 0)) M)) ∧ ((¬ (M.1 1 (399 + (2 * x1)).toNatClampNeg) = (-1)) → (vp_in (399 + (2 * x1)) 3315 ∧ ((((hs (M.1 1 9) (M.1 1 (399 + (2 * x1)).toNatClampNeg)) = true) → (Q (some (.int 0)) M)) ∧ (((hs (M.1 1 9) (M.1 1 (399 + (2 * x1)).toNatClampNeg)) = false) → (Q (some (.int 1)) M)))))))) : Ev LM (d + 2) mX11_isMadeOfLeft 0 [some (.ref 0), some (.int x1)] [] M Q := by
  refine ev_aload_n dX11_isMadeOfLeft_0 rfl ?_
  refine ev_getA dX11_isMadeOfLeft_1 fl_WithoutEModel_7 lm_0 rfl ?_
  refine ev_sipush (v := 399) dX11_isMadeOfLeft_4 (by decide) ?_
  refine ev_iconst (v := 2) dX11_isMadeOfLeft_7 (by decide) ?_
  refine ev_iload_n dX11_isMadeOfLeft_8 rfl ?_
  refine ev_imul dX11_isMadeOfLeft_9 ?_
  refine ev_iadd dX11_isMadeOfLeft_10 ?_
  obtain ⟨c, h⟩ := h
  refine ev_iald dX11_isMadeOfLeft_11 lm_1 c ?_
  refine ev_iconst (v := -1) dX11_isMadeOfLeft_12 (by decide) ?_
  refine ev_icmp_eq (tgt := 39) dX11_isMadeOfLeft_13 (by decide) (fun c => ?_) (fun c => ?_)
  · replace h := h.1 c
    refine ev_iconst (v := 0) dX11_isMadeOfLeft_39 (by decide) ?_
    exact ev_zret dX11_isMadeOfLeft_40 rfl (by decide) h
  · replace h := h.2 c
    refine ev_aload_n dX11_isMadeOfLeft_16 rfl ?_
    refine ev_aload_n dX11_isMadeOfLeft_17 rfl ?_
    refine ev_getA dX11_isMadeOfLeft_18 fl_WithoutEModel_7 lm_0 rfl ?_
    refine ev_sipush (v := 399) dX11_isMadeOfLeft_21 (by decide) ?_
    refine ev_iconst (v := 2) dX11_isMadeOfLeft_24 (by decide) ?_
    refine ev_iload_n dX11_isMadeOfLeft_25 rfl ?_
    refine ev_imul dX11_isMadeOfLeft_26 ?_
    refine ev_iadd dX11_isMadeOfLeft_27 ?_
    obtain ⟨c, h⟩ := h
    refine ev_iald dX11_isMadeOfLeft_28 lm_1 c ?_
    refine ev_callV [.int (M.1 1 (399 + (2 * x1)).toNatClampNeg)] dX11_isMadeOfLeft_29 ml_WithoutEModel_88 lm_0 rfl rfl (Nat.le_of_ble_eq_true rfl) (kX11_isLost) ?_
    rintro r9 M9 ⟨q1, q2⟩
    rw [q1, q2]
    show Ev LM (d + 2) mX11_isMadeOfLeft 32 [some (.ref 0), some (.int x1)] [(.int (bi (hs (M.1 1 9) (M.1 1 (399 + (2 * x1)).toNatClampNeg))))] M Q
    refine ev_if_ne (tgt := 39) dX11_isMadeOfLeft_32 (by decide) (fun c => ?_) (fun c => ?_)
    · replace h := h.1 ((bi_n0 _).mp c)
      refine ev_iconst (v := 0) dX11_isMadeOfLeft_39 (by decide) ?_
      exact ev_zret dX11_isMadeOfLeft_40 rfl (by decide) h
    · replace h := h.2 ((bi_0 _).mp c)
      refine ev_iconst (v := 1) dX11_isMadeOfLeft_35 (by decide) ?_
      refine ev_goto (tgt := 40) dX11_isMadeOfLeft_36 (by decide) ?_
      exact ev_zret dX11_isMadeOfLeft_40 rfl (by decide) h
theorem dX11_holesOf_0 : decode cX11_holesOf 0 = .ok (.iconst 0, 1) := by decide +kernel
theorem dX11_holesOf_1 : decode cX11_holesOf 1 = .ok (.istore_n 2, 1) := by decide +kernel
theorem dX11_holesOf_2 : decode cX11_holesOf 2 = .ok (.iconst 0, 1) := by decide +kernel
theorem dX11_holesOf_3 : decode cX11_holesOf 3 = .ok (.istore_n 3, 1) := by decide +kernel
theorem dX11_holesOf_4 : decode cX11_holesOf 4 = .ok (.iload_n 3, 1) := by decide +kernel
theorem dX11_holesOf_5 : decode cX11_holesOf 5 = .ok (.aload_n 0, 1) := by decide +kernel
theorem dX11_holesOf_6 : decode cX11_holesOf 6 = .ok (.iload_n 1, 1) := by decide +kernel
theorem dX11_holesOf_7 : decode cX11_holesOf 7 = .ok (.iconst 3, 1) := by decide +kernel
theorem dX11_holesOf_8 : decode cX11_holesOf 8 = .ok (.invokevirtual 92, 3) := by decide +kernel
theorem dX11_holesOf_11 : decode cX11_holesOf 11 = .ok (.if_icmp .ge 32, 3) := by decide +kernel
theorem dX11_holesOf_14 : decode cX11_holesOf 14 = .ok (.iload_n 2, 1) := by decide +kernel
theorem dX11_holesOf_15 : decode cX11_holesOf 15 = .ok (.aload_n 0, 1) := by decide +kernel
theorem dX11_holesOf_16 : decode cX11_holesOf 16 = .ok (.aload_n 0, 1) := by decide +kernel
theorem dX11_holesOf_17 : decode cX11_holesOf 17 = .ok (.iload_n 1, 1) := by decide +kernel
theorem dX11_holesOf_18 : decode cX11_holesOf 18 = .ok (.iconst 4, 1) := by decide +kernel
theorem dX11_holesOf_19 : decode cX11_holesOf 19 = .ok (.iload_n 3, 1) := by decide +kernel
theorem dX11_holesOf_20 : decode cX11_holesOf 20 = .ok (.iadd, 1) := by decide +kernel
theorem dX11_holesOf_21 : decode cX11_holesOf 21 = .ok (.invokevirtual 92, 3) := by decide +kernel
theorem dX11_holesOf_24 : decode cX11_holesOf 24 = .ok (.invokevirtual 88, 3) := by decide +kernel
theorem dX11_holesOf_27 : decode cX11_holesOf 27 = .ok (.ifCond .eq 7, 3) := by decide +kernel
theorem dX11_holesOf_30 : decode cX11_holesOf 30 = .ok (.iconst 1, 1) := by decide +kernel
theorem dX11_holesOf_31 : decode cX11_holesOf 31 = .ok (.goto 4, 3) := by decide +kernel
theorem dX11_holesOf_34 : decode cX11_holesOf 34 = .ok (.iconst 0, 1) := by decide +kernel
theorem dX11_holesOf_35 : decode cX11_holesOf 35 = .ok (.iadd, 1) := by decide +kernel
theorem dX11_holesOf_36 : decode cX11_holesOf 36 = .ok (.istore_n 2, 1) := by decide +kernel
theorem dX11_holesOf_37 : decode cX11_holesOf 37 = .ok (.iinc 3 1, 3) := by decide +kernel
theorem dX11_holesOf_40 : decode cX11_holesOf 40 = .ok (.goto (-36), 3) := by decide +kernel
theorem dX11_holesOf_43 : decode cX11_holesOf 43 = .ok (.iload_n 2, 1) := by decide +kernel
theorem dX11_holesOf_44 : decode cX11_holesOf 44 = .ok (.ireturn, 1) := by decide +kernel
theorem gX11_holesOf_0 {d : Nat} {M : ev_Mem} {Q : Option Value → ev_Mem → Prop} {x1 : Int32} (h : (Ev LM d mX11_holesOf 4 [some (.ref 0), some (.int x1), some (.int 0), some (.int 0)] [] M Q)) : Ev LM d mX11_holesOf 0 [some (.ref 0), some (.int x1), none, none] [] M Q := by
  refine ev_iconst (v := 0) dX11_holesOf_0 (by decide) ?_
  refine ev_istore_n (ls2 := [some (.ref 0), some (.int x1), some (.int 0), none]) dX11_holesOf_1 (Nat.le_of_ble_eq_true rfl) rfl ?_
  refine ev_iconst (v := 0) dX11_holesOf_2 (by decide) ?_
  refine ev_istore_n (ls2 := [some (.ref 0), some (.int x1), some (.int 0), some (.int 0)]) dX11_holesOf_3 (Nat.le_of_ble_eq_true rfl) rfl ?_
  exact h
theorem gX11_holesOf_4 {d : Nat} {M : ev_Mem} {Q : Option Value → ev_Mem → Prop} {x1 x2 x3 : Int32} (h : ((vp_in (39 + 13 * x1 + (3 : Int32)) 3315) ∧ ((((M.1 1 (39 + 13 * x1 + (3 : Int32)).toNatClampNeg) ≤ x3) → (Q (some (.int x2)) M)) ∧ ((¬ (M.1 1 (39 + 13 * x1 + (3 : Int32)).toNatClampNeg) ≤ x3) → ((vp_in (39 + 13 * x1 + (4 + x3)) 3315) ∧ ((((hs (M.1 1 9) (M.1 1 (39 + 13 * x1 + (4 + x3)).toNatClampNeg)) = false) → (Ev LM (d + 2) mX11_holesOf 4 [some (.ref 0), some (.int x1), some (.int (x2 + 0)), some (.int (x3 + 1))] [] M Q)) ∧ (((hs (M.1 1 9) (M.1 1 (39 + 13 * x1 + (4 + x3)).toNatClampNeg)) = true) → (Ev LM (d + 2) mX11_holesOf 4 [some (.ref 0), some (.int x1), some (.int (x2 + 1)), some (.int (x3 + 1))] [] M Q)))))))) : Ev LM (d + 2) mX11_holesOf 4 [some (.ref 0), some (.int x1), some (.int x2), some (.int x3)] [] M Q := by
  refine ev_iload_n dX11_holesOf_4 rfl ?_
  refine ev_aload_n dX11_holesOf_5 rfl ?_
  refine ev_iload_n dX11_holesOf_6 rfl ?_
  refine ev_iconst (v := 3) dX11_holesOf_7 (by decide) ?_
  obtain ⟨p1, h⟩ := h
  refine ev_callV [.int x1, .int 3] dX11_holesOf_8 ml_WithoutEModel_92 lm_0 rfl rfl (Nat.le_of_ble_eq_true rfl) (kX11_get p1) ?_
  rintro r9 M9 ⟨q1, q2⟩
  rw [q1, q2]
  show Ev LM (d + 2) mX11_holesOf 11 [some (.ref 0), some (.int x1), some (.int x2), some (.int x3)] [(.int (M.1 1 (39 + 13 * x1 + (3 : Int32)).toNatClampNeg)), (.int x3)] M Q
  refine ev_icmp_ge (tgt := 43) dX11_holesOf_11 (by decide) (fun c => ?_) (fun c => ?_)
  · replace h := h.1 c
    refine ev_iload_n dX11_holesOf_43 rfl ?_
    exact ev_iret dX11_holesOf_44 rfl h
  · replace h := h.2 c
    refine ev_iload_n dX11_holesOf_14 rfl ?_
    refine ev_aload_n dX11_holesOf_15 rfl ?_
    refine ev_aload_n dX11_holesOf_16 rfl ?_
    refine ev_iload_n dX11_holesOf_17 rfl ?_
    refine ev_iconst (v := 4) dX11_holesOf_18 (by decide) ?_
    refine ev_iload_n dX11_holesOf_19 rfl ?_
    refine ev_iadd dX11_holesOf_20 ?_
    obtain ⟨p1, h⟩ := h
    refine ev_callV [.int x1, .int (4 + x3)] dX11_holesOf_21 ml_WithoutEModel_92 lm_0 rfl rfl (Nat.le_of_ble_eq_true rfl) (kX11_get p1) ?_
    rintro r9 M9 ⟨q1, q2⟩
    rw [q1, q2]
    show Ev LM (d + 2) mX11_holesOf 24 [some (.ref 0), some (.int x1), some (.int x2), some (.int x3)] [(.int (M.1 1 (39 + 13 * x1 + (4 + x3)).toNatClampNeg)), (.ref 0), (.int x2)] M Q
    refine ev_callV [.int (M.1 1 (39 + 13 * x1 + (4 + x3)).toNatClampNeg)] dX11_holesOf_24 ml_WithoutEModel_88 lm_0 rfl rfl (Nat.le_of_ble_eq_true rfl) (kX11_isLost) ?_
    rintro r9 M9 ⟨q1, q2⟩
    rw [q1, q2]
    show Ev LM (d + 2) mX11_holesOf 27 [some (.ref 0), some (.int x1), some (.int x2), some (.int x3)] [(.int (bi (hs (M.1 1 9) (M.1 1 (39 + 13 * x1 + (4 + x3)).toNatClampNeg)))), (.int x2)] M Q
    refine ev_if_eq (tgt := 34) dX11_holesOf_27 (by decide) (fun c => ?_) (fun c => ?_)
    · replace h := h.1 ((bi_0 _).mp c)
      refine ev_iconst (v := 0) dX11_holesOf_34 (by decide) ?_
      refine ev_iadd dX11_holesOf_35 ?_
      refine ev_istore_n (ls2 := [some (.ref 0), some (.int x1), some (.int (x2 + 0)), some (.int x3)]) dX11_holesOf_36 (Nat.le_of_ble_eq_true rfl) rfl ?_
      refine ev_iinc (v := x3 + 1) (ls2 := [some (.ref 0), some (.int x1), some (.int (x2 + 0)), some (.int (x3 + 1))]) dX11_holesOf_37 rfl rfl rfl ?_
      refine ev_goto (tgt := 4) dX11_holesOf_40 (by decide) ?_
      exact h
    · replace h := h.2 ((bi_n0 _).mp c)
      refine ev_iconst (v := 1) dX11_holesOf_30 (by decide) ?_
      refine ev_goto (tgt := 35) dX11_holesOf_31 (by decide) ?_
      refine ev_iadd dX11_holesOf_35 ?_
      refine ev_istore_n (ls2 := [some (.ref 0), some (.int x1), some (.int (x2 + 1)), some (.int x3)]) dX11_holesOf_36 (Nat.le_of_ble_eq_true rfl) rfl ?_
      refine ev_iinc (v := x3 + 1) (ls2 := [some (.ref 0), some (.int x1), some (.int (x2 + 1)), some (.int (x3 + 1))]) dX11_holesOf_37 rfl rfl rfl ?_
      refine ev_goto (tgt := 4) dX11_holesOf_40 (by decide) ?_
      exact h
