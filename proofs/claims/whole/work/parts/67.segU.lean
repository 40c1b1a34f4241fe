theorem dX10_least_0 : decode cX10_least 0 = .ok (.iload_n 2, 1) := by decide +kernel
theorem dX10_least_1 : decode cX10_least 1 = .ok (.ifCond .lt 16, 3) := by decide +kernel
theorem dX10_least_4 : decode cX10_least 4 = .ok (.iload_n 2, 1) := by decide +kernel
theorem dX10_least_5 : decode cX10_least 5 = .ok (.iconst 2, 1) := by decide +kernel
theorem dX10_least_6 : decode cX10_least 6 = .ok (.if_icmp .gt 11, 3) := by decide +kernel
theorem dX10_least_9 : decode cX10_least 9 = .ok (.aload_n 0, 1) := by decide +kernel
theorem dX10_least_10 : decode cX10_least 10 = .ok (.iload_n 1, 1) := by decide +kernel
theorem dX10_least_11 : decode cX10_least 11 = .ok (.invokevirtual 318, 3) := by decide +kernel
theorem dX10_least_14 : decode cX10_least 14 = .ok (.ifCond .ne 5, 3) := by decide +kernel
theorem dX10_least_17 : decode cX10_least 17 = .ok (.iconst (-1), 1) := by decide +kernel
theorem dX10_least_18 : decode cX10_least 18 = .ok (.ireturn, 1) := by decide +kernel
theorem dX10_least_19 : decode cX10_least 19 = .ok (.iload_n 2, 1) := by decide +kernel
theorem dX10_least_20 : decode cX10_least 20 = .ok (.ifCond .ne 11, 3) := by decide +kernel
theorem dX10_least_23 : decode cX10_least 23 = .ok (.aload_n 0, 1) := by decide +kernel
theorem dX10_least_24 : decode cX10_least 24 = .ok (.getfield 98, 3) := by decide +kernel
theorem dX10_least_27 : decode cX10_least 27 = .ok (.getfield 245, 3) := by decide +kernel
theorem dX10_least_30 : decode cX10_least 30 = .ok (.ireturn, 1) := by decide +kernel
theorem dX10_least_31 : decode cX10_least 31 = .ok (.iload_n 2, 1) := by decide +kernel
theorem dX10_least_32 : decode cX10_least 32 = .ok (.iconst 1, 1) := by decide +kernel
theorem dX10_least_33 : decode cX10_least 33 = .ok (.if_icmp .ne 13, 3) := by decide +kernel
theorem dX10_least_36 : decode cX10_least 36 = .ok (.aload_n 0, 1) := by decide +kernel
theorem dX10_least_37 : decode cX10_least 37 = .ok (.getfield 98, 3) := by decide +kernel
theorem dX10_least_40 : decode cX10_least 40 = .ok (.getfield 278, 3) := by decide +kernel
theorem dX10_least_43 : decode cX10_least 43 = .ok (.goto 10, 3) := by decide +kernel
theorem dX10_least_46 : decode cX10_least 46 = .ok (.aload_n 0, 1) := by decide +kernel
theorem dX10_least_47 : decode cX10_least 47 = .ok (.getfield 98, 3) := by decide +kernel
theorem dX10_least_50 : decode cX10_least 50 = .ok (.getfield 321, 3) := by decide +kernel
theorem dX10_least_53 : decode cX10_least 53 = .ok (.ireturn, 1) := by decide +kernel
theorem gX10_least_0 {d : Nat} {M : ev_Mem} {Q : Option Value → ev_Mem → Prop} {x1 x2 : Int32} (h : (((x2 < 0) → (Q (some (.int (-1))) M)) ∧ ((¬ x2 < 0) → (((2 < x2) → (Q (some (.int (-1))) M)) ∧ ((¬ 2 < x2) → (∃ Q2 : Option Value → ev_Mem → Prop, Cl LX d mX10_speakNow [.ref 0, .int x1] M Q2 ∧ ∀ (zr : Option Value) (zM : ev_Mem), Q2 zr zM → Ev LX (d + 1) mX10_least 14 [some (.ref 0), none, some (.int x2)] (zr.toList ++ []) zM Q)))))) : Ev LX (d + 1) mX10_least 0 [some (.ref 0), some (.int x1), some (.int x2)] [] M Q := by
  refine ev_iload_n dX10_least_0 rfl ?_
  refine ev_if_lt (tgt := 17) dX10_least_1 (by decide) (fun c => ?_) (fun c => ?_)
  · replace h := h.1 c
    refine ev_iconst (v := -1) dX10_least_17 (by decide) ?_
    exact ev_iret dX10_least_18 rfl h
  · replace h := h.2 c
    refine ev_iload_n dX10_least_4 rfl ?_
    refine ev_iconst (v := 2) dX10_least_5 (by decide) ?_
    refine ev_icmp_gt (tgt := 17) dX10_least_6 (by decide) (fun c => ?_) (fun c => ?_)
    · replace h := h.1 c
      refine ev_iconst (v := -1) dX10_least_17 (by decide) ?_
      exact ev_iret dX10_least_18 rfl h
    · replace h := h.2 c
      refine ev_aload_n dX10_least_9 rfl ?_
      refine ev_iload_n dX10_least_10 rfl ?_
      obtain ⟨Q2, hc, h⟩ := h
      refine ev_callV [.int x1] dX10_least_11 ml_WithoutE_318 lx_0 rfl rfl (Nat.le_of_ble_eq_true rfl) hc (fun zr zM q => ?_)
      refine Ev.weak (ls := [some (.ref 0), none, some (.int x2)]) ⟨rfl, rfl, trivial⟩ ?_
      exact h zr zM q
theorem gX10_least_14 {d : Nat} {M : ev_Mem} {Q : Option Value → ev_Mem → Prop} {x2 s0 : Int32} (h : (((¬ s0 = 0) → (((¬ x2 = 0) → (((¬ x2 = 1) → (Q (some (.int (M.1 86 16))) M)) ∧ ((x2 = 1) → (Q (some (.int (M.1 86 15))) M)))) ∧ ((x2 = 0) → (Q (some (.int (M.1 86 14))) M)))) ∧ ((s0 = 0) → (Q (some (.int (-1))) M)))) : Ev LX d mX10_least 14 [some (.ref 0), none, some (.int x2)] [(.int s0)] M Q := by
  refine ev_if_ne (tgt := 19) dX10_least_14 (by decide) (fun c => ?_) (fun c => ?_)
  · replace h := h.1 c
    refine ev_iload_n dX10_least_19 rfl ?_
    refine ev_if_ne (tgt := 31) dX10_least_20 (by decide) (fun c => ?_) (fun c => ?_)
    · replace h := h.1 c
      refine ev_iload_n dX10_least_31 rfl ?_
      refine ev_iconst (v := 1) dX10_least_32 (by decide) ?_
      refine ev_icmp_ne (tgt := 46) dX10_least_33 (by decide) (fun c => ?_) (fun c => ?_)
      · replace h := h.1 c
        refine ev_aload_n dX10_least_46 rfl ?_
        refine ev_getA dX10_least_47 fl_WithoutE_98 lx_0 rfl ?_
        refine ev_getI dX10_least_50 fl_WithoutE_321 lx_86 rfl ?_
        exact ev_iret dX10_least_53 rfl h
      · replace h := h.2 c
        refine ev_aload_n dX10_least_36 rfl ?_
        refine ev_getA dX10_least_37 fl_WithoutE_98 lx_0 rfl ?_
        refine ev_getI dX10_least_40 fl_WithoutE_278 lx_86 rfl ?_
        refine ev_goto (tgt := 53) dX10_least_43 (by decide) ?_
        exact ev_iret dX10_least_53 rfl h
    · replace h := h.2 c
      refine ev_aload_n dX10_least_23 rfl ?_
      refine ev_getA dX10_least_24 fl_WithoutE_98 lx_0 rfl ?_
      refine ev_getI dX10_least_27 fl_WithoutE_245 lx_86 rfl ?_
      exact ev_iret dX10_least_30 rfl h
  · replace h := h.2 c
    refine ev_iconst (v := -1) dX10_least_17 (by decide) ?_
    exact ev_iret dX10_least_18 rfl h
theorem dX10_sentence_0 : decode cX10_sentence 0 = .ok (.aload_n 0, 1) := by decide +kernel
theorem dX10_sentence_1 : decode cX10_sentence 1 = .ok (.iload_n 1, 1) := by decide +kernel
theorem dX10_sentence_2 : decode cX10_sentence 2 = .ok (.invokevirtual 318, 3) := by decide +kernel
theorem dX10_sentence_5 : decode cX10_sentence 5 = .ok (.ifCond .eq 19, 3) := by decide +kernel
theorem dX10_sentence_8 : decode cX10_sentence 8 = .ok (.iload_n 2, 1) := by decide +kernel
theorem dX10_sentence_9 : decode cX10_sentence 9 = .ok (.iconst (-1), 1) := by decide +kernel
theorem dX10_sentence_10 : decode cX10_sentence 10 = .ok (.if_icmp .lt 14, 3) := by decide +kernel
theorem dX10_sentence_13 : decode cX10_sentence 13 = .ok (.iload_n 2, 1) := by decide +kernel
theorem dX10_sentence_14 : decode cX10_sentence 14 = .ok (.aload_n 0, 1) := by decide +kernel
theorem dX10_sentence_15 : decode cX10_sentence 15 = .ok (.getfield 98, 3) := by decide +kernel
theorem dX10_sentence_18 : decode cX10_sentence 18 = .ok (.getfield 322, 3) := by decide +kernel
theorem dX10_sentence_21 : decode cX10_sentence 21 = .ok (.if_icmp .lt 5, 3) := by decide +kernel
theorem dX10_sentence_24 : decode cX10_sentence 24 = .ok (.iconst (-1), 1) := by decide +kernel
theorem dX10_sentence_25 : decode cX10_sentence 25 = .ok (.ireturn, 1) := by decide +kernel
theorem dX10_sentence_26 : decode cX10_sentence 26 = .ok (.iload_n 2, 1) := by decide +kernel
theorem dX10_sentence_27 : decode cX10_sentence 27 = .ok (.iconst (-1), 1) := by decide +kernel
theorem dX10_sentence_28 : decode cX10_sentence 28 = .ok (.if_icmp .ne 13, 3) := by decide +kernel
theorem dX10_sentence_31 : decode cX10_sentence 31 = .ok (.aload_n 0, 1) := by decide +kernel
theorem dX10_sentence_32 : decode cX10_sentence 32 = .ok (.getfield 98, 3) := by decide +kernel
theorem dX10_sentence_35 : decode cX10_sentence 35 = .ok (.getfield 322, 3) := by decide +kernel
theorem dX10_sentence_38 : decode cX10_sentence 38 = .ok (.goto 12, 3) := by decide +kernel
theorem dX10_sentence_41 : decode cX10_sentence 41 = .ok (.aload_n 0, 1) := by decide +kernel
theorem dX10_sentence_42 : decode cX10_sentence 42 = .ok (.getfield 98, 3) := by decide +kernel
theorem dX10_sentence_45 : decode cX10_sentence 45 = .ok (.getfield 325, 3) := by decide +kernel
theorem dX10_sentence_48 : decode cX10_sentence 48 = .ok (.iload_n 2, 1) := by decide +kernel
theorem dX10_sentence_49 : decode cX10_sentence 49 = .ok (.iaload, 1) := by decide +kernel
theorem dX10_sentence_50 : decode cX10_sentence 50 = .ok (.ireturn, 1) := by decide +kernel
theorem gX10_sentence_0 {d : Nat} {M : ev_Mem} {Q : Option Value → ev_Mem → Prop} {x1 x2 : Int32} (h : (∃ Q2 : Option Value → ev_Mem → Prop, Cl LX d mX10_speakNow [.ref 0, .int x1] M Q2 ∧ ∀ (zr : Option Value) (zM : ev_Mem), Q2 zr zM → Ev LX (d + 1) mX10_sentence 5 [some (.ref 0), none, some (.int x2)] (zr.toList ++ []) zM Q)) : Ev LX (d + 1) mX10_sentence 0 [some (.ref 0), some (.int x1), some (.int x2)] [] M Q := by
  refine ev_aload_n dX10_sentence_0 rfl ?_
  refine ev_iload_n dX10_sentence_1 rfl ?_
  obtain ⟨Q2, hc, h⟩ := h
  refine ev_callV [.int x1] dX10_sentence_2 ml_WithoutE_318 lx_0 rfl rfl (Nat.le_of_ble_eq_true rfl) hc (fun zr zM q => ?_)
  refine Ev.weak (ls := [some (.ref 0), none, some (.int x2)]) ⟨rfl, rfl, trivial⟩ ?_
  exact h zr zM q
theorem gX10_sentence_5 {d : Nat} {M : ev_Mem} {Q : Option Value → ev_Mem → Prop} {x2 s0 : Int32} (h : (((s0 = 0) → (Q (some (.int (-1))) M)) ∧ ((¬ s0 = 0) → (((x2 < (-1)) → (Q (some (.int (-1))) M)) ∧ ((¬ x2 < (-1)) → (((x2 < (M.1 86 13)) → (((¬ x2 = (-1)) → (vp_in x2 5 ∧ (Q (some (.int (M.1 99 x2.toNatClampNeg))) M))) ∧ ((x2 = (-1)) → (Q (some (.int (M.1 86 13))) M)))) ∧ ((¬ x2 < (M.1 86 13)) → (Q (some (.int (-1))) M)))))))) : Ev LX d mX10_sentence 5 [some (.ref 0), none, some (.int x2)] [(.int s0)] M Q := by
  refine ev_if_eq (tgt := 24) dX10_sentence_5 (by decide) (fun c => ?_) (fun c => ?_)
  · replace h := h.1 c
    refine ev_iconst (v := -1) dX10_sentence_24 (by decide) ?_
    exact ev_iret dX10_sentence_25 rfl h
  · replace h := h.2 c
    refine ev_iload_n dX10_sentence_8 rfl ?_
    refine ev_iconst (v := -1) dX10_sentence_9 (by decide) ?_
    refine ev_icmp_lt (tgt := 24) dX10_sentence_10 (by decide) (fun c => ?_) (fun c => ?_)
    · replace h := h.1 c
      refine ev_iconst (v := -1) dX10_sentence_24 (by decide) ?_
      exact ev_iret dX10_sentence_25 rfl h
    · replace h := h.2 c
      refine ev_iload_n dX10_sentence_13 rfl ?_
      refine ev_aload_n dX10_sentence_14 rfl ?_
      refine ev_getA dX10_sentence_15 fl_WithoutE_98 lx_0 rfl ?_
      refine ev_getI dX10_sentence_18 fl_WithoutE_322 lx_86 rfl ?_
      refine ev_icmp_lt (tgt := 26) dX10_sentence_21 (by decide) (fun c => ?_) (fun c => ?_)
      · replace h := h.1 c
        refine ev_iload_n dX10_sentence_26 rfl ?_
        refine ev_iconst (v := -1) dX10_sentence_27 (by decide) ?_
        refine ev_icmp_ne (tgt := 41) dX10_sentence_28 (by decide) (fun c => ?_) (fun c => ?_)
        · replace h := h.1 c
          refine ev_aload_n dX10_sentence_41 rfl ?_
          refine ev_getA dX10_sentence_42 fl_WithoutE_98 lx_0 rfl ?_
          refine ev_getA dX10_sentence_45 fl_WithoutE_325 lx_86 rfl ?_
          refine ev_iload_n dX10_sentence_48 rfl ?_
          obtain ⟨c, h⟩ := h
          refine ev_iald dX10_sentence_49 lx_99 c ?_
          exact ev_iret dX10_sentence_50 rfl h
        · replace h := h.2 c
          refine ev_aload_n dX10_sentence_31 rfl ?_
          refine ev_getA dX10_sentence_32 fl_WithoutE_98 lx_0 rfl ?_
          refine ev_getI dX10_sentence_35 fl_WithoutE_322 lx_86 rfl ?_
          refine ev_goto (tgt := 50) dX10_sentence_38 (by decide) ?_
          exact ev_iret dX10_sentence_50 rfl h
      · replace h := h.2 c
        refine ev_iconst (v := -1) dX10_sentence_24 (by decide) ?_
        exact ev_iret dX10_sentence_25 rfl h
theorem dX10_wire_0 : decode cX10_wire 0 = .ok (.aload_n 0, 1) := by decide +kernel
theorem dX10_wire_1 : decode cX10_wire 1 = .ok (.iload_n 1, 1) := by decide +kernel
theorem dX10_wire_2 : decode cX10_wire 2 = .ok (.invokevirtual 318, 3) := by decide +kernel
theorem dX10_wire_5 : decode cX10_wire 5 = .ok (.ifCond .eq 13, 3) := by decide +kernel
theorem dX10_wire_8 : decode cX10_wire 8 = .ok (.aload_n 0, 1) := by decide +kernel
theorem dX10_wire_9 : decode cX10_wire 9 = .ok (.getfield 98, 3) := by decide +kernel
theorem dX10_wire_12 : decode cX10_wire 12 = .ok (.getfield 427, 3) := by decide +kernel
theorem dX10_wire_15 : decode cX10_wire 15 = .ok (.goto 4, 3) := by decide +kernel
theorem dX10_wire_18 : decode cX10_wire 18 = .ok (.iconst (-1), 1) := by decide +kernel
theorem dX10_wire_19 : decode cX10_wire 19 = .ok (.ireturn, 1) := by decide +kernel
theorem gX10_wire_0 {d : Nat} {M : ev_Mem} {Q : Option Value → ev_Mem → Prop} {x1 : Int32} (h : (∃ Q2 : Option Value → ev_Mem → Prop, Cl LX d mX10_speakNow [.ref 0, .int x1] M Q2 ∧ ∀ (zr : Option Value) (zM : ev_Mem), Q2 zr zM → Ev LX (d + 1) mX10_wire 5 [some (.ref 0), none] (zr.toList ++ []) zM Q)) : Ev LX (d + 1) mX10_wire 0 [some (.ref 0), some (.int x1)] [] M Q := by
  refine ev_aload_n dX10_wire_0 rfl ?_
  refine ev_iload_n dX10_wire_1 rfl ?_
  obtain ⟨Q2, hc, h⟩ := h
  refine ev_callV [.int x1] dX10_wire_2 ml_WithoutE_318 lx_0 rfl rfl (Nat.le_of_ble_eq_true rfl) hc (fun zr zM q => ?_)
  refine Ev.weak (ls := [some (.ref 0), none]) ⟨rfl, trivial⟩ ?_
  exact h zr zM q
theorem gX10_wire_5 {d : Nat} {M : ev_Mem} {Q : Option Value → ev_Mem → Prop} {s0 : Int32} (h : (((s0 = 0) → (Q (some (.int (-1))) M)) ∧ ((¬ s0 = 0) → (Q (some (.int (M.1 86 17))) M)))) : Ev LX d mX10_wire 5 [some (.ref 0), none] [(.int s0)] M Q := by
  refine ev_if_eq (tgt := 18) dX10_wire_5 (by decide) (fun c => ?_) (fun c => ?_)
  · replace h := h.1 c
    refine ev_iconst (v := -1) dX10_wire_18 (by decide) ?_
    exact ev_iret dX10_wire_19 rfl h
  · replace h := h.2 c
    refine ev_aload_n dX10_wire_8 rfl ?_
    refine ev_getA dX10_wire_9 fl_WithoutE_98 lx_0 rfl ?_
    refine ev_getI dX10_wire_12 fl_WithoutE_427 lx_86 rfl ?_
    refine ev_goto (tgt := 19) dX10_wire_15 (by decide) ?_
    exact ev_iret dX10_wire_19 rfl h
theorem dX10_worth_0 : decode cX10_worth 0 = .ok (.aload_n 0, 1) := by decide +kernel
theorem dX10_worth_1 : decode cX10_worth 1 = .ok (.iload_n 1, 1) := by decide +kernel
theorem dX10_worth_2 : decode cX10_worth 2 = .ok (.invokevirtual 318, 3) := by decide +kernel
theorem dX10_worth_5 : decode cX10_worth 5 = .ok (.ifCond .eq 13, 3) := by decide +kernel
theorem dX10_worth_8 : decode cX10_worth 8 = .ok (.aload_n 0, 1) := by decide +kernel
theorem dX10_worth_9 : decode cX10_worth 9 = .ok (.getfield 98, 3) := by decide +kernel
theorem dX10_worth_12 : decode cX10_worth 12 = .ok (.getfield 278, 3) := by decide +kernel
theorem dX10_worth_15 : decode cX10_worth 15 = .ok (.goto 4, 3) := by decide +kernel
theorem dX10_worth_18 : decode cX10_worth 18 = .ok (.iconst (-1), 1) := by decide +kernel
theorem dX10_worth_19 : decode cX10_worth 19 = .ok (.ireturn, 1) := by decide +kernel
theorem gX10_worth_0 {d : Nat} {M : ev_Mem} {Q : Option Value → ev_Mem → Prop} {x1 : Int32} (h : (∃ Q2 : Option Value → ev_Mem → Prop, Cl LX d mX10_speakNow [.ref 0, .int x1] M Q2 ∧ ∀ (zr : Option Value) (zM : ev_Mem), Q2 zr zM → Ev LX (d + 1) mX10_worth 5 [some (.ref 0), none] (zr.toList ++ []) zM Q)) : Ev LX (d + 1) mX10_worth 0 [some (.ref 0), some (.int x1)] [] M Q := by
  refine ev_aload_n dX10_worth_0 rfl ?_
  refine ev_iload_n dX10_worth_1 rfl ?_
  obtain ⟨Q2, hc, h⟩ := h
  refine ev_callV [.int x1] dX10_worth_2 ml_WithoutE_318 lx_0 rfl rfl (Nat.le_of_ble_eq_true rfl) hc (fun zr zM q => ?_)
  refine Ev.weak (ls := [some (.ref 0), none]) ⟨rfl, trivial⟩ ?_
  exact h zr zM q
theorem gX10_worth_5 {d : Nat} {M : ev_Mem} {Q : Option Value → ev_Mem → Prop} {s0 : Int32} (h : (((s0 = 0) → (Q (some (.int (-1))) M)) ∧ ((¬ s0 = 0) → (Q (some (.int (M.1 86 15))) M)))) : Ev LX d mX10_worth 5 [some (.ref 0), none] [(.int s0)] M Q := by
  refine ev_if_eq (tgt := 18) dX10_worth_5 (by decide) (fun c => ?_) (fun c => ?_)
  · replace h := h.1 c
    refine ev_iconst (v := -1) dX10_worth_18 (by decide) ?_
    exact ev_iret dX10_worth_19 rfl h
  · replace h := h.2 c
    refine ev_aload_n dX10_worth_8 rfl ?_
    refine ev_getA dX10_worth_9 fl_WithoutE_98 lx_0 rfl ?_
    refine ev_getI dX10_worth_12 fl_WithoutE_278 lx_86 rfl ?_
    refine ev_goto (tgt := 19) dX10_worth_15 (by decide) ?_
    exact ev_iret dX10_worth_19 rfl h
theorem dX10_senses_0 : decode cX10_senses 0 = .ok (.sipush 4095, 3) := by decide +kernel
theorem dX10_senses_3 : decode cX10_senses 3 = .ok (.istore_n 1, 1) := by decide +kernel
theorem dX10_senses_4 : decode cX10_senses 4 = .ok (.iconst 0, 1) := by decide +kernel
theorem dX10_senses_5 : decode cX10_senses 5 = .ok (.istore_n 2, 1) := by decide +kernel
theorem dX10_senses_6 : decode cX10_senses 6 = .ok (.iload_n 2, 1) := by decide +kernel
theorem dX10_senses_7 : decode cX10_senses 7 = .ok (.aload_n 0, 1) := by decide +kernel
theorem dX10_senses_8 : decode cX10_senses 8 = .ok (.getfield 19, 3) := by decide +kernel
theorem dX10_senses_11 : decode cX10_senses 11 = .ok (.getfield 194, 3) := by decide +kernel
theorem dX10_senses_14 : decode cX10_senses 14 = .ok (.if_icmp .ge 43, 3) := by decide +kernel
theorem dX10_senses_17 : decode cX10_senses 17 = .ok (.aload_n 0, 1) := by decide +kernel
theorem dX10_senses_18 : decode cX10_senses 18 = .ok (.getfield 80, 3) := by decide +kernel
theorem dX10_senses_21 : decode cX10_senses 21 = .ok (.iload_n 2, 1) := by decide +kernel
theorem dX10_senses_22 : decode cX10_senses 22 = .ok (.aload_n 0, 1) := by decide +kernel
theorem dX10_senses_23 : decode cX10_senses 23 = .ok (.getfield 26, 3) := by decide +kernel
theorem dX10_senses_26 : decode cX10_senses 26 = .ok (.getfield 223, 3) := by decide +kernel
theorem dX10_senses_29 : decode cX10_senses 29 = .ok (.invokevirtual 308, 3) := by decide +kernel
theorem dX10_senses_32 : decode cX10_senses 32 = .ok (.ifCond .eq 19, 3) := by decide +kernel
theorem dX10_senses_35 : decode cX10_senses 35 = .ok (.iload_n 1, 1) := by decide +kernel
theorem dX10_senses_36 : decode cX10_senses 36 = .ok (.iconst 1, 1) := by decide +kernel
theorem dX10_senses_37 : decode cX10_senses 37 = .ok (.aload_n 0, 1) := by decide +kernel
theorem dX10_senses_38 : decode cX10_senses 38 = .ok (.getfield 19, 3) := by decide +kernel
theorem dX10_senses_41 : decode cX10_senses 41 = .ok (.getfield 205, 3) := by decide +kernel
theorem dX10_senses_44 : decode cX10_senses 44 = .ok (.iload_n 2, 1) := by decide +kernel
theorem dX10_senses_45 : decode cX10_senses 45 = .ok (.iaload, 1) := by decide +kernel
theorem dX10_senses_46 : decode cX10_senses 46 = .ok (.ishl, 1) := by decide +kernel
theorem dX10_senses_47 : decode cX10_senses 47 = .ok (.iconst (-1), 1) := by decide +kernel
theorem dX10_senses_48 : decode cX10_senses 48 = .ok (.ixor, 1) := by decide +kernel
theorem dX10_senses_49 : decode cX10_senses 49 = .ok (.iand, 1) := by decide +kernel
theorem dX10_senses_50 : decode cX10_senses 50 = .ok (.istore_n 1, 1) := by decide +kernel
theorem dX10_senses_51 : decode cX10_senses 51 = .ok (.iinc 2 1, 3) := by decide +kernel
theorem dX10_senses_54 : decode cX10_senses 54 = .ok (.goto (-48), 3) := by decide +kernel
theorem dX10_senses_57 : decode cX10_senses 57 = .ok (.iload_n 1, 1) := by decide +kernel
theorem dX10_senses_58 : decode cX10_senses 58 = .ok (.ireturn, 1) := by decide +kernel
theorem gX10_senses_0 {d : Nat} {M : ev_Mem} {Q : Option Value → ev_Mem → Prop} (h : (Ev LX d mX10_senses 6 [some (.ref 0), some (.int 4095), some (.int 0)] [] M Q)) : Ev LX d mX10_senses 0 [some (.ref 0), none, none] [] M Q := by
  refine ev_sipush (v := 4095) dX10_senses_0 (by decide) ?_
  refine ev_istore_n (ls2 := [some (.ref 0), some (.int 4095), none]) dX10_senses_3 (Nat.le_of_ble_eq_true rfl) rfl ?_
  refine ev_iconst (v := 0) dX10_senses_4 (by decide) ?_
  refine ev_istore_n (ls2 := [some (.ref 0), some (.int 4095), some (.int 0)]) dX10_senses_5 (Nat.le_of_ble_eq_true rfl) rfl ?_
  exact h
theorem gX10_senses_6 {d : Nat} {M : ev_Mem} {Q : Option Value → ev_Mem → Prop} {x1 x2 : Int32} (h : ((((M.1 3 5) ≤ x2) → (Q (some (.int x1)) M)) ∧ ((¬ (M.1 3 5) ≤ x2) → ((wd M x2) ∧ ((((xC M x2 (M.1 43 0)) = false) → (Ev LX (d + 3) mX10_senses 6 [some (.ref 0), some (.int x1), some (.int (x2 + 1))] [] M Q)) ∧ (((xC M x2 (M.1 43 0)) = true) → (vp_in x2 24 ∧ (∀ v1 : Int32, v1 = x1 &&& ((1 <<< ((M.1 31 x2.toNatClampNeg) &&& 31)) ^^^ (-1)) → (Ev LX (d + 3) mX10_senses 6 [some (.ref 0), some (.int v1), some (.int (x2 + 1))] [] M Q))))))))) : Ev LX (d + 3) mX10_senses 6 [some (.ref 0), some (.int x1), some (.int x2)] [] M Q := by
  refine ev_iload_n dX10_senses_6 rfl ?_
  refine ev_aload_n dX10_senses_7 rfl ?_
  refine ev_getA dX10_senses_8 fl_WithoutE_19 lx_0 rfl ?_
  refine ev_getI dX10_senses_11 fl_WithoutE_194 lx_3 rfl ?_
  refine ev_icmp_ge (tgt := 57) dX10_senses_14 (by decide) (fun c => ?_) (fun c => ?_)
  · replace h := h.1 c
    refine ev_iload_n dX10_senses_57 rfl ?_
    exact ev_iret dX10_senses_58 rfl h
  · replace h := h.2 c
    refine ev_aload_n dX10_senses_17 rfl ?_
    refine ev_getA dX10_senses_18 fl_WithoutE_80 lx_0 rfl ?_
    refine ev_iload_n dX10_senses_21 rfl ?_
    refine ev_aload_n dX10_senses_22 rfl ?_
    refine ev_getA dX10_senses_23 fl_WithoutE_26 lx_0 rfl ?_
    refine ev_getI dX10_senses_26 fl_WithoutE_223 lx_43 rfl ?_
    obtain ⟨p1, h⟩ := h
    refine ev_callV [.int x2, .int (M.1 43 0)] dX10_senses_29 ml_WithoutE_308 lx_82 rfl rfl (Nat.le_of_ble_eq_true rfl) (qX5_canBe p1) ?_
    rintro zr zM ⟨q1, q2⟩
    rw [q1, q2]
    show Ev LX (d + 3) mX10_senses 32 [some (.ref 0), some (.int x1), some (.int x2)] [(.int (bi (xC M x2 (M.1 43 0))))] M Q
    refine ev_if_eq (tgt := 51) dX10_senses_32 (by decide) (fun c => ?_) (fun c => ?_)
    · replace h := h.1 ((bi_0 _).mp c)
      refine ev_iinc (v := x2 + 1) (ls2 := [some (.ref 0), some (.int x1), some (.int (x2 + 1))]) dX10_senses_51 rfl rfl rfl ?_
      refine ev_goto (tgt := 6) dX10_senses_54 (by decide) ?_
      exact h
    · replace h := h.2 ((bi_n0 _).mp c)
      refine ev_iload_n dX10_senses_35 rfl ?_
      refine ev_iconst (v := 1) dX10_senses_36 (by decide) ?_
      refine ev_aload_n dX10_senses_37 rfl ?_
      refine ev_getA dX10_senses_38 fl_WithoutE_19 lx_0 rfl ?_
      refine ev_getA dX10_senses_41 fl_WithoutE_205 lx_3 rfl ?_
      refine ev_iload_n dX10_senses_44 rfl ?_
      obtain ⟨c, h⟩ := h
      refine ev_iald dX10_senses_45 lx_31 c ?_
      refine ev_ishl dX10_senses_46 ?_
      refine ev_iconst (v := -1) dX10_senses_47 (by decide) ?_
      refine ev_ixor dX10_senses_48 ?_
      refine ev_iand dX10_senses_49 ?_
      refine ev_istore_n (ls2 := [some (.ref 0), some (.int (x1 &&& ((1 <<< ((M.1 31 x2.toNatClampNeg) &&& 31)) ^^^ (-1)))), some (.int x2)]) dX10_senses_50 (Nat.le_of_ble_eq_true rfl) rfl ?_
      generalize ev1 : x1 &&& ((1 <<< ((M.1 31 x2.toNatClampNeg) &&& 31)) ^^^ (-1)) = v1
      replace h := h v1 ev1.symm
      refine ev_iinc (v := x2 + 1) (ls2 := [some (.ref 0), some (.int v1), some (.int (x2 + 1))]) dX10_senses_51 rfl rfl rfl ?_
      refine ev_goto (tgt := 6) dX10_senses_54 (by decide) ?_
      exact h
theorem dX10_all_0 : decode cX10_all 0 = .ok (.bipush 12, 2) := by decide +kernel
theorem dX10_all_2 : decode cX10_all 2 = .ok (.aload_n 0, 1) := by decide +kernel
theorem dX10_all_3 : decode cX10_all 3 = .ok (.invokevirtual 437, 3) := by decide +kernel
theorem dX10_all_6 : decode cX10_all 6 = .ok (.invokestatic 251, 3) := by decide +kernel
theorem dX10_all_9 : decode cX10_all 9 = .ok (.isub, 1) := by decide +kernel
theorem dX10_all_10 : decode cX10_all 10 = .ok (.ireturn, 1) := by decide +kernel
theorem gX10_all_0 {d : Nat} {M : ev_Mem} {Q : Option Value → ev_Mem → Prop} (h : (∃ Q2 : Option Value → ev_Mem → Prop, Cl LX d mX10_senses [.ref 0] M Q2 ∧ ∀ (zr : Option Value) (zM : ev_Mem), Q2 zr zM → Ev LX (d + 1) mX10_all 6 [none] (zr.toList ++ [(.int 12)]) zM Q)) : Ev LX (d + 1) mX10_all 0 [some (.ref 0)] [] M Q := by
  refine ev_bipush (v := 12) dX10_all_0 (by decide) ?_
  refine ev_aload_n dX10_all_2 rfl ?_
  obtain ⟨Q2, hc, h⟩ := h
  refine ev_callV [] dX10_all_3 ml_WithoutE_437 lx_0 rfl rfl (Nat.le_of_ble_eq_true rfl) hc (fun zr zM q => ?_)
  refine Ev.weak (ls := [none]) trivial ?_
  exact h zr zM q
theorem gX10_all_6 {d : Nat} {M : ev_Mem} {Q : Option Value → ev_Mem → Prop} {s0 s1 : Int32} (h : (Q (some (.int (s1 - (bc s0)))) M)) : Ev LX (d + 1) mX10_all 6 [none] [(.int s0), (.int s1)] M Q := by
  refine ev_callS [.int s0] dX10_all_6 ml_WithoutE_251 rfl (Nat.le_of_ble_eq_true rfl) (kJ6_bitCount) ?_
  rintro zr zM ⟨q1, q2⟩
  rw [q1, q2]
  show Ev LX (d + 1) mX10_all 9 [none] [(.int (bc s0)), (.int s1)] M Q
  refine ev_isub dX10_all_9 ?_
  exact ev_iret dX10_all_10 rfl h
theorem dX10_stiffs_0 : decode cX10_stiffs 0 = .ok (.iload_n 1, 1) := by decide +kernel
theorem dX10_stiffs_1 : decode cX10_stiffs 1 = .ok (.iconst (-1), 1) := by decide +kernel
theorem dX10_stiffs_2 : decode cX10_stiffs 2 = .ok (.if_icmp .ne 13, 3) := by decide +kernel
theorem dX10_stiffs_5 : decode cX10_stiffs 5 = .ok (.aload_n 0, 1) := by decide +kernel
theorem dX10_stiffs_6 : decode cX10_stiffs 6 = .ok (.getfield 33, 3) := by decide +kernel
theorem dX10_stiffs_9 : decode cX10_stiffs 9 = .ok (.iconst 0, 1) := by decide +kernel
theorem dX10_stiffs_10 : decode cX10_stiffs 10 = .ok (.putfield 370, 3) := by decide +kernel
theorem dX10_stiffs_13 : decode cX10_stiffs 13 = .ok (.iconst 0, 1) := by decide +kernel
theorem dX10_stiffs_14 : decode cX10_stiffs 14 = .ok (.ireturn, 1) := by decide +kernel
theorem dX10_stiffs_15 : decode cX10_stiffs 15 = .ok (.aload_n 0, 1) := by decide +kernel
theorem dX10_stiffs_16 : decode cX10_stiffs 16 = .ok (.getfield 19, 3) := by decide +kernel
theorem dX10_stiffs_19 : decode cX10_stiffs 19 = .ok (.iload_n 1, 1) := by decide +kernel
theorem dX10_stiffs_20 : decode cX10_stiffs 20 = .ok (.invokevirtual 191, 3) := by decide +kernel
theorem dX10_stiffs_23 : decode cX10_stiffs 23 = .ok (.ifCond .eq 25, 3) := by decide +kernel
theorem dX10_stiffs_26 : decode cX10_stiffs 26 = .ok (.iload_n 2, 1) := by decide +kernel
theorem dX10_stiffs_27 : decode cX10_stiffs 27 = .ok (.ifCond .lt 21, 3) := by decide +kernel
theorem dX10_stiffs_30 : decode cX10_stiffs 30 = .ok (.iload_n 2, 1) := by decide +kernel
theorem dX10_stiffs_31 : decode cX10_stiffs 31 = .ok (.bipush 99, 2) := by decide +kernel
theorem dX10_stiffs_33 : decode cX10_stiffs 33 = .ok (.if_icmp .gt 15, 3) := by decide +kernel
theorem dX10_stiffs_36 : decode cX10_stiffs 36 = .ok (.aload_n 0, 1) := by decide +kernel
theorem dX10_stiffs_37 : decode cX10_stiffs 37 = .ok (.getfield 33, 3) := by decide +kernel
theorem dX10_stiffs_40 : decode cX10_stiffs 40 = .ok (.getfield 370, 3) := by decide +kernel
theorem dX10_stiffs_43 : decode cX10_stiffs 43 = .ok (.bipush 8, 2) := by decide +kernel
theorem dX10_stiffs_45 : decode cX10_stiffs 45 = .ok (.if_icmp .lt 6, 3) := by decide +kernel
theorem dX10_stiffs_48 : decode cX10_stiffs 48 = .ok (.bipush (-2), 2) := by decide +kernel
theorem dX10_stiffs_50 : decode cX10_stiffs 50 = .ok (.ireturn, 1) := by decide +kernel
theorem dX10_stiffs_51 : decode cX10_stiffs 51 = .ok (.aload_n 0, 1) := by decide +kernel
theorem dX10_stiffs_52 : decode cX10_stiffs 52 = .ok (.getfield 33, 3) := by decide +kernel
theorem dX10_stiffs_55 : decode cX10_stiffs 55 = .ok (.getfield 373, 3) := by decide +kernel
theorem dX10_stiffs_58 : decode cX10_stiffs 58 = .ok (.aload_n 0, 1) := by decide +kernel
theorem dX10_stiffs_59 : decode cX10_stiffs 59 = .ok (.getfield 33, 3) := by decide +kernel
theorem dX10_stiffs_62 : decode cX10_stiffs 62 = .ok (.getfield 370, 3) := by decide +kernel
theorem dX10_stiffs_65 : decode cX10_stiffs 65 = .ok (.iload_n 1, 1) := by decide +kernel
theorem dX10_stiffs_66 : decode cX10_stiffs 66 = .ok (.iastore, 1) := by decide +kernel
theorem dX10_stiffs_67 : decode cX10_stiffs 67 = .ok (.aload_n 0, 1) := by decide +kernel
theorem dX10_stiffs_68 : decode cX10_stiffs 68 = .ok (.getfield 33, 3) := by decide +kernel
theorem dX10_stiffs_71 : decode cX10_stiffs 71 = .ok (.getfield 376, 3) := by decide +kernel
theorem dX10_stiffs_74 : decode cX10_stiffs 74 = .ok (.aload_n 0, 1) := by decide +kernel
theorem dX10_stiffs_75 : decode cX10_stiffs 75 = .ok (.getfield 33, 3) := by decide +kernel
theorem dX10_stiffs_78 : decode cX10_stiffs 78 = .ok (.getfield 370, 3) := by decide +kernel
theorem dX10_stiffs_81 : decode cX10_stiffs 81 = .ok (.iload_n 2, 1) := by decide +kernel
theorem dX10_stiffs_82 : decode cX10_stiffs 82 = .ok (.iastore, 1) := by decide +kernel
theorem dX10_stiffs_83 : decode cX10_stiffs 83 = .ok (.aload_n 0, 1) := by decide +kernel
theorem dX10_stiffs_84 : decode cX10_stiffs 84 = .ok (.getfield 33, 3) := by decide +kernel
theorem dX10_stiffs_87 : decode cX10_stiffs 87 = .ok (.dup, 1) := by decide +kernel
theorem dX10_stiffs_88 : decode cX10_stiffs 88 = .ok (.getfield 370, 3) := by decide +kernel
theorem dX10_stiffs_91 : decode cX10_stiffs 91 = .ok (.iconst 1, 1) := by decide +kernel
theorem dX10_stiffs_92 : decode cX10_stiffs 92 = .ok (.iadd, 1) := by decide +kernel
theorem dX10_stiffs_93 : decode cX10_stiffs 93 = .ok (.putfield 370, 3) := by decide +kernel
theorem dX10_stiffs_96 : decode cX10_stiffs 96 = .ok (.aload_n 0, 1) := by decide +kernel
theorem dX10_stiffs_97 : decode cX10_stiffs 97 = .ok (.getfield 33, 3) := by decide +kernel
theorem dX10_stiffs_100 : decode cX10_stiffs 100 = .ok (.getfield 370, 3) := by decide +kernel
theorem dX10_stiffs_103 : decode cX10_stiffs 103 = .ok (.ireturn, 1) := by decide +kernel
theorem gX10_stiffs_0 {d : Nat} {M : ev_Mem} {Q : Option Value → ev_Mem → Prop} {x1 x2 : Int32} (h : (((¬ x1 = (-1)) → ((okW M) ∧ ((((iin x1 0 (M.1 3 5 - 1)) = false) → (Q (some (.int (-2))) M)) ∧ (((iin x1 0 (M.1 3 5 - 1)) = true) → (((x2 < 0) → (Q (some (.int (-2))) M)) ∧ ((¬ x2 < 0) → (((99 < x2) → (Q (some (.int (-2))) M)) ∧ ((¬ 99 < x2) → ((((M.1 47 11) < 8) → (vp_in (M.1 47 11) 8 ∧ (∀ M1 : ev_Mem, M1 = ev_wr M 58 (M.1 47 11).toNatClampNeg x1 → (vp_in (M1.1 47 11) 8 ∧ (∀ M2 : ev_Mem, M2 = ev_wr M1 59 (M1.1 47 11).toNatClampNeg x2 → (∀ M3 : ev_Mem, M3 = ev_wr M2 47 11 ((M2.1 47 11) + 1) → (Q (some (.int (M3.1 47 11))) M3))))))) ∧ ((¬ (M.1 47 11) < 8) → (Q (some (.int (-2))) M))))))))))) ∧ ((x1 = (-1)) → (∀ M4 : ev_Mem, M4 = ev_wr M 47 11 0 → (Q (some (.int 0)) M4))))) : Ev LX (d + 1) mX10_stiffs 0 [some (.ref 0), some (.int x1), some (.int x2)] [] M Q := by
  refine ev_iload_n dX10_stiffs_0 rfl ?_
  refine ev_iconst (v := -1) dX10_stiffs_1 (by decide) ?_
  refine ev_icmp_ne (tgt := 15) dX10_stiffs_2 (by decide) (fun c => ?_) (fun c => ?_)
  · replace h := h.1 c
    refine ev_aload_n dX10_stiffs_15 rfl ?_
    refine ev_getA dX10_stiffs_16 fl_WithoutE_19 lx_0 rfl ?_
    refine ev_iload_n dX10_stiffs_19 rfl ?_
    obtain ⟨p1, h⟩ := h
    refine ev_callV [.int x1] dX10_stiffs_20 ml_WithoutE_191 lx_3 rfl rfl (Nat.le_of_ble_eq_true rfl) (kX0_hasWord p1) ?_
    rintro zr zM ⟨q1, q2⟩
    rw [q1, q2]
    show Ev LX (d + 1) mX10_stiffs 23 [some (.ref 0), some (.int x1), some (.int x2)] [(.int (bi (iin x1 0 (M.1 3 5 - 1))))] M Q
    refine ev_if_eq (tgt := 48) dX10_stiffs_23 (by decide) (fun c => ?_) (fun c => ?_)
    · replace h := h.1 ((bi_0 _).mp c)
      refine ev_bipush (v := -2) dX10_stiffs_48 (by decide) ?_
      exact ev_iret dX10_stiffs_50 rfl h
    · replace h := h.2 ((bi_n0 _).mp c)
      refine ev_iload_n dX10_stiffs_26 rfl ?_
      refine ev_if_lt (tgt := 48) dX10_stiffs_27 (by decide) (fun c => ?_) (fun c => ?_)
      · replace h := h.1 c
        refine ev_bipush (v := -2) dX10_stiffs_48 (by decide) ?_
        exact ev_iret dX10_stiffs_50 rfl h
      · replace h := h.2 c
        refine ev_iload_n dX10_stiffs_30 rfl ?_
        refine ev_bipush (v := 99) dX10_stiffs_31 (by decide) ?_
        refine ev_icmp_gt (tgt := 48) dX10_stiffs_33 (by decide) (fun c => ?_) (fun c => ?_)
        · replace h := h.1 c
          refine ev_bipush (v := -2) dX10_stiffs_48 (by decide) ?_
          exact ev_iret dX10_stiffs_50 rfl h
        · replace h := h.2 c
          refine ev_aload_n dX10_stiffs_36 rfl ?_
          refine ev_getA dX10_stiffs_37 fl_WithoutE_33 lx_0 rfl ?_
          refine ev_getI dX10_stiffs_40 fl_WithoutE_370 lx_47 rfl ?_
          refine ev_bipush (v := 8) dX10_stiffs_43 (by decide) ?_
          refine ev_icmp_lt (tgt := 51) dX10_stiffs_45 (by decide) (fun c => ?_) (fun c => ?_)
          · replace h := h.1 c
            refine ev_aload_n dX10_stiffs_51 rfl ?_
            refine ev_getA dX10_stiffs_52 fl_WithoutE_33 lx_0 rfl ?_
            refine ev_getA dX10_stiffs_55 fl_WithoutE_373 lx_47 rfl ?_
            refine ev_aload_n dX10_stiffs_58 rfl ?_
            refine ev_getA dX10_stiffs_59 fl_WithoutE_33 lx_0 rfl ?_
            refine ev_getI dX10_stiffs_62 fl_WithoutE_370 lx_47 rfl ?_
            refine ev_iload_n dX10_stiffs_65 rfl ?_
            obtain ⟨c, h⟩ := h
            refine ev_iast dX10_stiffs_66 lx_58 c ?_
            generalize eM1 : ev_wr M 58 (M.1 47 11).toNatClampNeg x1 = M1
            replace h := h M1 eM1.symm
            refine ev_aload_n dX10_stiffs_67 rfl ?_
            refine ev_getA dX10_stiffs_68 fl_WithoutE_33 lx_0 rfl ?_
            refine ev_getA dX10_stiffs_71 fl_WithoutE_376 lx_47 rfl ?_
            refine ev_aload_n dX10_stiffs_74 rfl ?_
            refine ev_getA dX10_stiffs_75 fl_WithoutE_33 lx_0 rfl ?_
            refine ev_getI dX10_stiffs_78 fl_WithoutE_370 lx_47 rfl ?_
            refine ev_iload_n dX10_stiffs_81 rfl ?_
            obtain ⟨c, h⟩ := h
            refine ev_iast dX10_stiffs_82 lx_59 c ?_
            generalize eM2 : ev_wr M1 59 (M1.1 47 11).toNatClampNeg x2 = M2
            replace h := h M2 eM2.symm
            refine ev_aload_n dX10_stiffs_83 rfl ?_
            refine ev_getA dX10_stiffs_84 fl_WithoutE_33 lx_0 rfl ?_
            refine ev_dup dX10_stiffs_87 rfl ?_
            refine ev_getI dX10_stiffs_88 fl_WithoutE_370 lx_47 rfl ?_
            refine ev_iconst (v := 1) dX10_stiffs_91 (by decide) ?_
            refine ev_iadd dX10_stiffs_92 ?_
            refine ev_putI dX10_stiffs_93 fp_WithoutE_370 lx_47 rfl rfl rfl ?_
            generalize eM3 : ev_wr M2 47 11 ((M2.1 47 11) + 1) = M3
            replace h := h M3 eM3.symm
            refine ev_aload_n dX10_stiffs_96 rfl ?_
            refine ev_getA dX10_stiffs_97 fl_WithoutE_33 lx_0 rfl ?_
            refine ev_getI dX10_stiffs_100 fl_WithoutE_370 lx_47 rfl ?_
            exact ev_iret dX10_stiffs_103 rfl h
          · replace h := h.2 c
            refine ev_bipush (v := -2) dX10_stiffs_48 (by decide) ?_
            exact ev_iret dX10_stiffs_50 rfl h
  · replace h := h.2 c
    refine ev_aload_n dX10_stiffs_5 rfl ?_
    refine ev_getA dX10_stiffs_6 fl_WithoutE_33 lx_0 rfl ?_
    refine ev_iconst (v := 0) dX10_stiffs_9 (by decide) ?_
    refine ev_putI dX10_stiffs_10 fp_WithoutE_370 lx_47 rfl rfl rfl ?_
    generalize eM4 : ev_wr M 47 11 0 = M4
    replace h := h M4 eM4.symm
    refine ev_iconst (v := 0) dX10_stiffs_13 (by decide) ?_
    exact ev_iret dX10_stiffs_14 rfl h
theorem dX10_page_0 : decode cX10_page 0 = .ok (.iload_n 1, 1) := by decide +kernel
theorem dX10_page_1 : decode cX10_page 1 = .ok (.iconst (-1), 1) := by decide +kernel
theorem dX10_page_2 : decode cX10_page 2 = .ok (.if_icmp .ne 13, 3) := by decide +kernel
theorem dX10_page_5 : decode cX10_page 5 = .ok (.aload_n 0, 1) := by decide +kernel
theorem dX10_page_6 : decode cX10_page 6 = .ok (.getfield 33, 3) := by decide +kernel
theorem dX10_page_9 : decode cX10_page 9 = .ok (.iconst 0, 1) := by decide +kernel
theorem dX10_page_10 : decode cX10_page 10 = .ok (.putfield 404, 3) := by decide +kernel
theorem dX10_page_13 : decode cX10_page 13 = .ok (.iconst 0, 1) := by decide +kernel
theorem dX10_page_14 : decode cX10_page 14 = .ok (.ireturn, 1) := by decide +kernel
theorem dX10_page_15 : decode cX10_page 15 = .ok (.aload_n 0, 1) := by decide +kernel
theorem dX10_page_16 : decode cX10_page 16 = .ok (.getfield 19, 3) := by decide +kernel
theorem dX10_page_19 : decode cX10_page 19 = .ok (.iload_n 1, 1) := by decide +kernel
theorem dX10_page_20 : decode cX10_page 20 = .ok (.invokevirtual 191, 3) := by decide +kernel
theorem dX10_page_23 : decode cX10_page 23 = .ok (.ifCond .ne 12, 3) := by decide +kernel
theorem dX10_page_26 : decode cX10_page 26 = .ok (.aload_n 0, 1) := by decide +kernel
theorem dX10_page_27 : decode cX10_page 27 = .ok (.iconst 0, 1) := by decide +kernel
theorem dX10_page_28 : decode cX10_page 28 = .ok (.invokevirtual 185, 3) := by decide +kernel
theorem dX10_page_31 : decode cX10_page 31 = .ok (.pop, 1) := by decide +kernel
theorem dX10_page_32 : decode cX10_page 32 = .ok (.bipush (-2), 2) := by decide +kernel
theorem dX10_page_34 : decode cX10_page 34 = .ok (.ireturn, 1) := by decide +kernel
theorem dX10_page_35 : decode cX10_page 35 = .ok (.aload_n 0, 1) := by decide +kernel
theorem dX10_page_36 : decode cX10_page 36 = .ok (.getfield 33, 3) := by decide +kernel
theorem dX10_page_39 : decode cX10_page 39 = .ok (.getfield 404, 3) := by decide +kernel
theorem dX10_page_42 : decode cX10_page 42 = .ok (.bipush 8, 2) := by decide +kernel
theorem dX10_page_44 : decode cX10_page 44 = .ok (.if_icmp .lt 12, 3) := by decide +kernel
theorem dX10_page_47 : decode cX10_page 47 = .ok (.aload_n 0, 1) := by decide +kernel
theorem dX10_page_48 : decode cX10_page 48 = .ok (.iconst 1, 1) := by decide +kernel
theorem dX10_page_49 : decode cX10_page 49 = .ok (.invokevirtual 185, 3) := by decide +kernel
theorem dX10_page_52 : decode cX10_page 52 = .ok (.pop, 1) := by decide +kernel
theorem dX10_page_53 : decode cX10_page 53 = .ok (.bipush (-2), 2) := by decide +kernel
theorem dX10_page_55 : decode cX10_page 55 = .ok (.ireturn, 1) := by decide +kernel
theorem dX10_page_56 : decode cX10_page 56 = .ok (.aload_n 0, 1) := by decide +kernel
theorem dX10_page_57 : decode cX10_page 57 = .ok (.getfield 33, 3) := by decide +kernel
theorem dX10_page_60 : decode cX10_page 60 = .ok (.getfield 407, 3) := by decide +kernel
theorem dX10_page_63 : decode cX10_page 63 = .ok (.aload_n 0, 1) := by decide +kernel
theorem dX10_page_64 : decode cX10_page 64 = .ok (.getfield 33, 3) := by decide +kernel
theorem dX10_page_67 : decode cX10_page 67 = .ok (.getfield 404, 3) := by decide +kernel
theorem dX10_page_70 : decode cX10_page 70 = .ok (.iload_n 1, 1) := by decide +kernel
theorem dX10_page_71 : decode cX10_page 71 = .ok (.iastore, 1) := by decide +kernel
theorem dX10_page_72 : decode cX10_page 72 = .ok (.aload_n 0, 1) := by decide +kernel
theorem dX10_page_73 : decode cX10_page 73 = .ok (.getfield 33, 3) := by decide +kernel
theorem dX10_page_76 : decode cX10_page 76 = .ok (.dup, 1) := by decide +kernel
theorem dX10_page_77 : decode cX10_page 77 = .ok (.getfield 404, 3) := by decide +kernel
theorem dX10_page_80 : decode cX10_page 80 = .ok (.iconst 1, 1) := by decide +kernel
theorem dX10_page_81 : decode cX10_page 81 = .ok (.iadd, 1) := by decide +kernel
theorem dX10_page_82 : decode cX10_page 82 = .ok (.putfield 404, 3) := by decide +kernel
theorem dX10_page_85 : decode cX10_page 85 = .ok (.aload_n 0, 1) := by decide +kernel
theorem dX10_page_86 : decode cX10_page 86 = .ok (.getfield 33, 3) := by decide +kernel
theorem dX10_page_89 : decode cX10_page 89 = .ok (.getfield 404, 3) := by decide +kernel
theorem dX10_page_92 : decode cX10_page 92 = .ok (.ireturn, 1) := by decide +kernel
theorem gX10_page_0 {d : Nat} {M : ev_Mem} {Q : Option Value → ev_Mem → Prop} {x1 : Int32} (h : (((¬ x1 = (-1)) → ((okW M) ∧ ((((iin x1 0 (M.1 3 5 - 1)) = true) → ((((M.1 47 5) < 8) → (vp_in (M.1 47 5) 8 ∧ (∀ M1 : ev_Mem, M1 = ev_wr M 50 (M.1 47 5).toNatClampNeg x1 → (∀ M2 : ev_Mem, M2 = ev_wr M1 47 5 ((M1.1 47 5) + 1) → (Q (some (.int (M2.1 47 5))) M2))))) ∧ ((¬ (M.1 47 5) < 8) → ((vp_in (1 : Int32) 3) ∧ (∀ M3 : ev_Mem, M3 = rfs M 117 (1 : Int32).toNatClampNeg → (Q (some (.int (-2))) M3)))))) ∧ (((iin x1 0 (M.1 3 5 - 1)) = false) → ((vp_in (0 : Int32) 3) ∧ (∀ M4 : ev_Mem, M4 = rfs M 117 (0 : Int32).toNatClampNeg → (Q (some (.int (-2))) M4))))))) ∧ ((x1 = (-1)) → (∀ M5 : ev_Mem, M5 = ev_wr M 47 5 0 → (Q (some (.int 0)) M5))))) : Ev LX (d + 1) mX10_page 0 [some (.ref 0), some (.int x1)] [] M Q := by
  refine ev_iload_n dX10_page_0 rfl ?_
  refine ev_iconst (v := -1) dX10_page_1 (by decide) ?_
  refine ev_icmp_ne (tgt := 15) dX10_page_2 (by decide) (fun c => ?_) (fun c => ?_)
  · replace h := h.1 c
    refine ev_aload_n dX10_page_15 rfl ?_
    refine ev_getA dX10_page_16 fl_WithoutE_19 lx_0 rfl ?_
    refine ev_iload_n dX10_page_19 rfl ?_
    obtain ⟨p1, h⟩ := h
    refine ev_callV [.int x1] dX10_page_20 ml_WithoutE_191 lx_3 rfl rfl (Nat.le_of_ble_eq_true rfl) (kX0_hasWord p1) ?_
    rintro zr zM ⟨q1, q2⟩
    rw [q1, q2]
    show Ev LX (d + 1) mX10_page 23 [some (.ref 0), some (.int x1)] [(.int (bi (iin x1 0 (M.1 3 5 - 1))))] M Q
    refine ev_if_ne (tgt := 35) dX10_page_23 (by decide) (fun c => ?_) (fun c => ?_)
    · replace h := h.1 ((bi_n0 _).mp c)
      refine ev_aload_n dX10_page_35 rfl ?_
      refine ev_getA dX10_page_36 fl_WithoutE_33 lx_0 rfl ?_
      refine ev_getI dX10_page_39 fl_WithoutE_404 lx_47 rfl ?_
      refine ev_bipush (v := 8) dX10_page_42 (by decide) ?_
      refine ev_icmp_lt (tgt := 56) dX10_page_44 (by decide) (fun c => ?_) (fun c => ?_)
      · replace h := h.1 c
        refine ev_aload_n dX10_page_56 rfl ?_
        refine ev_getA dX10_page_57 fl_WithoutE_33 lx_0 rfl ?_
        refine ev_getA dX10_page_60 fl_WithoutE_407 lx_47 rfl ?_
        refine ev_aload_n dX10_page_63 rfl ?_
        refine ev_getA dX10_page_64 fl_WithoutE_33 lx_0 rfl ?_
        refine ev_getI dX10_page_67 fl_WithoutE_404 lx_47 rfl ?_
        refine ev_iload_n dX10_page_70 rfl ?_
        obtain ⟨c, h⟩ := h
        refine ev_iast dX10_page_71 lx_50 c ?_
        generalize eM1 : ev_wr M 50 (M.1 47 5).toNatClampNeg x1 = M1
        replace h := h M1 eM1.symm
        refine ev_aload_n dX10_page_72 rfl ?_
        refine ev_getA dX10_page_73 fl_WithoutE_33 lx_0 rfl ?_
        refine ev_dup dX10_page_76 rfl ?_
        refine ev_getI dX10_page_77 fl_WithoutE_404 lx_47 rfl ?_
        refine ev_iconst (v := 1) dX10_page_80 (by decide) ?_
        refine ev_iadd dX10_page_81 ?_
        refine ev_putI dX10_page_82 fp_WithoutE_404 lx_47 rfl rfl rfl ?_
        generalize eM2 : ev_wr M1 47 5 ((M1.1 47 5) + 1) = M2
        replace h := h M2 eM2.symm
        refine ev_aload_n dX10_page_85 rfl ?_
        refine ev_getA dX10_page_86 fl_WithoutE_33 lx_0 rfl ?_
        refine ev_getI dX10_page_89 fl_WithoutE_404 lx_47 rfl ?_
        exact ev_iret dX10_page_92 rfl h
      · replace h := h.2 c
        refine ev_aload_n dX10_page_47 rfl ?_
        refine ev_iconst (v := 1) dX10_page_48 (by decide) ?_
        obtain ⟨p1, h⟩ := h
        refine ev_callV [.int 1] dX10_page_49 ml_WithoutE_185 lx_0 rfl rfl (Nat.le_of_ble_eq_true rfl) (qX10_refuse p1) ?_
        rintro zr zM ⟨q1, q2⟩
        rw [q1, q2]
        generalize eM3 : rfs M 117 (1 : Int32).toNatClampNeg = M3
        replace h := h M3 eM3.symm
        show Ev LX (d + 1) mX10_page 52 [some (.ref 0), some (.int x1)] [(.int (-1))] M3 Q
        refine ev_pop dX10_page_52 rfl ?_
        refine ev_bipush (v := -2) dX10_page_53 (by decide) ?_
        exact ev_iret dX10_page_55 rfl h
    · replace h := h.2 ((bi_0 _).mp c)
      refine ev_aload_n dX10_page_26 rfl ?_
      refine ev_iconst (v := 0) dX10_page_27 (by decide) ?_
      obtain ⟨p1, h⟩ := h
      refine ev_callV [.int 0] dX10_page_28 ml_WithoutE_185 lx_0 rfl rfl (Nat.le_of_ble_eq_true rfl) (qX10_refuse p1) ?_
      rintro zr zM ⟨q1, q2⟩
      rw [q1, q2]
      generalize eM4 : rfs M 117 (0 : Int32).toNatClampNeg = M4
      replace h := h M4 eM4.symm
      show Ev LX (d + 1) mX10_page 31 [some (.ref 0), some (.int x1)] [(.int (-1))] M4 Q
      refine ev_pop dX10_page_31 rfl ?_
      refine ev_bipush (v := -2) dX10_page_32 (by decide) ?_
      exact ev_iret dX10_page_34 rfl h
  · replace h := h.2 c
    refine ev_aload_n dX10_page_5 rfl ?_
    refine ev_getA dX10_page_6 fl_WithoutE_33 lx_0 rfl ?_
    refine ev_iconst (v := 0) dX10_page_9 (by decide) ?_
    refine ev_putI dX10_page_10 fp_WithoutE_404 lx_47 rfl rfl rfl ?_
    generalize eM5 : ev_wr M 47 5 0 = M5
    replace h := h M5 eM5.symm
    refine ev_iconst (v := 0) dX10_page_13 (by decide) ?_
    exact ev_iret dX10_page_14 rfl h
theorem dX10_letters_0 : decode cX10_letters 0 = .ok (.iload_n 1, 1) := by decide +kernel
theorem dX10_letters_1 : decode cX10_letters 1 = .ok (.invokestatic 214, 3) := by decide +kernel
theorem dX10_letters_4 : decode cX10_letters 4 = .ok (.ifCond .ne 5, 3) := by decide +kernel
theorem dX10_letters_7 : decode cX10_letters 7 = .ok (.iconst (-1), 1) := by decide +kernel
theorem dX10_letters_8 : decode cX10_letters 8 = .ok (.ireturn, 1) := by decide +kernel
theorem dX10_letters_9 : decode cX10_letters 9 = .ok (.iconst 0, 1) := by decide +kernel
theorem dX10_letters_10 : decode cX10_letters 10 = .ok (.istore_n 2, 1) := by decide +kernel
theorem dX10_letters_11 : decode cX10_letters 11 = .ok (.iload_n 1, 1) := by decide +kernel
theorem dX10_letters_12 : decode cX10_letters 12 = .ok (.istore_n 3, 1) := by decide +kernel
theorem dX10_letters_13 : decode cX10_letters 13 = .ok (.iconst 0, 1) := by decide +kernel
theorem dX10_letters_14 : decode cX10_letters 14 = .ok (.istore 4, 2) := by decide +kernel
theorem dX10_letters_16 : decode cX10_letters 16 = .ok (.iload 4, 2) := by decide +kernel
theorem dX10_letters_18 : decode cX10_letters 18 = .ok (.bipush 26, 2) := by decide +kernel
theorem dX10_letters_20 : decode cX10_letters 20 = .ok (.if_icmp .ge 35, 3) := by decide +kernel
theorem dX10_letters_23 : decode cX10_letters 23 = .ok (.aload_n 0, 1) := by decide +kernel
theorem dX10_letters_24 : decode cX10_letters 24 = .ok (.getfield 33, 3) := by decide +kernel
theorem dX10_letters_27 : decode cX10_letters 27 = .ok (.getfield 217, 3) := by decide +kernel
theorem dX10_letters_30 : decode cX10_letters 30 = .ok (.iload_n 3, 1) := by decide +kernel
theorem dX10_letters_31 : decode cX10_letters 31 = .ok (.iaload, 1) := by decide +kernel
theorem dX10_letters_32 : decode cX10_letters 32 = .ok (.istore_n 3, 1) := by decide +kernel
theorem dX10_letters_33 : decode cX10_letters 33 = .ok (.iload_n 3, 1) := by decide +kernel
theorem dX10_letters_34 : decode cX10_letters 34 = .ok (.invokestatic 214, 3) := by decide +kernel
theorem dX10_letters_37 : decode cX10_letters 37 = .ok (.ifCond .ne 6, 3) := by decide +kernel
theorem dX10_letters_40 : decode cX10_letters 40 = .ok (.goto 15, 3) := by decide +kernel
theorem dX10_letters_43 : decode cX10_letters 43 = .ok (.iload_n 2, 1) := by decide +kernel
theorem dX10_letters_44 : decode cX10_letters 44 = .ok (.iconst 1, 1) := by decide +kernel
theorem dX10_letters_45 : decode cX10_letters 45 = .ok (.iload_n 3, 1) := by decide +kernel
theorem dX10_letters_46 : decode cX10_letters 46 = .ok (.ishl, 1) := by decide +kernel
theorem dX10_letters_47 : decode cX10_letters 47 = .ok (.ior, 1) := by decide +kernel
theorem dX10_letters_48 : decode cX10_letters 48 = .ok (.istore_n 2, 1) := by decide +kernel
theorem dX10_letters_49 : decode cX10_letters 49 = .ok (.iinc 4 1, 3) := by decide +kernel
theorem dX10_letters_52 : decode cX10_letters 52 = .ok (.goto (-36), 3) := by decide +kernel
theorem dX10_letters_55 : decode cX10_letters 55 = .ok (.iload_n 2, 1) := by decide +kernel
theorem dX10_letters_56 : decode cX10_letters 56 = .ok (.iconst 1, 1) := by decide +kernel
theorem dX10_letters_57 : decode cX10_letters 57 = .ok (.iload_n 1, 1) := by decide +kernel
theorem dX10_letters_58 : decode cX10_letters 58 = .ok (.ishl, 1) := by decide +kernel
theorem dX10_letters_59 : decode cX10_letters 59 = .ok (.iconst (-1), 1) := by decide +kernel
theorem dX10_letters_60 : decode cX10_letters 60 = .ok (.ixor, 1) := by decide +kernel
theorem dX10_letters_61 : decode cX10_letters 61 = .ok (.iand, 1) := by decide +kernel
theorem dX10_letters_62 : decode cX10_letters 62 = .ok (.ireturn, 1) := by decide +kernel
theorem gX10_letters_0 {d : Nat} {M : ev_Mem} {Q : Option Value → ev_Mem → Prop} {x1 : Int32} (h : ((((iin x1 0 25) = true) → (Ev LX (d + 1) mX10_letters 16 [some (.ref 0), some (.int x1), some (.int 0), some (.int x1), some (.int 0)] [] M Q)) ∧ (((iin x1 0 25) = false) → (Q (some (.int (-1))) M)))) : Ev LX (d + 1) mX10_letters 0 [some (.ref 0), some (.int x1), none, none, none] [] M Q := by
  refine ev_iload_n dX10_letters_0 rfl ?_
  refine ev_callS [.int x1] dX10_letters_1 ml_WithoutE_214 rfl (Nat.le_of_ble_eq_true rfl) (kX10_isLetter) ?_
  rintro zr zM ⟨q1, q2⟩
  rw [q1, q2]
  show Ev LX (d + 1) mX10_letters 4 [some (.ref 0), some (.int x1), none, none, none] [(.int (bi (iin x1 0 25)))] M Q
  refine ev_if_ne (tgt := 9) dX10_letters_4 (by decide) (fun c => ?_) (fun c => ?_)
  · replace h := h.1 ((bi_n0 _).mp c)
    refine ev_iconst (v := 0) dX10_letters_9 (by decide) ?_
    refine ev_istore_n (ls2 := [some (.ref 0), some (.int x1), some (.int 0), none, none]) dX10_letters_10 (Nat.le_of_ble_eq_true rfl) rfl ?_
    refine ev_iload_n dX10_letters_11 rfl ?_
    refine ev_istore_n (ls2 := [some (.ref 0), some (.int x1), some (.int 0), some (.int x1), none]) dX10_letters_12 (Nat.le_of_ble_eq_true rfl) rfl ?_
    refine ev_iconst (v := 0) dX10_letters_13 (by decide) ?_
    refine ev_istore (ls2 := [some (.ref 0), some (.int x1), some (.int 0), some (.int x1), some (.int 0)]) dX10_letters_14 (Nat.le_of_ble_eq_true rfl) rfl ?_
    exact h
  · replace h := h.2 ((bi_0 _).mp c)
    refine ev_iconst (v := -1) dX10_letters_7 (by decide) ?_
    exact ev_iret dX10_letters_8 rfl h
theorem gX10_letters_16 {d : Nat} {M : ev_Mem} {Q : Option Value → ev_Mem → Prop} {x1 x2 x3 x4 : Int32} (h : (((26 ≤ x4) → (Q (some (.int (x2 &&& ((1 <<< (x1 &&& 31)) ^^^ (-1))))) M)) ∧ ((¬ 26 ≤ x4) → (vp_in x3 26 ∧ ((((iin (M.1 48 x3.toNatClampNeg) 0 25) = true) → (∀ v1 : Int32, v1 = x2 ||| (1 <<< ((M.1 48 x3.toNatClampNeg) &&& 31)) → (Ev LX (d + 1) mX10_letters 16 [some (.ref 0), some (.int x1), some (.int v1), some (.int (M.1 48 x3.toNatClampNeg)), some (.int (x4 + 1))] [] M Q))) ∧ (((iin (M.1 48 x3.toNatClampNeg) 0 25) = false) → (Q (some (.int (x2 &&& ((1 <<< (x1 &&& 31)) ^^^ (-1))))) M))))))) : Ev LX (d + 1) mX10_letters 16 [some (.ref 0), some (.int x1), some (.int x2), some (.int x3), some (.int x4)] [] M Q := by
  refine ev_iload dX10_letters_16 rfl ?_
  refine ev_bipush (v := 26) dX10_letters_18 (by decide) ?_
  refine ev_icmp_ge (tgt := 55) dX10_letters_20 (by decide) (fun c => ?_) (fun c => ?_)
  · replace h := h.1 c
    refine ev_iload_n dX10_letters_55 rfl ?_
    refine ev_iconst (v := 1) dX10_letters_56 (by decide) ?_
    refine ev_iload_n dX10_letters_57 rfl ?_
    refine ev_ishl dX10_letters_58 ?_
    refine ev_iconst (v := -1) dX10_letters_59 (by decide) ?_
    refine ev_ixor dX10_letters_60 ?_
    refine ev_iand dX10_letters_61 ?_
    exact ev_iret dX10_letters_62 rfl h
  · replace h := h.2 c
    refine ev_aload_n dX10_letters_23 rfl ?_
    refine ev_getA dX10_letters_24 fl_WithoutE_33 lx_0 rfl ?_
    refine ev_getA dX10_letters_27 fl_WithoutE_217 lx_47 rfl ?_
    refine ev_iload_n dX10_letters_30 rfl ?_
    obtain ⟨c, h⟩ := h
    refine ev_iald dX10_letters_31 lx_48 c ?_
    refine ev_istore_n (ls2 := [some (.ref 0), some (.int x1), some (.int x2), some (.int (M.1 48 x3.toNatClampNeg)), some (.int x4)]) dX10_letters_32 (Nat.le_of_ble_eq_true rfl) rfl ?_
    refine ev_iload_n dX10_letters_33 rfl ?_
    refine ev_callS [.int (M.1 48 x3.toNatClampNeg)] dX10_letters_34 ml_WithoutE_214 rfl (Nat.le_of_ble_eq_true rfl) (kX10_isLetter) ?_
    rintro zr zM ⟨q1, q2⟩
    rw [q1, q2]
    show Ev LX (d + 1) mX10_letters 37 [some (.ref 0), some (.int x1), some (.int x2), some (.int (M.1 48 x3.toNatClampNeg)), some (.int x4)] [(.int (bi (iin (M.1 48 x3.toNatClampNeg) 0 25)))] M Q
    refine ev_if_ne (tgt := 43) dX10_letters_37 (by decide) (fun c => ?_) (fun c => ?_)
    · replace h := h.1 ((bi_n0 _).mp c)
      refine ev_iload_n dX10_letters_43 rfl ?_
      refine ev_iconst (v := 1) dX10_letters_44 (by decide) ?_
      refine ev_iload_n dX10_letters_45 rfl ?_
      refine ev_ishl dX10_letters_46 ?_
      refine ev_ior dX10_letters_47 ?_
      refine ev_istore_n (ls2 := [some (.ref 0), some (.int x1), some (.int (x2 ||| (1 <<< ((M.1 48 x3.toNatClampNeg) &&& 31)))), some (.int (M.1 48 x3.toNatClampNeg)), some (.int x4)]) dX10_letters_48 (Nat.le_of_ble_eq_true rfl) rfl ?_
      generalize ev1 : x2 ||| (1 <<< ((M.1 48 x3.toNatClampNeg) &&& 31)) = v1
      replace h := h v1 ev1.symm
      refine ev_iinc (v := x4 + 1) (ls2 := [some (.ref 0), some (.int x1), some (.int v1), some (.int (M.1 48 x3.toNatClampNeg)), some (.int (x4 + 1))]) dX10_letters_49 rfl rfl rfl ?_
      refine ev_goto (tgt := 16) dX10_letters_52 (by decide) ?_
      exact h
    · replace h := h.2 ((bi_0 _).mp c)
      refine ev_goto (tgt := 55) dX10_letters_40 (by decide) ?_
      refine ev_iload_n dX10_letters_55 rfl ?_
      refine ev_iconst (v := 1) dX10_letters_56 (by decide) ?_
      refine ev_iload_n dX10_letters_57 rfl ?_
      refine ev_ishl dX10_letters_58 ?_
      refine ev_iconst (v := -1) dX10_letters_59 (by decide) ?_
      refine ev_ixor dX10_letters_60 ?_
      refine ev_iand dX10_letters_61 ?_
      exact ev_iret dX10_letters_62 rfl h
theorem dX10_made_0 : decode cX10_made 0 = .ok (.iload_n 1, 1) := by decide +kernel
theorem dX10_made_1 : decode cX10_made 1 = .ok (.invokestatic 214, 3) := by decide +kernel
theorem dX10_made_4 : decode cX10_made 4 = .ok (.ifCond .eq 25, 3) := by decide +kernel
theorem dX10_made_7 : decode cX10_made 7 = .ok (.iload_n 2, 1) := by decide +kernel
theorem dX10_made_8 : decode cX10_made 8 = .ok (.invokestatic 214, 3) := by decide +kernel
theorem dX10_made_11 : decode cX10_made 11 = .ok (.ifCond .eq 18, 3) := by decide +kernel
theorem dX10_made_14 : decode cX10_made 14 = .ok (.iload_n 1, 1) := by decide +kernel
theorem dX10_made_15 : decode cX10_made 15 = .ok (.iload_n 2, 1) := by decide +kernel
theorem dX10_made_16 : decode cX10_made 16 = .ok (.if_icmp .eq 13, 3) := by decide +kernel
theorem dX10_made_19 : decode cX10_made 19 = .ok (.iload_n 3, 1) := by decide +kernel
theorem dX10_made_20 : decode cX10_made 20 = .ok (.ifCond .lt 9, 3) := by decide +kernel
theorem dX10_made_23 : decode cX10_made 23 = .ok (.iload_n 3, 1) := by decide +kernel
theorem dX10_made_24 : decode cX10_made 24 = .ok (.bipush 9, 2) := by decide +kernel
theorem dX10_made_26 : decode cX10_made 26 = .ok (.if_icmp .le 11, 3) := by decide +kernel
theorem dX10_made_29 : decode cX10_made 29 = .ok (.aload_n 0, 1) := by decide +kernel
theorem dX10_made_30 : decode cX10_made 30 = .ok (.iconst 0, 1) := by decide +kernel
theorem dX10_made_31 : decode cX10_made 31 = .ok (.invokevirtual 185, 3) := by decide +kernel
theorem dX10_made_34 : decode cX10_made 34 = .ok (.pop, 1) := by decide +kernel
theorem dX10_made_35 : decode cX10_made 35 = .ok (.iconst 0, 1) := by decide +kernel
theorem dX10_made_36 : decode cX10_made 36 = .ok (.ireturn, 1) := by decide +kernel
theorem dX10_made_37 : decode cX10_made 37 = .ok (.aload_n 0, 1) := by decide +kernel
theorem dX10_made_38 : decode cX10_made 38 = .ok (.getfield 33, 3) := by decide +kernel
theorem dX10_made_41 : decode cX10_made 41 = .ok (.getfield 217, 3) := by decide +kernel
theorem dX10_made_44 : decode cX10_made 44 = .ok (.iload_n 1, 1) := by decide +kernel
theorem dX10_made_45 : decode cX10_made 45 = .ok (.iload_n 2, 1) := by decide +kernel
theorem dX10_made_46 : decode cX10_made 46 = .ok (.iastore, 1) := by decide +kernel
theorem dX10_made_47 : decode cX10_made 47 = .ok (.aload_n 0, 1) := by decide +kernel
theorem dX10_made_48 : decode cX10_made 48 = .ok (.getfield 33, 3) := by decide +kernel
theorem dX10_made_51 : decode cX10_made 51 = .ok (.getfield 220, 3) := by decide +kernel
theorem dX10_made_54 : decode cX10_made 54 = .ok (.iload_n 1, 1) := by decide +kernel
theorem dX10_made_55 : decode cX10_made 55 = .ok (.iload_n 3, 1) := by decide +kernel
theorem dX10_made_56 : decode cX10_made 56 = .ok (.iastore, 1) := by decide +kernel
theorem dX10_made_57 : decode cX10_made 57 = .ok (.iconst 1, 1) := by decide +kernel
theorem dX10_made_58 : decode cX10_made 58 = .ok (.ireturn, 1) := by decide +kernel
theorem gX10_made_0 {d : Nat} {M : ev_Mem} {Q : Option Value → ev_Mem → Prop} {x1 x2 x3 : Int32} (h : ((((iin x1 0 25) = false) → ((vp_in (0 : Int32) 3) ∧ (∀ M1 : ev_Mem, M1 = rfs M 117 (0 : Int32).toNatClampNeg → (Q (some (.int 0)) M1)))) ∧ (((iin x1 0 25) = true) → ((((iin x2 0 25) = false) → ((vp_in (0 : Int32) 3) ∧ (∀ M2 : ev_Mem, M2 = rfs M 117 (0 : Int32).toNatClampNeg → (Q (some (.int 0)) M2)))) ∧ (((iin x2 0 25) = true) → (((x1 = x2) → ((vp_in (0 : Int32) 3) ∧ (∀ M3 : ev_Mem, M3 = rfs M 117 (0 : Int32).toNatClampNeg → (Q (some (.int 0)) M3)))) ∧ ((¬ x1 = x2) → (((x3 < 0) → ((vp_in (0 : Int32) 3) ∧ (∀ M4 : ev_Mem, M4 = rfs M 117 (0 : Int32).toNatClampNeg → (Q (some (.int 0)) M4)))) ∧ ((¬ x3 < 0) → (((x3 ≤ 9) → (vp_in x1 26 ∧ (∀ M5 : ev_Mem, M5 = ev_wr M 48 x1.toNatClampNeg x2 → (vp_in x1 26 ∧ (∀ M6 : ev_Mem, M6 = ev_wr M5 49 x1.toNatClampNeg x3 → (Q (some (.int 1)) M6)))))) ∧ ((¬ x3 ≤ 9) → ((vp_in (0 : Int32) 3) ∧ (∀ M7 : ev_Mem, M7 = rfs M 117 (0 : Int32).toNatClampNeg → (Q (some (.int 0)) M7)))))))))))))) : Ev LX (d + 1) mX10_made 0 [some (.ref 0), some (.int x1), some (.int x2), some (.int x3)] [] M Q := by
  refine ev_iload_n dX10_made_0 rfl ?_
  refine ev_callS [.int x1] dX10_made_1 ml_WithoutE_214 rfl (Nat.le_of_ble_eq_true rfl) (kX10_isLetter) ?_
  rintro zr zM ⟨q1, q2⟩
  rw [q1, q2]
  show Ev LX (d + 1) mX10_made 4 [some (.ref 0), some (.int x1), some (.int x2), some (.int x3)] [(.int (bi (iin x1 0 25)))] M Q
  refine ev_if_eq (tgt := 29) dX10_made_4 (by decide) (fun c => ?_) (fun c => ?_)
  · replace h := h.1 ((bi_0 _).mp c)
    refine ev_aload_n dX10_made_29 rfl ?_
    refine ev_iconst (v := 0) dX10_made_30 (by decide) ?_
    obtain ⟨p1, h⟩ := h
    refine ev_callV [.int 0] dX10_made_31 ml_WithoutE_185 lx_0 rfl rfl (Nat.le_of_ble_eq_true rfl) (qX10_refuse p1) ?_
    rintro zr zM ⟨q1, q2⟩
    rw [q1, q2]
    generalize eM1 : rfs M 117 (0 : Int32).toNatClampNeg = M1
    replace h := h M1 eM1.symm
    show Ev LX (d + 1) mX10_made 34 [some (.ref 0), some (.int x1), some (.int x2), some (.int x3)] [(.int (-1))] M1 Q
    refine ev_pop dX10_made_34 rfl ?_
    refine ev_iconst (v := 0) dX10_made_35 (by decide) ?_
    exact ev_zret dX10_made_36 rfl (by decide) h
  · replace h := h.2 ((bi_n0 _).mp c)
    refine ev_iload_n dX10_made_7 rfl ?_
    refine ev_callS [.int x2] dX10_made_8 ml_WithoutE_214 rfl (Nat.le_of_ble_eq_true rfl) (kX10_isLetter) ?_
    rintro zr zM ⟨q1, q2⟩
    rw [q1, q2]
    show Ev LX (d + 1) mX10_made 11 [some (.ref 0), some (.int x1), some (.int x2), some (.int x3)] [(.int (bi (iin x2 0 25)))] M Q
    refine ev_if_eq (tgt := 29) dX10_made_11 (by decide) (fun c => ?_) (fun c => ?_)
    · replace h := h.1 ((bi_0 _).mp c)
      refine ev_aload_n dX10_made_29 rfl ?_
      refine ev_iconst (v := 0) dX10_made_30 (by decide) ?_
      obtain ⟨p1, h⟩ := h
      refine ev_callV [.int 0] dX10_made_31 ml_WithoutE_185 lx_0 rfl rfl (Nat.le_of_ble_eq_true rfl) (qX10_refuse p1) ?_
      rintro zr zM ⟨q1, q2⟩
      rw [q1, q2]
      generalize eM2 : rfs M 117 (0 : Int32).toNatClampNeg = M2
      replace h := h M2 eM2.symm
      show Ev LX (d + 1) mX10_made 34 [some (.ref 0), some (.int x1), some (.int x2), some (.int x3)] [(.int (-1))] M2 Q
      refine ev_pop dX10_made_34 rfl ?_
      refine ev_iconst (v := 0) dX10_made_35 (by decide) ?_
      exact ev_zret dX10_made_36 rfl (by decide) h
    · replace h := h.2 ((bi_n0 _).mp c)
      refine ev_iload_n dX10_made_14 rfl ?_
      refine ev_iload_n dX10_made_15 rfl ?_
      refine ev_icmp_eq (tgt := 29) dX10_made_16 (by decide) (fun c => ?_) (fun c => ?_)
      · replace h := h.1 c
        refine ev_aload_n dX10_made_29 rfl ?_
        refine ev_iconst (v := 0) dX10_made_30 (by decide) ?_
        obtain ⟨p1, h⟩ := h
        refine ev_callV [.int 0] dX10_made_31 ml_WithoutE_185 lx_0 rfl rfl (Nat.le_of_ble_eq_true rfl) (qX10_refuse p1) ?_
        rintro zr zM ⟨q1, q2⟩
        rw [q1, q2]
        generalize eM3 : rfs M 117 (0 : Int32).toNatClampNeg = M3
        replace h := h M3 eM3.symm
        show Ev LX (d + 1) mX10_made 34 [some (.ref 0), some (.int x1), some (.int x2), some (.int x3)] [(.int (-1))] M3 Q
        refine ev_pop dX10_made_34 rfl ?_
        refine ev_iconst (v := 0) dX10_made_35 (by decide) ?_
        exact ev_zret dX10_made_36 rfl (by decide) h
      · replace h := h.2 c
        refine ev_iload_n dX10_made_19 rfl ?_
        refine ev_if_lt (tgt := 29) dX10_made_20 (by decide) (fun c => ?_) (fun c => ?_)
        · replace h := h.1 c
          refine ev_aload_n dX10_made_29 rfl ?_
          refine ev_iconst (v := 0) dX10_made_30 (by decide) ?_
          obtain ⟨p1, h⟩ := h
          refine ev_callV [.int 0] dX10_made_31 ml_WithoutE_185 lx_0 rfl rfl (Nat.le_of_ble_eq_true rfl) (qX10_refuse p1) ?_
          rintro zr zM ⟨q1, q2⟩
          rw [q1, q2]
          generalize eM4 : rfs M 117 (0 : Int32).toNatClampNeg = M4
          replace h := h M4 eM4.symm
          show Ev LX (d + 1) mX10_made 34 [some (.ref 0), some (.int x1), some (.int x2), some (.int x3)] [(.int (-1))] M4 Q
          refine ev_pop dX10_made_34 rfl ?_
          refine ev_iconst (v := 0) dX10_made_35 (by decide) ?_
          exact ev_zret dX10_made_36 rfl (by decide) h
        · replace h := h.2 c
          refine ev_iload_n dX10_made_23 rfl ?_
          refine ev_bipush (v := 9) dX10_made_24 (by decide) ?_
          refine ev_icmp_le (tgt := 37) dX10_made_26 (by decide) (fun c => ?_) (fun c => ?_)
          · replace h := h.1 c
            refine ev_aload_n dX10_made_37 rfl ?_
            refine ev_getA dX10_made_38 fl_WithoutE_33 lx_0 rfl ?_
            refine ev_getA dX10_made_41 fl_WithoutE_217 lx_47 rfl ?_
            refine ev_iload_n dX10_made_44 rfl ?_
            refine ev_iload_n dX10_made_45 rfl ?_
            obtain ⟨c, h⟩ := h
            refine ev_iast dX10_made_46 lx_48 c ?_
            generalize eM5 : ev_wr M 48 x1.toNatClampNeg x2 = M5
            replace h := h M5 eM5.symm
            refine ev_aload_n dX10_made_47 rfl ?_
            refine ev_getA dX10_made_48 fl_WithoutE_33 lx_0 rfl ?_
            refine ev_getA dX10_made_51 fl_WithoutE_220 lx_47 rfl ?_
            refine ev_iload_n dX10_made_54 rfl ?_
            refine ev_iload_n dX10_made_55 rfl ?_
            obtain ⟨c, h⟩ := h
            refine ev_iast dX10_made_56 lx_49 c ?_
            generalize eM6 : ev_wr M5 49 x1.toNatClampNeg x3 = M6
            replace h := h M6 eM6.symm
            refine ev_iconst (v := 1) dX10_made_57 (by decide) ?_
            exact ev_zret dX10_made_58 rfl (by decide) h
          · replace h := h.2 c
            refine ev_aload_n dX10_made_29 rfl ?_
            refine ev_iconst (v := 0) dX10_made_30 (by decide) ?_
            obtain ⟨p1, h⟩ := h
            refine ev_callV [.int 0] dX10_made_31 ml_WithoutE_185 lx_0 rfl rfl (Nat.le_of_ble_eq_true rfl) (qX10_refuse p1) ?_
            rintro zr zM ⟨q1, q2⟩
            rw [q1, q2]
            generalize eM7 : rfs M 117 (0 : Int32).toNatClampNeg = M7
            replace h := h M7 eM7.symm
            show Ev LX (d + 1) mX10_made 34 [some (.ref 0), some (.int x1), some (.int x2), some (.int x3)] [(.int (-1))] M7 Q
            refine ev_pop dX10_made_34 rfl ?_
            refine ev_iconst (v := 0) dX10_made_35 (by decide) ?_
            exact ev_zret dX10_made_36 rfl (by decide) h
theorem dX11_least_0 : decode cX11_least 0 = .ok (.aload_n 0, 1) := by decide +kernel
theorem dX11_least_1 : decode cX11_least 1 = .ok (.iload_n 1, 1) := by decide +kernel
theorem dX11_least_2 : decode cX11_least 2 = .ok (.invokevirtual 411, 3) := by decide +kernel
theorem dX11_least_5 : decode cX11_least 5 = .ok (.ifCond .eq 12, 3) := by decide +kernel
theorem dX11_least_8 : decode cX11_least 8 = .ok (.iload_n 2, 1) := by decide +kernel
theorem dX11_least_9 : decode cX11_least 9 = .ok (.iconst 0, 1) := by decide +kernel
theorem dX11_least_10 : decode cX11_least 10 = .ok (.iconst 2, 1) := by decide +kernel
theorem dX11_least_11 : decode cX11_least 11 = .ok (.invokestatic 80, 3) := by decide +kernel
theorem dX11_least_14 : decode cX11_least 14 = .ok (.ifCond .ne 5, 3) := by decide +kernel
theorem dX11_least_17 : decode cX11_least 17 = .ok (.iconst (-1), 1) := by decide +kernel
theorem dX11_least_18 : decode cX11_least 18 = .ok (.ireturn, 1) := by decide +kernel
theorem dX11_least_19 : decode cX11_least 19 = .ok (.aload_n 0, 1) := by decide +kernel
theorem dX11_least_20 : decode cX11_least 20 = .ok (.iload_n 1, 1) := by decide +kernel
theorem dX11_least_21 : decode cX11_least 21 = .ok (.invokevirtual 393, 3) := by decide +kernel
theorem dX11_least_24 : decode cX11_least 24 = .ok (.istore_n 3, 1) := by decide +kernel
theorem dX11_least_25 : decode cX11_least 25 = .ok (.iload_n 3, 1) := by decide +kernel
theorem dX11_least_26 : decode cX11_least 26 = .ok (.iconst (-1), 1) := by decide +kernel
theorem dX11_least_27 : decode cX11_least 27 = .ok (.if_icmp .eq 7, 3) := by decide +kernel
theorem dX11_least_30 : decode cX11_least 30 = .ok (.iload_n 2, 1) := by decide +kernel
theorem dX11_least_31 : decode cX11_least 31 = .ok (.ifCond .ne 7, 3) := by decide +kernel
theorem dX11_least_34 : decode cX11_least 34 = .ok (.iload_n 3, 1) := by decide +kernel
theorem dX11_least_35 : decode cX11_least 35 = .ok (.goto 21, 3) := by decide +kernel
theorem dX11_least_38 : decode cX11_least 38 = .ok (.iload_n 2, 1) := by decide +kernel
theorem dX11_least_39 : decode cX11_least 39 = .ok (.iconst 1, 1) := by decide +kernel
theorem dX11_least_40 : decode cX11_least 40 = .ok (.if_icmp .ne 11, 3) := by decide +kernel
theorem dX11_least_43 : decode cX11_least 43 = .ok (.aload_n 0, 1) := by decide +kernel
theorem dX11_least_44 : decode cX11_least 44 = .ok (.iload_n 1, 1) := by decide +kernel
theorem dX11_least_45 : decode cX11_least 45 = .ok (.invokevirtual 380, 3) := by decide +kernel
theorem dX11_least_48 : decode cX11_least 48 = .ok (.goto 8, 3) := by decide +kernel
theorem dX11_least_51 : decode cX11_least 51 = .ok (.aload_n 0, 1) := by decide +kernel
theorem dX11_least_52 : decode cX11_least 52 = .ok (.iload_n 1, 1) := by decide +kernel
theorem dX11_least_53 : decode cX11_least 53 = .ok (.invokevirtual 445, 3) := by decide +kernel
theorem dX11_least_56 : decode cX11_least 56 = .ok (.ireturn, 1) := by decide +kernel
theorem gX11_least_0 {d : Nat} {M : ev_Mem} {Q : Option Value → ev_Mem → Prop} {x1 x2 : Int32} (h : ((((iin x1 0 (M.1 1 1 - 1)) = false) → (Q (some (.int (-1))) M)) ∧ (((iin x1 0 (M.1 1 1 - 1)) = true) → ((((iin x2 (0 : Int32) (2 : Int32)) = true) → (∃ Q2 : Option Value → ev_Mem → Prop, Cl LM (d + 1) mX11_saidOf [.ref 0, .int x1] M Q2 ∧ ∀ (zr : Option Value) (zM : ev_Mem), Q2 zr zM → Ev LM (d + 2) mX11_least 24 [some (.ref 0), some (.int x1), some (.int x2), none] (zr.toList ++ []) zM Q)) ∧ (((iin x2 (0 : Int32) (2 : Int32)) = false) → (Q (some (.int (-1))) M)))))) : Ev LM (d + 2) mX11_least 0 [some (.ref 0), some (.int x1), some (.int x2), none] [] M Q := by
  refine ev_aload_n dX11_least_0 rfl ?_
  refine ev_iload_n dX11_least_1 rfl ?_
  refine ev_callV [.int x1] dX11_least_2 ml_WithoutEModel_411 lm_0 rfl rfl (Nat.le_of_ble_eq_true rfl) (kX11_isSentence) ?_
  rintro zr zM ⟨q1, q2⟩
  rw [q1, q2]
  show Ev LM (d + 2) mX11_least 5 [some (.ref 0), some (.int x1), some (.int x2), none] [(.int (bi (iin x1 0 (M.1 1 1 - 1))))] M Q
  refine ev_if_eq (tgt := 17) dX11_least_5 (by decide) (fun c => ?_) (fun c => ?_)
  · replace h := h.1 ((bi_0 _).mp c)
    refine ev_iconst (v := -1) dX11_least_17 (by decide) ?_
    exact ev_iret dX11_least_18 rfl h
  · replace h := h.2 ((bi_n0 _).mp c)
    refine ev_iload_n dX11_least_8 rfl ?_
    refine ev_iconst (v := 0) dX11_least_9 (by decide) ?_
    refine ev_iconst (v := 2) dX11_least_10 (by decide) ?_
    refine ev_callS [.int x2, .int 0, .int 2] dX11_least_11 ml_WithoutEModel_80 rfl (Nat.le_of_ble_eq_true rfl) (kX11_isIn) ?_
    rintro zr zM ⟨q1, q2⟩
    rw [q1, q2]
    show Ev LM (d + 2) mX11_least 14 [some (.ref 0), some (.int x1), some (.int x2), none] [(.int (bi (iin x2 (0 : Int32) (2 : Int32))))] M Q
    refine ev_if_ne (tgt := 19) dX11_least_14 (by decide) (fun c => ?_) (fun c => ?_)
    · replace h := h.1 ((bi_n0 _).mp c)
      refine ev_aload_n dX11_least_19 rfl ?_
      refine ev_iload_n dX11_least_20 rfl ?_
      obtain ⟨Q2, hc, h⟩ := h
      refine ev_callV [.int x1] dX11_least_21 ml_WithoutEModel_393 lm_0 rfl rfl (Nat.le_of_ble_eq_true rfl) hc (fun zr zM q => ?_)
      exact h zr zM q
    · replace h := h.2 ((bi_0 _).mp c)
      refine ev_iconst (v := -1) dX11_least_17 (by decide) ?_
      exact ev_iret dX11_least_18 rfl h
theorem gX11_least_24 {d : Nat} {M : ev_Mem} {Q : Option Value → ev_Mem → Prop} {x1 x2 s0 : Int32} (h : (((s0 = (-1)) → (Q (some (.int s0)) M)) ∧ ((¬ s0 = (-1)) → (((¬ x2 = 0) → (((¬ x2 = 1) → (∃ Q2 : Option Value → ev_Mem → Prop, Cl LM d mX11_lettersIn [.ref 0, .int x1] M Q2 ∧ ∀ (zr : Option Value) (zM : ev_Mem), Q2 zr zM → Ev LM (d + 1) mX11_least 56 [none, none, none, none] (zr.toList ++ []) zM Q)) ∧ ((x2 = 1) → (∃ Q2 : Option Value → ev_Mem → Prop, Cl LM d mX11_secondsIn [.ref 0, .int x1] M Q2 ∧ ∀ (zr : Option Value) (zM : ev_Mem), Q2 zr zM → Ev LM (d + 1) mX11_least 48 [none, none, none, none] (zr.toList ++ []) zM Q)))) ∧ ((x2 = 0) → (Ev LM (d + 1) mX11_least 56 [none, none, none, none] [(.int s0)] M Q)))))) : Ev LM (d + 1) mX11_least 24 [some (.ref 0), some (.int x1), some (.int x2), none] [(.int s0)] M Q := by
  refine ev_istore_n (ls2 := [some (.ref 0), some (.int x1), some (.int x2), some (.int s0)]) dX11_least_24 (Nat.le_of_ble_eq_true rfl) rfl ?_
  refine ev_iload_n dX11_least_25 rfl ?_
  refine ev_iconst (v := -1) dX11_least_26 (by decide) ?_
  refine ev_icmp_eq (tgt := 34) dX11_least_27 (by decide) (fun c => ?_) (fun c => ?_)
  · replace h := h.1 c
    refine ev_iload_n dX11_least_34 rfl ?_
    refine ev_goto (tgt := 56) dX11_least_35 (by decide) ?_
    exact ev_iret dX11_least_56 rfl h
  · replace h := h.2 c
    refine ev_iload_n dX11_least_30 rfl ?_
    refine ev_if_ne (tgt := 38) dX11_least_31 (by decide) (fun c => ?_) (fun c => ?_)
    · replace h := h.1 c
      refine ev_iload_n dX11_least_38 rfl ?_
      refine ev_iconst (v := 1) dX11_least_39 (by decide) ?_
      refine ev_icmp_ne (tgt := 51) dX11_least_40 (by decide) (fun c => ?_) (fun c => ?_)
      · replace h := h.1 c
        refine ev_aload_n dX11_least_51 rfl ?_
        refine ev_iload_n dX11_least_52 rfl ?_
        obtain ⟨Q2, hc, h⟩ := h
        refine ev_callV [.int x1] dX11_least_53 ml_WithoutEModel_445 lm_0 rfl rfl (Nat.le_of_ble_eq_true rfl) hc (fun zr zM q => ?_)
        refine Ev.weak (ls := [none, none, none, none]) trivial ?_
        exact h zr zM q
      · replace h := h.2 c
        refine ev_aload_n dX11_least_43 rfl ?_
        refine ev_iload_n dX11_least_44 rfl ?_
        obtain ⟨Q2, hc, h⟩ := h
        refine ev_callV [.int x1] dX11_least_45 ml_WithoutEModel_380 lm_0 rfl rfl (Nat.le_of_ble_eq_true rfl) hc (fun zr zM q => ?_)
        refine Ev.weak (ls := [none, none, none, none]) trivial ?_
        exact h zr zM q
    · replace h := h.2 c
      refine ev_iload_n dX11_least_34 rfl ?_
      refine ev_goto (tgt := 56) dX11_least_35 (by decide) ?_
      refine Ev.weak (ls := [none, none, none, none]) trivial ?_
      exact h
theorem gX11_least_56 {d : Nat} {M : ev_Mem} {Q : Option Value → ev_Mem → Prop} {s0 : Int32} (h : (Q (some (.int s0)) M)) : Ev LM d mX11_least 56 [none, none, none, none] [(.int s0)] M Q := by
  exact ev_iret dX11_least_56 rfl h
theorem gX11_least_48 {d : Nat} {M : ev_Mem} {Q : Option Value → ev_Mem → Prop} {s0 : Int32} (h : (Ev LM d mX11_least 56 [none, none, none, none] [(.int s0)] M Q)) : Ev LM d mX11_least 48 [none, none, none, none] [(.int s0)] M Q := by
  refine ev_goto (tgt := 56) dX11_least_48 (by decide) ?_
  exact h
theorem dX11_sentence_0 : decode cX11_sentence 0 = .ok (.aload_n 0, 1) := by decide +kernel
theorem dX11_sentence_1 : decode cX11_sentence 1 = .ok (.iload_n 1, 1) := by decide +kernel
theorem dX11_sentence_2 : decode cX11_sentence 2 = .ok (.invokevirtual 411, 3) := by decide +kernel
theorem dX11_sentence_5 : decode cX11_sentence 5 = .ok (.ifCond .eq 27, 3) := by decide +kernel
theorem dX11_sentence_8 : decode cX11_sentence 8 = .ok (.iload_n 2, 1) := by decide +kernel
theorem dX11_sentence_9 : decode cX11_sentence 9 = .ok (.iconst (-1), 1) := by decide +kernel
theorem dX11_sentence_10 : decode cX11_sentence 10 = .ok (.aload_n 0, 1) := by decide +kernel
theorem dX11_sentence_11 : decode cX11_sentence 11 = .ok (.iload_n 1, 1) := by decide +kernel
theorem dX11_sentence_12 : decode cX11_sentence 12 = .ok (.invokevirtual 359, 3) := by decide +kernel
theorem dX11_sentence_15 : decode cX11_sentence 15 = .ok (.iconst 1, 1) := by decide +kernel
theorem dX11_sentence_16 : decode cX11_sentence 16 = .ok (.isub, 1) := by decide +kernel
theorem dX11_sentence_17 : decode cX11_sentence 17 = .ok (.invokestatic 80, 3) := by decide +kernel
theorem dX11_sentence_20 : decode cX11_sentence 20 = .ok (.ifCond .eq 12, 3) := by decide +kernel
theorem dX11_sentence_23 : decode cX11_sentence 23 = .ok (.aload_n 0, 1) := by decide +kernel
theorem dX11_sentence_24 : decode cX11_sentence 24 = .ok (.iload_n 1, 1) := by decide +kernel
theorem dX11_sentence_25 : decode cX11_sentence 25 = .ok (.invokevirtual 393, 3) := by decide +kernel
theorem dX11_sentence_28 : decode cX11_sentence 28 = .ok (.iconst (-1), 1) := by decide +kernel
theorem dX11_sentence_29 : decode cX11_sentence 29 = .ok (.if_icmp .ne 5, 3) := by decide +kernel
theorem dX11_sentence_32 : decode cX11_sentence 32 = .ok (.iconst (-1), 1) := by decide +kernel
theorem dX11_sentence_33 : decode cX11_sentence 33 = .ok (.ireturn, 1) := by decide +kernel
theorem dX11_sentence_34 : decode cX11_sentence 34 = .ok (.iload_n 2, 1) := by decide +kernel
theorem dX11_sentence_35 : decode cX11_sentence 35 = .ok (.iconst (-1), 1) := by decide +kernel
theorem dX11_sentence_36 : decode cX11_sentence 36 = .ok (.if_icmp .ne 11, 3) := by decide +kernel
theorem dX11_sentence_39 : decode cX11_sentence 39 = .ok (.aload_n 0, 1) := by decide +kernel
theorem dX11_sentence_40 : decode cX11_sentence 40 = .ok (.iload_n 1, 1) := by decide +kernel
theorem dX11_sentence_41 : decode cX11_sentence 41 = .ok (.invokevirtual 359, 3) := by decide +kernel
theorem dX11_sentence_44 : decode cX11_sentence 44 = .ok (.goto 9, 3) := by decide +kernel
theorem dX11_sentence_47 : decode cX11_sentence 47 = .ok (.aload_n 0, 1) := by decide +kernel
theorem dX11_sentence_48 : decode cX11_sentence 48 = .ok (.getfield 55, 3) := by decide +kernel
theorem dX11_sentence_51 : decode cX11_sentence 51 = .ok (.iload_n 2, 1) := by decide +kernel
theorem dX11_sentence_52 : decode cX11_sentence 52 = .ok (.iaload, 1) := by decide +kernel
theorem dX11_sentence_53 : decode cX11_sentence 53 = .ok (.ireturn, 1) := by decide +kernel
theorem gX11_sentence_0 {d : Nat} {M : ev_Mem} {Q : Option Value → ev_Mem → Prop} {x1 x2 : Int32} (h : ((((iin x1 0 (M.1 1 1 - 1)) = false) → (Q (some (.int (-1))) M)) ∧ (((iin x1 0 (M.1 1 1 - 1)) = true) → ((vp_in (351 + 6 * x1) 3315) ∧ ((((iin x2 (-1 : Int32) ((M.1 1 (351 + 6 * x1).toNatClampNeg) - 1)) = false) → (Q (some (.int (-1))) M)) ∧ (((iin x2 (-1 : Int32) ((M.1 1 (351 + 6 * x1).toNatClampNeg) - 1)) = true) → (∃ Q2 : Option Value → ev_Mem → Prop, Cl LM (d + 1) mX11_saidOf [.ref 0, .int x1] M Q2 ∧ ∀ (zr : Option Value) (zM : ev_Mem), Q2 zr zM → Ev LM (d + 2) mX11_sentence 28 [some (.ref 0), some (.int x1), some (.int x2)] (zr.toList ++ []) zM Q))))))) : Ev LM (d + 2) mX11_sentence 0 [some (.ref 0), some (.int x1), some (.int x2)] [] M Q := by
  refine ev_aload_n dX11_sentence_0 rfl ?_
  refine ev_iload_n dX11_sentence_1 rfl ?_
  refine ev_callV [.int x1] dX11_sentence_2 ml_WithoutEModel_411 lm_0 rfl rfl (Nat.le_of_ble_eq_true rfl) (kX11_isSentence) ?_
  rintro zr zM ⟨q1, q2⟩
  rw [q1, q2]
  show Ev LM (d + 2) mX11_sentence 5 [some (.ref 0), some (.int x1), some (.int x2)] [(.int (bi (iin x1 0 (M.1 1 1 - 1))))] M Q
  refine ev_if_eq (tgt := 32) dX11_sentence_5 (by decide) (fun c => ?_) (fun c => ?_)
  · replace h := h.1 ((bi_0 _).mp c)
    refine ev_iconst (v := -1) dX11_sentence_32 (by decide) ?_
    exact ev_iret dX11_sentence_33 rfl h
  · replace h := h.2 ((bi_n0 _).mp c)
    refine ev_iload_n dX11_sentence_8 rfl ?_
    refine ev_iconst (v := -1) dX11_sentence_9 (by decide) ?_
    refine ev_aload_n dX11_sentence_10 rfl ?_
    refine ev_iload_n dX11_sentence_11 rfl ?_
    obtain ⟨p1, h⟩ := h
    refine ev_callV [.int x1] dX11_sentence_12 ml_WithoutEModel_359 lm_0 rfl rfl (Nat.le_of_ble_eq_true rfl) (kX11_lengthOf p1) ?_
    rintro zr zM ⟨q1, q2⟩
    rw [q1, q2]
    show Ev LM (d + 2) mX11_sentence 15 [some (.ref 0), some (.int x1), some (.int x2)] [(.int (M.1 1 (351 + 6 * x1).toNatClampNeg)), (.int (-1)), (.int x2)] M Q
    refine ev_iconst (v := 1) dX11_sentence_15 (by decide) ?_
    refine ev_isub dX11_sentence_16 ?_
    refine ev_callS [.int x2, .int (-1), .int ((M.1 1 (351 + 6 * x1).toNatClampNeg) - 1)] dX11_sentence_17 ml_WithoutEModel_80 rfl (Nat.le_of_ble_eq_true rfl) (kX11_isIn) ?_
    rintro zr zM ⟨q1, q2⟩
    rw [q1, q2]
    show Ev LM (d + 2) mX11_sentence 20 [some (.ref 0), some (.int x1), some (.int x2)] [(.int (bi (iin x2 (-1 : Int32) ((M.1 1 (351 + 6 * x1).toNatClampNeg) - 1))))] M Q
    refine ev_if_eq (tgt := 32) dX11_sentence_20 (by decide) (fun c => ?_) (fun c => ?_)
    · replace h := h.1 ((bi_0 _).mp c)
      refine ev_iconst (v := -1) dX11_sentence_32 (by decide) ?_
      exact ev_iret dX11_sentence_33 rfl h
    · replace h := h.2 ((bi_n0 _).mp c)
      refine ev_aload_n dX11_sentence_23 rfl ?_
      refine ev_iload_n dX11_sentence_24 rfl ?_
      obtain ⟨Q2, hc, h⟩ := h
      refine ev_callV [.int x1] dX11_sentence_25 ml_WithoutEModel_393 lm_0 rfl rfl (Nat.le_of_ble_eq_true rfl) hc (fun zr zM q => ?_)
      exact h zr zM q
theorem gX11_sentence_28 {d : Nat} {M : ev_Mem} {Q : Option Value → ev_Mem → Prop} {x1 x2 s0 : Int32} (h : (((¬ s0 = (-1)) → (((¬ x2 = (-1)) → (vp_in x2 5 ∧ (Q (some (.int (M.1 13 x2.toNatClampNeg))) M))) ∧ ((x2 = (-1)) → ((vp_in (351 + 6 * x1) 3315) ∧ (Q (some (.int (M.1 1 (351 + 6 * x1).toNatClampNeg))) M))))) ∧ ((s0 = (-1)) → (Q (some (.int (-1))) M)))) : Ev LM (d + 1) mX11_sentence 28 [some (.ref 0), some (.int x1), some (.int x2)] [(.int s0)] M Q := by
  refine ev_iconst (v := -1) dX11_sentence_28 (by decide) ?_
  refine ev_icmp_ne (tgt := 34) dX11_sentence_29 (by decide) (fun c => ?_) (fun c => ?_)
  · replace h := h.1 c
    refine ev_iload_n dX11_sentence_34 rfl ?_
    refine ev_iconst (v := -1) dX11_sentence_35 (by decide) ?_
    refine ev_icmp_ne (tgt := 47) dX11_sentence_36 (by decide) (fun c => ?_) (fun c => ?_)
    · replace h := h.1 c
      refine ev_aload_n dX11_sentence_47 rfl ?_
      refine ev_getA dX11_sentence_48 fl_WithoutEModel_55 lm_0 rfl ?_
      refine ev_iload_n dX11_sentence_51 rfl ?_
      obtain ⟨c, h⟩ := h
      refine ev_iald dX11_sentence_52 lm_13 c ?_
      exact ev_iret dX11_sentence_53 rfl h
    · replace h := h.2 c
      refine ev_aload_n dX11_sentence_39 rfl ?_
      refine ev_iload_n dX11_sentence_40 rfl ?_
      obtain ⟨p1, h⟩ := h
      refine ev_callV [.int x1] dX11_sentence_41 ml_WithoutEModel_359 lm_0 rfl rfl (Nat.le_of_ble_eq_true rfl) (kX11_lengthOf p1) ?_
      rintro zr zM ⟨q1, q2⟩
      rw [q1, q2]
      show Ev LM (d + 1) mX11_sentence 44 [some (.ref 0), some (.int x1), some (.int x2)] [(.int (M.1 1 (351 + 6 * x1).toNatClampNeg))] M Q
      refine ev_goto (tgt := 53) dX11_sentence_44 (by decide) ?_
      exact ev_iret dX11_sentence_53 rfl h
  · replace h := h.2 c
    refine ev_iconst (v := -1) dX11_sentence_32 (by decide) ?_
    exact ev_iret dX11_sentence_33 rfl h
theorem dX11_wire_0 : decode cX11_wire 0 = .ok (.aload_n 0, 1) := by decide +kernel
theorem dX11_wire_1 : decode cX11_wire 1 = .ok (.iload_n 1, 1) := by decide +kernel
theorem dX11_wire_2 : decode cX11_wire 2 = .ok (.invokevirtual 411, 3) := by decide +kernel
theorem dX11_wire_5 : decode cX11_wire 5 = .ok (.ifCond .eq 20, 3) := by decide +kernel
theorem dX11_wire_8 : decode cX11_wire 8 = .ok (.aload_n 0, 1) := by decide +kernel
theorem dX11_wire_9 : decode cX11_wire 9 = .ok (.iload_n 1, 1) := by decide +kernel
theorem dX11_wire_10 : decode cX11_wire 10 = .ok (.invokevirtual 393, 3) := by decide +kernel
theorem dX11_wire_13 : decode cX11_wire 13 = .ok (.iconst (-1), 1) := by decide +kernel
theorem dX11_wire_14 : decode cX11_wire 14 = .ok (.if_icmp .eq 11, 3) := by decide +kernel
theorem dX11_wire_17 : decode cX11_wire 17 = .ok (.aload_n 0, 1) := by decide +kernel
theorem dX11_wire_18 : decode cX11_wire 18 = .ok (.iload_n 1, 1) := by decide +kernel
theorem dX11_wire_19 : decode cX11_wire 19 = .ok (.invokevirtual 490, 3) := by decide +kernel
theorem dX11_wire_22 : decode cX11_wire 22 = .ok (.goto 4, 3) := by decide +kernel
theorem dX11_wire_25 : decode cX11_wire 25 = .ok (.iconst (-1), 1) := by decide +kernel
theorem dX11_wire_26 : decode cX11_wire 26 = .ok (.ireturn, 1) := by decide +kernel
theorem gX11_wire_0 {d : Nat} {M : ev_Mem} {Q : Option Value → ev_Mem → Prop} {x1 : Int32} (h : ((((iin x1 0 (M.1 1 1 - 1)) = false) → (Q (some (.int (-1))) M)) ∧ (((iin x1 0 (M.1 1 1 - 1)) = true) → (∃ Q2 : Option Value → ev_Mem → Prop, Cl LM (d + 1) mX11_saidOf [.ref 0, .int x1] M Q2 ∧ ∀ (zr : Option Value) (zM : ev_Mem), Q2 zr zM → Ev LM (d + 2) mX11_wire 13 [some (.ref 0), some (.int x1)] (zr.toList ++ []) zM Q)))) : Ev LM (d + 2) mX11_wire 0 [some (.ref 0), some (.int x1)] [] M Q := by
  refine ev_aload_n dX11_wire_0 rfl ?_
  refine ev_iload_n dX11_wire_1 rfl ?_
  refine ev_callV [.int x1] dX11_wire_2 ml_WithoutEModel_411 lm_0 rfl rfl (Nat.le_of_ble_eq_true rfl) (kX11_isSentence) ?_
  rintro zr zM ⟨q1, q2⟩
  rw [q1, q2]
  show Ev LM (d + 2) mX11_wire 5 [some (.ref 0), some (.int x1)] [(.int (bi (iin x1 0 (M.1 1 1 - 1))))] M Q
  refine ev_if_eq (tgt := 25) dX11_wire_5 (by decide) (fun c => ?_) (fun c => ?_)
  · replace h := h.1 ((bi_0 _).mp c)
    refine ev_iconst (v := -1) dX11_wire_25 (by decide) ?_
    exact ev_iret dX11_wire_26 rfl h
  · replace h := h.2 ((bi_n0 _).mp c)
    refine ev_aload_n dX11_wire_8 rfl ?_
    refine ev_iload_n dX11_wire_9 rfl ?_
    obtain ⟨Q2, hc, h⟩ := h
    refine ev_callV [.int x1] dX11_wire_10 ml_WithoutEModel_393 lm_0 rfl rfl (Nat.le_of_ble_eq_true rfl) hc (fun zr zM q => ?_)
    exact h zr zM q
theorem gX11_wire_13 {d : Nat} {M : ev_Mem} {Q : Option Value → ev_Mem → Prop} {x1 s0 : Int32} (h : (((s0 = (-1)) → (Q (some (.int (-1))) M)) ∧ ((¬ s0 = (-1)) → (∃ Q2 : Option Value → ev_Mem → Prop, Cl LM d mX11_penceOf [.ref 0, .int x1] M Q2 ∧ ∀ (zr : Option Value) (zM : ev_Mem), Q2 zr zM → Ev LM (d + 1) mX11_wire 22 [none, none] (zr.toList ++ []) zM Q)))) : Ev LM (d + 1) mX11_wire 13 [some (.ref 0), some (.int x1)] [(.int s0)] M Q := by
  refine ev_iconst (v := -1) dX11_wire_13 (by decide) ?_
  refine ev_icmp_eq (tgt := 25) dX11_wire_14 (by decide) (fun c => ?_) (fun c => ?_)
  · replace h := h.1 c
    refine ev_iconst (v := -1) dX11_wire_25 (by decide) ?_
    exact ev_iret dX11_wire_26 rfl h
  · replace h := h.2 c
    refine ev_aload_n dX11_wire_17 rfl ?_
    refine ev_iload_n dX11_wire_18 rfl ?_
    obtain ⟨Q2, hc, h⟩ := h
    refine ev_callV [.int x1] dX11_wire_19 ml_WithoutEModel_490 lm_0 rfl rfl (Nat.le_of_ble_eq_true rfl) hc (fun zr zM q => ?_)
    refine Ev.weak (ls := [none, none]) trivial ?_
    exact h zr zM q
theorem gX11_wire_22 {d : Nat} {M : ev_Mem} {Q : Option Value → ev_Mem → Prop} {s0 : Int32} (h : (Q (some (.int s0)) M)) : Ev LM d mX11_wire 22 [none, none] [(.int s0)] M Q := by
  refine ev_goto (tgt := 26) dX11_wire_22 (by decide) ?_
  exact ev_iret dX11_wire_26 rfl h
theorem dX11_worth_0 : decode cX11_worth 0 = .ok (.aload_n 0, 1) := by decide +kernel
theorem dX11_worth_1 : decode cX11_worth 1 = .ok (.iload_n 1, 1) := by decide +kernel
theorem dX11_worth_2 : decode cX11_worth 2 = .ok (.iconst 1, 1) := by decide +kernel
theorem dX11_worth_3 : decode cX11_worth 3 = .ok (.invokevirtual 493, 3) := by decide +kernel
theorem dX11_worth_6 : decode cX11_worth 6 = .ok (.ireturn, 1) := by decide +kernel
theorem gX11_worth_0 {d : Nat} {M : ev_Mem} {Q : Option Value → ev_Mem → Prop} {x1 : Int32} (h : (∃ Q2 : Option Value → ev_Mem → Prop, Cl LM d mX11_least [.ref 0, .int x1, .int 1] M Q2 ∧ ∀ (zr : Option Value) (zM : ev_Mem), Q2 zr zM → Ev LM (d + 1) mX11_worth 6 [none, none] (zr.toList ++ []) zM Q)) : Ev LM (d + 1) mX11_worth 0 [some (.ref 0), some (.int x1)] [] M Q := by
  refine ev_aload_n dX11_worth_0 rfl ?_
  refine ev_iload_n dX11_worth_1 rfl ?_
  refine ev_iconst (v := 1) dX11_worth_2 (by decide) ?_
  obtain ⟨Q2, hc, h⟩ := h
  refine ev_callV [.int x1, .int 1] dX11_worth_3 ml_WithoutEModel_493 lm_0 rfl rfl (Nat.le_of_ble_eq_true rfl) hc (fun zr zM q => ?_)
  refine Ev.weak (ls := [none, none]) trivial ?_
  exact h zr zM q
theorem gX11_worth_6 {d : Nat} {M : ev_Mem} {Q : Option Value → ev_Mem → Prop} {s0 : Int32} (h : (Q (some (.int s0)) M)) : Ev LM d mX11_worth 6 [none, none] [(.int s0)] M Q := by
  exact ev_iret dX11_worth_6 rfl h
theorem dX11_senses_0 : decode cX11_senses 0 = .ok (.sipush 4095, 3) := by decide +kernel
theorem dX11_senses_3 : decode cX11_senses 3 = .ok (.istore_n 1, 1) := by decide +kernel
theorem dX11_senses_4 : decode cX11_senses 4 = .ok (.iconst 0, 1) := by decide +kernel
theorem dX11_senses_5 : decode cX11_senses 5 = .ok (.istore_n 2, 1) := by decide +kernel
theorem dX11_senses_6 : decode cX11_senses 6 = .ok (.iload_n 2, 1) := by decide +kernel
theorem dX11_senses_7 : decode cX11_senses 7 = .ok (.aload_n 0, 1) := by decide +kernel
theorem dX11_senses_8 : decode cX11_senses 8 = .ok (.getfield 7, 3) := by decide +kernel
theorem dX11_senses_11 : decode cX11_senses 11 = .ok (.iconst 0, 1) := by decide +kernel
theorem dX11_senses_12 : decode cX11_senses 12 = .ok (.iaload, 1) := by decide +kernel
theorem dX11_senses_13 : decode cX11_senses 13 = .ok (.if_icmp .ge 30, 3) := by decide +kernel
theorem dX11_senses_16 : decode cX11_senses 16 = .ok (.aload_n 0, 1) := by decide +kernel
theorem dX11_senses_17 : decode cX11_senses 17 = .ok (.iload_n 2, 1) := by decide +kernel
theorem dX11_senses_18 : decode cX11_senses 18 = .ok (.invokevirtual 346, 3) := by decide +kernel
theorem dX11_senses_21 : decode cX11_senses 21 = .ok (.ifCond .eq 16, 3) := by decide +kernel
theorem dX11_senses_24 : decode cX11_senses 24 = .ok (.iload_n 1, 1) := by decide +kernel
theorem dX11_senses_25 : decode cX11_senses 25 = .ok (.iconst 1, 1) := by decide +kernel
theorem dX11_senses_26 : decode cX11_senses 26 = .ok (.aload_n 0, 1) := by decide +kernel
theorem dX11_senses_27 : decode cX11_senses 27 = .ok (.iload_n 2, 1) := by decide +kernel
theorem dX11_senses_28 : decode cX11_senses 28 = .ok (.iconst 1, 1) := by decide +kernel
theorem dX11_senses_29 : decode cX11_senses 29 = .ok (.invokevirtual 92, 3) := by decide +kernel
theorem dX11_senses_32 : decode cX11_senses 32 = .ok (.ishl, 1) := by decide +kernel
theorem dX11_senses_33 : decode cX11_senses 33 = .ok (.iconst (-1), 1) := by decide +kernel
theorem dX11_senses_34 : decode cX11_senses 34 = .ok (.ixor, 1) := by decide +kernel
theorem dX11_senses_35 : decode cX11_senses 35 = .ok (.iand, 1) := by decide +kernel
theorem dX11_senses_36 : decode cX11_senses 36 = .ok (.istore_n 1, 1) := by decide +kernel
theorem dX11_senses_37 : decode cX11_senses 37 = .ok (.iinc 2 1, 3) := by decide +kernel
theorem dX11_senses_40 : decode cX11_senses 40 = .ok (.goto (-34), 3) := by decide +kernel
theorem dX11_senses_43 : decode cX11_senses 43 = .ok (.iload_n 1, 1) := by decide +kernel
theorem dX11_senses_44 : decode cX11_senses 44 = .ok (.ireturn, 1) := by decide +kernel
theorem gX11_senses_0 {d : Nat} {M : ev_Mem} {Q : Option Value → ev_Mem → Prop} (h : (Ev LM d mX11_senses 6 [some (.ref 0), some (.int 4095), some (.int 0)] [] M Q)) : Ev LM d mX11_senses 0 [some (.ref 0), none, none] [] M Q := by
  refine ev_sipush (v := 4095) dX11_senses_0 (by decide) ?_
  refine ev_istore_n (ls2 := [some (.ref 0), some (.int 4095), none]) dX11_senses_3 (Nat.le_of_ble_eq_true rfl) rfl ?_
  refine ev_iconst (v := 0) dX11_senses_4 (by decide) ?_
  refine ev_istore_n (ls2 := [some (.ref 0), some (.int 4095), some (.int 0)]) dX11_senses_5 (Nat.le_of_ble_eq_true rfl) rfl ?_
  exact h
theorem gX11_senses_6 {d : Nat} {M : ev_Mem} {Q : Option Value → ev_Mem → Prop} {x1 x2 : Int32} (h : ((((M.1 1 0) ≤ x2) → (Q (some (.int x1)) M)) ∧ ((¬ (M.1 1 0) ≤ x2) → ((wm M x2) ∧ ((okMd M) ∧ ((((mC M x2) = false) → (Ev LM (d + 4) mX11_senses 6 [some (.ref 0), some (.int x1), some (.int (x2 + 1))] [] M Q)) ∧ (((mC M x2) = true) → ((vp_in (39 + 13 * x2 + (1 : Int32)) 3315) ∧ (∀ v1 : Int32, v1 = x1 &&& ((1 <<< ((M.1 1 (39 + 13 * x2 + (1 : Int32)).toNatClampNeg) &&& 31)) ^^^ (-1)) → (Ev LM (d + 4) mX11_senses 6 [some (.ref 0), some (.int v1), some (.int (x2 + 1))] [] M Q)))))))))) : Ev LM (d + 4) mX11_senses 6 [some (.ref 0), some (.int x1), some (.int x2)] [] M Q := by
  refine ev_iload_n dX11_senses_6 rfl ?_
  refine ev_aload_n dX11_senses_7 rfl ?_
  refine ev_getA dX11_senses_8 fl_WithoutEModel_7 lm_0 rfl ?_
  refine ev_iconst (v := 0) dX11_senses_11 (by decide) ?_
  refine ev_iaN (j := 0) dX11_senses_12 lm_1 (by decide) (by decide) ?_
  refine ev_icmp_ge (tgt := 43) dX11_senses_13 (by decide) (fun c => ?_) (fun c => ?_)
  · replace h := h.1 c
    refine ev_iload_n dX11_senses_43 rfl ?_
    exact ev_iret dX11_senses_44 rfl h
  · replace h := h.2 c
    refine ev_aload_n dX11_senses_16 rfl ?_
    refine ev_iload_n dX11_senses_17 rfl ?_
    obtain ⟨p1, h⟩ := h
    obtain ⟨p2, h⟩ := h
    refine ev_callV [.int x2] dX11_senses_18 ml_WithoutEModel_346 lm_0 rfl rfl (Nat.le_of_ble_eq_true rfl) (kX11_canBe p1 p2) ?_
    rintro zr zM ⟨q1, q2⟩
    rw [q1, q2]
    show Ev LM (d + 4) mX11_senses 21 [some (.ref 0), some (.int x1), some (.int x2)] [(.int (bi (mC M x2)))] M Q
    refine ev_if_eq (tgt := 37) dX11_senses_21 (by decide) (fun c => ?_) (fun c => ?_)
    · replace h := h.1 ((bi_0 _).mp c)
      refine ev_iinc (v := x2 + 1) (ls2 := [some (.ref 0), some (.int x1), some (.int (x2 + 1))]) dX11_senses_37 rfl rfl rfl ?_
      refine ev_goto (tgt := 6) dX11_senses_40 (by decide) ?_
      exact h
    · replace h := h.2 ((bi_n0 _).mp c)
      refine ev_iload_n dX11_senses_24 rfl ?_
      refine ev_iconst (v := 1) dX11_senses_25 (by decide) ?_
      refine ev_aload_n dX11_senses_26 rfl ?_
      refine ev_iload_n dX11_senses_27 rfl ?_
      refine ev_iconst (v := 1) dX11_senses_28 (by decide) ?_
      obtain ⟨p1, h⟩ := h
      refine ev_callV [.int x2, .int 1] dX11_senses_29 ml_WithoutEModel_92 lm_0 rfl rfl (Nat.le_of_ble_eq_true rfl) (kX11_get p1) ?_
      rintro zr zM ⟨q1, q2⟩
      rw [q1, q2]
      show Ev LM (d + 4) mX11_senses 32 [some (.ref 0), some (.int x1), some (.int x2)] [(.int (M.1 1 (39 + 13 * x2 + (1 : Int32)).toNatClampNeg)), (.int 1), (.int x1)] M Q
      refine ev_ishl dX11_senses_32 ?_
      refine ev_iconst (v := -1) dX11_senses_33 (by decide) ?_
      refine ev_ixor dX11_senses_34 ?_
      refine ev_iand dX11_senses_35 ?_
      refine ev_istore_n (ls2 := [some (.ref 0), some (.int (x1 &&& ((1 <<< ((M.1 1 (39 + 13 * x2 + (1 : Int32)).toNatClampNeg) &&& 31)) ^^^ (-1)))), some (.int x2)]) dX11_senses_36 (Nat.le_of_ble_eq_true rfl) rfl ?_
      generalize ev1 : x1 &&& ((1 <<< ((M.1 1 (39 + 13 * x2 + (1 : Int32)).toNatClampNeg) &&& 31)) ^^^ (-1)) = v1
      replace h := h v1 ev1.symm
      refine ev_iinc (v := x2 + 1) (ls2 := [some (.ref 0), some (.int v1), some (.int (x2 + 1))]) dX11_senses_37 rfl rfl rfl ?_
      refine ev_goto (tgt := 6) dX11_senses_40 (by decide) ?_
      exact h
theorem dX11_all_0 : decode cX11_all 0 = .ok (.bipush 12, 2) := by decide +kernel
theorem dX11_all_2 : decode cX11_all 2 = .ok (.aload_n 0, 1) := by decide +kernel
theorem dX11_all_3 : decode cX11_all 3 = .ok (.invokevirtual 500, 3) := by decide +kernel
theorem dX11_all_6 : decode cX11_all 6 = .ok (.invokestatic 312, 3) := by decide +kernel
theorem dX11_all_9 : decode cX11_all 9 = .ok (.isub, 1) := by decide +kernel
theorem dX11_all_10 : decode cX11_all 10 = .ok (.ireturn, 1) := by decide +kernel
theorem gX11_all_0 {d : Nat} {M : ev_Mem} {Q : Option Value → ev_Mem → Prop} (h : (∃ Q2 : Option Value → ev_Mem → Prop, Cl LM d mX11_senses [.ref 0] M Q2 ∧ ∀ (zr : Option Value) (zM : ev_Mem), Q2 zr zM → Ev LM (d + 1) mX11_all 6 [none] (zr.toList ++ [(.int 12)]) zM Q)) : Ev LM (d + 1) mX11_all 0 [some (.ref 0)] [] M Q := by
  refine ev_bipush (v := 12) dX11_all_0 (by decide) ?_
  refine ev_aload_n dX11_all_2 rfl ?_
  obtain ⟨Q2, hc, h⟩ := h
  refine ev_callV [] dX11_all_3 ml_WithoutEModel_500 lm_0 rfl rfl (Nat.le_of_ble_eq_true rfl) hc (fun zr zM q => ?_)
  refine Ev.weak (ls := [none]) trivial ?_
  exact h zr zM q
theorem gX11_all_6 {d : Nat} {M : ev_Mem} {Q : Option Value → ev_Mem → Prop} {s0 s1 : Int32} (h : (Q (some (.int (s1 - (bc s0)))) M)) : Ev LM (d + 1) mX11_all 6 [none] [(.int s0), (.int s1)] M Q := by
  refine ev_callS [.int s0] dX11_all_6 ml_WithoutEModel_312 rfl (Nat.le_of_ble_eq_true rfl) (kX11_bits) ?_
  rintro zr zM ⟨q1, q2⟩
  rw [q1, q2]
  show Ev LM (d + 1) mX11_all 9 [none] [(.int (bc s0)), (.int s1)] M Q
  refine ev_isub dX11_all_9 ?_
  exact ev_iret dX11_all_10 rfl h
theorem dX11_stiffs_0 : decode cX11_stiffs 0 = .ok (.iload_n 1, 1) := by decide +kernel
theorem dX11_stiffs_1 : decode cX11_stiffs 1 = .ok (.iconst (-1), 1) := by decide +kernel
theorem dX11_stiffs_2 : decode cX11_stiffs 2 = .ok (.if_icmp .ne 13, 3) := by decide +kernel
theorem dX11_stiffs_5 : decode cX11_stiffs 5 = .ok (.aload_n 0, 1) := by decide +kernel
theorem dX11_stiffs_6 : decode cX11_stiffs 6 = .ok (.getfield 7, 3) := by decide +kernel
theorem dX11_stiffs_9 : decode cX11_stiffs 9 = .ok (.bipush 7, 2) := by decide +kernel
theorem dX11_stiffs_11 : decode cX11_stiffs 11 = .ok (.iconst 0, 1) := by decide +kernel
theorem dX11_stiffs_12 : decode cX11_stiffs 12 = .ok (.iastore, 1) := by decide +kernel
theorem dX11_stiffs_13 : decode cX11_stiffs 13 = .ok (.iconst 0, 1) := by decide +kernel
theorem dX11_stiffs_14 : decode cX11_stiffs 14 = .ok (.ireturn, 1) := by decide +kernel
theorem dX11_stiffs_15 : decode cX11_stiffs 15 = .ok (.aload_n 0, 1) := by decide +kernel
theorem dX11_stiffs_16 : decode cX11_stiffs 16 = .ok (.iload_n 1, 1) := by decide +kernel
theorem dX11_stiffs_17 : decode cX11_stiffs 17 = .ok (.invokevirtual 337, 3) := by decide +kernel
theorem dX11_stiffs_20 : decode cX11_stiffs 20 = .ok (.ifCond .eq 25, 3) := by decide +kernel
theorem dX11_stiffs_23 : decode cX11_stiffs 23 = .ok (.iload_n 2, 1) := by decide +kernel
theorem dX11_stiffs_24 : decode cX11_stiffs 24 = .ok (.iconst 0, 1) := by decide +kernel
theorem dX11_stiffs_25 : decode cX11_stiffs 25 = .ok (.bipush 99, 2) := by decide +kernel
theorem dX11_stiffs_27 : decode cX11_stiffs 27 = .ok (.invokestatic 80, 3) := by decide +kernel
theorem dX11_stiffs_30 : decode cX11_stiffs 30 = .ok (.ifCond .eq 15, 3) := by decide +kernel
theorem dX11_stiffs_33 : decode cX11_stiffs 33 = .ok (.aload_n 0, 1) := by decide +kernel
theorem dX11_stiffs_34 : decode cX11_stiffs 34 = .ok (.getfield 7, 3) := by decide +kernel
theorem dX11_stiffs_37 : decode cX11_stiffs 37 = .ok (.bipush 7, 2) := by decide +kernel
theorem dX11_stiffs_39 : decode cX11_stiffs 39 = .ok (.iaload, 1) := by decide +kernel
theorem dX11_stiffs_40 : decode cX11_stiffs 40 = .ok (.bipush 8, 2) := by decide +kernel
theorem dX11_stiffs_42 : decode cX11_stiffs 42 = .ok (.if_icmp .ne 6, 3) := by decide +kernel
theorem dX11_stiffs_45 : decode cX11_stiffs 45 = .ok (.bipush (-2), 2) := by decide +kernel
theorem dX11_stiffs_47 : decode cX11_stiffs 47 = .ok (.ireturn, 1) := by decide +kernel
theorem dX11_stiffs_48 : decode cX11_stiffs 48 = .ok (.aload_n 0, 1) := by decide +kernel
theorem dX11_stiffs_49 : decode cX11_stiffs 49 = .ok (.getfield 7, 3) := by decide +kernel
theorem dX11_stiffs_52 : decode cX11_stiffs 52 = .ok (.sipush 509, 3) := by decide +kernel
theorem dX11_stiffs_55 : decode cX11_stiffs 55 = .ok (.iconst 2, 1) := by decide +kernel
theorem dX11_stiffs_56 : decode cX11_stiffs 56 = .ok (.aload_n 0, 1) := by decide +kernel
theorem dX11_stiffs_57 : decode cX11_stiffs 57 = .ok (.getfield 7, 3) := by decide +kernel
theorem dX11_stiffs_60 : decode cX11_stiffs 60 = .ok (.bipush 7, 2) := by decide +kernel
theorem dX11_stiffs_62 : decode cX11_stiffs 62 = .ok (.iaload, 1) := by decide +kernel
theorem dX11_stiffs_63 : decode cX11_stiffs 63 = .ok (.imul, 1) := by decide +kernel
theorem dX11_stiffs_64 : decode cX11_stiffs 64 = .ok (.iadd, 1) := by decide +kernel
theorem dX11_stiffs_65 : decode cX11_stiffs 65 = .ok (.iload_n 1, 1) := by decide +kernel
theorem dX11_stiffs_66 : decode cX11_stiffs 66 = .ok (.iastore, 1) := by decide +kernel
theorem dX11_stiffs_67 : decode cX11_stiffs 67 = .ok (.aload_n 0, 1) := by decide +kernel
theorem dX11_stiffs_68 : decode cX11_stiffs 68 = .ok (.getfield 7, 3) := by decide +kernel
theorem dX11_stiffs_71 : decode cX11_stiffs 71 = .ok (.sipush 509, 3) := by decide +kernel
theorem dX11_stiffs_74 : decode cX11_stiffs 74 = .ok (.iconst 2, 1) := by decide +kernel
theorem dX11_stiffs_75 : decode cX11_stiffs 75 = .ok (.aload_n 0, 1) := by decide +kernel
theorem dX11_stiffs_76 : decode cX11_stiffs 76 = .ok (.getfield 7, 3) := by decide +kernel
theorem dX11_stiffs_79 : decode cX11_stiffs 79 = .ok (.bipush 7, 2) := by decide +kernel
theorem dX11_stiffs_81 : decode cX11_stiffs 81 = .ok (.iaload, 1) := by decide +kernel
theorem dX11_stiffs_82 : decode cX11_stiffs 82 = .ok (.imul, 1) := by decide +kernel
theorem dX11_stiffs_83 : decode cX11_stiffs 83 = .ok (.iadd, 1) := by decide +kernel
theorem dX11_stiffs_84 : decode cX11_stiffs 84 = .ok (.iconst 1, 1) := by decide +kernel
theorem dX11_stiffs_85 : decode cX11_stiffs 85 = .ok (.iadd, 1) := by decide +kernel
theorem dX11_stiffs_86 : decode cX11_stiffs 86 = .ok (.iload_n 2, 1) := by decide +kernel
theorem dX11_stiffs_87 : decode cX11_stiffs 87 = .ok (.iastore, 1) := by decide +kernel
theorem dX11_stiffs_88 : decode cX11_stiffs 88 = .ok (.aload_n 0, 1) := by decide +kernel
theorem dX11_stiffs_89 : decode cX11_stiffs 89 = .ok (.getfield 7, 3) := by decide +kernel
theorem dX11_stiffs_92 : decode cX11_stiffs 92 = .ok (.bipush 7, 2) := by decide +kernel
theorem dX11_stiffs_94 : decode cX11_stiffs 94 = .ok (.dup2, 1) := by decide +kernel
theorem dX11_stiffs_95 : decode cX11_stiffs 95 = .ok (.iaload, 1) := by decide +kernel
theorem dX11_stiffs_96 : decode cX11_stiffs 96 = .ok (.iconst 1, 1) := by decide +kernel
theorem dX11_stiffs_97 : decode cX11_stiffs 97 = .ok (.iadd, 1) := by decide +kernel
theorem dX11_stiffs_98 : decode cX11_stiffs 98 = .ok (.iastore, 1) := by decide +kernel
theorem dX11_stiffs_99 : decode cX11_stiffs 99 = .ok (.aload_n 0, 1) := by decide +kernel
theorem dX11_stiffs_100 : decode cX11_stiffs 100 = .ok (.getfield 7, 3) := by decide +kernel
theorem dX11_stiffs_103 : decode cX11_stiffs 103 = .ok (.bipush 7, 2) := by decide +kernel
theorem dX11_stiffs_105 : decode cX11_stiffs 105 = .ok (.iaload, 1) := by decide +kernel
theorem dX11_stiffs_106 : decode cX11_stiffs 106 = .ok (.ireturn, 1) := by decide +kernel
theorem gX11_stiffs_0 {d : Nat} {M : ev_Mem} {Q : Option Value → ev_Mem → Prop} {x1 x2 : Int32} (h : (((¬ x1 = (-1)) → ((((iin x1 0 (M.1 1 0 - 1)) = false) → (Q (some (.int (-2))) M)) ∧ (((iin x1 0 (M.1 1 0 - 1)) = true) → ((((iin x2 (0 : Int32) (99 : Int32)) = false) → (Q (some (.int (-2))) M)) ∧ (((iin x2 (0 : Int32) (99 : Int32)) = true) → (((¬ (M.1 1 7) = 8) → (vp_in (509 + (2 * (M.1 1 7))) 3315 ∧ (∀ M1 : ev_Mem, M1 = ev_wr M 1 (509 + (2 * (M.1 1 7))).toNatClampNeg x1 → (vp_in ((509 + (2 * (M1.1 1 7))) + 1) 3315 ∧ (∀ M2 : ev_Mem, M2 = ev_wr M1 1 ((509 + (2 * (M1.1 1 7))) + 1).toNatClampNeg x2 → (∀ M3 : ev_Mem, M3 = ev_wr M2 1 7 ((M2.1 1 7) + 1) → (Q (some (.int (M3.1 1 7))) M3))))))) ∧ (((M.1 1 7) = 8) → (Q (some (.int (-2))) M)))))))) ∧ ((x1 = (-1)) → (∀ M4 : ev_Mem, M4 = ev_wr M 1 7 0 → (Q (some (.int 0)) M4))))) : Ev LM (d + 2) mX11_stiffs 0 [some (.ref 0), some (.int x1), some (.int x2)] [] M Q := by
  refine ev_iload_n dX11_stiffs_0 rfl ?_
  refine ev_iconst (v := -1) dX11_stiffs_1 (by decide) ?_
  refine ev_icmp_ne (tgt := 15) dX11_stiffs_2 (by decide) (fun c => ?_) (fun c => ?_)
  · replace h := h.1 c
    refine ev_aload_n dX11_stiffs_15 rfl ?_
    refine ev_iload_n dX11_stiffs_16 rfl ?_
    refine ev_callV [.int x1] dX11_stiffs_17 ml_WithoutEModel_337 lm_0 rfl rfl (Nat.le_of_ble_eq_true rfl) (kX11_isWordOf) ?_
    rintro zr zM ⟨q1, q2⟩
    rw [q1, q2]
    show Ev LM (d + 2) mX11_stiffs 20 [some (.ref 0), some (.int x1), some (.int x2)] [(.int (bi (iin x1 0 (M.1 1 0 - 1))))] M Q
    refine ev_if_eq (tgt := 45) dX11_stiffs_20 (by decide) (fun c => ?_) (fun c => ?_)
    · replace h := h.1 ((bi_0 _).mp c)
      refine ev_bipush (v := -2) dX11_stiffs_45 (by decide) ?_
      exact ev_iret dX11_stiffs_47 rfl h
    · replace h := h.2 ((bi_n0 _).mp c)
      refine ev_iload_n dX11_stiffs_23 rfl ?_
      refine ev_iconst (v := 0) dX11_stiffs_24 (by decide) ?_
      refine ev_bipush (v := 99) dX11_stiffs_25 (by decide) ?_
      refine ev_callS [.int x2, .int 0, .int 99] dX11_stiffs_27 ml_WithoutEModel_80 rfl (Nat.le_of_ble_eq_true rfl) (kX11_isIn) ?_
      rintro zr zM ⟨q1, q2⟩
      rw [q1, q2]
      show Ev LM (d + 2) mX11_stiffs 30 [some (.ref 0), some (.int x1), some (.int x2)] [(.int (bi (iin x2 (0 : Int32) (99 : Int32))))] M Q
      refine ev_if_eq (tgt := 45) dX11_stiffs_30 (by decide) (fun c => ?_) (fun c => ?_)
      · replace h := h.1 ((bi_0 _).mp c)
        refine ev_bipush (v := -2) dX11_stiffs_45 (by decide) ?_
        exact ev_iret dX11_stiffs_47 rfl h
      · replace h := h.2 ((bi_n0 _).mp c)
        refine ev_aload_n dX11_stiffs_33 rfl ?_
        refine ev_getA dX11_stiffs_34 fl_WithoutEModel_7 lm_0 rfl ?_
        refine ev_bipush (v := 7) dX11_stiffs_37 (by decide) ?_
        refine ev_iaN (j := 7) dX11_stiffs_39 lm_1 (by decide) (by decide) ?_
        refine ev_bipush (v := 8) dX11_stiffs_40 (by decide) ?_
        refine ev_icmp_ne (tgt := 48) dX11_stiffs_42 (by decide) (fun c => ?_) (fun c => ?_)
        · replace h := h.1 c
          refine ev_aload_n dX11_stiffs_48 rfl ?_
          refine ev_getA dX11_stiffs_49 fl_WithoutEModel_7 lm_0 rfl ?_
          refine ev_sipush (v := 509) dX11_stiffs_52 (by decide) ?_
          refine ev_iconst (v := 2) dX11_stiffs_55 (by decide) ?_
          refine ev_aload_n dX11_stiffs_56 rfl ?_
          refine ev_getA dX11_stiffs_57 fl_WithoutEModel_7 lm_0 rfl ?_
          refine ev_bipush (v := 7) dX11_stiffs_60 (by decide) ?_
          refine ev_iaN (j := 7) dX11_stiffs_62 lm_1 (by decide) (by decide) ?_
          refine ev_imul dX11_stiffs_63 ?_
          refine ev_iadd dX11_stiffs_64 ?_
          refine ev_iload_n dX11_stiffs_65 rfl ?_
          obtain ⟨c, h⟩ := h
          refine ev_iast dX11_stiffs_66 lm_1 c ?_
          generalize eM1 : ev_wr M 1 (509 + (2 * (M.1 1 7))).toNatClampNeg x1 = M1
          replace h := h M1 eM1.symm
          refine ev_aload_n dX11_stiffs_67 rfl ?_
          refine ev_getA dX11_stiffs_68 fl_WithoutEModel_7 lm_0 rfl ?_
          refine ev_sipush (v := 509) dX11_stiffs_71 (by decide) ?_
          refine ev_iconst (v := 2) dX11_stiffs_74 (by decide) ?_
          refine ev_aload_n dX11_stiffs_75 rfl ?_
          refine ev_getA dX11_stiffs_76 fl_WithoutEModel_7 lm_0 rfl ?_
          refine ev_bipush (v := 7) dX11_stiffs_79 (by decide) ?_
          refine ev_iaN (j := 7) dX11_stiffs_81 lm_1 (by decide) (by decide) ?_
          refine ev_imul dX11_stiffs_82 ?_
          refine ev_iadd dX11_stiffs_83 ?_
          refine ev_iconst (v := 1) dX11_stiffs_84 (by decide) ?_
          refine ev_iadd dX11_stiffs_85 ?_
          refine ev_iload_n dX11_stiffs_86 rfl ?_
          obtain ⟨c, h⟩ := h
          refine ev_iast dX11_stiffs_87 lm_1 c ?_
          generalize eM2 : ev_wr M1 1 ((509 + (2 * (M1.1 1 7))) + 1).toNatClampNeg x2 = M2
          replace h := h M2 eM2.symm
          refine ev_aload_n dX11_stiffs_88 rfl ?_
          refine ev_getA dX11_stiffs_89 fl_WithoutEModel_7 lm_0 rfl ?_
          refine ev_bipush (v := 7) dX11_stiffs_92 (by decide) ?_
          refine ev_dup2 dX11_stiffs_94 rfl rfl ?_
          refine ev_iaN (j := 7) dX11_stiffs_95 lm_1 (by decide) (by decide) ?_
          refine ev_iconst (v := 1) dX11_stiffs_96 (by decide) ?_
          refine ev_iadd dX11_stiffs_97 ?_
          refine ev_isN (j := 7) dX11_stiffs_98 lm_1 (by decide) (by decide) ?_
          generalize eM3 : ev_wr M2 1 7 ((M2.1 1 7) + 1) = M3
          replace h := h M3 eM3.symm
          refine ev_aload_n dX11_stiffs_99 rfl ?_
          refine ev_getA dX11_stiffs_100 fl_WithoutEModel_7 lm_0 rfl ?_
          refine ev_bipush (v := 7) dX11_stiffs_103 (by decide) ?_
          refine ev_iaN (j := 7) dX11_stiffs_105 lm_1 (by decide) (by decide) ?_
          exact ev_iret dX11_stiffs_106 rfl h
        · replace h := h.2 c
          refine ev_bipush (v := -2) dX11_stiffs_45 (by decide) ?_
          exact ev_iret dX11_stiffs_47 rfl h
  · replace h := h.2 c
    refine ev_aload_n dX11_stiffs_5 rfl ?_
    refine ev_getA dX11_stiffs_6 fl_WithoutEModel_7 lm_0 rfl ?_
    refine ev_bipush (v := 7) dX11_stiffs_9 (by decide) ?_
    refine ev_iconst (v := 0) dX11_stiffs_11 (by decide) ?_
    refine ev_isN (j := 7) dX11_stiffs_12 lm_1 (by decide) (by decide) ?_
    generalize eM4 : ev_wr M 1 7 0 = M4
    replace h := h M4 eM4.symm
    refine ev_iconst (v := 0) dX11_stiffs_13 (by decide) ?_
    exact ev_iret dX11_stiffs_14 rfl h
theorem dX11_page_0 : decode cX11_page 0 = .ok (.iload_n 1, 1) := by decide +kernel
theorem dX11_page_1 : decode cX11_page 1 = .ok (.iconst (-1), 1) := by decide +kernel
theorem dX11_page_2 : decode cX11_page 2 = .ok (.if_icmp .ne 12, 3) := by decide +kernel
theorem dX11_page_5 : decode cX11_page 5 = .ok (.aload_n 0, 1) := by decide +kernel
theorem dX11_page_6 : decode cX11_page 6 = .ok (.getfield 7, 3) := by decide +kernel
theorem dX11_page_9 : decode cX11_page 9 = .ok (.iconst 5, 1) := by decide +kernel
theorem dX11_page_10 : decode cX11_page 10 = .ok (.iconst 0, 1) := by decide +kernel
theorem dX11_page_11 : decode cX11_page 11 = .ok (.iastore, 1) := by decide +kernel
theorem dX11_page_12 : decode cX11_page 12 = .ok (.iconst 0, 1) := by decide +kernel
theorem dX11_page_13 : decode cX11_page 13 = .ok (.ireturn, 1) := by decide +kernel
theorem dX11_page_14 : decode cX11_page 14 = .ok (.aload_n 0, 1) := by decide +kernel
theorem dX11_page_15 : decode cX11_page 15 = .ok (.iload_n 1, 1) := by decide +kernel
theorem dX11_page_16 : decode cX11_page 16 = .ok (.invokevirtual 337, 3) := by decide +kernel
theorem dX11_page_19 : decode cX11_page 19 = .ok (.ifCond .eq 14, 3) := by decide +kernel
theorem dX11_page_22 : decode cX11_page 22 = .ok (.aload_n 0, 1) := by decide +kernel
theorem dX11_page_23 : decode cX11_page 23 = .ok (.getfield 7, 3) := by decide +kernel
theorem dX11_page_26 : decode cX11_page 26 = .ok (.iconst 5, 1) := by decide +kernel
theorem dX11_page_27 : decode cX11_page 27 = .ok (.iaload, 1) := by decide +kernel
theorem dX11_page_28 : decode cX11_page 28 = .ok (.bipush 8, 2) := by decide +kernel
theorem dX11_page_30 : decode cX11_page 30 = .ok (.if_icmp .ne 24, 3) := by decide +kernel
theorem dX11_page_33 : decode cX11_page 33 = .ok (.aload_n 0, 1) := by decide +kernel
theorem dX11_page_34 : decode cX11_page 34 = .ok (.aload_n 0, 1) := by decide +kernel
theorem dX11_page_35 : decode cX11_page 35 = .ok (.iload_n 1, 1) := by decide +kernel
theorem dX11_page_36 : decode cX11_page 36 = .ok (.invokevirtual 337, 3) := by decide +kernel
theorem dX11_page_39 : decode cX11_page 39 = .ok (.ifCond .eq 7, 3) := by decide +kernel
theorem dX11_page_42 : decode cX11_page 42 = .ok (.iconst 1, 1) := by decide +kernel
theorem dX11_page_43 : decode cX11_page 43 = .ok (.goto 4, 3) := by decide +kernel
theorem dX11_page_46 : decode cX11_page 46 = .ok (.iconst 0, 1) := by decide +kernel
theorem dX11_page_47 : decode cX11_page 47 = .ok (.invokevirtual 331, 3) := by decide +kernel
theorem dX11_page_50 : decode cX11_page 50 = .ok (.pop, 1) := by decide +kernel
theorem dX11_page_51 : decode cX11_page 51 = .ok (.bipush (-2), 2) := by decide +kernel
theorem dX11_page_53 : decode cX11_page 53 = .ok (.ireturn, 1) := by decide +kernel
theorem dX11_page_54 : decode cX11_page 54 = .ok (.aload_n 0, 1) := by decide +kernel
theorem dX11_page_55 : decode cX11_page 55 = .ok (.getfield 7, 3) := by decide +kernel
theorem dX11_page_58 : decode cX11_page 58 = .ok (.sipush 451, 3) := by decide +kernel
theorem dX11_page_61 : decode cX11_page 61 = .ok (.aload_n 0, 1) := by decide +kernel
theorem dX11_page_62 : decode cX11_page 62 = .ok (.getfield 7, 3) := by decide +kernel
theorem dX11_page_65 : decode cX11_page 65 = .ok (.iconst 5, 1) := by decide +kernel
theorem dX11_page_66 : decode cX11_page 66 = .ok (.iaload, 1) := by decide +kernel
theorem dX11_page_67 : decode cX11_page 67 = .ok (.iadd, 1) := by decide +kernel
theorem dX11_page_68 : decode cX11_page 68 = .ok (.iload_n 1, 1) := by decide +kernel
theorem dX11_page_69 : decode cX11_page 69 = .ok (.iastore, 1) := by decide +kernel
theorem dX11_page_70 : decode cX11_page 70 = .ok (.aload_n 0, 1) := by decide +kernel
theorem dX11_page_71 : decode cX11_page 71 = .ok (.getfield 7, 3) := by decide +kernel
theorem dX11_page_74 : decode cX11_page 74 = .ok (.iconst 5, 1) := by decide +kernel
theorem dX11_page_75 : decode cX11_page 75 = .ok (.dup2, 1) := by decide +kernel
theorem dX11_page_76 : decode cX11_page 76 = .ok (.iaload, 1) := by decide +kernel
theorem dX11_page_77 : decode cX11_page 77 = .ok (.iconst 1, 1) := by decide +kernel
theorem dX11_page_78 : decode cX11_page 78 = .ok (.iadd, 1) := by decide +kernel
theorem dX11_page_79 : decode cX11_page 79 = .ok (.iastore, 1) := by decide +kernel
theorem dX11_page_80 : decode cX11_page 80 = .ok (.aload_n 0, 1) := by decide +kernel
theorem dX11_page_81 : decode cX11_page 81 = .ok (.getfield 7, 3) := by decide +kernel
theorem dX11_page_84 : decode cX11_page 84 = .ok (.iconst 5, 1) := by decide +kernel
theorem dX11_page_85 : decode cX11_page 85 = .ok (.iaload, 1) := by decide +kernel
theorem dX11_page_86 : decode cX11_page 86 = .ok (.ireturn, 1) := by decide +kernel
theorem gX11_page_0 {d : Nat} {M : ev_Mem} {Q : Option Value → ev_Mem → Prop} {x1 : Int32} (h : (((¬ x1 = (-1)) → ((((iin x1 0 (M.1 1 0 - 1)) = false) → ((((iin x1 0 (M.1 1 0 - 1)) = false) → ((vp_in (0 : Int32) 3) ∧ (∀ M1 : ev_Mem, M1 = rfs M 3 (0 : Int32).toNatClampNeg → (Q (some (.int (-2))) M1)))) ∧ (((iin x1 0 (M.1 1 0 - 1)) = true) → ((vp_in (1 : Int32) 3) ∧ (∀ M2 : ev_Mem, M2 = rfs M 3 (1 : Int32).toNatClampNeg → (Q (some (.int (-2))) M2)))))) ∧ (((iin x1 0 (M.1 1 0 - 1)) = true) → (((¬ (M.1 1 5) = 8) → (vp_in (451 + (M.1 1 5)) 3315 ∧ (∀ M3 : ev_Mem, M3 = ev_wr M 1 (451 + (M.1 1 5)).toNatClampNeg x1 → (∀ M4 : ev_Mem, M4 = ev_wr M3 1 5 ((M3.1 1 5) + 1) → (Q (some (.int (M4.1 1 5))) M4))))) ∧ (((M.1 1 5) = 8) → ((((iin x1 0 (M.1 1 0 - 1)) = false) → ((vp_in (0 : Int32) 3) ∧ (∀ M5 : ev_Mem, M5 = rfs M 3 (0 : Int32).toNatClampNeg → (Q (some (.int (-2))) M5)))) ∧ (((iin x1 0 (M.1 1 0 - 1)) = true) → ((vp_in (1 : Int32) 3) ∧ (∀ M6 : ev_Mem, M6 = rfs M 3 (1 : Int32).toNatClampNeg → (Q (some (.int (-2))) M6)))))))))) ∧ ((x1 = (-1)) → (∀ M7 : ev_Mem, M7 = ev_wr M 1 5 0 → (Q (some (.int 0)) M7))))) : Ev LM (d + 2) mX11_page 0 [some (.ref 0), some (.int x1)] [] M Q := by
  refine ev_iload_n dX11_page_0 rfl ?_
  refine ev_iconst (v := -1) dX11_page_1 (by decide) ?_
  refine ev_icmp_ne (tgt := 14) dX11_page_2 (by decide) (fun c => ?_) (fun c => ?_)
  · replace h := h.1 c
    refine ev_aload_n dX11_page_14 rfl ?_
    refine ev_iload_n dX11_page_15 rfl ?_
    refine ev_callV [.int x1] dX11_page_16 ml_WithoutEModel_337 lm_0 rfl rfl (Nat.le_of_ble_eq_true rfl) (kX11_isWordOf) ?_
    rintro zr zM ⟨q1, q2⟩
    rw [q1, q2]
    show Ev LM (d + 2) mX11_page 19 [some (.ref 0), some (.int x1)] [(.int (bi (iin x1 0 (M.1 1 0 - 1))))] M Q
    refine ev_if_eq (tgt := 33) dX11_page_19 (by decide) (fun c => ?_) (fun c => ?_)
    · replace h := h.1 ((bi_0 _).mp c)
      refine ev_aload_n dX11_page_33 rfl ?_
      refine ev_aload_n dX11_page_34 rfl ?_
      refine ev_iload_n dX11_page_35 rfl ?_
      refine ev_callV [.int x1] dX11_page_36 ml_WithoutEModel_337 lm_0 rfl rfl (Nat.le_of_ble_eq_true rfl) (kX11_isWordOf) ?_
      rintro zr zM ⟨q1, q2⟩
      rw [q1, q2]
      show Ev LM (d + 2) mX11_page 39 [some (.ref 0), some (.int x1)] [(.int (bi (iin x1 0 (M.1 1 0 - 1)))), (.ref 0)] M Q
      refine ev_if_eq (tgt := 46) dX11_page_39 (by decide) (fun c => ?_) (fun c => ?_)
      · replace h := h.1 ((bi_0 _).mp c)
        refine ev_iconst (v := 0) dX11_page_46 (by decide) ?_
        obtain ⟨p1, h⟩ := h
        refine ev_callV [.int 0] dX11_page_47 ml_WithoutEModel_331 lm_0 rfl rfl (Nat.le_of_ble_eq_true rfl) (qX11_refused p1) ?_
        rintro zr zM ⟨q1, q2⟩
        rw [q1, q2]
        generalize eM1 : rfs M 3 (0 : Int32).toNatClampNeg = M1
        replace h := h M1 eM1.symm
        show Ev LM (d + 2) mX11_page 50 [some (.ref 0), some (.int x1)] [(.int (-1))] M1 Q
        refine ev_pop dX11_page_50 rfl ?_
        refine ev_bipush (v := -2) dX11_page_51 (by decide) ?_
        exact ev_iret dX11_page_53 rfl h
      · replace h := h.2 ((bi_n0 _).mp c)
        refine ev_iconst (v := 1) dX11_page_42 (by decide) ?_
        refine ev_goto (tgt := 47) dX11_page_43 (by decide) ?_
        obtain ⟨p1, h⟩ := h
        refine ev_callV [.int 1] dX11_page_47 ml_WithoutEModel_331 lm_0 rfl rfl (Nat.le_of_ble_eq_true rfl) (qX11_refused p1) ?_
        rintro zr zM ⟨q1, q2⟩
        rw [q1, q2]
        generalize eM2 : rfs M 3 (1 : Int32).toNatClampNeg = M2
        replace h := h M2 eM2.symm
        show Ev LM (d + 2) mX11_page 50 [some (.ref 0), some (.int x1)] [(.int (-1))] M2 Q
        refine ev_pop dX11_page_50 rfl ?_
        refine ev_bipush (v := -2) dX11_page_51 (by decide) ?_
        exact ev_iret dX11_page_53 rfl h
    · replace h := h.2 ((bi_n0 _).mp c)
      refine ev_aload_n dX11_page_22 rfl ?_
      refine ev_getA dX11_page_23 fl_WithoutEModel_7 lm_0 rfl ?_
      refine ev_iconst (v := 5) dX11_page_26 (by decide) ?_
      refine ev_iaN (j := 5) dX11_page_27 lm_1 (by decide) (by decide) ?_
      refine ev_bipush (v := 8) dX11_page_28 (by decide) ?_
      refine ev_icmp_ne (tgt := 54) dX11_page_30 (by decide) (fun c => ?_) (fun c => ?_)
      · replace h := h.1 c
        refine ev_aload_n dX11_page_54 rfl ?_
        refine ev_getA dX11_page_55 fl_WithoutEModel_7 lm_0 rfl ?_
        refine ev_sipush (v := 451) dX11_page_58 (by decide) ?_
        refine ev_aload_n dX11_page_61 rfl ?_
        refine ev_getA dX11_page_62 fl_WithoutEModel_7 lm_0 rfl ?_
        refine ev_iconst (v := 5) dX11_page_65 (by decide) ?_
        refine ev_iaN (j := 5) dX11_page_66 lm_1 (by decide) (by decide) ?_
        refine ev_iadd dX11_page_67 ?_
        refine ev_iload_n dX11_page_68 rfl ?_
        obtain ⟨c, h⟩ := h
        refine ev_iast dX11_page_69 lm_1 c ?_
        generalize eM3 : ev_wr M 1 (451 + (M.1 1 5)).toNatClampNeg x1 = M3
        replace h := h M3 eM3.symm
        refine ev_aload_n dX11_page_70 rfl ?_
        refine ev_getA dX11_page_71 fl_WithoutEModel_7 lm_0 rfl ?_
        refine ev_iconst (v := 5) dX11_page_74 (by decide) ?_
        refine ev_dup2 dX11_page_75 rfl rfl ?_
        refine ev_iaN (j := 5) dX11_page_76 lm_1 (by decide) (by decide) ?_
        refine ev_iconst (v := 1) dX11_page_77 (by decide) ?_
        refine ev_iadd dX11_page_78 ?_
        refine ev_isN (j := 5) dX11_page_79 lm_1 (by decide) (by decide) ?_
        generalize eM4 : ev_wr M3 1 5 ((M3.1 1 5) + 1) = M4
        replace h := h M4 eM4.symm
        refine ev_aload_n dX11_page_80 rfl ?_
        refine ev_getA dX11_page_81 fl_WithoutEModel_7 lm_0 rfl ?_
        refine ev_iconst (v := 5) dX11_page_84 (by decide) ?_
        refine ev_iaN (j := 5) dX11_page_85 lm_1 (by decide) (by decide) ?_
        exact ev_iret dX11_page_86 rfl h
      · replace h := h.2 c
        refine ev_aload_n dX11_page_33 rfl ?_
        refine ev_aload_n dX11_page_34 rfl ?_
        refine ev_iload_n dX11_page_35 rfl ?_
        refine ev_callV [.int x1] dX11_page_36 ml_WithoutEModel_337 lm_0 rfl rfl (Nat.le_of_ble_eq_true rfl) (kX11_isWordOf) ?_
        rintro zr zM ⟨q1, q2⟩
        rw [q1, q2]
        show Ev LM (d + 2) mX11_page 39 [some (.ref 0), some (.int x1)] [(.int (bi (iin x1 0 (M.1 1 0 - 1)))), (.ref 0)] M Q
        refine ev_if_eq (tgt := 46) dX11_page_39 (by decide) (fun c => ?_) (fun c => ?_)
        · replace h := h.1 ((bi_0 _).mp c)
          refine ev_iconst (v := 0) dX11_page_46 (by decide) ?_
          obtain ⟨p1, h⟩ := h
          refine ev_callV [.int 0] dX11_page_47 ml_WithoutEModel_331 lm_0 rfl rfl (Nat.le_of_ble_eq_true rfl) (qX11_refused p1) ?_
          rintro zr zM ⟨q1, q2⟩
          rw [q1, q2]
          generalize eM5 : rfs M 3 (0 : Int32).toNatClampNeg = M5
          replace h := h M5 eM5.symm
          show Ev LM (d + 2) mX11_page 50 [some (.ref 0), some (.int x1)] [(.int (-1))] M5 Q
          refine ev_pop dX11_page_50 rfl ?_
          refine ev_bipush (v := -2) dX11_page_51 (by decide) ?_
          exact ev_iret dX11_page_53 rfl h
        · replace h := h.2 ((bi_n0 _).mp c)
          refine ev_iconst (v := 1) dX11_page_42 (by decide) ?_
          refine ev_goto (tgt := 47) dX11_page_43 (by decide) ?_
          obtain ⟨p1, h⟩ := h
          refine ev_callV [.int 1] dX11_page_47 ml_WithoutEModel_331 lm_0 rfl rfl (Nat.le_of_ble_eq_true rfl) (qX11_refused p1) ?_
          rintro zr zM ⟨q1, q2⟩
          rw [q1, q2]
          generalize eM6 : rfs M 3 (1 : Int32).toNatClampNeg = M6
          replace h := h M6 eM6.symm
          show Ev LM (d + 2) mX11_page 50 [some (.ref 0), some (.int x1)] [(.int (-1))] M6 Q
          refine ev_pop dX11_page_50 rfl ?_
          refine ev_bipush (v := -2) dX11_page_51 (by decide) ?_
          exact ev_iret dX11_page_53 rfl h
  · replace h := h.2 c
    refine ev_aload_n dX11_page_5 rfl ?_
    refine ev_getA dX11_page_6 fl_WithoutEModel_7 lm_0 rfl ?_
    refine ev_iconst (v := 5) dX11_page_9 (by decide) ?_
    refine ev_iconst (v := 0) dX11_page_10 (by decide) ?_
    refine ev_isN (j := 5) dX11_page_11 lm_1 (by decide) (by decide) ?_
    generalize eM7 : ev_wr M 1 5 0 = M7
    replace h := h M7 eM7.symm
    refine ev_iconst (v := 0) dX11_page_12 (by decide) ?_
    exact ev_iret dX11_page_13 rfl h
theorem dX11_letters_0 : decode cX11_letters 0 = .ok (.iload_n 1, 1) := by decide +kernel
theorem dX11_letters_1 : decode cX11_letters 1 = .ok (.invokestatic 343, 3) := by decide +kernel
theorem dX11_letters_4 : decode cX11_letters 4 = .ok (.ifCond .ne 5, 3) := by decide +kernel
theorem dX11_letters_7 : decode cX11_letters 7 = .ok (.iconst (-1), 1) := by decide +kernel
theorem dX11_letters_8 : decode cX11_letters 8 = .ok (.ireturn, 1) := by decide +kernel
theorem dX11_letters_9 : decode cX11_letters 9 = .ok (.iconst 0, 1) := by decide +kernel
theorem dX11_letters_10 : decode cX11_letters 10 = .ok (.istore_n 2, 1) := by decide +kernel
theorem dX11_letters_11 : decode cX11_letters 11 = .ok (.aload_n 0, 1) := by decide +kernel
theorem dX11_letters_12 : decode cX11_letters 12 = .ok (.getfield 7, 3) := by decide +kernel
theorem dX11_letters_15 : decode cX11_letters 15 = .ok (.sipush 399, 3) := by decide +kernel
theorem dX11_letters_18 : decode cX11_letters 18 = .ok (.iconst 2, 1) := by decide +kernel
theorem dX11_letters_19 : decode cX11_letters 19 = .ok (.iload_n 1, 1) := by decide +kernel
theorem dX11_letters_20 : decode cX11_letters 20 = .ok (.imul, 1) := by decide +kernel
theorem dX11_letters_21 : decode cX11_letters 21 = .ok (.iadd, 1) := by decide +kernel
theorem dX11_letters_22 : decode cX11_letters 22 = .ok (.iaload, 1) := by decide +kernel
theorem dX11_letters_23 : decode cX11_letters 23 = .ok (.istore_n 3, 1) := by decide +kernel
theorem dX11_letters_24 : decode cX11_letters 24 = .ok (.iload_n 3, 1) := by decide +kernel
theorem dX11_letters_25 : decode cX11_letters 25 = .ok (.iconst (-1), 1) := by decide +kernel
theorem dX11_letters_26 : decode cX11_letters 26 = .ok (.if_icmp .eq 38, 3) := by decide +kernel
theorem dX11_letters_29 : decode cX11_letters 29 = .ok (.iload_n 3, 1) := by decide +kernel
theorem dX11_letters_30 : decode cX11_letters 30 = .ok (.iload_n 1, 1) := by decide +kernel
theorem dX11_letters_31 : decode cX11_letters 31 = .ok (.if_icmp .eq 33, 3) := by decide +kernel
theorem dX11_letters_34 : decode cX11_letters 34 = .ok (.iload_n 2, 1) := by decide +kernel
theorem dX11_letters_35 : decode cX11_letters 35 = .ok (.iload_n 3, 1) := by decide +kernel
theorem dX11_letters_36 : decode cX11_letters 36 = .ok (.invokestatic 84, 3) := by decide +kernel
theorem dX11_letters_39 : decode cX11_letters 39 = .ok (.ifCond .ne 25, 3) := by decide +kernel
theorem dX11_letters_42 : decode cX11_letters 42 = .ok (.iload_n 2, 1) := by decide +kernel
theorem dX11_letters_43 : decode cX11_letters 43 = .ok (.iconst 1, 1) := by decide +kernel
theorem dX11_letters_44 : decode cX11_letters 44 = .ok (.iload_n 3, 1) := by decide +kernel
theorem dX11_letters_45 : decode cX11_letters 45 = .ok (.ishl, 1) := by decide +kernel
theorem dX11_letters_46 : decode cX11_letters 46 = .ok (.ior, 1) := by decide +kernel
theorem dX11_letters_47 : decode cX11_letters 47 = .ok (.istore_n 2, 1) := by decide +kernel
theorem dX11_letters_48 : decode cX11_letters 48 = .ok (.aload_n 0, 1) := by decide +kernel
theorem dX11_letters_49 : decode cX11_letters 49 = .ok (.getfield 7, 3) := by decide +kernel
theorem dX11_letters_52 : decode cX11_letters 52 = .ok (.sipush 399, 3) := by decide +kernel
theorem dX11_letters_55 : decode cX11_letters 55 = .ok (.iconst 2, 1) := by decide +kernel
theorem dX11_letters_56 : decode cX11_letters 56 = .ok (.iload_n 3, 1) := by decide +kernel
theorem dX11_letters_57 : decode cX11_letters 57 = .ok (.imul, 1) := by decide +kernel
theorem dX11_letters_58 : decode cX11_letters 58 = .ok (.iadd, 1) := by decide +kernel
theorem dX11_letters_59 : decode cX11_letters 59 = .ok (.iaload, 1) := by decide +kernel
theorem dX11_letters_60 : decode cX11_letters 60 = .ok (.istore_n 3, 1) := by decide +kernel
theorem dX11_letters_61 : decode cX11_letters 61 = .ok (.goto (-37), 3) := by decide +kernel
theorem dX11_letters_64 : decode cX11_letters 64 = .ok (.iload_n 2, 1) := by decide +kernel
theorem dX11_letters_65 : decode cX11_letters 65 = .ok (.ireturn, 1) := by decide +kernel
theorem gX11_letters_0 {d : Nat} {M : ev_Mem} {Q : Option Value → ev_Mem → Prop} {x1 : Int32} (h : ((((iin x1 0 25) = true) → (vp_in (399 + (2 * x1)) 3315 ∧ (∀ v1 : Int32, v1 = M.1 1 (399 + (2 * x1)).toNatClampNeg → (Ev LM (d + 2) mX11_letters 24 [some (.ref 0), some (.int x1), some (.int 0), some (.int v1)] [] M Q)))) ∧ (((iin x1 0 25) = false) → (Q (some (.int (-1))) M)))) : Ev LM (d + 2) mX11_letters 0 [some (.ref 0), some (.int x1), none, none] [] M Q := by
  refine ev_iload_n dX11_letters_0 rfl ?_
  refine ev_callS [.int x1] dX11_letters_1 ml_WithoutEModel_343 rfl (Nat.le_of_ble_eq_true rfl) (kX11_isLetter) ?_
  rintro zr zM ⟨q1, q2⟩
  rw [q1, q2]
  show Ev LM (d + 2) mX11_letters 4 [some (.ref 0), some (.int x1), none, none] [(.int (bi (iin x1 0 25)))] M Q
  refine ev_if_ne (tgt := 9) dX11_letters_4 (by decide) (fun c => ?_) (fun c => ?_)
  · replace h := h.1 ((bi_n0 _).mp c)
    refine ev_iconst (v := 0) dX11_letters_9 (by decide) ?_
    refine ev_istore_n (ls2 := [some (.ref 0), some (.int x1), some (.int 0), none]) dX11_letters_10 (Nat.le_of_ble_eq_true rfl) rfl ?_
    refine ev_aload_n dX11_letters_11 rfl ?_
    refine ev_getA dX11_letters_12 fl_WithoutEModel_7 lm_0 rfl ?_
    refine ev_sipush (v := 399) dX11_letters_15 (by decide) ?_
    refine ev_iconst (v := 2) dX11_letters_18 (by decide) ?_
    refine ev_iload_n dX11_letters_19 rfl ?_
    refine ev_imul dX11_letters_20 ?_
    refine ev_iadd dX11_letters_21 ?_
    obtain ⟨c, h⟩ := h
    refine ev_iald dX11_letters_22 lm_1 c ?_
    refine ev_istore_n (ls2 := [some (.ref 0), some (.int x1), some (.int 0), some (.int (M.1 1 (399 + (2 * x1)).toNatClampNeg))]) dX11_letters_23 (Nat.le_of_ble_eq_true rfl) rfl ?_
    generalize ev1 : M.1 1 (399 + (2 * x1)).toNatClampNeg = v1
    replace h := h v1 ev1.symm
    exact h
  · replace h := h.2 ((bi_0 _).mp c)
    refine ev_iconst (v := -1) dX11_letters_7 (by decide) ?_
    exact ev_iret dX11_letters_8 rfl h
theorem gX11_letters_24 {d : Nat} {M : ev_Mem} {Q : Option Value → ev_Mem → Prop} {x1 x2 x3 : Int32} (h : (((x3 = (-1)) → (Q (some (.int x2)) M)) ∧ ((¬ x3 = (-1)) → (((x3 = x1) → (Q (some (.int x2)) M)) ∧ ((¬ x3 = x1) → ((((hs x2 x3) = true) → (Q (some (.int x2)) M)) ∧ (((hs x2 x3) = false) → (∀ v1 : Int32, v1 = x2 ||| (1 <<< (x3 &&& 31)) → (vp_in (399 + (2 * x3)) 3315 ∧ (∀ v2 : Int32, v2 = M.1 1 (399 + (2 * x3)).toNatClampNeg → (Ev LM (d + 1) mX11_letters 24 [some (.ref 0), some (.int x1), some (.int v1), some (.int v2)] [] M Q))))))))))) : Ev LM (d + 1) mX11_letters 24 [some (.ref 0), some (.int x1), some (.int x2), some (.int x3)] [] M Q := by
  refine ev_iload_n dX11_letters_24 rfl ?_
  refine ev_iconst (v := -1) dX11_letters_25 (by decide) ?_
  refine ev_icmp_eq (tgt := 64) dX11_letters_26 (by decide) (fun c => ?_) (fun c => ?_)
  · replace h := h.1 c
    refine ev_iload_n dX11_letters_64 rfl ?_
    exact ev_iret dX11_letters_65 rfl h
  · replace h := h.2 c
    refine ev_iload_n dX11_letters_29 rfl ?_
    refine ev_iload_n dX11_letters_30 rfl ?_
    refine ev_icmp_eq (tgt := 64) dX11_letters_31 (by decide) (fun c => ?_) (fun c => ?_)
    · replace h := h.1 c
      refine ev_iload_n dX11_letters_64 rfl ?_
      exact ev_iret dX11_letters_65 rfl h
    · replace h := h.2 c
      refine ev_iload_n dX11_letters_34 rfl ?_
      refine ev_iload_n dX11_letters_35 rfl ?_
      refine ev_callS [.int x2, .int x3] dX11_letters_36 ml_WithoutEModel_84 rfl (Nat.le_of_ble_eq_true rfl) (kX11_has) ?_
      rintro zr zM ⟨q1, q2⟩
      rw [q1, q2]
      show Ev LM (d + 1) mX11_letters 39 [some (.ref 0), some (.int x1), some (.int x2), some (.int x3)] [(.int (bi (hs x2 x3)))] M Q
      refine ev_if_ne (tgt := 64) dX11_letters_39 (by decide) (fun c => ?_) (fun c => ?_)
      · replace h := h.1 ((bi_n0 _).mp c)
        refine ev_iload_n dX11_letters_64 rfl ?_
        exact ev_iret dX11_letters_65 rfl h
      · replace h := h.2 ((bi_0 _).mp c)
        refine ev_iload_n dX11_letters_42 rfl ?_
        refine ev_iconst (v := 1) dX11_letters_43 (by decide) ?_
        refine ev_iload_n dX11_letters_44 rfl ?_
        refine ev_ishl dX11_letters_45 ?_
        refine ev_ior dX11_letters_46 ?_
        refine ev_istore_n (ls2 := [some (.ref 0), some (.int x1), some (.int (x2 ||| (1 <<< (x3 &&& 31)))), some (.int x3)]) dX11_letters_47 (Nat.le_of_ble_eq_true rfl) rfl ?_
        generalize ev1 : x2 ||| (1 <<< (x3 &&& 31)) = v1
        replace h := h v1 ev1.symm
        refine ev_aload_n dX11_letters_48 rfl ?_
        refine ev_getA dX11_letters_49 fl_WithoutEModel_7 lm_0 rfl ?_
        refine ev_sipush (v := 399) dX11_letters_52 (by decide) ?_
        refine ev_iconst (v := 2) dX11_letters_55 (by decide) ?_
        refine ev_iload_n dX11_letters_56 rfl ?_
        refine ev_imul dX11_letters_57 ?_
        refine ev_iadd dX11_letters_58 ?_
        obtain ⟨c, h⟩ := h
        refine ev_iald dX11_letters_59 lm_1 c ?_
        refine ev_istore_n (ls2 := [some (.ref 0), some (.int x1), some (.int v1), some (.int (M.1 1 (399 + (2 * x3)).toNatClampNeg))]) dX11_letters_60 (Nat.le_of_ble_eq_true rfl) rfl ?_
        generalize ev2 : M.1 1 (399 + (2 * x3)).toNatClampNeg = v2
        replace h := h v2 ev2.symm
        refine ev_goto (tgt := 24) dX11_letters_61 (by decide) ?_
        exact h
theorem dX11_made_0 : decode cX11_made 0 = .ok (.iload_n 1, 1) := by decide +kernel
theorem dX11_made_1 : decode cX11_made 1 = .ok (.invokestatic 343, 3) := by decide +kernel
theorem dX11_made_4 : decode cX11_made 4 = .ok (.ifCond .eq 25, 3) := by decide +kernel
theorem dX11_made_7 : decode cX11_made 7 = .ok (.iload_n 2, 1) := by decide +kernel
theorem dX11_made_8 : decode cX11_made 8 = .ok (.invokestatic 343, 3) := by decide +kernel
theorem dX11_made_11 : decode cX11_made 11 = .ok (.ifCond .eq 18, 3) := by decide +kernel
theorem dX11_made_14 : decode cX11_made 14 = .ok (.iload_n 1, 1) := by decide +kernel
theorem dX11_made_15 : decode cX11_made 15 = .ok (.iload_n 2, 1) := by decide +kernel
theorem dX11_made_16 : decode cX11_made 16 = .ok (.if_icmp .eq 13, 3) := by decide +kernel
theorem dX11_made_19 : decode cX11_made 19 = .ok (.iload_n 3, 1) := by decide +kernel
theorem dX11_made_20 : decode cX11_made 20 = .ok (.iconst 0, 1) := by decide +kernel
theorem dX11_made_21 : decode cX11_made 21 = .ok (.bipush 9, 2) := by decide +kernel
theorem dX11_made_23 : decode cX11_made 23 = .ok (.invokestatic 80, 3) := by decide +kernel
theorem dX11_made_26 : decode cX11_made 26 = .ok (.ifCond .ne 11, 3) := by decide +kernel
theorem dX11_made_29 : decode cX11_made 29 = .ok (.aload_n 0, 1) := by decide +kernel
theorem dX11_made_30 : decode cX11_made 30 = .ok (.iconst 0, 1) := by decide +kernel
theorem dX11_made_31 : decode cX11_made 31 = .ok (.invokevirtual 331, 3) := by decide +kernel
theorem dX11_made_34 : decode cX11_made 34 = .ok (.pop, 1) := by decide +kernel
theorem dX11_made_35 : decode cX11_made 35 = .ok (.iconst 0, 1) := by decide +kernel
theorem dX11_made_36 : decode cX11_made 36 = .ok (.ireturn, 1) := by decide +kernel
theorem dX11_made_37 : decode cX11_made 37 = .ok (.aload_n 0, 1) := by decide +kernel
theorem dX11_made_38 : decode cX11_made 38 = .ok (.getfield 7, 3) := by decide +kernel
theorem dX11_made_41 : decode cX11_made 41 = .ok (.sipush 399, 3) := by decide +kernel
theorem dX11_made_44 : decode cX11_made 44 = .ok (.iconst 2, 1) := by decide +kernel
theorem dX11_made_45 : decode cX11_made 45 = .ok (.iload_n 1, 1) := by decide +kernel
theorem dX11_made_46 : decode cX11_made 46 = .ok (.imul, 1) := by decide +kernel
theorem dX11_made_47 : decode cX11_made 47 = .ok (.iadd, 1) := by decide +kernel
theorem dX11_made_48 : decode cX11_made 48 = .ok (.iload_n 2, 1) := by decide +kernel
theorem dX11_made_49 : decode cX11_made 49 = .ok (.iastore, 1) := by decide +kernel
theorem dX11_made_50 : decode cX11_made 50 = .ok (.aload_n 0, 1) := by decide +kernel
theorem dX11_made_51 : decode cX11_made 51 = .ok (.getfield 7, 3) := by decide +kernel
theorem dX11_made_54 : decode cX11_made 54 = .ok (.sipush 399, 3) := by decide +kernel
theorem dX11_made_57 : decode cX11_made 57 = .ok (.iconst 2, 1) := by decide +kernel
theorem dX11_made_58 : decode cX11_made 58 = .ok (.iload_n 1, 1) := by decide +kernel
theorem dX11_made_59 : decode cX11_made 59 = .ok (.imul, 1) := by decide +kernel
theorem dX11_made_60 : decode cX11_made 60 = .ok (.iadd, 1) := by decide +kernel
theorem dX11_made_61 : decode cX11_made 61 = .ok (.iconst 1, 1) := by decide +kernel
theorem dX11_made_62 : decode cX11_made 62 = .ok (.iadd, 1) := by decide +kernel
theorem dX11_made_63 : decode cX11_made 63 = .ok (.iload_n 3, 1) := by decide +kernel
theorem dX11_made_64 : decode cX11_made 64 = .ok (.iastore, 1) := by decide +kernel
theorem dX11_made_65 : decode cX11_made 65 = .ok (.iconst 1, 1) := by decide +kernel
theorem dX11_made_66 : decode cX11_made 66 = .ok (.ireturn, 1) := by decide +kernel
theorem gX11_made_0 {d : Nat} {M : ev_Mem} {Q : Option Value → ev_Mem → Prop} {x1 x2 x3 : Int32} (h : ((((iin x1 0 25) = false) → ((vp_in (0 : Int32) 3) ∧ (∀ M1 : ev_Mem, M1 = rfs M 3 (0 : Int32).toNatClampNeg → (Q (some (.int 0)) M1)))) ∧ (((iin x1 0 25) = true) → ((((iin x2 0 25) = false) → ((vp_in (0 : Int32) 3) ∧ (∀ M2 : ev_Mem, M2 = rfs M 3 (0 : Int32).toNatClampNeg → (Q (some (.int 0)) M2)))) ∧ (((iin x2 0 25) = true) → (((x1 = x2) → ((vp_in (0 : Int32) 3) ∧ (∀ M3 : ev_Mem, M3 = rfs M 3 (0 : Int32).toNatClampNeg → (Q (some (.int 0)) M3)))) ∧ ((¬ x1 = x2) → ((((iin x3 (0 : Int32) (9 : Int32)) = true) → (vp_in (399 + (2 * x1)) 3315 ∧ (∀ M4 : ev_Mem, M4 = ev_wr M 1 (399 + (2 * x1)).toNatClampNeg x2 → (vp_in ((399 + (2 * x1)) + 1) 3315 ∧ (∀ M5 : ev_Mem, M5 = ev_wr M4 1 ((399 + (2 * x1)) + 1).toNatClampNeg x3 → (Q (some (.int 1)) M5)))))) ∧ (((iin x3 (0 : Int32) (9 : Int32)) = false) → ((vp_in (0 : Int32) 3) ∧ (∀ M6 : ev_Mem, M6 = rfs M 3 (0 : Int32).toNatClampNeg → (Q (some (.int 0)) M6)))))))))))) : Ev LM (d + 2) mX11_made 0 [some (.ref 0), some (.int x1), some (.int x2), some (.int x3)] [] M Q := by
  refine ev_iload_n dX11_made_0 rfl ?_
  refine ev_callS [.int x1] dX11_made_1 ml_WithoutEModel_343 rfl (Nat.le_of_ble_eq_true rfl) (kX11_isLetter) ?_
  rintro zr zM ⟨q1, q2⟩
  rw [q1, q2]
  show Ev LM (d + 2) mX11_made 4 [some (.ref 0), some (.int x1), some (.int x2), some (.int x3)] [(.int (bi (iin x1 0 25)))] M Q
  refine ev_if_eq (tgt := 29) dX11_made_4 (by decide) (fun c => ?_) (fun c => ?_)
  · replace h := h.1 ((bi_0 _).mp c)
    refine ev_aload_n dX11_made_29 rfl ?_
    refine ev_iconst (v := 0) dX11_made_30 (by decide) ?_
    obtain ⟨p1, h⟩ := h
    refine ev_callV [.int 0] dX11_made_31 ml_WithoutEModel_331 lm_0 rfl rfl (Nat.le_of_ble_eq_true rfl) (qX11_refused p1) ?_
    rintro zr zM ⟨q1, q2⟩
    rw [q1, q2]
    generalize eM1 : rfs M 3 (0 : Int32).toNatClampNeg = M1
    replace h := h M1 eM1.symm
    show Ev LM (d + 2) mX11_made 34 [some (.ref 0), some (.int x1), some (.int x2), some (.int x3)] [(.int (-1))] M1 Q
    refine ev_pop dX11_made_34 rfl ?_
    refine ev_iconst (v := 0) dX11_made_35 (by decide) ?_
    exact ev_zret dX11_made_36 rfl (by decide) h
  · replace h := h.2 ((bi_n0 _).mp c)
    refine ev_iload_n dX11_made_7 rfl ?_
    refine ev_callS [.int x2] dX11_made_8 ml_WithoutEModel_343 rfl (Nat.le_of_ble_eq_true rfl) (kX11_isLetter) ?_
    rintro zr zM ⟨q1, q2⟩
    rw [q1, q2]
    show Ev LM (d + 2) mX11_made 11 [some (.ref 0), some (.int x1), some (.int x2), some (.int x3)] [(.int (bi (iin x2 0 25)))] M Q
    refine ev_if_eq (tgt := 29) dX11_made_11 (by decide) (fun c => ?_) (fun c => ?_)
    · replace h := h.1 ((bi_0 _).mp c)
      refine ev_aload_n dX11_made_29 rfl ?_
      refine ev_iconst (v := 0) dX11_made_30 (by decide) ?_
      obtain ⟨p1, h⟩ := h
      refine ev_callV [.int 0] dX11_made_31 ml_WithoutEModel_331 lm_0 rfl rfl (Nat.le_of_ble_eq_true rfl) (qX11_refused p1) ?_
      rintro zr zM ⟨q1, q2⟩
      rw [q1, q2]
      generalize eM2 : rfs M 3 (0 : Int32).toNatClampNeg = M2
      replace h := h M2 eM2.symm
      show Ev LM (d + 2) mX11_made 34 [some (.ref 0), some (.int x1), some (.int x2), some (.int x3)] [(.int (-1))] M2 Q
      refine ev_pop dX11_made_34 rfl ?_
      refine ev_iconst (v := 0) dX11_made_35 (by decide) ?_
      exact ev_zret dX11_made_36 rfl (by decide) h
    · replace h := h.2 ((bi_n0 _).mp c)
      refine ev_iload_n dX11_made_14 rfl ?_
      refine ev_iload_n dX11_made_15 rfl ?_
      refine ev_icmp_eq (tgt := 29) dX11_made_16 (by decide) (fun c => ?_) (fun c => ?_)
      · replace h := h.1 c
        refine ev_aload_n dX11_made_29 rfl ?_
        refine ev_iconst (v := 0) dX11_made_30 (by decide) ?_
        obtain ⟨p1, h⟩ := h
        refine ev_callV [.int 0] dX11_made_31 ml_WithoutEModel_331 lm_0 rfl rfl (Nat.le_of_ble_eq_true rfl) (qX11_refused p1) ?_
        rintro zr zM ⟨q1, q2⟩
        rw [q1, q2]
        generalize eM3 : rfs M 3 (0 : Int32).toNatClampNeg = M3
        replace h := h M3 eM3.symm
        show Ev LM (d + 2) mX11_made 34 [some (.ref 0), some (.int x1), some (.int x2), some (.int x3)] [(.int (-1))] M3 Q
        refine ev_pop dX11_made_34 rfl ?_
        refine ev_iconst (v := 0) dX11_made_35 (by decide) ?_
        exact ev_zret dX11_made_36 rfl (by decide) h
      · replace h := h.2 c
        refine ev_iload_n dX11_made_19 rfl ?_
        refine ev_iconst (v := 0) dX11_made_20 (by decide) ?_
        refine ev_bipush (v := 9) dX11_made_21 (by decide) ?_
        refine ev_callS [.int x3, .int 0, .int 9] dX11_made_23 ml_WithoutEModel_80 rfl (Nat.le_of_ble_eq_true rfl) (kX11_isIn) ?_
        rintro zr zM ⟨q1, q2⟩
        rw [q1, q2]
        show Ev LM (d + 2) mX11_made 26 [some (.ref 0), some (.int x1), some (.int x2), some (.int x3)] [(.int (bi (iin x3 (0 : Int32) (9 : Int32))))] M Q
        refine ev_if_ne (tgt := 37) dX11_made_26 (by decide) (fun c => ?_) (fun c => ?_)
        · replace h := h.1 ((bi_n0 _).mp c)
          refine ev_aload_n dX11_made_37 rfl ?_
          refine ev_getA dX11_made_38 fl_WithoutEModel_7 lm_0 rfl ?_
          refine ev_sipush (v := 399) dX11_made_41 (by decide) ?_
          refine ev_iconst (v := 2) dX11_made_44 (by decide) ?_
          refine ev_iload_n dX11_made_45 rfl ?_
          refine ev_imul dX11_made_46 ?_
          refine ev_iadd dX11_made_47 ?_
          refine ev_iload_n dX11_made_48 rfl ?_
          obtain ⟨c, h⟩ := h
          refine ev_iast dX11_made_49 lm_1 c ?_
          generalize eM4 : ev_wr M 1 (399 + (2 * x1)).toNatClampNeg x2 = M4
          replace h := h M4 eM4.symm
          refine ev_aload_n dX11_made_50 rfl ?_
          refine ev_getA dX11_made_51 fl_WithoutEModel_7 lm_0 rfl ?_
          refine ev_sipush (v := 399) dX11_made_54 (by decide) ?_
          refine ev_iconst (v := 2) dX11_made_57 (by decide) ?_
          refine ev_iload_n dX11_made_58 rfl ?_
          refine ev_imul dX11_made_59 ?_
          refine ev_iadd dX11_made_60 ?_
          refine ev_iconst (v := 1) dX11_made_61 (by decide) ?_
          refine ev_iadd dX11_made_62 ?_
          refine ev_iload_n dX11_made_63 rfl ?_
          obtain ⟨c, h⟩ := h
          refine ev_iast dX11_made_64 lm_1 c ?_
          generalize eM5 : ev_wr M4 1 ((399 + (2 * x1)) + 1).toNatClampNeg x3 = M5
          replace h := h M5 eM5.symm
          refine ev_iconst (v := 1) dX11_made_65 (by decide) ?_
          exact ev_zret dX11_made_66 rfl (by decide) h
        · replace h := h.2 ((bi_0 _).mp c)
          refine ev_aload_n dX11_made_29 rfl ?_
          refine ev_iconst (v := 0) dX11_made_30 (by decide) ?_
          obtain ⟨p1, h⟩ := h
          refine ev_callV [.int 0] dX11_made_31 ml_WithoutEModel_331 lm_0 rfl rfl (Nat.le_of_ble_eq_true rfl) (qX11_refused p1) ?_
          rintro zr zM ⟨q1, q2⟩
          rw [q1, q2]
          generalize eM6 : rfs M 3 (0 : Int32).toNatClampNeg = M6
          replace h := h M6 eM6.symm
          show Ev LM (d + 2) mX11_made 34 [some (.ref 0), some (.int x1), some (.int x2), some (.int x3)] [(.int (-1))] M6 Q
          refine ev_pop dX11_made_34 rfl ?_
          refine ev_iconst (v := 0) dX11_made_35 (by decide) ?_
          exact ev_zret dX11_made_36 rfl (by decide) h
