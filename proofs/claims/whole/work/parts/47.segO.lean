theorem dX6_costBetween_0 : decode cX6_costBetween 0 = .ok (.iload_n 1, 1) := by decide +kernel
theorem dX6_costBetween_1 : decode cX6_costBetween 1 = .ok (.iconst (-1), 1) := by decide +kernel
theorem dX6_costBetween_2 : decode cX6_costBetween 2 = .ok (.if_icmp .ne 5, 3) := by decide +kernel
theorem dX6_costBetween_5 : decode cX6_costBetween 5 = .ok (.iconst 0, 1) := by decide +kernel
theorem dX6_costBetween_6 : decode cX6_costBetween 6 = .ok (.ireturn, 1) := by decide +kernel
theorem dX6_costBetween_7 : decode cX6_costBetween 7 = .ok (.iload_n 1, 1) := by decide +kernel
theorem dX6_costBetween_8 : decode cX6_costBetween 8 = .ok (.iload_n 2, 1) := by decide +kernel
theorem dX6_costBetween_9 : decode cX6_costBetween 9 = .ok (.if_icmp .ne 5, 3) := by decide +kernel
theorem dX6_costBetween_12 : decode cX6_costBetween 12 = .ok (.iconst 3, 1) := by decide +kernel
theorem dX6_costBetween_13 : decode cX6_costBetween 13 = .ok (.ireturn, 1) := by decide +kernel
theorem dX6_costBetween_14 : decode cX6_costBetween 14 = .ok (.aload_n 0, 1) := by decide +kernel
theorem dX6_costBetween_15 : decode cX6_costBetween 15 = .ok (.getfield 47, 3) := by decide +kernel
theorem dX6_costBetween_18 : decode cX6_costBetween 18 = .ok (.getfield 126, 3) := by decide +kernel
theorem dX6_costBetween_21 : decode cX6_costBetween 21 = .ok (.iload_n 1, 1) := by decide +kernel
theorem dX6_costBetween_22 : decode cX6_costBetween 22 = .ok (.iaload, 1) := by decide +kernel
theorem dX6_costBetween_23 : decode cX6_costBetween 23 = .ok (.iconst 2, 1) := by decide +kernel
theorem dX6_costBetween_24 : decode cX6_costBetween 24 = .ok (.if_icmp .ne 20, 3) := by decide +kernel
theorem dX6_costBetween_27 : decode cX6_costBetween 27 = .ok (.aload_n 0, 1) := by decide +kernel
theorem dX6_costBetween_28 : decode cX6_costBetween 28 = .ok (.getfield 47, 3) := by decide +kernel
theorem dX6_costBetween_31 : decode cX6_costBetween 31 = .ok (.getfield 126, 3) := by decide +kernel
theorem dX6_costBetween_34 : decode cX6_costBetween 34 = .ok (.iload_n 2, 1) := by decide +kernel
theorem dX6_costBetween_35 : decode cX6_costBetween 35 = .ok (.iaload, 1) := by decide +kernel
theorem dX6_costBetween_36 : decode cX6_costBetween 36 = .ok (.iconst 2, 1) := by decide +kernel
theorem dX6_costBetween_37 : decode cX6_costBetween 37 = .ok (.if_icmp .ne 7, 3) := by decide +kernel
theorem dX6_costBetween_40 : decode cX6_costBetween 40 = .ok (.iconst 1, 1) := by decide +kernel
theorem dX6_costBetween_41 : decode cX6_costBetween 41 = .ok (.goto 4, 3) := by decide +kernel
theorem dX6_costBetween_44 : decode cX6_costBetween 44 = .ok (.iconst 0, 1) := by decide +kernel
theorem dX6_costBetween_45 : decode cX6_costBetween 45 = .ok (.ireturn, 1) := by decide +kernel
theorem gX6_costBetween_0 {d : Nat} {M : ev_Mem} {Q : Option Value → ev_Mem → Prop} {x1 x2 : Int32} (h : (((¬ x1 = (-1)) → (((¬ x1 = x2) → (vp_in x1 24 ∧ (((¬ (M.1 30 x1.toNatClampNeg) = 2) → (Q (some (.int 0)) M)) ∧ (((M.1 30 x1.toNatClampNeg) = 2) → (vp_in x2 24 ∧ (((¬ (M.1 30 x2.toNatClampNeg) = 2) → (Q (some (.int 0)) M)) ∧ (((M.1 30 x2.toNatClampNeg) = 2) → (Q (some (.int 1)) M)))))))) ∧ ((x1 = x2) → (Q (some (.int 3)) M)))) ∧ ((x1 = (-1)) → (Q (some (.int 0)) M)))) : Ev LX d mX6_costBetween 0 [some (.ref 86), some (.int x1), some (.int x2)] [] M Q := by
  refine ev_iload_n dX6_costBetween_0 rfl ?_
  refine ev_iconst (v := -1) dX6_costBetween_1 (by decide) ?_
  refine ev_icmp_ne (tgt := 7) dX6_costBetween_2 (by decide) (fun c => ?_) (fun c => ?_)
  · replace h := h.1 c
    refine ev_iload_n dX6_costBetween_7 rfl ?_
    refine ev_iload_n dX6_costBetween_8 rfl ?_
    refine ev_icmp_ne (tgt := 14) dX6_costBetween_9 (by decide) (fun c => ?_) (fun c => ?_)
    · replace h := h.1 c
      refine ev_aload_n dX6_costBetween_14 rfl ?_
      refine ev_getA dX6_costBetween_15 fl_WithoutE_Speech_47 lx_86 rfl ?_
      refine ev_getA dX6_costBetween_18 fl_WithoutE_Speech_126 lx_3 rfl ?_
      refine ev_iload_n dX6_costBetween_21 rfl ?_
      obtain ⟨c, h⟩ := h
      refine ev_iald dX6_costBetween_22 lx_30 c ?_
      refine ev_iconst (v := 2) dX6_costBetween_23 (by decide) ?_
      refine ev_icmp_ne (tgt := 44) dX6_costBetween_24 (by decide) (fun c => ?_) (fun c => ?_)
      · replace h := h.1 c
        refine ev_iconst (v := 0) dX6_costBetween_44 (by decide) ?_
        exact ev_iret dX6_costBetween_45 rfl h
      · replace h := h.2 c
        refine ev_aload_n dX6_costBetween_27 rfl ?_
        refine ev_getA dX6_costBetween_28 fl_WithoutE_Speech_47 lx_86 rfl ?_
        refine ev_getA dX6_costBetween_31 fl_WithoutE_Speech_126 lx_3 rfl ?_
        refine ev_iload_n dX6_costBetween_34 rfl ?_
        obtain ⟨c, h⟩ := h
        refine ev_iald dX6_costBetween_35 lx_30 c ?_
        refine ev_iconst (v := 2) dX6_costBetween_36 (by decide) ?_
        refine ev_icmp_ne (tgt := 44) dX6_costBetween_37 (by decide) (fun c => ?_) (fun c => ?_)
        · replace h := h.1 c
          refine ev_iconst (v := 0) dX6_costBetween_44 (by decide) ?_
          exact ev_iret dX6_costBetween_45 rfl h
        · replace h := h.2 c
          refine ev_iconst (v := 1) dX6_costBetween_40 (by decide) ?_
          refine ev_goto (tgt := 45) dX6_costBetween_41 (by decide) ?_
          exact ev_iret dX6_costBetween_45 rfl h
    · replace h := h.2 c
      refine ev_iconst (v := 3) dX6_costBetween_12 (by decide) ?_
      exact ev_iret dX6_costBetween_13 rfl h
  · replace h := h.2 c
    refine ev_iconst (v := 0) dX6_costBetween_5 (by decide) ?_
    exact ev_iret dX6_costBetween_6 rfl h
