theorem dX10_hasText_0 : decode cX10_hasText 0 = .ok (.iload_n 1, 1) := by decide +kernel
theorem dX10_hasText_1 : decode cX10_hasText 1 = .ok (.ifCond .lt 23, 3) := by decide +kernel
theorem dX10_hasText_4 : decode cX10_hasText 4 = .ok (.iload_n 1, 1) := by decide +kernel
theorem dX10_hasText_5 : decode cX10_hasText 5 = .ok (.aload_n 0, 1) := by decide +kernel
theorem dX10_hasText_6 : decode cX10_hasText 6 = .ok (.getfield 33, 3) := by decide +kernel
theorem dX10_hasText_9 : decode cX10_hasText 9 = .ok (.getfield 110, 3) := by decide +kernel
theorem dX10_hasText_12 : decode cX10_hasText 12 = .ok (.if_icmp .ge 12, 3) := by decide +kernel
theorem dX10_hasText_15 : decode cX10_hasText 15 = .ok (.iload_n 1, 1) := by decide +kernel
theorem dX10_hasText_16 : decode cX10_hasText 16 = .ok (.iconst 4, 1) := by decide +kernel
theorem dX10_hasText_17 : decode cX10_hasText 17 = .ok (.if_icmp .ge 7, 3) := by decide +kernel
theorem dX10_hasText_20 : decode cX10_hasText 20 = .ok (.iconst 1, 1) := by decide +kernel
theorem dX10_hasText_21 : decode cX10_hasText 21 = .ok (.goto 4, 3) := by decide +kernel
theorem dX10_hasText_24 : decode cX10_hasText 24 = .ok (.iconst 0, 1) := by decide +kernel
theorem dX10_hasText_25 : decode cX10_hasText 25 = .ok (.ireturn, 1) := by decide +kernel
theorem gX10_hasText_0 {d : Nat} {M : ev_Mem} {Q : Option Value → ev_Mem → Prop} {x1 : Int32} (h : (((x1 < 0) → (Q (some (.int 0)) M)) ∧ ((¬ x1 < 0) → ((((M.1 47 2) ≤ x1) → (Q (some (.int 0)) M)) ∧ ((¬ (M.1 47 2) ≤ x1) → (((4 ≤ x1) → (Q (some (.int 0)) M)) ∧ ((¬ 4 ≤ x1) → (Q (some (.int 1)) M)))))))) : Ev LX d mX10_hasText 0 [some (.ref 0), some (.int x1)] [] M Q := by
  refine ev_iload_n dX10_hasText_0 rfl ?_
  refine ev_if_lt (tgt := 24) dX10_hasText_1 (by decide) (fun c => ?_) (fun c => ?_)
  · replace h := h.1 c
    refine ev_iconst (v := 0) dX10_hasText_24 (by decide) ?_
    exact ev_zret dX10_hasText_25 rfl (by decide) h
  · replace h := h.2 c
    refine ev_iload_n dX10_hasText_4 rfl ?_
    refine ev_aload_n dX10_hasText_5 rfl ?_
    refine ev_getA dX10_hasText_6 fl_WithoutE_33 lx_0 rfl ?_
    refine ev_getI dX10_hasText_9 fl_WithoutE_110 lx_47 rfl ?_
    refine ev_icmp_ge (tgt := 24) dX10_hasText_12 (by decide) (fun c => ?_) (fun c => ?_)
    · replace h := h.1 c
      refine ev_iconst (v := 0) dX10_hasText_24 (by decide) ?_
      exact ev_zret dX10_hasText_25 rfl (by decide) h
    · replace h := h.2 c
      refine ev_iload_n dX10_hasText_15 rfl ?_
      refine ev_iconst (v := 4) dX10_hasText_16 (by decide) ?_
      refine ev_icmp_ge (tgt := 24) dX10_hasText_17 (by decide) (fun c => ?_) (fun c => ?_)
      · replace h := h.1 c
        refine ev_iconst (v := 0) dX10_hasText_24 (by decide) ?_
        exact ev_zret dX10_hasText_25 rfl (by decide) h
      · replace h := h.2 c
        refine ev_iconst (v := 1) dX10_hasText_20 (by decide) ?_
        refine ev_goto (tgt := 25) dX10_hasText_21 (by decide) ?_
        exact ev_zret dX10_hasText_25 rfl (by decide) h
