theorem dX10_countPresses_0 : decode cX10_countPresses 0 = .ok (.aload_n 0, 1) := by decide +kernel
theorem dX10_countPresses_1 : decode cX10_countPresses 1 = .ok (.getfield 65, 3) := by decide +kernel
theorem dX10_countPresses_4 : decode cX10_countPresses 4 = .ok (.iconst 0, 1) := by decide +kernel
theorem dX10_countPresses_5 : decode cX10_countPresses 5 = .ok (.invokestatic 358, 3) := by decide +kernel
theorem dX10_countPresses_8 : decode cX10_countPresses 8 = .ok (.aload_n 0, 1) := by decide +kernel
theorem dX10_countPresses_9 : decode cX10_countPresses 9 = .ok (.invokevirtual 236, 3) := by decide +kernel
theorem dX10_countPresses_12 : decode cX10_countPresses 12 = .ok (.iconst 0, 1) := by decide +kernel
theorem dX10_countPresses_13 : decode cX10_countPresses 13 = .ok (.istore_n 1, 1) := by decide +kernel
theorem dX10_countPresses_14 : decode cX10_countPresses 14 = .ok (.iload_n 1, 1) := by decide +kernel
theorem dX10_countPresses_15 : decode cX10_countPresses 15 = .ok (.aload_n 0, 1) := by decide +kernel
theorem dX10_countPresses_16 : decode cX10_countPresses 16 = .ok (.getfield 19, 3) := by decide +kernel
theorem dX10_countPresses_19 : decode cX10_countPresses 19 = .ok (.getfield 262, 3) := by decide +kernel
theorem dX10_countPresses_22 : decode cX10_countPresses 22 = .ok (.if_icmp .ge 31, 3) := by decide +kernel
theorem dX10_countPresses_25 : decode cX10_countPresses 25 = .ok (.aload_n 0, 1) := by decide +kernel
theorem dX10_countPresses_26 : decode cX10_countPresses 26 = .ok (.getfield 98, 3) := by decide +kernel
theorem dX10_countPresses_29 : decode cX10_countPresses 29 = .ok (.iload_n 1, 1) := by decide +kernel
theorem dX10_countPresses_30 : decode cX10_countPresses 30 = .ok (.invokevirtual 239, 3) := by decide +kernel
theorem dX10_countPresses_33 : decode cX10_countPresses 33 = .ok (.ifCond .eq 14, 3) := by decide +kernel
theorem dX10_countPresses_36 : decode cX10_countPresses 36 = .ok (.aload_n 0, 1) := by decide +kernel
theorem dX10_countPresses_37 : decode cX10_countPresses 37 = .ok (.getfield 98, 3) := by decide +kernel
theorem dX10_countPresses_40 : decode cX10_countPresses 40 = .ok (.aload_n 0, 1) := by decide +kernel
theorem dX10_countPresses_41 : decode cX10_countPresses 41 = .ok (.getfield 65, 3) := by decide +kernel
theorem dX10_countPresses_44 : decode cX10_countPresses 44 = .ok (.invokevirtual 271, 3) := by decide +kernel
theorem dX10_countPresses_47 : decode cX10_countPresses 47 = .ok (.iinc 1 1, 3) := by decide +kernel
theorem dX10_countPresses_50 : decode cX10_countPresses 50 = .ok (.goto (-36), 3) := by decide +kernel
theorem dX10_countPresses_53 : decode cX10_countPresses 53 = .ok (.return_, 1) := by decide +kernel
theorem gX10_countPresses_0 {d : Nat} {M : ev_Mem} {Q : Option Value → ev_Mem → Prop} (h : (∃ Q2 : Option Value → ev_Mem → Prop, Cl LX d mJ7_fill_53178 [.ref 119, .int 0] M Q2 ∧ ∀ (zr : Option Value) (zM : ev_Mem), Q2 zr zM → Ev LX (d + 1) mX10_countPresses 8 [some (.ref 0), none] (zr.toList ++ []) zM Q)) : Ev LX (d + 1) mX10_countPresses 0 [some (.ref 0), none] [] M Q := by
  refine ev_aload_n dX10_countPresses_0 rfl ?_
  refine ev_getA dX10_countPresses_1 fl_WithoutE_65 lx_0 rfl ?_
  refine ev_iconst (v := 0) dX10_countPresses_4 (by decide) ?_
  obtain ⟨Q2, hc, h⟩ := h
  refine ev_callS [.ref 119, .int 0] dX10_countPresses_5 ml_WithoutE_358 rfl (Nat.le_of_ble_eq_true rfl) hc (fun zr zM q => ?_)
  exact h zr zM q
theorem gX10_countPresses_8 {d : Nat} {M : ev_Mem} {Q : Option Value → ev_Mem → Prop} (h : (∃ Q2 : Option Value → ev_Mem → Prop, Cl LX d mX10_hearNow [.ref 0] M Q2 ∧ ∀ (zr : Option Value) (zM : ev_Mem), Q2 zr zM → Ev LX (d + 1) mX10_countPresses 12 [some (.ref 0), none] (zr.toList ++ []) zM Q)) : Ev LX (d + 1) mX10_countPresses 8 [some (.ref 0), none] [] M Q := by
  refine ev_aload_n dX10_countPresses_8 rfl ?_
  obtain ⟨Q2, hc, h⟩ := h
  refine ev_callV [] dX10_countPresses_9 ml_WithoutE_236 lx_0 rfl rfl (Nat.le_of_ble_eq_true rfl) hc (fun zr zM q => ?_)
  exact h zr zM q
theorem gX10_countPresses_12 {d : Nat} {M : ev_Mem} {Q : Option Value → ev_Mem → Prop} (h : (Ev LX d mX10_countPresses 14 [some (.ref 0), some (.int 0)] [] M Q)) : Ev LX d mX10_countPresses 12 [some (.ref 0), none] [] M Q := by
  refine ev_iconst (v := 0) dX10_countPresses_12 (by decide) ?_
  refine ev_istore_n (ls2 := [some (.ref 0), some (.int 0)]) dX10_countPresses_13 (Nat.le_of_ble_eq_true rfl) rfl ?_
  exact h
theorem gX10_countPresses_14 {d : Nat} {M : ev_Mem} {Q : Option Value → ev_Mem → Prop} {x1 : Int32} (h : ((((M.1 3 8) ≤ x1) → (Q none M)) ∧ ((¬ (M.1 3 8) ≤ x1) → (∃ Q2 : Option Value → ev_Mem → Prop, Cl LX d mX6_speak [.ref 86, .int x1] M Q2 ∧ ∀ (zr : Option Value) (zM : ev_Mem), Q2 zr zM → Ev LX (d + 1) mX10_countPresses 33 [some (.ref 0), some (.int x1)] (zr.toList ++ []) zM Q)))) : Ev LX (d + 1) mX10_countPresses 14 [some (.ref 0), some (.int x1)] [] M Q := by
  refine ev_iload_n dX10_countPresses_14 rfl ?_
  refine ev_aload_n dX10_countPresses_15 rfl ?_
  refine ev_getA dX10_countPresses_16 fl_WithoutE_19 lx_0 rfl ?_
  refine ev_getI dX10_countPresses_19 fl_WithoutE_262 lx_3 rfl ?_
  refine ev_icmp_ge (tgt := 53) dX10_countPresses_22 (by decide) (fun c => ?_) (fun c => ?_)
  · replace h := h.1 c
    exact ev_vret dX10_countPresses_53 rfl h
  · replace h := h.2 c
    refine ev_aload_n dX10_countPresses_25 rfl ?_
    refine ev_getA dX10_countPresses_26 fl_WithoutE_98 lx_0 rfl ?_
    refine ev_iload_n dX10_countPresses_29 rfl ?_
    obtain ⟨Q2, hc, h⟩ := h
    refine ev_callV [.int x1] dX10_countPresses_30 ml_WithoutE_239 lx_86 rfl rfl (Nat.le_of_ble_eq_true rfl) hc (fun zr zM q => ?_)
    exact h zr zM q
theorem gX10_countPresses_33 {d : Nat} {M : ev_Mem} {Q : Option Value → ev_Mem → Prop} {x1 s0 : Int32} (h : (((s0 = 0) → (Ev LX (d + 1) mX10_countPresses 14 [some (.ref 0), some (.int (x1 + 1))] [] M Q)) ∧ ((¬ s0 = 0) → (∃ Q2 : Option Value → ev_Mem → Prop, Cl LX d mX6_press [.ref 86, .ref 119] M Q2 ∧ ∀ (zr : Option Value) (zM : ev_Mem), Q2 zr zM → Ev LX (d + 1) mX10_countPresses 47 [some (.ref 0), some (.int x1)] (zr.toList ++ []) zM Q)))) : Ev LX (d + 1) mX10_countPresses 33 [some (.ref 0), some (.int x1)] [(.int s0)] M Q := by
  refine ev_if_eq (tgt := 47) dX10_countPresses_33 (by decide) (fun c => ?_) (fun c => ?_)
  · replace h := h.1 c
    refine ev_iinc (v := x1 + 1) (ls2 := [some (.ref 0), some (.int (x1 + 1))]) dX10_countPresses_47 rfl rfl rfl ?_
    refine ev_goto (tgt := 14) dX10_countPresses_50 (by decide) ?_
    exact h
  · replace h := h.2 c
    refine ev_aload_n dX10_countPresses_36 rfl ?_
    refine ev_getA dX10_countPresses_37 fl_WithoutE_98 lx_0 rfl ?_
    refine ev_aload_n dX10_countPresses_40 rfl ?_
    refine ev_getA dX10_countPresses_41 fl_WithoutE_65 lx_0 rfl ?_
    obtain ⟨Q2, hc, h⟩ := h
    refine ev_callV [.ref 119] dX10_countPresses_44 ml_WithoutE_271 lx_86 rfl rfl (Nat.le_of_ble_eq_true rfl) hc (fun zr zM q => ?_)
    exact h zr zM q
theorem gX10_countPresses_47 {d : Nat} {M : ev_Mem} {Q : Option Value → ev_Mem → Prop} {x1 : Int32} (h : (Ev LX d mX10_countPresses 14 [some (.ref 0), some (.int (x1 + 1))] [] M Q)) : Ev LX d mX10_countPresses 47 [some (.ref 0), some (.int x1)] [] M Q := by
  refine ev_iinc (v := x1 + 1) (ls2 := [some (.ref 0), some (.int (x1 + 1))]) dX10_countPresses_47 rfl rfl rfl ?_
  refine ev_goto (tgt := 14) dX10_countPresses_50 (by decide) ?_
  exact h
theorem dX10_keysAheadOf_0 : decode cX10_keysAheadOf 0 = .ok (.iconst 0, 1) := by decide +kernel
theorem dX10_keysAheadOf_1 : decode cX10_keysAheadOf 1 = .ok (.istore_n 2, 1) := by decide +kernel
theorem dX10_keysAheadOf_2 : decode cX10_keysAheadOf 2 = .ok (.iconst 0, 1) := by decide +kernel
theorem dX10_keysAheadOf_3 : decode cX10_keysAheadOf 3 = .ok (.istore_n 3, 1) := by decide +kernel
theorem dX10_keysAheadOf_4 : decode cX10_keysAheadOf 4 = .ok (.iload_n 3, 1) := by decide +kernel
theorem dX10_keysAheadOf_5 : decode cX10_keysAheadOf 5 = .ok (.bipush 26, 2) := by decide +kernel
theorem dX10_keysAheadOf_7 : decode cX10_keysAheadOf 7 = .ok (.if_icmp .ge 73, 3) := by decide +kernel
theorem dX10_keysAheadOf_10 : decode cX10_keysAheadOf 10 = .ok (.aload_n 0, 1) := by decide +kernel
theorem dX10_keysAheadOf_11 : decode cX10_keysAheadOf 11 = .ok (.getfield 65, 3) := by decide +kernel
theorem dX10_keysAheadOf_14 : decode cX10_keysAheadOf 14 = .ok (.iload_n 3, 1) := by decide +kernel
theorem dX10_keysAheadOf_15 : decode cX10_keysAheadOf 15 = .ok (.iaload, 1) := by decide +kernel
theorem dX10_keysAheadOf_16 : decode cX10_keysAheadOf 16 = .ok (.aload_n 0, 1) := by decide +kernel
theorem dX10_keysAheadOf_17 : decode cX10_keysAheadOf 17 = .ok (.getfield 65, 3) := by decide +kernel
theorem dX10_keysAheadOf_20 : decode cX10_keysAheadOf 20 = .ok (.iload_n 1, 1) := by decide +kernel
theorem dX10_keysAheadOf_21 : decode cX10_keysAheadOf 21 = .ok (.iaload, 1) := by decide +kernel
theorem dX10_keysAheadOf_22 : decode cX10_keysAheadOf 22 = .ok (.if_icmp .gt 23, 3) := by decide +kernel
theorem dX10_keysAheadOf_25 : decode cX10_keysAheadOf 25 = .ok (.aload_n 0, 1) := by decide +kernel
theorem dX10_keysAheadOf_26 : decode cX10_keysAheadOf 26 = .ok (.getfield 65, 3) := by decide +kernel
theorem dX10_keysAheadOf_29 : decode cX10_keysAheadOf 29 = .ok (.iload_n 3, 1) := by decide +kernel
theorem dX10_keysAheadOf_30 : decode cX10_keysAheadOf 30 = .ok (.iaload, 1) := by decide +kernel
theorem dX10_keysAheadOf_31 : decode cX10_keysAheadOf 31 = .ok (.aload_n 0, 1) := by decide +kernel
theorem dX10_keysAheadOf_32 : decode cX10_keysAheadOf 32 = .ok (.getfield 65, 3) := by decide +kernel
theorem dX10_keysAheadOf_35 : decode cX10_keysAheadOf 35 = .ok (.iload_n 1, 1) := by decide +kernel
theorem dX10_keysAheadOf_36 : decode cX10_keysAheadOf 36 = .ok (.iaload, 1) := by decide +kernel
theorem dX10_keysAheadOf_37 : decode cX10_keysAheadOf 37 = .ok (.if_icmp .ne 12, 3) := by decide +kernel
theorem dX10_keysAheadOf_40 : decode cX10_keysAheadOf 40 = .ok (.iload_n 3, 1) := by decide +kernel
theorem dX10_keysAheadOf_41 : decode cX10_keysAheadOf 41 = .ok (.iload_n 1, 1) := by decide +kernel
theorem dX10_keysAheadOf_42 : decode cX10_keysAheadOf 42 = .ok (.if_icmp .ge 7, 3) := by decide +kernel
theorem dX10_keysAheadOf_45 : decode cX10_keysAheadOf 45 = .ok (.iconst 1, 1) := by decide +kernel
theorem dX10_keysAheadOf_46 : decode cX10_keysAheadOf 46 = .ok (.goto 4, 3) := by decide +kernel
theorem dX10_keysAheadOf_49 : decode cX10_keysAheadOf 49 = .ok (.iconst 0, 1) := by decide +kernel
theorem dX10_keysAheadOf_50 : decode cX10_keysAheadOf 50 = .ok (.istore 4, 2) := by decide +kernel
theorem dX10_keysAheadOf_52 : decode cX10_keysAheadOf 52 = .ok (.iload 4, 2) := by decide +kernel
theorem dX10_keysAheadOf_54 : decode cX10_keysAheadOf 54 = .ok (.ifCond .eq 20, 3) := by decide +kernel
theorem dX10_keysAheadOf_57 : decode cX10_keysAheadOf 57 = .ok (.aload_n 0, 1) := by decide +kernel
theorem dX10_keysAheadOf_58 : decode cX10_keysAheadOf 58 = .ok (.getfield 26, 3) := by decide +kernel
theorem dX10_keysAheadOf_61 : decode cX10_keysAheadOf 61 = .ok (.getfield 223, 3) := by decide +kernel
theorem dX10_keysAheadOf_64 : decode cX10_keysAheadOf 64 = .ok (.iload_n 3, 1) := by decide +kernel
theorem dX10_keysAheadOf_65 : decode cX10_keysAheadOf 65 = .ok (.invokestatic 226, 3) := by decide +kernel
theorem dX10_keysAheadOf_68 : decode cX10_keysAheadOf 68 = .ok (.ifCond .ne 6, 3) := by decide +kernel
theorem dX10_keysAheadOf_71 : decode cX10_keysAheadOf 71 = .ok (.iinc 2 1, 3) := by decide +kernel
theorem dX10_keysAheadOf_74 : decode cX10_keysAheadOf 74 = .ok (.iinc 3 1, 3) := by decide +kernel
theorem dX10_keysAheadOf_77 : decode cX10_keysAheadOf 77 = .ok (.goto (-73), 3) := by decide +kernel
theorem dX10_keysAheadOf_80 : decode cX10_keysAheadOf 80 = .ok (.iload_n 2, 1) := by decide +kernel
theorem dX10_keysAheadOf_81 : decode cX10_keysAheadOf 81 = .ok (.ireturn, 1) := by decide +kernel
theorem gX10_keysAheadOf_0 {d : Nat} {M : ev_Mem} {Q : Option Value → ev_Mem → Prop} {x1 : Int32} (h : (Ev LX d mX10_keysAheadOf 4 [some (.ref 0), some (.int x1), some (.int 0), some (.int 0), none] [] M Q)) : Ev LX d mX10_keysAheadOf 0 [some (.ref 0), some (.int x1), none, none, none] [] M Q := by
  refine ev_iconst (v := 0) dX10_keysAheadOf_0 (by decide) ?_
  refine ev_istore_n (ls2 := [some (.ref 0), some (.int x1), some (.int 0), none, none]) dX10_keysAheadOf_1 (Nat.le_of_ble_eq_true rfl) rfl ?_
  refine ev_iconst (v := 0) dX10_keysAheadOf_2 (by decide) ?_
  refine ev_istore_n (ls2 := [some (.ref 0), some (.int x1), some (.int 0), some (.int 0), none]) dX10_keysAheadOf_3 (Nat.le_of_ble_eq_true rfl) rfl ?_
  exact h
theorem gX10_keysAheadOf_4 {d : Nat} {M : ev_Mem} {Q : Option Value → ev_Mem → Prop} {x1 x2 x3 : Int32} (h : (((26 ≤ x3) → (Q (some (.int x2)) M)) ∧ ((¬ 26 ≤ x3) → (vp_in x3 26 ∧ (vp_in x1 26 ∧ ((((M.1 119 x1.toNatClampNeg) < (M.1 119 x3.toNatClampNeg)) → ((((hs (M.1 43 0) x3) = true) → (Ev LX (d + 1) mX10_keysAheadOf 4 [some (.ref 0), some (.int x1), some (.int x2), some (.int (x3 + 1)), none] [] M Q)) ∧ (((hs (M.1 43 0) x3) = false) → (Ev LX (d + 1) mX10_keysAheadOf 4 [some (.ref 0), some (.int x1), some (.int (x2 + 1)), some (.int (x3 + 1)), none] [] M Q)))) ∧ ((¬ (M.1 119 x1.toNatClampNeg) < (M.1 119 x3.toNatClampNeg)) → (vp_in x3 26 ∧ (vp_in x1 26 ∧ (((¬ (M.1 119 x3.toNatClampNeg) = (M.1 119 x1.toNatClampNeg)) → (Ev LX (d + 1) mX10_keysAheadOf 4 [some (.ref 0), some (.int x1), some (.int x2), some (.int (x3 + 1)), none] [] M Q)) ∧ (((M.1 119 x3.toNatClampNeg) = (M.1 119 x1.toNatClampNeg)) → (((x1 ≤ x3) → (Ev LX (d + 1) mX10_keysAheadOf 4 [some (.ref 0), some (.int x1), some (.int x2), some (.int (x3 + 1)), none] [] M Q)) ∧ ((¬ x1 ≤ x3) → ((((hs (M.1 43 0) x3) = true) → (Ev LX (d + 1) mX10_keysAheadOf 4 [some (.ref 0), some (.int x1), some (.int x2), some (.int (x3 + 1)), none] [] M Q)) ∧ (((hs (M.1 43 0) x3) = false) → (Ev LX (d + 1) mX10_keysAheadOf 4 [some (.ref 0), some (.int x1), some (.int (x2 + 1)), some (.int (x3 + 1)), none] [] M Q)))))))))))))))) : Ev LX (d + 1) mX10_keysAheadOf 4 [some (.ref 0), some (.int x1), some (.int x2), some (.int x3), none] [] M Q := by
  refine ev_iload_n dX10_keysAheadOf_4 rfl ?_
  refine ev_bipush (v := 26) dX10_keysAheadOf_5 (by decide) ?_
  refine ev_icmp_ge (tgt := 80) dX10_keysAheadOf_7 (by decide) (fun c => ?_) (fun c => ?_)
  · replace h := h.1 c
    refine ev_iload_n dX10_keysAheadOf_80 rfl ?_
    exact ev_iret dX10_keysAheadOf_81 rfl h
  · replace h := h.2 c
    refine ev_aload_n dX10_keysAheadOf_10 rfl ?_
    refine ev_getA dX10_keysAheadOf_11 fl_WithoutE_65 lx_0 rfl ?_
    refine ev_iload_n dX10_keysAheadOf_14 rfl ?_
    obtain ⟨c, h⟩ := h
    refine ev_iald dX10_keysAheadOf_15 lx_119 c ?_
    refine ev_aload_n dX10_keysAheadOf_16 rfl ?_
    refine ev_getA dX10_keysAheadOf_17 fl_WithoutE_65 lx_0 rfl ?_
    refine ev_iload_n dX10_keysAheadOf_20 rfl ?_
    obtain ⟨c, h⟩ := h
    refine ev_iald dX10_keysAheadOf_21 lx_119 c ?_
    refine ev_icmp_gt (tgt := 45) dX10_keysAheadOf_22 (by decide) (fun c => ?_) (fun c => ?_)
    · replace h := h.1 c
      refine ev_iconst (v := 1) dX10_keysAheadOf_45 (by decide) ?_
      refine ev_goto (tgt := 50) dX10_keysAheadOf_46 (by decide) ?_
      refine ev_istore (ls2 := [some (.ref 0), some (.int x1), some (.int x2), some (.int x3), some (.int 1)]) dX10_keysAheadOf_50 (Nat.le_of_ble_eq_true rfl) rfl ?_
      refine ev_iload dX10_keysAheadOf_52 rfl ?_
      refine ev_if_eq (tgt := 74) dX10_keysAheadOf_54 (by decide) (fun c => absurd c (by decide)) (fun _ => ?_)
      refine ev_aload_n dX10_keysAheadOf_57 rfl ?_
      refine ev_getA dX10_keysAheadOf_58 fl_WithoutE_26 lx_0 rfl ?_
      refine ev_getI dX10_keysAheadOf_61 fl_WithoutE_223 lx_43 rfl ?_
      refine ev_iload_n dX10_keysAheadOf_64 rfl ?_
      refine ev_callS [.int (M.1 43 0), .int x3] dX10_keysAheadOf_65 ml_WithoutE_226 rfl (Nat.le_of_ble_eq_true rfl) (kX10_has) ?_
      rintro zr zM ⟨q1, q2⟩
      rw [q1, q2]
      show Ev LX (d + 1) mX10_keysAheadOf 68 [some (.ref 0), some (.int x1), some (.int x2), some (.int x3), some (.int 1)] [(.int (bi (hs (M.1 43 0) x3)))] M Q
      refine ev_if_ne (tgt := 74) dX10_keysAheadOf_68 (by decide) (fun c => ?_) (fun c => ?_)
      · replace h := h.1 ((bi_n0 _).mp c)
        refine ev_iinc (v := x3 + 1) (ls2 := [some (.ref 0), some (.int x1), some (.int x2), some (.int (x3 + 1)), some (.int 1)]) dX10_keysAheadOf_74 rfl rfl rfl ?_
        refine ev_goto (tgt := 4) dX10_keysAheadOf_77 (by decide) ?_
        refine Ev.weak (ls := [some (.ref 0), some (.int x1), some (.int x2), some (.int (x3 + 1)), none]) ⟨rfl, rfl, rfl, rfl, trivial⟩ ?_
        exact h
      · replace h := h.2 ((bi_0 _).mp c)
        refine ev_iinc (v := x2 + 1) (ls2 := [some (.ref 0), some (.int x1), some (.int (x2 + 1)), some (.int x3), some (.int 1)]) dX10_keysAheadOf_71 rfl rfl rfl ?_
        refine ev_iinc (v := x3 + 1) (ls2 := [some (.ref 0), some (.int x1), some (.int (x2 + 1)), some (.int (x3 + 1)), some (.int 1)]) dX10_keysAheadOf_74 rfl rfl rfl ?_
        refine ev_goto (tgt := 4) dX10_keysAheadOf_77 (by decide) ?_
        refine Ev.weak (ls := [some (.ref 0), some (.int x1), some (.int (x2 + 1)), some (.int (x3 + 1)), none]) ⟨rfl, rfl, rfl, rfl, trivial⟩ ?_
        exact h
    · replace h := h.2 c
      refine ev_aload_n dX10_keysAheadOf_25 rfl ?_
      refine ev_getA dX10_keysAheadOf_26 fl_WithoutE_65 lx_0 rfl ?_
      refine ev_iload_n dX10_keysAheadOf_29 rfl ?_
      obtain ⟨c, h⟩ := h
      refine ev_iald dX10_keysAheadOf_30 lx_119 c ?_
      refine ev_aload_n dX10_keysAheadOf_31 rfl ?_
      refine ev_getA dX10_keysAheadOf_32 fl_WithoutE_65 lx_0 rfl ?_
      refine ev_iload_n dX10_keysAheadOf_35 rfl ?_
      obtain ⟨c, h⟩ := h
      refine ev_iald dX10_keysAheadOf_36 lx_119 c ?_
      refine ev_icmp_ne (tgt := 49) dX10_keysAheadOf_37 (by decide) (fun c => ?_) (fun c => ?_)
      · replace h := h.1 c
        refine ev_iconst (v := 0) dX10_keysAheadOf_49 (by decide) ?_
        refine ev_istore (ls2 := [some (.ref 0), some (.int x1), some (.int x2), some (.int x3), some (.int 0)]) dX10_keysAheadOf_50 (Nat.le_of_ble_eq_true rfl) rfl ?_
        refine ev_iload dX10_keysAheadOf_52 rfl ?_
        refine ev_if_eq (tgt := 74) dX10_keysAheadOf_54 (by decide) (fun _ => ?_) (fun c => absurd (by decide) c)
        refine ev_iinc (v := x3 + 1) (ls2 := [some (.ref 0), some (.int x1), some (.int x2), some (.int (x3 + 1)), some (.int 0)]) dX10_keysAheadOf_74 rfl rfl rfl ?_
        refine ev_goto (tgt := 4) dX10_keysAheadOf_77 (by decide) ?_
        refine Ev.weak (ls := [some (.ref 0), some (.int x1), some (.int x2), some (.int (x3 + 1)), none]) ⟨rfl, rfl, rfl, rfl, trivial⟩ ?_
        exact h
      · replace h := h.2 c
        refine ev_iload_n dX10_keysAheadOf_40 rfl ?_
        refine ev_iload_n dX10_keysAheadOf_41 rfl ?_
        refine ev_icmp_ge (tgt := 49) dX10_keysAheadOf_42 (by decide) (fun c => ?_) (fun c => ?_)
        · replace h := h.1 c
          refine ev_iconst (v := 0) dX10_keysAheadOf_49 (by decide) ?_
          refine ev_istore (ls2 := [some (.ref 0), some (.int x1), some (.int x2), some (.int x3), some (.int 0)]) dX10_keysAheadOf_50 (Nat.le_of_ble_eq_true rfl) rfl ?_
          refine ev_iload dX10_keysAheadOf_52 rfl ?_
          refine ev_if_eq (tgt := 74) dX10_keysAheadOf_54 (by decide) (fun _ => ?_) (fun c => absurd (by decide) c)
          refine ev_iinc (v := x3 + 1) (ls2 := [some (.ref 0), some (.int x1), some (.int x2), some (.int (x3 + 1)), some (.int 0)]) dX10_keysAheadOf_74 rfl rfl rfl ?_
          refine ev_goto (tgt := 4) dX10_keysAheadOf_77 (by decide) ?_
          refine Ev.weak (ls := [some (.ref 0), some (.int x1), some (.int x2), some (.int (x3 + 1)), none]) ⟨rfl, rfl, rfl, rfl, trivial⟩ ?_
          exact h
        · replace h := h.2 c
          refine ev_iconst (v := 1) dX10_keysAheadOf_45 (by decide) ?_
          refine ev_goto (tgt := 50) dX10_keysAheadOf_46 (by decide) ?_
          refine ev_istore (ls2 := [some (.ref 0), some (.int x1), some (.int x2), some (.int x3), some (.int 1)]) dX10_keysAheadOf_50 (Nat.le_of_ble_eq_true rfl) rfl ?_
          refine ev_iload dX10_keysAheadOf_52 rfl ?_
          refine ev_if_eq (tgt := 74) dX10_keysAheadOf_54 (by decide) (fun c => absurd c (by decide)) (fun _ => ?_)
          refine ev_aload_n dX10_keysAheadOf_57 rfl ?_
          refine ev_getA dX10_keysAheadOf_58 fl_WithoutE_26 lx_0 rfl ?_
          refine ev_getI dX10_keysAheadOf_61 fl_WithoutE_223 lx_43 rfl ?_
          refine ev_iload_n dX10_keysAheadOf_64 rfl ?_
          refine ev_callS [.int (M.1 43 0), .int x3] dX10_keysAheadOf_65 ml_WithoutE_226 rfl (Nat.le_of_ble_eq_true rfl) (kX10_has) ?_
          rintro zr zM ⟨q1, q2⟩
          rw [q1, q2]
          show Ev LX (d + 1) mX10_keysAheadOf 68 [some (.ref 0), some (.int x1), some (.int x2), some (.int x3), some (.int 1)] [(.int (bi (hs (M.1 43 0) x3)))] M Q
          refine ev_if_ne (tgt := 74) dX10_keysAheadOf_68 (by decide) (fun c => ?_) (fun c => ?_)
          · replace h := h.1 ((bi_n0 _).mp c)
            refine ev_iinc (v := x3 + 1) (ls2 := [some (.ref 0), some (.int x1), some (.int x2), some (.int (x3 + 1)), some (.int 1)]) dX10_keysAheadOf_74 rfl rfl rfl ?_
            refine ev_goto (tgt := 4) dX10_keysAheadOf_77 (by decide) ?_
            refine Ev.weak (ls := [some (.ref 0), some (.int x1), some (.int x2), some (.int (x3 + 1)), none]) ⟨rfl, rfl, rfl, rfl, trivial⟩ ?_
            exact h
          · replace h := h.2 ((bi_0 _).mp c)
            refine ev_iinc (v := x2 + 1) (ls2 := [some (.ref 0), some (.int x1), some (.int (x2 + 1)), some (.int x3), some (.int 1)]) dX10_keysAheadOf_71 rfl rfl rfl ?_
            refine ev_iinc (v := x3 + 1) (ls2 := [some (.ref 0), some (.int x1), some (.int (x2 + 1)), some (.int (x3 + 1)), some (.int 1)]) dX10_keysAheadOf_74 rfl rfl rfl ?_
            refine ev_goto (tgt := 4) dX10_keysAheadOf_77 (by decide) ?_
            refine Ev.weak (ls := [some (.ref 0), some (.int x1), some (.int (x2 + 1)), some (.int (x3 + 1)), none]) ⟨rfl, rfl, rfl, rfl, trivial⟩ ?_
            exact h
theorem dX10_keyOfRank_0 : decode cX10_keyOfRank 0 = .ok (.iconst 0, 1) := by decide +kernel
theorem dX10_keyOfRank_1 : decode cX10_keyOfRank 1 = .ok (.istore_n 2, 1) := by decide +kernel
theorem dX10_keyOfRank_2 : decode cX10_keyOfRank 2 = .ok (.iload_n 2, 1) := by decide +kernel
theorem dX10_keyOfRank_3 : decode cX10_keyOfRank 3 = .ok (.bipush 26, 2) := by decide +kernel
theorem dX10_keyOfRank_5 : decode cX10_keyOfRank 5 = .ok (.if_icmp .ge 34, 3) := by decide +kernel
theorem dX10_keyOfRank_8 : decode cX10_keyOfRank 8 = .ok (.aload_n 0, 1) := by decide +kernel
theorem dX10_keyOfRank_9 : decode cX10_keyOfRank 9 = .ok (.getfield 26, 3) := by decide +kernel
theorem dX10_keyOfRank_12 : decode cX10_keyOfRank 12 = .ok (.getfield 223, 3) := by decide +kernel
theorem dX10_keyOfRank_15 : decode cX10_keyOfRank 15 = .ok (.iload_n 2, 1) := by decide +kernel
theorem dX10_keyOfRank_16 : decode cX10_keyOfRank 16 = .ok (.invokestatic 226, 3) := by decide +kernel
theorem dX10_keyOfRank_19 : decode cX10_keyOfRank 19 = .ok (.ifCond .ne 14, 3) := by decide +kernel
theorem dX10_keyOfRank_22 : decode cX10_keyOfRank 22 = .ok (.aload_n 0, 1) := by decide +kernel
theorem dX10_keyOfRank_23 : decode cX10_keyOfRank 23 = .ok (.iload_n 2, 1) := by decide +kernel
theorem dX10_keyOfRank_24 : decode cX10_keyOfRank 24 = .ok (.invokevirtual 364, 3) := by decide +kernel
theorem dX10_keyOfRank_27 : decode cX10_keyOfRank 27 = .ok (.iload_n 1, 1) := by decide +kernel
theorem dX10_keyOfRank_28 : decode cX10_keyOfRank 28 = .ok (.if_icmp .ne 5, 3) := by decide +kernel
theorem dX10_keyOfRank_31 : decode cX10_keyOfRank 31 = .ok (.iload_n 2, 1) := by decide +kernel
theorem dX10_keyOfRank_32 : decode cX10_keyOfRank 32 = .ok (.ireturn, 1) := by decide +kernel
theorem dX10_keyOfRank_33 : decode cX10_keyOfRank 33 = .ok (.iinc 2 1, 3) := by decide +kernel
theorem dX10_keyOfRank_36 : decode cX10_keyOfRank 36 = .ok (.goto (-34), 3) := by decide +kernel
theorem dX10_keyOfRank_39 : decode cX10_keyOfRank 39 = .ok (.iconst (-1), 1) := by decide +kernel
theorem dX10_keyOfRank_40 : decode cX10_keyOfRank 40 = .ok (.ireturn, 1) := by decide +kernel
theorem gX10_keyOfRank_0 {d : Nat} {M : ev_Mem} {Q : Option Value → ev_Mem → Prop} {x1 : Int32} (h : (Ev LX d mX10_keyOfRank 2 [some (.ref 0), some (.int x1), some (.int 0)] [] M Q)) : Ev LX d mX10_keyOfRank 0 [some (.ref 0), some (.int x1), none] [] M Q := by
  refine ev_iconst (v := 0) dX10_keyOfRank_0 (by decide) ?_
  refine ev_istore_n (ls2 := [some (.ref 0), some (.int x1), some (.int 0)]) dX10_keyOfRank_1 (Nat.le_of_ble_eq_true rfl) rfl ?_
  exact h
theorem gX10_keyOfRank_2 {d : Nat} {M : ev_Mem} {Q : Option Value → ev_Mem → Prop} {x1 x2 : Int32} (h : (((26 ≤ x2) → (Q (some (.int (-1))) M)) ∧ ((¬ 26 ≤ x2) → ((((hs (M.1 43 0) x2) = true) → (Ev LX (d + 1) mX10_keyOfRank 2 [some (.ref 0), some (.int x1), some (.int (x2 + 1))] [] M Q)) ∧ (((hs (M.1 43 0) x2) = false) → (∃ Q2 : Option Value → ev_Mem → Prop, Cl LX d mX10_keysAheadOf [.ref 0, .int x2] M Q2 ∧ ∀ (zr : Option Value) (zM : ev_Mem), Q2 zr zM → Ev LX (d + 1) mX10_keyOfRank 27 [some (.ref 0), some (.int x1), some (.int x2)] (zr.toList ++ []) zM Q)))))) : Ev LX (d + 1) mX10_keyOfRank 2 [some (.ref 0), some (.int x1), some (.int x2)] [] M Q := by
  refine ev_iload_n dX10_keyOfRank_2 rfl ?_
  refine ev_bipush (v := 26) dX10_keyOfRank_3 (by decide) ?_
  refine ev_icmp_ge (tgt := 39) dX10_keyOfRank_5 (by decide) (fun c => ?_) (fun c => ?_)
  · replace h := h.1 c
    refine ev_iconst (v := -1) dX10_keyOfRank_39 (by decide) ?_
    exact ev_iret dX10_keyOfRank_40 rfl h
  · replace h := h.2 c
    refine ev_aload_n dX10_keyOfRank_8 rfl ?_
    refine ev_getA dX10_keyOfRank_9 fl_WithoutE_26 lx_0 rfl ?_
    refine ev_getI dX10_keyOfRank_12 fl_WithoutE_223 lx_43 rfl ?_
    refine ev_iload_n dX10_keyOfRank_15 rfl ?_
    refine ev_callS [.int (M.1 43 0), .int x2] dX10_keyOfRank_16 ml_WithoutE_226 rfl (Nat.le_of_ble_eq_true rfl) (kX10_has) ?_
    rintro zr zM ⟨q1, q2⟩
    rw [q1, q2]
    show Ev LX (d + 1) mX10_keyOfRank 19 [some (.ref 0), some (.int x1), some (.int x2)] [(.int (bi (hs (M.1 43 0) x2)))] M Q
    refine ev_if_ne (tgt := 33) dX10_keyOfRank_19 (by decide) (fun c => ?_) (fun c => ?_)
    · replace h := h.1 ((bi_n0 _).mp c)
      refine ev_iinc (v := x2 + 1) (ls2 := [some (.ref 0), some (.int x1), some (.int (x2 + 1))]) dX10_keyOfRank_33 rfl rfl rfl ?_
      refine ev_goto (tgt := 2) dX10_keyOfRank_36 (by decide) ?_
      exact h
    · replace h := h.2 ((bi_0 _).mp c)
      refine ev_aload_n dX10_keyOfRank_22 rfl ?_
      refine ev_iload_n dX10_keyOfRank_23 rfl ?_
      obtain ⟨Q2, hc, h⟩ := h
      refine ev_callV [.int x2] dX10_keyOfRank_24 ml_WithoutE_364 lx_0 rfl rfl (Nat.le_of_ble_eq_true rfl) hc (fun zr zM q => ?_)
      exact h zr zM q
theorem gX10_keyOfRank_27 {d : Nat} {M : ev_Mem} {Q : Option Value → ev_Mem → Prop} {x1 x2 s0 : Int32} (h : (((¬ s0 = x1) → (Ev LX d mX10_keyOfRank 2 [some (.ref 0), some (.int x1), some (.int (x2 + 1))] [] M Q)) ∧ ((s0 = x1) → (Q (some (.int x2)) M)))) : Ev LX d mX10_keyOfRank 27 [some (.ref 0), some (.int x1), some (.int x2)] [(.int s0)] M Q := by
  refine ev_iload_n dX10_keyOfRank_27 rfl ?_
  refine ev_icmp_ne (tgt := 33) dX10_keyOfRank_28 (by decide) (fun c => ?_) (fun c => ?_)
  · replace h := h.1 c
    refine ev_iinc (v := x2 + 1) (ls2 := [some (.ref 0), some (.int x1), some (.int (x2 + 1))]) dX10_keyOfRank_33 rfl rfl rfl ?_
    refine ev_goto (tgt := 2) dX10_keyOfRank_36 (by decide) ?_
    exact h
  · replace h := h.2 c
    refine ev_iload_n dX10_keyOfRank_31 rfl ?_
    exact ev_iret dX10_keyOfRank_32 rfl h
theorem dX10_spare_0 : decode cX10_spare 0 = .ok (.aload_n 0, 1) := by decide +kernel
theorem dX10_spare_1 : decode cX10_spare 1 = .ok (.invokevirtual 352, 3) := by decide +kernel
theorem dX10_spare_4 : decode cX10_spare 4 = .ok (.aload_n 0, 1) := by decide +kernel
theorem dX10_spare_5 : decode cX10_spare 5 = .ok (.iconst 0, 1) := by decide +kernel
theorem dX10_spare_6 : decode cX10_spare 6 = .ok (.invokevirtual 355, 3) := by decide +kernel
theorem dX10_spare_9 : decode cX10_spare 9 = .ok (.istore_n 1, 1) := by decide +kernel
theorem dX10_spare_10 : decode cX10_spare 10 = .ok (.iload_n 1, 1) := by decide +kernel
theorem dX10_spare_11 : decode cX10_spare 11 = .ok (.iconst (-1), 1) := by decide +kernel
theorem dX10_spare_12 : decode cX10_spare 12 = .ok (.if_icmp .eq 12, 3) := by decide +kernel
theorem dX10_spare_15 : decode cX10_spare 15 = .ok (.aload_n 0, 1) := by decide +kernel
theorem dX10_spare_16 : decode cX10_spare 16 = .ok (.getfield 65, 3) := by decide +kernel
theorem dX10_spare_19 : decode cX10_spare 19 = .ok (.iload_n 1, 1) := by decide +kernel
theorem dX10_spare_20 : decode cX10_spare 20 = .ok (.iaload, 1) := by decide +kernel
theorem dX10_spare_21 : decode cX10_spare 21 = .ok (.ifCond .ne 7, 3) := by decide +kernel
theorem dX10_spare_24 : decode cX10_spare 24 = .ok (.iconst (-1), 1) := by decide +kernel
theorem dX10_spare_25 : decode cX10_spare 25 = .ok (.goto 4, 3) := by decide +kernel
theorem dX10_spare_28 : decode cX10_spare 28 = .ok (.iload_n 1, 1) := by decide +kernel
theorem dX10_spare_29 : decode cX10_spare 29 = .ok (.ireturn, 1) := by decide +kernel
theorem gX10_spare_0 {d : Nat} {M : ev_Mem} {Q : Option Value → ev_Mem → Prop} (h : (∃ Q2 : Option Value → ev_Mem → Prop, Cl LX d mX10_countPresses [.ref 0] M Q2 ∧ ∀ (zr : Option Value) (zM : ev_Mem), Q2 zr zM → Ev LX (d + 1) mX10_spare 4 [some (.ref 0), none] (zr.toList ++ []) zM Q)) : Ev LX (d + 1) mX10_spare 0 [some (.ref 0), none] [] M Q := by
  refine ev_aload_n dX10_spare_0 rfl ?_
  obtain ⟨Q2, hc, h⟩ := h
  refine ev_callV [] dX10_spare_1 ml_WithoutE_352 lx_0 rfl rfl (Nat.le_of_ble_eq_true rfl) hc (fun zr zM q => ?_)
  exact h zr zM q
theorem gX10_spare_4 {d : Nat} {M : ev_Mem} {Q : Option Value → ev_Mem → Prop} (h : (∃ Q2 : Option Value → ev_Mem → Prop, Cl LX d mX10_keyOfRank [.ref 0, .int 0] M Q2 ∧ ∀ (zr : Option Value) (zM : ev_Mem), Q2 zr zM → Ev LX (d + 1) mX10_spare 9 [some (.ref 0), none] (zr.toList ++ []) zM Q)) : Ev LX (d + 1) mX10_spare 4 [some (.ref 0), none] [] M Q := by
  refine ev_aload_n dX10_spare_4 rfl ?_
  refine ev_iconst (v := 0) dX10_spare_5 (by decide) ?_
  obtain ⟨Q2, hc, h⟩ := h
  refine ev_callV [.int 0] dX10_spare_6 ml_WithoutE_355 lx_0 rfl rfl (Nat.le_of_ble_eq_true rfl) hc (fun zr zM q => ?_)
  exact h zr zM q
theorem gX10_spare_9 {d : Nat} {M : ev_Mem} {Q : Option Value → ev_Mem → Prop} {s0 : Int32} (h : (((s0 = (-1)) → (Q (some (.int (-1))) M)) ∧ ((¬ s0 = (-1)) → (vp_in s0 26 ∧ (((¬ (M.1 119 s0.toNatClampNeg) = 0) → (Q (some (.int s0)) M)) ∧ (((M.1 119 s0.toNatClampNeg) = 0) → (Q (some (.int (-1))) M))))))) : Ev LX d mX10_spare 9 [some (.ref 0), none] [(.int s0)] M Q := by
  refine ev_istore_n (ls2 := [some (.ref 0), some (.int s0)]) dX10_spare_9 (Nat.le_of_ble_eq_true rfl) rfl ?_
  refine ev_iload_n dX10_spare_10 rfl ?_
  refine ev_iconst (v := -1) dX10_spare_11 (by decide) ?_
  refine ev_icmp_eq (tgt := 24) dX10_spare_12 (by decide) (fun c => ?_) (fun c => ?_)
  · replace h := h.1 c
    refine ev_iconst (v := -1) dX10_spare_24 (by decide) ?_
    refine ev_goto (tgt := 29) dX10_spare_25 (by decide) ?_
    exact ev_iret dX10_spare_29 rfl h
  · replace h := h.2 c
    refine ev_aload_n dX10_spare_15 rfl ?_
    refine ev_getA dX10_spare_16 fl_WithoutE_65 lx_0 rfl ?_
    refine ev_iload_n dX10_spare_19 rfl ?_
    obtain ⟨c, h⟩ := h
    refine ev_iald dX10_spare_20 lx_119 c ?_
    refine ev_if_ne (tgt := 28) dX10_spare_21 (by decide) (fun c => ?_) (fun c => ?_)
    · replace h := h.1 c
      refine ev_iload_n dX10_spare_28 rfl ?_
      exact ev_iret dX10_spare_29 rfl h
    · replace h := h.2 c
      refine ev_iconst (v := -1) dX10_spare_24 (by decide) ?_
      refine ev_goto (tgt := 29) dX10_spare_25 (by decide) ?_
      exact ev_iret dX10_spare_29 rfl h
theorem dX10_now_0 : decode cX10_now 0 = .ok (.iload_n 1, 1) := by decide +kernel
theorem dX10_now_1 : decode cX10_now 1 = .ok (.invokestatic 214, 3) := by decide +kernel
theorem dX10_now_4 : decode cX10_now 4 = .ok (.ifCond .ne 5, 3) := by decide +kernel
theorem dX10_now_7 : decode cX10_now 7 = .ok (.iconst (-1), 1) := by decide +kernel
theorem dX10_now_8 : decode cX10_now 8 = .ok (.ireturn, 1) := by decide +kernel
theorem dX10_now_9 : decode cX10_now 9 = .ok (.aload_n 0, 1) := by decide +kernel
theorem dX10_now_10 : decode cX10_now 10 = .ok (.invokevirtual 352, 3) := by decide +kernel
theorem dX10_now_13 : decode cX10_now 13 = .ok (.aload_n 0, 1) := by decide +kernel
theorem dX10_now_14 : decode cX10_now 14 = .ok (.getfield 65, 3) := by decide +kernel
theorem dX10_now_17 : decode cX10_now 17 = .ok (.iload_n 1, 1) := by decide +kernel
theorem dX10_now_18 : decode cX10_now 18 = .ok (.iaload, 1) := by decide +kernel
theorem dX10_now_19 : decode cX10_now 19 = .ok (.ireturn, 1) := by decide +kernel
theorem gX10_now_0 {d : Nat} {M : ev_Mem} {Q : Option Value → ev_Mem → Prop} {x1 : Int32} (h : ((((iin x1 0 25) = true) → (∃ Q2 : Option Value → ev_Mem → Prop, Cl LX d mX10_countPresses [.ref 0] M Q2 ∧ ∀ (zr : Option Value) (zM : ev_Mem), Q2 zr zM → Ev LX (d + 1) mX10_now 13 [some (.ref 0), some (.int x1)] (zr.toList ++ []) zM Q)) ∧ (((iin x1 0 25) = false) → (Q (some (.int (-1))) M)))) : Ev LX (d + 1) mX10_now 0 [some (.ref 0), some (.int x1)] [] M Q := by
  refine ev_iload_n dX10_now_0 rfl ?_
  refine ev_callS [.int x1] dX10_now_1 ml_WithoutE_214 rfl (Nat.le_of_ble_eq_true rfl) (kX10_isLetter) ?_
  rintro zr zM ⟨q1, q2⟩
  rw [q1, q2]
  show Ev LX (d + 1) mX10_now 4 [some (.ref 0), some (.int x1)] [(.int (bi (iin x1 0 25)))] M Q
  refine ev_if_ne (tgt := 9) dX10_now_4 (by decide) (fun c => ?_) (fun c => ?_)
  · replace h := h.1 ((bi_n0 _).mp c)
    refine ev_aload_n dX10_now_9 rfl ?_
    obtain ⟨Q2, hc, h⟩ := h
    refine ev_callV [] dX10_now_10 ml_WithoutE_352 lx_0 rfl rfl (Nat.le_of_ble_eq_true rfl) hc (fun zr zM q => ?_)
    exact h zr zM q
  · replace h := h.2 ((bi_0 _).mp c)
    refine ev_iconst (v := -1) dX10_now_7 (by decide) ?_
    exact ev_iret dX10_now_8 rfl h
theorem gX10_now_13 {d : Nat} {M : ev_Mem} {Q : Option Value → ev_Mem → Prop} {x1 : Int32} (h : (vp_in x1 26 ∧ (Q (some (.int (M.1 119 x1.toNatClampNeg))) M))) : Ev LX d mX10_now 13 [some (.ref 0), some (.int x1)] [] M Q := by
  refine ev_aload_n dX10_now_13 rfl ?_
  refine ev_getA dX10_now_14 fl_WithoutE_65 lx_0 rfl ?_
  refine ev_iload_n dX10_now_17 rfl ?_
  obtain ⟨c, h⟩ := h
  refine ev_iald dX10_now_18 lx_119 c ?_
  exact ev_iret dX10_now_19 rfl h
theorem dX10_exact_0 : decode cX10_exact 0 = .ok (.iload_n 1, 1) := by decide +kernel
theorem dX10_exact_1 : decode cX10_exact 1 = .ok (.ifCond .lt 20, 3) := by decide +kernel
theorem dX10_exact_4 : decode cX10_exact 4 = .ok (.iload_n 1, 1) := by decide +kernel
theorem dX10_exact_5 : decode cX10_exact 5 = .ok (.bipush 26, 2) := by decide +kernel
theorem dX10_exact_7 : decode cX10_exact 7 = .ok (.aload_n 0, 1) := by decide +kernel
theorem dX10_exact_8 : decode cX10_exact 8 = .ok (.getfield 26, 3) := by decide +kernel
theorem dX10_exact_11 : decode cX10_exact 11 = .ok (.getfield 223, 3) := by decide +kernel
theorem dX10_exact_14 : decode cX10_exact 14 = .ok (.invokestatic 251, 3) := by decide +kernel
theorem dX10_exact_17 : decode cX10_exact 17 = .ok (.isub, 1) := by decide +kernel
theorem dX10_exact_18 : decode cX10_exact 18 = .ok (.if_icmp .lt 5, 3) := by decide +kernel
theorem dX10_exact_21 : decode cX10_exact 21 = .ok (.iconst (-1), 1) := by decide +kernel
theorem dX10_exact_22 : decode cX10_exact 22 = .ok (.ireturn, 1) := by decide +kernel
theorem dX10_exact_23 : decode cX10_exact 23 = .ok (.aload_n 0, 1) := by decide +kernel
theorem dX10_exact_24 : decode cX10_exact 24 = .ok (.invokevirtual 352, 3) := by decide +kernel
theorem dX10_exact_27 : decode cX10_exact 27 = .ok (.aload_n 0, 1) := by decide +kernel
theorem dX10_exact_28 : decode cX10_exact 28 = .ok (.iload_n 1, 1) := by decide +kernel
theorem dX10_exact_29 : decode cX10_exact 29 = .ok (.invokevirtual 355, 3) := by decide +kernel
theorem dX10_exact_32 : decode cX10_exact 32 = .ok (.ireturn, 1) := by decide +kernel
theorem gX10_exact_0 {d : Nat} {M : ev_Mem} {Q : Option Value → ev_Mem → Prop} {x1 : Int32} (h : (((x1 < 0) → (Q (some (.int (-1))) M)) ∧ ((¬ x1 < 0) → (((x1 < (26 - (bc (M.1 43 0)))) → (∃ Q2 : Option Value → ev_Mem → Prop, Cl LX d mX10_countPresses [.ref 0] M Q2 ∧ ∀ (zr : Option Value) (zM : ev_Mem), Q2 zr zM → Ev LX (d + 1) mX10_exact 27 [some (.ref 0), some (.int x1)] (zr.toList ++ []) zM Q)) ∧ ((¬ x1 < (26 - (bc (M.1 43 0)))) → (Q (some (.int (-1))) M)))))) : Ev LX (d + 1) mX10_exact 0 [some (.ref 0), some (.int x1)] [] M Q := by
  refine ev_iload_n dX10_exact_0 rfl ?_
  refine ev_if_lt (tgt := 21) dX10_exact_1 (by decide) (fun c => ?_) (fun c => ?_)
  · replace h := h.1 c
    refine ev_iconst (v := -1) dX10_exact_21 (by decide) ?_
    exact ev_iret dX10_exact_22 rfl h
  · replace h := h.2 c
    refine ev_iload_n dX10_exact_4 rfl ?_
    refine ev_bipush (v := 26) dX10_exact_5 (by decide) ?_
    refine ev_aload_n dX10_exact_7 rfl ?_
    refine ev_getA dX10_exact_8 fl_WithoutE_26 lx_0 rfl ?_
    refine ev_getI dX10_exact_11 fl_WithoutE_223 lx_43 rfl ?_
    refine ev_callS [.int (M.1 43 0)] dX10_exact_14 ml_WithoutE_251 rfl (Nat.le_of_ble_eq_true rfl) (kJ6_bitCount) ?_
    rintro zr zM ⟨q1, q2⟩
    rw [q1, q2]
    show Ev LX (d + 1) mX10_exact 17 [some (.ref 0), some (.int x1)] [(.int (bc (M.1 43 0))), (.int 26), (.int x1)] M Q
    refine ev_isub dX10_exact_17 ?_
    refine ev_icmp_lt (tgt := 23) dX10_exact_18 (by decide) (fun c => ?_) (fun c => ?_)
    · replace h := h.1 c
      refine ev_aload_n dX10_exact_23 rfl ?_
      obtain ⟨Q2, hc, h⟩ := h
      refine ev_callV [] dX10_exact_24 ml_WithoutE_352 lx_0 rfl rfl (Nat.le_of_ble_eq_true rfl) hc (fun zr zM q => ?_)
      exact h zr zM q
    · replace h := h.2 c
      refine ev_iconst (v := -1) dX10_exact_21 (by decide) ?_
      exact ev_iret dX10_exact_22 rfl h
theorem gX10_exact_27 {d : Nat} {M : ev_Mem} {Q : Option Value → ev_Mem → Prop} {x1 : Int32} (h : (∃ Q2 : Option Value → ev_Mem → Prop, Cl LX d mX10_keyOfRank [.ref 0, .int x1] M Q2 ∧ ∀ (zr : Option Value) (zM : ev_Mem), Q2 zr zM → Ev LX (d + 1) mX10_exact 32 [none, none] (zr.toList ++ []) zM Q)) : Ev LX (d + 1) mX10_exact 27 [some (.ref 0), some (.int x1)] [] M Q := by
  refine ev_aload_n dX10_exact_27 rfl ?_
  refine ev_iload_n dX10_exact_28 rfl ?_
  obtain ⟨Q2, hc, h⟩ := h
  refine ev_callV [.int x1] dX10_exact_29 ml_WithoutE_355 lx_0 rfl rfl (Nat.le_of_ble_eq_true rfl) hc (fun zr zM q => ?_)
  refine Ev.weak (ls := [none, none]) trivial ?_
  exact h zr zM q
theorem gX10_exact_32 {d : Nat} {M : ev_Mem} {Q : Option Value → ev_Mem → Prop} {s0 : Int32} (h : (Q (some (.int s0)) M)) : Ev LX d mX10_exact 32 [none, none] [(.int s0)] M Q := by
  exact ev_iret dX10_exact_32 rfl h
theorem dX10_waysInAll_0 : decode cX10_waysInAll 0 = .ok (.lconst 1, 1) := by decide +kernel
theorem dX10_waysInAll_1 : decode cX10_waysInAll 1 = .ok (.lstore_n 1, 1) := by decide +kernel
theorem dX10_waysInAll_2 : decode cX10_waysInAll 2 = .ok (.iconst 0, 1) := by decide +kernel
theorem dX10_waysInAll_3 : decode cX10_waysInAll 3 = .ok (.istore_n 3, 1) := by decide +kernel
theorem dX10_waysInAll_4 : decode cX10_waysInAll 4 = .ok (.iload_n 3, 1) := by decide +kernel
theorem dX10_waysInAll_5 : decode cX10_waysInAll 5 = .ok (.iload_n 0, 1) := by decide +kernel
theorem dX10_waysInAll_6 : decode cX10_waysInAll 6 = .ok (.if_icmp .ge 15, 3) := by decide +kernel
theorem dX10_waysInAll_9 : decode cX10_waysInAll 9 = .ok (.lload_n 1, 1) := by decide +kernel
theorem dX10_waysInAll_10 : decode cX10_waysInAll 10 = .ok (.ldc2_w 402, 3) := by decide +kernel
theorem dX10_waysInAll_13 : decode cX10_waysInAll 13 = .ok (.lmul, 1) := by decide +kernel
theorem dX10_waysInAll_14 : decode cX10_waysInAll 14 = .ok (.lstore_n 1, 1) := by decide +kernel
theorem dX10_waysInAll_15 : decode cX10_waysInAll 15 = .ok (.iinc 3 1, 3) := by decide +kernel
theorem dX10_waysInAll_18 : decode cX10_waysInAll 18 = .ok (.goto (-14), 3) := by decide +kernel
theorem dX10_waysInAll_21 : decode cX10_waysInAll 21 = .ok (.lload_n 1, 1) := by decide +kernel
theorem dX10_waysInAll_22 : decode cX10_waysInAll 22 = .ok (.lreturn, 1) := by decide +kernel
theorem gX10_waysInAll_0 {d : Nat} {M : ev_Mem} {Q : Option Value → ev_Mem → Prop} {x0 : Int32} (h : (Ev LX d mX10_waysInAll 4 [some (.int x0), some (.long 1), none, some (.int 0)] [] M Q)) : Ev LX d mX10_waysInAll 0 [some (.int x0), none, none, none] [] M Q := by
  refine ev_lconst (v := 1) dX10_waysInAll_0 (by decide) ?_
  refine ev_lstore_n (ls2 := [some (.int x0), some (.long 1), none, none]) dX10_waysInAll_1 (Nat.le_of_ble_eq_true rfl) rfl ?_
  refine ev_iconst (v := 0) dX10_waysInAll_2 (by decide) ?_
  refine ev_istore_n (ls2 := [some (.int x0), some (.long 1), none, some (.int 0)]) dX10_waysInAll_3 (Nat.le_of_ble_eq_true rfl) rfl ?_
  exact h
theorem gX10_waysInAll_4 {d : Nat} {M : ev_Mem} {Q : Option Value → ev_Mem → Prop} {x0 x3 : Int32} {x1 : Int64} (h : (((x0 ≤ x3) → (Q (some (.long x1)) M)) ∧ ((¬ x0 ≤ x3) → (Ev LX d mX10_waysInAll 4 [some (.int x0), some (.long (x1 * 10)), none, some (.int (x3 + 1))] [] M Q)))) : Ev LX d mX10_waysInAll 4 [some (.int x0), some (.long x1), none, some (.int x3)] [] M Q := by
  refine ev_iload_n dX10_waysInAll_4 rfl ?_
  refine ev_iload_n dX10_waysInAll_5 rfl ?_
  refine ev_icmp_ge (tgt := 21) dX10_waysInAll_6 (by decide) (fun c => ?_) (fun c => ?_)
  · replace h := h.1 c
    refine ev_lload_n dX10_waysInAll_21 rfl ?_
    exact ev_lret dX10_waysInAll_22 rfl h
  · replace h := h.2 c
    refine ev_lload_n dX10_waysInAll_9 rfl ?_
    refine ev_ldc2 (v := 10) dX10_waysInAll_10 cw_WithoutE_402 ?_
    refine ev_lmul dX10_waysInAll_13 ?_
    refine ev_lstore_n (ls2 := [some (.int x0), some (.long (x1 * 10)), none, some (.int x3)]) dX10_waysInAll_14 (Nat.le_of_ble_eq_true rfl) rfl ?_
    refine ev_iinc (v := x3 + 1) (ls2 := [some (.int x0), some (.long (x1 * 10)), none, some (.int (x3 + 1))]) dX10_waysInAll_15 rfl rfl rfl ?_
    refine ev_goto (tgt := 4) dX10_waysInAll_18 (by decide) ?_
    exact h
theorem dX10_sharedDivisor_0 : decode cX10_sharedDivisor 0 = .ok (.lload_n 0, 1) := by decide +kernel
theorem dX10_sharedDivisor_1 : decode cX10_sharedDivisor 1 = .ok (.lstore 4, 2) := by decide +kernel
theorem dX10_sharedDivisor_3 : decode cX10_sharedDivisor 3 = .ok (.lload_n 2, 1) := by decide +kernel
theorem dX10_sharedDivisor_4 : decode cX10_sharedDivisor 4 = .ok (.lstore 6, 2) := by decide +kernel
theorem dX10_sharedDivisor_6 : decode cX10_sharedDivisor 6 = .ok (.iconst 0, 1) := by decide +kernel
theorem dX10_sharedDivisor_7 : decode cX10_sharedDivisor 7 = .ok (.istore 8, 2) := by decide +kernel
theorem dX10_sharedDivisor_9 : decode cX10_sharedDivisor 9 = .ok (.iload 8, 2) := by decide +kernel
theorem dX10_sharedDivisor_11 : decode cX10_sharedDivisor 11 = .ok (.bipush 100, 2) := by decide +kernel
theorem dX10_sharedDivisor_13 : decode cX10_sharedDivisor 13 = .ok (.if_icmp .ge 31, 3) := by decide +kernel
theorem dX10_sharedDivisor_16 : decode cX10_sharedDivisor 16 = .ok (.lload 6, 2) := by decide +kernel
theorem dX10_sharedDivisor_18 : decode cX10_sharedDivisor 18 = .ok (.lconst 0, 1) := by decide +kernel
theorem dX10_sharedDivisor_19 : decode cX10_sharedDivisor 19 = .ok (.lcmp, 1) := by decide +kernel
theorem dX10_sharedDivisor_20 : decode cX10_sharedDivisor 20 = .ok (.ifCond .eq 24, 3) := by decide +kernel
theorem dX10_sharedDivisor_23 : decode cX10_sharedDivisor 23 = .ok (.lload 4, 2) := by decide +kernel
theorem dX10_sharedDivisor_25 : decode cX10_sharedDivisor 25 = .ok (.lload 6, 2) := by decide +kernel
theorem dX10_sharedDivisor_27 : decode cX10_sharedDivisor 27 = .ok (.lrem, 1) := by decide +kernel
theorem dX10_sharedDivisor_28 : decode cX10_sharedDivisor 28 = .ok (.lstore 9, 2) := by decide +kernel
theorem dX10_sharedDivisor_30 : decode cX10_sharedDivisor 30 = .ok (.lload 6, 2) := by decide +kernel
theorem dX10_sharedDivisor_32 : decode cX10_sharedDivisor 32 = .ok (.lstore 4, 2) := by decide +kernel
theorem dX10_sharedDivisor_34 : decode cX10_sharedDivisor 34 = .ok (.lload 9, 2) := by decide +kernel
theorem dX10_sharedDivisor_36 : decode cX10_sharedDivisor 36 = .ok (.lstore 6, 2) := by decide +kernel
theorem dX10_sharedDivisor_38 : decode cX10_sharedDivisor 38 = .ok (.iinc 8 1, 3) := by decide +kernel
theorem dX10_sharedDivisor_41 : decode cX10_sharedDivisor 41 = .ok (.goto (-32), 3) := by decide +kernel
theorem dX10_sharedDivisor_44 : decode cX10_sharedDivisor 44 = .ok (.lload 4, 2) := by decide +kernel
theorem dX10_sharedDivisor_46 : decode cX10_sharedDivisor 46 = .ok (.lreturn, 1) := by decide +kernel
theorem gX10_sharedDivisor_0 {d : Nat} {M : ev_Mem} {Q : Option Value → ev_Mem → Prop} {x0 x2 : Int64} (h : (Ev LX d mX10_sharedDivisor 9 [none, none, none, none, some (.long x0), none, some (.long x2), none, some (.int 0), none, none] [] M Q)) : Ev LX d mX10_sharedDivisor 0 [some (.long x0), none, some (.long x2), none, none, none, none, none, none, none, none] [] M Q := by
  refine ev_lload_n dX10_sharedDivisor_0 rfl ?_
  refine ev_lstore (ls2 := [some (.long x0), none, some (.long x2), none, some (.long x0), none, none, none, none, none, none]) dX10_sharedDivisor_1 (Nat.le_of_ble_eq_true rfl) rfl ?_
  refine ev_lload_n dX10_sharedDivisor_3 rfl ?_
  refine ev_lstore (ls2 := [some (.long x0), none, some (.long x2), none, some (.long x0), none, some (.long x2), none, none, none, none]) dX10_sharedDivisor_4 (Nat.le_of_ble_eq_true rfl) rfl ?_
  refine ev_iconst (v := 0) dX10_sharedDivisor_6 (by decide) ?_
  refine ev_istore (ls2 := [some (.long x0), none, some (.long x2), none, some (.long x0), none, some (.long x2), none, some (.int 0), none, none]) dX10_sharedDivisor_7 (Nat.le_of_ble_eq_true rfl) rfl ?_
  refine Ev.weak (ls := [none, none, none, none, some (.long x0), none, some (.long x2), none, some (.int 0), none, none]) ⟨rfl, rfl, rfl, trivial⟩ ?_
  exact h
theorem gX10_sharedDivisor_9 {d : Nat} {M : ev_Mem} {Q : Option Value → ev_Mem → Prop} {x8 : Int32} {x4 x6 : Int64} (h : (((100 ≤ x8) → (Q (some (.long x4)) M)) ∧ ((¬ 100 ≤ x8) → ((((lg_cmp x6 0) = 0) → (Q (some (.long x4)) M)) ∧ ((¬ (lg_cmp x6 0) = 0) → (¬ (x6 : Int64) = 0 ∧ (Ev LX d mX10_sharedDivisor 9 [none, none, none, none, some (.long x6), none, some (.long (x4 - x4 / x6 * x6)), none, some (.int (x8 + 1)), none, none] [] M Q))))))) : Ev LX d mX10_sharedDivisor 9 [none, none, none, none, some (.long x4), none, some (.long x6), none, some (.int x8), none, none] [] M Q := by
  refine ev_iload dX10_sharedDivisor_9 rfl ?_
  refine ev_bipush (v := 100) dX10_sharedDivisor_11 (by decide) ?_
  refine ev_icmp_ge (tgt := 44) dX10_sharedDivisor_13 (by decide) (fun c => ?_) (fun c => ?_)
  · replace h := h.1 c
    refine ev_lload dX10_sharedDivisor_44 rfl ?_
    exact ev_lret dX10_sharedDivisor_46 rfl h
  · replace h := h.2 c
    refine ev_lload dX10_sharedDivisor_16 rfl ?_
    refine ev_lconst (v := 0) dX10_sharedDivisor_18 (by decide) ?_
    refine ev_lcmp dX10_sharedDivisor_19 ?_
    refine ev_if_eq (tgt := 44) dX10_sharedDivisor_20 (by decide) (fun c => ?_) (fun c => ?_)
    · replace h := h.1 c
      refine ev_lload dX10_sharedDivisor_44 rfl ?_
      exact ev_lret dX10_sharedDivisor_46 rfl h
    · replace h := h.2 c
      refine ev_lload dX10_sharedDivisor_23 rfl ?_
      refine ev_lload dX10_sharedDivisor_25 rfl ?_
      obtain ⟨c, h⟩ := h
      refine ev_lrem dX10_sharedDivisor_27 c ?_
      refine ev_lstore (ls2 := [none, none, none, none, some (.long x4), none, some (.long x6), none, some (.int x8), some (.long (x4 - x4 / x6 * x6)), none]) dX10_sharedDivisor_28 (Nat.le_of_ble_eq_true rfl) rfl ?_
      refine ev_lload dX10_sharedDivisor_30 rfl ?_
      refine ev_lstore (ls2 := [none, none, none, none, some (.long x6), none, some (.long x6), none, some (.int x8), some (.long (x4 - x4 / x6 * x6)), none]) dX10_sharedDivisor_32 (Nat.le_of_ble_eq_true rfl) rfl ?_
      refine ev_lload dX10_sharedDivisor_34 rfl ?_
      refine ev_lstore (ls2 := [none, none, none, none, some (.long x6), none, some (.long (x4 - x4 / x6 * x6)), none, some (.int x8), some (.long (x4 - x4 / x6 * x6)), none]) dX10_sharedDivisor_36 (Nat.le_of_ble_eq_true rfl) rfl ?_
      refine ev_iinc (v := x8 + 1) (ls2 := [none, none, none, none, some (.long x6), none, some (.long (x4 - x4 / x6 * x6)), none, some (.int (x8 + 1)), some (.long (x4 - x4 / x6 * x6)), none]) dX10_sharedDivisor_38 rfl rfl rfl ?_
      refine ev_goto (tgt := 9) dX10_sharedDivisor_41 (by decide) ?_
      refine Ev.weak (ls := [none, none, none, none, some (.long x6), none, some (.long (x4 - x4 / x6 * x6)), none, some (.int (x8 + 1)), none, none]) ⟨rfl, rfl, rfl, trivial⟩ ?_
      exact h
theorem dX10_waysUnnoticed_0 : decode cX10_waysUnnoticed 0 = .ok (.lconst 1, 1) := by decide +kernel
theorem dX10_waysUnnoticed_1 : decode cX10_waysUnnoticed 1 = .ok (.lstore_n 2, 1) := by decide +kernel
theorem dX10_waysUnnoticed_2 : decode cX10_waysUnnoticed 2 = .ok (.iconst 0, 1) := by decide +kernel
theorem dX10_waysUnnoticed_3 : decode cX10_waysUnnoticed 3 = .ok (.istore 4, 2) := by decide +kernel
theorem dX10_waysUnnoticed_5 : decode cX10_waysUnnoticed 5 = .ok (.iconst 0, 1) := by decide +kernel
theorem dX10_waysUnnoticed_6 : decode cX10_waysUnnoticed 6 = .ok (.istore 5, 2) := by decide +kernel
theorem dX10_waysUnnoticed_8 : decode cX10_waysUnnoticed 8 = .ok (.iload 5, 2) := by decide +kernel
theorem dX10_waysUnnoticed_10 : decode cX10_waysUnnoticed 10 = .ok (.aload_n 0, 1) := by decide +kernel
theorem dX10_waysUnnoticed_11 : decode cX10_waysUnnoticed 11 = .ok (.getfield 19, 3) := by decide +kernel
theorem dX10_waysUnnoticed_14 : decode cX10_waysUnnoticed 14 = .ok (.getfield 262, 3) := by decide +kernel
theorem dX10_waysUnnoticed_17 : decode cX10_waysUnnoticed 17 = .ok (.if_icmp .ge 43, 3) := by decide +kernel
theorem dX10_waysUnnoticed_20 : decode cX10_waysUnnoticed 20 = .ok (.iload 4, 2) := by decide +kernel
theorem dX10_waysUnnoticed_22 : decode cX10_waysUnnoticed 22 = .ok (.iload_n 1, 1) := by decide +kernel
theorem dX10_waysUnnoticed_23 : decode cX10_waysUnnoticed 23 = .ok (.if_icmp .ge 37, 3) := by decide +kernel
theorem dX10_waysUnnoticed_26 : decode cX10_waysUnnoticed 26 = .ok (.aload_n 0, 1) := by decide +kernel
theorem dX10_waysUnnoticed_27 : decode cX10_waysUnnoticed 27 = .ok (.getfield 98, 3) := by decide +kernel
theorem dX10_waysUnnoticed_30 : decode cX10_waysUnnoticed 30 = .ok (.iload 5, 2) := by decide +kernel
theorem dX10_waysUnnoticed_32 : decode cX10_waysUnnoticed 32 = .ok (.invokevirtual 239, 3) := by decide +kernel
theorem dX10_waysUnnoticed_35 : decode cX10_waysUnnoticed 35 = .ok (.ifCond .eq 19, 3) := by decide +kernel
theorem dX10_waysUnnoticed_38 : decode cX10_waysUnnoticed 38 = .ok (.lload_n 2, 1) := by decide +kernel
theorem dX10_waysUnnoticed_39 : decode cX10_waysUnnoticed 39 = .ok (.bipush 10, 2) := by decide +kernel
theorem dX10_waysUnnoticed_41 : decode cX10_waysUnnoticed 41 = .ok (.aload_n 0, 1) := by decide +kernel
theorem dX10_waysUnnoticed_42 : decode cX10_waysUnnoticed 42 = .ok (.iload 4, 2) := by decide +kernel
theorem dX10_waysUnnoticed_44 : decode cX10_waysUnnoticed 44 = .ok (.invokevirtual 397, 3) := by decide +kernel
theorem dX10_waysUnnoticed_47 : decode cX10_waysUnnoticed 47 = .ok (.isub, 1) := by decide +kernel
theorem dX10_waysUnnoticed_48 : decode cX10_waysUnnoticed 48 = .ok (.i2l, 1) := by decide +kernel
theorem dX10_waysUnnoticed_49 : decode cX10_waysUnnoticed 49 = .ok (.lmul, 1) := by decide +kernel
theorem dX10_waysUnnoticed_50 : decode cX10_waysUnnoticed 50 = .ok (.lstore_n 2, 1) := by decide +kernel
theorem dX10_waysUnnoticed_51 : decode cX10_waysUnnoticed 51 = .ok (.iinc 4 1, 3) := by decide +kernel
theorem dX10_waysUnnoticed_54 : decode cX10_waysUnnoticed 54 = .ok (.iinc 5 1, 3) := by decide +kernel
theorem dX10_waysUnnoticed_57 : decode cX10_waysUnnoticed 57 = .ok (.goto (-49), 3) := by decide +kernel
theorem dX10_waysUnnoticed_60 : decode cX10_waysUnnoticed 60 = .ok (.iload 4, 2) := by decide +kernel
theorem dX10_waysUnnoticed_62 : decode cX10_waysUnnoticed 62 = .ok (.iload_n 1, 1) := by decide +kernel
theorem dX10_waysUnnoticed_63 : decode cX10_waysUnnoticed 63 = .ok (.if_icmp .ne 7, 3) := by decide +kernel
theorem dX10_waysUnnoticed_66 : decode cX10_waysUnnoticed 66 = .ok (.lload_n 2, 1) := by decide +kernel
theorem dX10_waysUnnoticed_67 : decode cX10_waysUnnoticed 67 = .ok (.goto 6, 3) := by decide +kernel
theorem dX10_waysUnnoticed_70 : decode cX10_waysUnnoticed 70 = .ok (.ldc2_w 379, 3) := by decide +kernel
theorem dX10_waysUnnoticed_73 : decode cX10_waysUnnoticed 73 = .ok (.lreturn, 1) := by decide +kernel
theorem gX10_waysUnnoticed_0 {d : Nat} {M : ev_Mem} {Q : Option Value → ev_Mem → Prop} {x1 : Int32} (h : (Ev LX d mX10_waysUnnoticed 8 [some (.ref 0), some (.int x1), some (.long 1), none, some (.int 0), some (.int 0)] [] M Q)) : Ev LX d mX10_waysUnnoticed 0 [some (.ref 0), some (.int x1), none, none, none, none] [] M Q := by
  refine ev_lconst (v := 1) dX10_waysUnnoticed_0 (by decide) ?_
  refine ev_lstore_n (ls2 := [some (.ref 0), some (.int x1), some (.long 1), none, none, none]) dX10_waysUnnoticed_1 (Nat.le_of_ble_eq_true rfl) rfl ?_
  refine ev_iconst (v := 0) dX10_waysUnnoticed_2 (by decide) ?_
  refine ev_istore (ls2 := [some (.ref 0), some (.int x1), some (.long 1), none, some (.int 0), none]) dX10_waysUnnoticed_3 (Nat.le_of_ble_eq_true rfl) rfl ?_
  refine ev_iconst (v := 0) dX10_waysUnnoticed_5 (by decide) ?_
  refine ev_istore (ls2 := [some (.ref 0), some (.int x1), some (.long 1), none, some (.int 0), some (.int 0)]) dX10_waysUnnoticed_6 (Nat.le_of_ble_eq_true rfl) rfl ?_
  exact h
theorem gX10_waysUnnoticed_8 {d : Nat} {M : ev_Mem} {Q : Option Value → ev_Mem → Prop} {x1 x4 x5 : Int32} {x2 : Int64} (h : ((((M.1 3 8) ≤ x5) → (((¬ x4 = x1) → (Q (some (.long (-1))) M)) ∧ ((x4 = x1) → (Q (some (.long x2)) M)))) ∧ ((¬ (M.1 3 8) ≤ x5) → (((x1 ≤ x4) → (((¬ x4 = x1) → (Q (some (.long (-1))) M)) ∧ ((x4 = x1) → (Q (some (.long x2)) M)))) ∧ ((¬ x1 ≤ x4) → (∃ Q2 : Option Value → ev_Mem → Prop, Cl LX d mX6_speak [.ref 86, .int x5] M Q2 ∧ ∀ (zr : Option Value) (zM : ev_Mem), Q2 zr zM → Ev LX (d + 1) mX10_waysUnnoticed 35 [some (.ref 0), some (.int x1), some (.long x2), none, some (.int x4), some (.int x5)] (zr.toList ++ []) zM Q)))))) : Ev LX (d + 1) mX10_waysUnnoticed 8 [some (.ref 0), some (.int x1), some (.long x2), none, some (.int x4), some (.int x5)] [] M Q := by
  refine ev_iload dX10_waysUnnoticed_8 rfl ?_
  refine ev_aload_n dX10_waysUnnoticed_10 rfl ?_
  refine ev_getA dX10_waysUnnoticed_11 fl_WithoutE_19 lx_0 rfl ?_
  refine ev_getI dX10_waysUnnoticed_14 fl_WithoutE_262 lx_3 rfl ?_
  refine ev_icmp_ge (tgt := 60) dX10_waysUnnoticed_17 (by decide) (fun c => ?_) (fun c => ?_)
  · replace h := h.1 c
    refine ev_iload dX10_waysUnnoticed_60 rfl ?_
    refine ev_iload_n dX10_waysUnnoticed_62 rfl ?_
    refine ev_icmp_ne (tgt := 70) dX10_waysUnnoticed_63 (by decide) (fun c => ?_) (fun c => ?_)
    · replace h := h.1 c
      refine ev_ldc2 (v := -1) dX10_waysUnnoticed_70 cw_WithoutE_379 ?_
      exact ev_lret dX10_waysUnnoticed_73 rfl h
    · replace h := h.2 c
      refine ev_lload_n dX10_waysUnnoticed_66 rfl ?_
      refine ev_goto (tgt := 73) dX10_waysUnnoticed_67 (by decide) ?_
      exact ev_lret dX10_waysUnnoticed_73 rfl h
  · replace h := h.2 c
    refine ev_iload dX10_waysUnnoticed_20 rfl ?_
    refine ev_iload_n dX10_waysUnnoticed_22 rfl ?_
    refine ev_icmp_ge (tgt := 60) dX10_waysUnnoticed_23 (by decide) (fun c => ?_) (fun c => ?_)
    · replace h := h.1 c
      refine ev_iload dX10_waysUnnoticed_60 rfl ?_
      refine ev_iload_n dX10_waysUnnoticed_62 rfl ?_
      refine ev_icmp_ne (tgt := 70) dX10_waysUnnoticed_63 (by decide) (fun c => ?_) (fun c => ?_)
      · replace h := h.1 c
        refine ev_ldc2 (v := -1) dX10_waysUnnoticed_70 cw_WithoutE_379 ?_
        exact ev_lret dX10_waysUnnoticed_73 rfl h
      · replace h := h.2 c
        refine ev_lload_n dX10_waysUnnoticed_66 rfl ?_
        refine ev_goto (tgt := 73) dX10_waysUnnoticed_67 (by decide) ?_
        exact ev_lret dX10_waysUnnoticed_73 rfl h
    · replace h := h.2 c
      refine ev_aload_n dX10_waysUnnoticed_26 rfl ?_
      refine ev_getA dX10_waysUnnoticed_27 fl_WithoutE_98 lx_0 rfl ?_
      refine ev_iload dX10_waysUnnoticed_30 rfl ?_
      obtain ⟨Q2, hc, h⟩ := h
      refine ev_callV [.int x5] dX10_waysUnnoticed_32 ml_WithoutE_239 lx_86 rfl rfl (Nat.le_of_ble_eq_true rfl) hc (fun zr zM q => ?_)
      exact h zr zM q
theorem gX10_waysUnnoticed_35 {d : Nat} {M : ev_Mem} {Q : Option Value → ev_Mem → Prop} {x1 x4 x5 s0 : Int32} {x2 : Int64} (h : (((s0 = 0) → (Ev LX (d + 1) mX10_waysUnnoticed 8 [some (.ref 0), some (.int x1), some (.long x2), none, some (.int x4), some (.int (x5 + 1))] [] M Q)) ∧ ((¬ s0 = 0) → (∃ Q2 : Option Value → ev_Mem → Prop, Cl LX d mX10_noticeOdds [.ref 0, .int x4] M Q2 ∧ ∀ (zr : Option Value) (zM : ev_Mem), Q2 zr zM → Ev LX (d + 1) mX10_waysUnnoticed 47 [some (.ref 0), some (.int x1), none, none, some (.int x4), some (.int x5)] (zr.toList ++ [(.int 10), (.long x2)]) zM Q)))) : Ev LX (d + 1) mX10_waysUnnoticed 35 [some (.ref 0), some (.int x1), some (.long x2), none, some (.int x4), some (.int x5)] [(.int s0)] M Q := by
  refine ev_if_eq (tgt := 54) dX10_waysUnnoticed_35 (by decide) (fun c => ?_) (fun c => ?_)
  · replace h := h.1 c
    refine ev_iinc (v := x5 + 1) (ls2 := [some (.ref 0), some (.int x1), some (.long x2), none, some (.int x4), some (.int (x5 + 1))]) dX10_waysUnnoticed_54 rfl rfl rfl ?_
    refine ev_goto (tgt := 8) dX10_waysUnnoticed_57 (by decide) ?_
    exact h
  · replace h := h.2 c
    refine ev_lload_n dX10_waysUnnoticed_38 rfl ?_
    refine ev_bipush (v := 10) dX10_waysUnnoticed_39 (by decide) ?_
    refine ev_aload_n dX10_waysUnnoticed_41 rfl ?_
    refine ev_iload dX10_waysUnnoticed_42 rfl ?_
    obtain ⟨Q2, hc, h⟩ := h
    refine ev_callV [.int x4] dX10_waysUnnoticed_44 ml_WithoutE_397 lx_0 rfl rfl (Nat.le_of_ble_eq_true rfl) hc (fun zr zM q => ?_)
    refine Ev.weak (ls := [some (.ref 0), some (.int x1), none, none, some (.int x4), some (.int x5)]) ⟨rfl, rfl, rfl, rfl, trivial⟩ ?_
    exact h zr zM q
theorem gX10_waysUnnoticed_47 {d : Nat} {M : ev_Mem} {Q : Option Value → ev_Mem → Prop} {x1 x4 x5 s0 s1 : Int32} {s2 : Int64} (h : (∀ v1 : Int64, v1 = s2 * ((s1 - s0 : Int32).toInt64) → (Ev LX d mX10_waysUnnoticed 8 [some (.ref 0), some (.int x1), some (.long v1), none, some (.int (x4 + 1)), some (.int (x5 + 1))] [] M Q))) : Ev LX d mX10_waysUnnoticed 47 [some (.ref 0), some (.int x1), none, none, some (.int x4), some (.int x5)] [(.int s0), (.int s1), (.long s2)] M Q := by
  refine ev_isub dX10_waysUnnoticed_47 ?_
  refine ev_i2l dX10_waysUnnoticed_48 ?_
  refine ev_lmul dX10_waysUnnoticed_49 ?_
  refine ev_lstore_n (ls2 := [some (.ref 0), some (.int x1), some (.long (s2 * ((s1 - s0 : Int32).toInt64))), none, some (.int x4), some (.int x5)]) dX10_waysUnnoticed_50 (Nat.le_of_ble_eq_true rfl) rfl ?_
  generalize ev1 : s2 * ((s1 - s0 : Int32).toInt64) = v1
  replace h := h v1 ev1.symm
  refine ev_iinc (v := x4 + 1) (ls2 := [some (.ref 0), some (.int x1), some (.long v1), none, some (.int (x4 + 1)), some (.int x5)]) dX10_waysUnnoticed_51 rfl rfl rfl ?_
  refine ev_iinc (v := x5 + 1) (ls2 := [some (.ref 0), some (.int x1), some (.long v1), none, some (.int (x4 + 1)), some (.int (x5 + 1))]) dX10_waysUnnoticed_54 rfl rfl rfl ?_
  refine ev_goto (tgt := 8) dX10_waysUnnoticed_57 (by decide) ?_
  exact h
theorem dX10_notices_0 : decode cX10_notices 0 = .ok (.iload_n 1, 1) := by decide +kernel
theorem dX10_notices_1 : decode cX10_notices 1 = .ok (.ifCond .lt 9, 3) := by decide +kernel
theorem dX10_notices_4 : decode cX10_notices 4 = .ok (.iload_n 1, 1) := by decide +kernel
theorem dX10_notices_5 : decode cX10_notices 5 = .ok (.bipush 8, 2) := by decide +kernel
theorem dX10_notices_7 : decode cX10_notices 7 = .ok (.if_icmp .le 7, 3) := by decide +kernel
theorem dX10_notices_10 : decode cX10_notices 10 = .ok (.ldc2_w 379, 3) := by decide +kernel
theorem dX10_notices_13 : decode cX10_notices 13 = .ok (.lreturn, 1) := by decide +kernel
theorem dX10_notices_14 : decode cX10_notices 14 = .ok (.aload_n 0, 1) := by decide +kernel
theorem dX10_notices_15 : decode cX10_notices 15 = .ok (.invokevirtual 236, 3) := by decide +kernel
theorem dX10_notices_18 : decode cX10_notices 18 = .ok (.aload_n 0, 1) := by decide +kernel
theorem dX10_notices_19 : decode cX10_notices 19 = .ok (.iload_n 1, 1) := by decide +kernel
theorem dX10_notices_20 : decode cX10_notices 20 = .ok (.invokevirtual 381, 3) := by decide +kernel
theorem dX10_notices_23 : decode cX10_notices 23 = .ok (.lstore_n 3, 1) := by decide +kernel
theorem dX10_notices_24 : decode cX10_notices 24 = .ok (.lload_n 3, 1) := by decide +kernel
theorem dX10_notices_25 : decode cX10_notices 25 = .ok (.ldc2_w 379, 3) := by decide +kernel
theorem dX10_notices_28 : decode cX10_notices 28 = .ok (.lcmp, 1) := by decide +kernel
theorem dX10_notices_29 : decode cX10_notices 29 = .ok (.ifCond .ne 7, 3) := by decide +kernel
theorem dX10_notices_32 : decode cX10_notices 32 = .ok (.ldc2_w 379, 3) := by decide +kernel
theorem dX10_notices_35 : decode cX10_notices 35 = .ok (.lreturn, 1) := by decide +kernel
theorem dX10_notices_36 : decode cX10_notices 36 = .ok (.iload_n 1, 1) := by decide +kernel
theorem dX10_notices_37 : decode cX10_notices 37 = .ok (.invokestatic 385, 3) := by decide +kernel
theorem dX10_notices_40 : decode cX10_notices 40 = .ok (.lstore 5, 2) := by decide +kernel
theorem dX10_notices_42 : decode cX10_notices 42 = .ok (.lload 5, 2) := by decide +kernel
theorem dX10_notices_44 : decode cX10_notices 44 = .ok (.lload_n 3, 1) := by decide +kernel
theorem dX10_notices_45 : decode cX10_notices 45 = .ok (.lsub, 1) := by decide +kernel
theorem dX10_notices_46 : decode cX10_notices 46 = .ok (.lstore 7, 2) := by decide +kernel
theorem dX10_notices_48 : decode cX10_notices 48 = .ok (.lload 5, 2) := by decide +kernel
theorem dX10_notices_50 : decode cX10_notices 50 = .ok (.lload 7, 2) := by decide +kernel
theorem dX10_notices_52 : decode cX10_notices 52 = .ok (.invokestatic 388, 3) := by decide +kernel
theorem dX10_notices_55 : decode cX10_notices 55 = .ok (.lstore 9, 2) := by decide +kernel
theorem dX10_notices_57 : decode cX10_notices 57 = .ok (.iload_n 2, 1) := by decide +kernel
theorem dX10_notices_58 : decode cX10_notices 58 = .ok (.ifCond .eq 8, 3) := by decide +kernel
theorem dX10_notices_61 : decode cX10_notices 61 = .ok (.lload 5, 2) := by decide +kernel
theorem dX10_notices_63 : decode cX10_notices 63 = .ok (.goto 5, 3) := by decide +kernel
theorem dX10_notices_66 : decode cX10_notices 66 = .ok (.lload 7, 2) := by decide +kernel
theorem dX10_notices_68 : decode cX10_notices 68 = .ok (.lconst 1, 1) := by decide +kernel
theorem dX10_notices_69 : decode cX10_notices 69 = .ok (.lload 9, 2) := by decide +kernel
theorem dX10_notices_71 : decode cX10_notices 71 = .ok (.invokestatic 392, 3) := by decide +kernel
theorem dX10_notices_74 : decode cX10_notices 74 = .ok (.ldiv, 1) := by decide +kernel
theorem dX10_notices_75 : decode cX10_notices 75 = .ok (.lreturn, 1) := by decide +kernel
theorem gX10_notices_0 {d : Nat} {M : ev_Mem} {Q : Option Value → ev_Mem → Prop} {x1 x2 : Int32} (h : (((x1 < 0) → (Q (some (.long (-1))) M)) ∧ ((¬ x1 < 0) → (((x1 ≤ 8) → (∃ Q2 : Option Value → ev_Mem → Prop, Cl LX d mX10_hearNow [.ref 0] M Q2 ∧ ∀ (zr : Option Value) (zM : ev_Mem), Q2 zr zM → Ev LX (d + 1) mX10_notices 18 [some (.ref 0), some (.int x1), some (.int x2), none, none, none, none, none, none, none, none] (zr.toList ++ []) zM Q)) ∧ ((¬ x1 ≤ 8) → (Q (some (.long (-1))) M)))))) : Ev LX (d + 1) mX10_notices 0 [some (.ref 0), some (.int x1), some (.int x2), none, none, none, none, none, none, none, none] [] M Q := by
  refine ev_iload_n dX10_notices_0 rfl ?_
  refine ev_if_lt (tgt := 10) dX10_notices_1 (by decide) (fun c => ?_) (fun c => ?_)
  · replace h := h.1 c
    refine ev_ldc2 (v := -1) dX10_notices_10 cw_WithoutE_379 ?_
    exact ev_lret dX10_notices_13 rfl h
  · replace h := h.2 c
    refine ev_iload_n dX10_notices_4 rfl ?_
    refine ev_bipush (v := 8) dX10_notices_5 (by decide) ?_
    refine ev_icmp_le (tgt := 14) dX10_notices_7 (by decide) (fun c => ?_) (fun c => ?_)
    · replace h := h.1 c
      refine ev_aload_n dX10_notices_14 rfl ?_
      obtain ⟨Q2, hc, h⟩ := h
      refine ev_callV [] dX10_notices_15 ml_WithoutE_236 lx_0 rfl rfl (Nat.le_of_ble_eq_true rfl) hc (fun zr zM q => ?_)
      exact h zr zM q
    · replace h := h.2 c
      refine ev_ldc2 (v := -1) dX10_notices_10 cw_WithoutE_379 ?_
      exact ev_lret dX10_notices_13 rfl h
theorem gX10_notices_18 {d : Nat} {M : ev_Mem} {Q : Option Value → ev_Mem → Prop} {x1 x2 : Int32} (h : (∃ Q2 : Option Value → ev_Mem → Prop, Cl LX d mX10_waysUnnoticed [.ref 0, .int x1] M Q2 ∧ ∀ (zr : Option Value) (zM : ev_Mem), Q2 zr zM → Ev LX (d + 1) mX10_notices 23 [none, some (.int x1), some (.int x2), none, none, none, none, none, none, none, none] (zr.toList ++ []) zM Q)) : Ev LX (d + 1) mX10_notices 18 [some (.ref 0), some (.int x1), some (.int x2), none, none, none, none, none, none, none, none] [] M Q := by
  refine ev_aload_n dX10_notices_18 rfl ?_
  refine ev_iload_n dX10_notices_19 rfl ?_
  obtain ⟨Q2, hc, h⟩ := h
  refine ev_callV [.int x1] dX10_notices_20 ml_WithoutE_381 lx_0 rfl rfl (Nat.le_of_ble_eq_true rfl) hc (fun zr zM q => ?_)
  refine Ev.weak (ls := [none, some (.int x1), some (.int x2), none, none, none, none, none, none, none, none]) ⟨rfl, rfl, trivial⟩ ?_
  exact h zr zM q
theorem gX10_notices_23 {d : Nat} {M : ev_Mem} {Q : Option Value → ev_Mem → Prop} {x1 x2 : Int32} {s0 : Int64} (h : (((¬ (lg_cmp s0 (-1)) = 0) → (∃ Q2 : Option Value → ev_Mem → Prop, Cl LX d mX10_waysInAll [.int x1] M Q2 ∧ ∀ (zr : Option Value) (zM : ev_Mem), Q2 zr zM → Ev LX (d + 1) mX10_notices 40 [none, none, some (.int x2), some (.long s0), none, none, none, none, none, none, none] (zr.toList ++ []) zM Q)) ∧ (((lg_cmp s0 (-1)) = 0) → (Q (some (.long (-1))) M)))) : Ev LX (d + 1) mX10_notices 23 [none, some (.int x1), some (.int x2), none, none, none, none, none, none, none, none] [(.long s0)] M Q := by
  refine ev_lstore_n (ls2 := [none, some (.int x1), some (.int x2), some (.long s0), none, none, none, none, none, none, none]) dX10_notices_23 (Nat.le_of_ble_eq_true rfl) rfl ?_
  refine ev_lload_n dX10_notices_24 rfl ?_
  refine ev_ldc2 (v := -1) dX10_notices_25 cw_WithoutE_379 ?_
  refine ev_lcmp dX10_notices_28 ?_
  refine ev_if_ne (tgt := 36) dX10_notices_29 (by decide) (fun c => ?_) (fun c => ?_)
  · replace h := h.1 c
    refine ev_iload_n dX10_notices_36 rfl ?_
    obtain ⟨Q2, hc, h⟩ := h
    refine ev_callS [.int x1] dX10_notices_37 ml_WithoutE_385 rfl (Nat.le_of_ble_eq_true rfl) hc (fun zr zM q => ?_)
    refine Ev.weak (ls := [none, none, some (.int x2), some (.long s0), none, none, none, none, none, none, none]) ⟨rfl, rfl, trivial⟩ ?_
    exact h zr zM q
  · replace h := h.2 c
    refine ev_ldc2 (v := -1) dX10_notices_32 cw_WithoutE_379 ?_
    exact ev_lret dX10_notices_35 rfl h
theorem gX10_notices_40 {d : Nat} {M : ev_Mem} {Q : Option Value → ev_Mem → Prop} {x2 : Int32} {x3 s0 : Int64} (h : (∃ Q2 : Option Value → ev_Mem → Prop, Cl LX d mX10_sharedDivisor [.long s0, .long (s0 - x3)] M Q2 ∧ ∀ (zr : Option Value) (zM : ev_Mem), Q2 zr zM → Ev LX (d + 1) mX10_notices 55 [none, none, some (.int x2), none, none, some (.long s0), none, some (.long (s0 - x3)), none, none, none] (zr.toList ++ []) zM Q)) : Ev LX (d + 1) mX10_notices 40 [none, none, some (.int x2), some (.long x3), none, none, none, none, none, none, none] [(.long s0)] M Q := by
  refine ev_lstore (ls2 := [none, none, some (.int x2), some (.long x3), none, some (.long s0), none, none, none, none, none]) dX10_notices_40 (Nat.le_of_ble_eq_true rfl) rfl ?_
  refine ev_lload dX10_notices_42 rfl ?_
  refine ev_lload_n dX10_notices_44 rfl ?_
  refine ev_lsub dX10_notices_45 ?_
  refine ev_lstore (ls2 := [none, none, some (.int x2), some (.long x3), none, some (.long s0), none, some (.long (s0 - x3)), none, none, none]) dX10_notices_46 (Nat.le_of_ble_eq_true rfl) rfl ?_
  refine ev_lload dX10_notices_48 rfl ?_
  refine ev_lload dX10_notices_50 rfl ?_
  obtain ⟨Q2, hc, h⟩ := h
  refine ev_callS [.long s0, .long (s0 - x3)] dX10_notices_52 ml_WithoutE_388 rfl (Nat.le_of_ble_eq_true rfl) hc (fun zr zM q => ?_)
  refine Ev.weak (ls := [none, none, some (.int x2), none, none, some (.long s0), none, some (.long (s0 - x3)), none, none, none]) ⟨rfl, rfl, rfl, trivial⟩ ?_
  exact h zr zM q
theorem gX10_notices_55 {d : Nat} {M : ev_Mem} {Q : Option Value → ev_Mem → Prop} {x2 : Int32} {x5 x7 s0 : Int64} (h : (((x2 = 0) → (¬ (lmax 1 s0 : Int64) = 0 ∧ (Q (some (.long (x7 / (lmax 1 s0)))) M))) ∧ ((¬ x2 = 0) → (¬ (lmax 1 s0 : Int64) = 0 ∧ (Q (some (.long (x5 / (lmax 1 s0)))) M))))) : Ev LX (d + 1) mX10_notices 55 [none, none, some (.int x2), none, none, some (.long x5), none, some (.long x7), none, none, none] [(.long s0)] M Q := by
  refine ev_lstore (ls2 := [none, none, some (.int x2), none, none, some (.long x5), none, some (.long x7), none, some (.long s0), none]) dX10_notices_55 (Nat.le_of_ble_eq_true rfl) rfl ?_
  refine ev_iload_n dX10_notices_57 rfl ?_
  refine ev_if_eq (tgt := 66) dX10_notices_58 (by decide) (fun c => ?_) (fun c => ?_)
  · replace h := h.1 c
    refine ev_lload dX10_notices_66 rfl ?_
    refine ev_lconst (v := 1) dX10_notices_68 (by decide) ?_
    refine ev_lload dX10_notices_69 rfl ?_
    refine ev_maxL dX10_notices_71 ml_WithoutE_392 (by omega) (Nat.le_of_ble_eq_true rfl) ?_
    obtain ⟨c, h⟩ := h
    refine ev_ldiv dX10_notices_74 c ?_
    exact ev_lret dX10_notices_75 rfl h
  · replace h := h.2 c
    refine ev_lload dX10_notices_61 rfl ?_
    refine ev_goto (tgt := 68) dX10_notices_63 (by decide) ?_
    refine ev_lconst (v := 1) dX10_notices_68 (by decide) ?_
    refine ev_lload dX10_notices_69 rfl ?_
    refine ev_maxL dX10_notices_71 ml_WithoutE_392 (by omega) (Nat.le_of_ble_eq_true rfl) ?_
    obtain ⟨c, h⟩ := h
    refine ev_ldiv dX10_notices_74 c ?_
    exact ev_lret dX10_notices_75 rfl h
theorem dX10_lines_0 : decode cX10_lines 0 = .ok (.iload_n 1, 1) := by decide +kernel
theorem dX10_lines_1 : decode cX10_lines 1 = .ok (.ifCond .lt 9, 3) := by decide +kernel
theorem dX10_lines_4 : decode cX10_lines 4 = .ok (.iload_n 1, 1) := by decide +kernel
theorem dX10_lines_5 : decode cX10_lines 5 = .ok (.bipush 100, 2) := by decide +kernel
theorem dX10_lines_7 : decode cX10_lines 7 = .ok (.if_icmp .le 5, 3) := by decide +kernel
theorem dX10_lines_10 : decode cX10_lines 10 = .ok (.iconst (-1), 1) := by decide +kernel
theorem dX10_lines_11 : decode cX10_lines 11 = .ok (.ireturn, 1) := by decide +kernel
theorem dX10_lines_12 : decode cX10_lines 12 = .ok (.aload_n 0, 1) := by decide +kernel
theorem dX10_lines_13 : decode cX10_lines 13 = .ok (.invokevirtual 236, 3) := by decide +kernel
theorem dX10_lines_16 : decode cX10_lines 16 = .ok (.iconst 0, 1) := by decide +kernel
theorem dX10_lines_17 : decode cX10_lines 17 = .ok (.istore_n 2, 1) := by decide +kernel
theorem dX10_lines_18 : decode cX10_lines 18 = .ok (.iload_n 2, 1) := by decide +kernel
theorem dX10_lines_19 : decode cX10_lines 19 = .ok (.bipush 8, 2) := by decide +kernel
theorem dX10_lines_21 : decode cX10_lines 21 = .ok (.if_icmp .gt 50, 3) := by decide +kernel
theorem dX10_lines_24 : decode cX10_lines 24 = .ok (.aload_n 0, 1) := by decide +kernel
theorem dX10_lines_25 : decode cX10_lines 25 = .ok (.iload_n 2, 1) := by decide +kernel
theorem dX10_lines_26 : decode cX10_lines 26 = .ok (.invokevirtual 381, 3) := by decide +kernel
theorem dX10_lines_29 : decode cX10_lines 29 = .ok (.lstore_n 3, 1) := by decide +kernel
theorem dX10_lines_30 : decode cX10_lines 30 = .ok (.lload_n 3, 1) := by decide +kernel
theorem dX10_lines_31 : decode cX10_lines 31 = .ok (.ldc2_w 379, 3) := by decide +kernel
theorem dX10_lines_34 : decode cX10_lines 34 = .ok (.lcmp, 1) := by decide +kernel
theorem dX10_lines_35 : decode cX10_lines 35 = .ok (.ifCond .ne 5, 3) := by decide +kernel
theorem dX10_lines_38 : decode cX10_lines 38 = .ok (.iconst (-1), 1) := by decide +kernel
theorem dX10_lines_39 : decode cX10_lines 39 = .ok (.ireturn, 1) := by decide +kernel
theorem dX10_lines_40 : decode cX10_lines 40 = .ok (.iload_n 2, 1) := by decide +kernel
theorem dX10_lines_41 : decode cX10_lines 41 = .ok (.invokestatic 385, 3) := by decide +kernel
theorem dX10_lines_44 : decode cX10_lines 44 = .ok (.lstore 5, 2) := by decide +kernel
theorem dX10_lines_46 : decode cX10_lines 46 = .ok (.lload 5, 2) := by decide +kernel
theorem dX10_lines_48 : decode cX10_lines 48 = .ok (.lload_n 3, 1) := by decide +kernel
theorem dX10_lines_49 : decode cX10_lines 49 = .ok (.lsub, 1) := by decide +kernel
theorem dX10_lines_50 : decode cX10_lines 50 = .ok (.ldc2_w 395, 3) := by decide +kernel
theorem dX10_lines_53 : decode cX10_lines 53 = .ok (.lmul, 1) := by decide +kernel
theorem dX10_lines_54 : decode cX10_lines 54 = .ok (.iload_n 1, 1) := by decide +kernel
theorem dX10_lines_55 : decode cX10_lines 55 = .ok (.i2l, 1) := by decide +kernel
theorem dX10_lines_56 : decode cX10_lines 56 = .ok (.lload 5, 2) := by decide +kernel
theorem dX10_lines_58 : decode cX10_lines 58 = .ok (.lmul, 1) := by decide +kernel
theorem dX10_lines_59 : decode cX10_lines 59 = .ok (.lcmp, 1) := by decide +kernel
theorem dX10_lines_60 : decode cX10_lines 60 = .ok (.ifCond .lt 5, 3) := by decide +kernel
theorem dX10_lines_63 : decode cX10_lines 63 = .ok (.iload_n 2, 1) := by decide +kernel
theorem dX10_lines_64 : decode cX10_lines 64 = .ok (.ireturn, 1) := by decide +kernel
theorem dX10_lines_65 : decode cX10_lines 65 = .ok (.iinc 2 1, 3) := by decide +kernel
theorem dX10_lines_68 : decode cX10_lines 68 = .ok (.goto (-50), 3) := by decide +kernel
theorem dX10_lines_71 : decode cX10_lines 71 = .ok (.iconst (-1), 1) := by decide +kernel
theorem dX10_lines_72 : decode cX10_lines 72 = .ok (.ireturn, 1) := by decide +kernel
theorem gX10_lines_0 {d : Nat} {M : ev_Mem} {Q : Option Value → ev_Mem → Prop} {x1 : Int32} (h : (((x1 < 0) → (Q (some (.int (-1))) M)) ∧ ((¬ x1 < 0) → (((x1 ≤ 100) → (∃ Q2 : Option Value → ev_Mem → Prop, Cl LX d mX10_hearNow [.ref 0] M Q2 ∧ ∀ (zr : Option Value) (zM : ev_Mem), Q2 zr zM → Ev LX (d + 1) mX10_lines 16 [some (.ref 0), some (.int x1), none, none, none, none, none] (zr.toList ++ []) zM Q)) ∧ ((¬ x1 ≤ 100) → (Q (some (.int (-1))) M)))))) : Ev LX (d + 1) mX10_lines 0 [some (.ref 0), some (.int x1), none, none, none, none, none] [] M Q := by
  refine ev_iload_n dX10_lines_0 rfl ?_
  refine ev_if_lt (tgt := 10) dX10_lines_1 (by decide) (fun c => ?_) (fun c => ?_)
  · replace h := h.1 c
    refine ev_iconst (v := -1) dX10_lines_10 (by decide) ?_
    exact ev_iret dX10_lines_11 rfl h
  · replace h := h.2 c
    refine ev_iload_n dX10_lines_4 rfl ?_
    refine ev_bipush (v := 100) dX10_lines_5 (by decide) ?_
    refine ev_icmp_le (tgt := 12) dX10_lines_7 (by decide) (fun c => ?_) (fun c => ?_)
    · replace h := h.1 c
      refine ev_aload_n dX10_lines_12 rfl ?_
      obtain ⟨Q2, hc, h⟩ := h
      refine ev_callV [] dX10_lines_13 ml_WithoutE_236 lx_0 rfl rfl (Nat.le_of_ble_eq_true rfl) hc (fun zr zM q => ?_)
      exact h zr zM q
    · replace h := h.2 c
      refine ev_iconst (v := -1) dX10_lines_10 (by decide) ?_
      exact ev_iret dX10_lines_11 rfl h
theorem gX10_lines_16 {d : Nat} {M : ev_Mem} {Q : Option Value → ev_Mem → Prop} {x1 : Int32} (h : (Ev LX d mX10_lines 18 [some (.ref 0), some (.int x1), some (.int 0), none, none, none, none] [] M Q)) : Ev LX d mX10_lines 16 [some (.ref 0), some (.int x1), none, none, none, none, none] [] M Q := by
  refine ev_iconst (v := 0) dX10_lines_16 (by decide) ?_
  refine ev_istore_n (ls2 := [some (.ref 0), some (.int x1), some (.int 0), none, none, none, none]) dX10_lines_17 (Nat.le_of_ble_eq_true rfl) rfl ?_
  exact h
theorem gX10_lines_18 {d : Nat} {M : ev_Mem} {Q : Option Value → ev_Mem → Prop} {x1 x2 : Int32} (h : (((8 < x2) → (Q (some (.int (-1))) M)) ∧ ((¬ 8 < x2) → (∃ Q2 : Option Value → ev_Mem → Prop, Cl LX d mX10_waysUnnoticed [.ref 0, .int x2] M Q2 ∧ ∀ (zr : Option Value) (zM : ev_Mem), Q2 zr zM → Ev LX (d + 1) mX10_lines 29 [some (.ref 0), some (.int x1), some (.int x2), none, none, none, none] (zr.toList ++ []) zM Q)))) : Ev LX (d + 1) mX10_lines 18 [some (.ref 0), some (.int x1), some (.int x2), none, none, none, none] [] M Q := by
  refine ev_iload_n dX10_lines_18 rfl ?_
  refine ev_bipush (v := 8) dX10_lines_19 (by decide) ?_
  refine ev_icmp_gt (tgt := 71) dX10_lines_21 (by decide) (fun c => ?_) (fun c => ?_)
  · replace h := h.1 c
    refine ev_iconst (v := -1) dX10_lines_71 (by decide) ?_
    exact ev_iret dX10_lines_72 rfl h
  · replace h := h.2 c
    refine ev_aload_n dX10_lines_24 rfl ?_
    refine ev_iload_n dX10_lines_25 rfl ?_
    obtain ⟨Q2, hc, h⟩ := h
    refine ev_callV [.int x2] dX10_lines_26 ml_WithoutE_381 lx_0 rfl rfl (Nat.le_of_ble_eq_true rfl) hc (fun zr zM q => ?_)
    exact h zr zM q
theorem gX10_lines_29 {d : Nat} {M : ev_Mem} {Q : Option Value → ev_Mem → Prop} {x1 x2 : Int32} {s0 : Int64} (h : (((¬ (lg_cmp s0 (-1)) = 0) → (∃ Q2 : Option Value → ev_Mem → Prop, Cl LX d mX10_waysInAll [.int x2] M Q2 ∧ ∀ (zr : Option Value) (zM : ev_Mem), Q2 zr zM → Ev LX (d + 1) mX10_lines 44 [some (.ref 0), some (.int x1), some (.int x2), some (.long s0), none, none, none] (zr.toList ++ []) zM Q)) ∧ (((lg_cmp s0 (-1)) = 0) → (Q (some (.int (-1))) M)))) : Ev LX (d + 1) mX10_lines 29 [some (.ref 0), some (.int x1), some (.int x2), none, none, none, none] [(.long s0)] M Q := by
  refine ev_lstore_n (ls2 := [some (.ref 0), some (.int x1), some (.int x2), some (.long s0), none, none, none]) dX10_lines_29 (Nat.le_of_ble_eq_true rfl) rfl ?_
  refine ev_lload_n dX10_lines_30 rfl ?_
  refine ev_ldc2 (v := -1) dX10_lines_31 cw_WithoutE_379 ?_
  refine ev_lcmp dX10_lines_34 ?_
  refine ev_if_ne (tgt := 40) dX10_lines_35 (by decide) (fun c => ?_) (fun c => ?_)
  · replace h := h.1 c
    refine ev_iload_n dX10_lines_40 rfl ?_
    obtain ⟨Q2, hc, h⟩ := h
    refine ev_callS [.int x2] dX10_lines_41 ml_WithoutE_385 rfl (Nat.le_of_ble_eq_true rfl) hc (fun zr zM q => ?_)
    exact h zr zM q
  · replace h := h.2 c
    refine ev_iconst (v := -1) dX10_lines_38 (by decide) ?_
    exact ev_iret dX10_lines_39 rfl h
theorem gX10_lines_44 {d : Nat} {M : ev_Mem} {Q : Option Value → ev_Mem → Prop} {x1 x2 : Int32} {x3 s0 : Int64} (h : ((((lg_cmp ((s0 - x3) * 100) (((x1 : Int32).toInt64) * s0)) < 0) → (Ev LX d mX10_lines 18 [some (.ref 0), some (.int x1), some (.int (x2 + 1)), none, none, none, none] [] M Q)) ∧ ((¬ (lg_cmp ((s0 - x3) * 100) (((x1 : Int32).toInt64) * s0)) < 0) → (Q (some (.int x2)) M)))) : Ev LX d mX10_lines 44 [some (.ref 0), some (.int x1), some (.int x2), some (.long x3), none, none, none] [(.long s0)] M Q := by
  refine ev_lstore (ls2 := [some (.ref 0), some (.int x1), some (.int x2), some (.long x3), none, some (.long s0), none]) dX10_lines_44 (Nat.le_of_ble_eq_true rfl) rfl ?_
  refine ev_lload dX10_lines_46 rfl ?_
  refine ev_lload_n dX10_lines_48 rfl ?_
  refine ev_lsub dX10_lines_49 ?_
  refine ev_ldc2 (v := 100) dX10_lines_50 cw_WithoutE_395 ?_
  refine ev_lmul dX10_lines_53 ?_
  refine ev_iload_n dX10_lines_54 rfl ?_
  refine ev_i2l dX10_lines_55 ?_
  refine ev_lload dX10_lines_56 rfl ?_
  refine ev_lmul dX10_lines_58 ?_
  refine ev_lcmp dX10_lines_59 ?_
  refine ev_if_lt (tgt := 65) dX10_lines_60 (by decide) (fun c => ?_) (fun c => ?_)
  · replace h := h.1 c
    refine ev_iinc (v := x2 + 1) (ls2 := [some (.ref 0), some (.int x1), some (.int (x2 + 1)), some (.long x3), none, some (.long s0), none]) dX10_lines_65 rfl rfl rfl ?_
    refine ev_goto (tgt := 18) dX10_lines_68 (by decide) ?_
    refine Ev.weak (ls := [some (.ref 0), some (.int x1), some (.int (x2 + 1)), none, none, none, none]) ⟨rfl, rfl, rfl, trivial⟩ ?_
    exact h
  · replace h := h.2 c
    refine ev_iload_n dX10_lines_63 rfl ?_
    exact ev_iret dX10_lines_64 rfl h
theorem dX10_priceSentences_0 : decode cX10_priceSentences 0 = .ok (.aload_n 0, 1) := by decide +kernel
theorem dX10_priceSentences_1 : decode cX10_priceSentences 1 = .ok (.invokevirtual 236, 3) := by decide +kernel
theorem dX10_priceSentences_4 : decode cX10_priceSentences 4 = .ok (.iconst 0, 1) := by decide +kernel
theorem dX10_priceSentences_5 : decode cX10_priceSentences 5 = .ok (.istore_n 1, 1) := by decide +kernel
theorem dX10_priceSentences_6 : decode cX10_priceSentences 6 = .ok (.iload_n 1, 1) := by decide +kernel
theorem dX10_priceSentences_7 : decode cX10_priceSentences 7 = .ok (.aload_n 0, 1) := by decide +kernel
theorem dX10_priceSentences_8 : decode cX10_priceSentences 8 = .ok (.getfield 19, 3) := by decide +kernel
theorem dX10_priceSentences_11 : decode cX10_priceSentences 11 = .ok (.getfield 262, 3) := by decide +kernel
theorem dX10_priceSentences_14 : decode cX10_priceSentences 14 = .ok (.if_icmp .ge 62, 3) := by decide +kernel
theorem dX10_priceSentences_17 : decode cX10_priceSentences 17 = .ok (.aload_n 0, 1) := by decide +kernel
theorem dX10_priceSentences_18 : decode cX10_priceSentences 18 = .ok (.getfield 98, 3) := by decide +kernel
theorem dX10_priceSentences_21 : decode cX10_priceSentences 21 = .ok (.iload_n 1, 1) := by decide +kernel
theorem dX10_priceSentences_22 : decode cX10_priceSentences 22 = .ok (.invokevirtual 239, 3) := by decide +kernel
theorem dX10_priceSentences_25 : decode cX10_priceSentences 25 = .ok (.istore_n 2, 1) := by decide +kernel
theorem dX10_priceSentences_26 : decode cX10_priceSentences 26 = .ok (.aload_n 0, 1) := by decide +kernel
theorem dX10_priceSentences_27 : decode cX10_priceSentences 27 = .ok (.getfield 68, 3) := by decide +kernel
theorem dX10_priceSentences_30 : decode cX10_priceSentences 30 = .ok (.iload_n 1, 1) := by decide +kernel
theorem dX10_priceSentences_31 : decode cX10_priceSentences 31 = .ok (.iload_n 2, 1) := by decide +kernel
theorem dX10_priceSentences_32 : decode cX10_priceSentences 32 = .ok (.ifCond .eq 13, 3) := by decide +kernel
theorem dX10_priceSentences_35 : decode cX10_priceSentences 35 = .ok (.aload_n 0, 1) := by decide +kernel
theorem dX10_priceSentences_36 : decode cX10_priceSentences 36 = .ok (.getfield 98, 3) := by decide +kernel
theorem dX10_priceSentences_39 : decode cX10_priceSentences 39 = .ok (.getfield 427, 3) := by decide +kernel
theorem dX10_priceSentences_42 : decode cX10_priceSentences 42 = .ok (.goto 6, 3) := by decide +kernel
theorem dX10_priceSentences_45 : decode cX10_priceSentences 45 = .ok (.ldc_w 334, 3) := by decide +kernel
theorem dX10_priceSentences_48 : decode cX10_priceSentences 48 = .ok (.iastore, 1) := by decide +kernel
theorem dX10_priceSentences_49 : decode cX10_priceSentences 49 = .ok (.aload_n 0, 1) := by decide +kernel
theorem dX10_priceSentences_50 : decode cX10_priceSentences 50 = .ok (.getfield 71, 3) := by decide +kernel
theorem dX10_priceSentences_53 : decode cX10_priceSentences 53 = .ok (.iload_n 1, 1) := by decide +kernel
theorem dX10_priceSentences_54 : decode cX10_priceSentences 54 = .ok (.iload_n 2, 1) := by decide +kernel
theorem dX10_priceSentences_55 : decode cX10_priceSentences 55 = .ok (.ifCond .eq 13, 3) := by decide +kernel
theorem dX10_priceSentences_58 : decode cX10_priceSentences 58 = .ok (.aload_n 0, 1) := by decide +kernel
theorem dX10_priceSentences_59 : decode cX10_priceSentences 59 = .ok (.getfield 98, 3) := by decide +kernel
theorem dX10_priceSentences_62 : decode cX10_priceSentences 62 = .ok (.getfield 278, 3) := by decide +kernel
theorem dX10_priceSentences_65 : decode cX10_priceSentences 65 = .ok (.goto 4, 3) := by decide +kernel
theorem dX10_priceSentences_68 : decode cX10_priceSentences 68 = .ok (.iconst 0, 1) := by decide +kernel
theorem dX10_priceSentences_69 : decode cX10_priceSentences 69 = .ok (.iastore, 1) := by decide +kernel
theorem dX10_priceSentences_70 : decode cX10_priceSentences 70 = .ok (.iinc 1 1, 3) := by decide +kernel
theorem dX10_priceSentences_73 : decode cX10_priceSentences 73 = .ok (.goto (-67), 3) := by decide +kernel
theorem dX10_priceSentences_76 : decode cX10_priceSentences 76 = .ok (.return_, 1) := by decide +kernel
theorem gX10_priceSentences_0 {d : Nat} {M : ev_Mem} {Q : Option Value → ev_Mem → Prop} (h : (∃ Q2 : Option Value → ev_Mem → Prop, Cl LX d mX10_hearNow [.ref 0] M Q2 ∧ ∀ (zr : Option Value) (zM : ev_Mem), Q2 zr zM → Ev LX (d + 1) mX10_priceSentences 4 [some (.ref 0), none, none] (zr.toList ++ []) zM Q)) : Ev LX (d + 1) mX10_priceSentences 0 [some (.ref 0), none, none] [] M Q := by
  refine ev_aload_n dX10_priceSentences_0 rfl ?_
  obtain ⟨Q2, hc, h⟩ := h
  refine ev_callV [] dX10_priceSentences_1 ml_WithoutE_236 lx_0 rfl rfl (Nat.le_of_ble_eq_true rfl) hc (fun zr zM q => ?_)
  exact h zr zM q
theorem gX10_priceSentences_4 {d : Nat} {M : ev_Mem} {Q : Option Value → ev_Mem → Prop} (h : (Ev LX d mX10_priceSentences 6 [some (.ref 0), some (.int 0), none] [] M Q)) : Ev LX d mX10_priceSentences 4 [some (.ref 0), none, none] [] M Q := by
  refine ev_iconst (v := 0) dX10_priceSentences_4 (by decide) ?_
  refine ev_istore_n (ls2 := [some (.ref 0), some (.int 0), none]) dX10_priceSentences_5 (Nat.le_of_ble_eq_true rfl) rfl ?_
  exact h
theorem gX10_priceSentences_6 {d : Nat} {M : ev_Mem} {Q : Option Value → ev_Mem → Prop} {x1 : Int32} (h : ((((M.1 3 8) ≤ x1) → (Q none M)) ∧ ((¬ (M.1 3 8) ≤ x1) → (∃ Q2 : Option Value → ev_Mem → Prop, Cl LX d mX6_speak [.ref 86, .int x1] M Q2 ∧ ∀ (zr : Option Value) (zM : ev_Mem), Q2 zr zM → Ev LX (d + 1) mX10_priceSentences 25 [some (.ref 0), some (.int x1), none] (zr.toList ++ []) zM Q)))) : Ev LX (d + 1) mX10_priceSentences 6 [some (.ref 0), some (.int x1), none] [] M Q := by
  refine ev_iload_n dX10_priceSentences_6 rfl ?_
  refine ev_aload_n dX10_priceSentences_7 rfl ?_
  refine ev_getA dX10_priceSentences_8 fl_WithoutE_19 lx_0 rfl ?_
  refine ev_getI dX10_priceSentences_11 fl_WithoutE_262 lx_3 rfl ?_
  refine ev_icmp_ge (tgt := 76) dX10_priceSentences_14 (by decide) (fun c => ?_) (fun c => ?_)
  · replace h := h.1 c
    exact ev_vret dX10_priceSentences_76 rfl h
  · replace h := h.2 c
    refine ev_aload_n dX10_priceSentences_17 rfl ?_
    refine ev_getA dX10_priceSentences_18 fl_WithoutE_98 lx_0 rfl ?_
    refine ev_iload_n dX10_priceSentences_21 rfl ?_
    obtain ⟨Q2, hc, h⟩ := h
    refine ev_callV [.int x1] dX10_priceSentences_22 ml_WithoutE_239 lx_86 rfl rfl (Nat.le_of_ble_eq_true rfl) hc (fun zr zM q => ?_)
    exact h zr zM q
theorem gX10_priceSentences_25 {d : Nat} {M : ev_Mem} {Q : Option Value → ev_Mem → Prop} {x1 s0 : Int32} (h : (((s0 = 0) → (vp_in x1 8 ∧ (∀ M1 : ev_Mem, M1 = ev_wr M 120 x1.toNatClampNeg 1000000 → (((s0 = 0) → (vp_in x1 8 ∧ (∀ M2 : ev_Mem, M2 = ev_wr M1 121 x1.toNatClampNeg 0 → (Ev LX d mX10_priceSentences 6 [some (.ref 0), some (.int (x1 + 1)), none] [] M2 Q)))) ∧ ((¬ s0 = 0) → (vp_in x1 8 ∧ (∀ M3 : ev_Mem, M3 = ev_wr M1 121 x1.toNatClampNeg (M1.1 86 15) → (Ev LX d mX10_priceSentences 6 [some (.ref 0), some (.int (x1 + 1)), none] [] M3 Q)))))))) ∧ ((¬ s0 = 0) → (vp_in x1 8 ∧ (∀ M4 : ev_Mem, M4 = ev_wr M 120 x1.toNatClampNeg (M.1 86 17) → (((s0 = 0) → (vp_in x1 8 ∧ (∀ M5 : ev_Mem, M5 = ev_wr M4 121 x1.toNatClampNeg 0 → (Ev LX d mX10_priceSentences 6 [some (.ref 0), some (.int (x1 + 1)), none] [] M5 Q)))) ∧ ((¬ s0 = 0) → (vp_in x1 8 ∧ (∀ M6 : ev_Mem, M6 = ev_wr M4 121 x1.toNatClampNeg (M4.1 86 15) → (Ev LX d mX10_priceSentences 6 [some (.ref 0), some (.int (x1 + 1)), none] [] M6 Q)))))))))) : Ev LX d mX10_priceSentences 25 [some (.ref 0), some (.int x1), none] [(.int s0)] M Q := by
  refine ev_istore_n (ls2 := [some (.ref 0), some (.int x1), some (.int s0)]) dX10_priceSentences_25 (Nat.le_of_ble_eq_true rfl) rfl ?_
  refine ev_aload_n dX10_priceSentences_26 rfl ?_
  refine ev_getA dX10_priceSentences_27 fl_WithoutE_68 lx_0 rfl ?_
  refine ev_iload_n dX10_priceSentences_30 rfl ?_
  refine ev_iload_n dX10_priceSentences_31 rfl ?_
  refine ev_if_eq (tgt := 45) dX10_priceSentences_32 (by decide) (fun c => ?_) (fun c => ?_)
  · replace h := h.1 c
    refine ev_ldcw (v := 1000000) dX10_priceSentences_45 cw_WithoutE_334 ?_
    obtain ⟨c, h⟩ := h
    refine ev_iast dX10_priceSentences_48 lx_120 c ?_
    generalize eM1 : ev_wr M 120 x1.toNatClampNeg 1000000 = M1
    replace h := h M1 eM1.symm
    refine ev_aload_n dX10_priceSentences_49 rfl ?_
    refine ev_getA dX10_priceSentences_50 fl_WithoutE_71 lx_0 rfl ?_
    refine ev_iload_n dX10_priceSentences_53 rfl ?_
    refine ev_iload_n dX10_priceSentences_54 rfl ?_
    refine ev_if_eq (tgt := 68) dX10_priceSentences_55 (by decide) (fun c => ?_) (fun c => ?_)
    · replace h := h.1 c
      refine ev_iconst (v := 0) dX10_priceSentences_68 (by decide) ?_
      obtain ⟨c, h⟩ := h
      refine ev_iast dX10_priceSentences_69 lx_121 c ?_
      generalize eM2 : ev_wr M1 121 x1.toNatClampNeg 0 = M2
      replace h := h M2 eM2.symm
      refine ev_iinc (v := x1 + 1) (ls2 := [some (.ref 0), some (.int (x1 + 1)), some (.int s0)]) dX10_priceSentences_70 rfl rfl rfl ?_
      refine ev_goto (tgt := 6) dX10_priceSentences_73 (by decide) ?_
      refine Ev.weak (ls := [some (.ref 0), some (.int (x1 + 1)), none]) ⟨rfl, rfl, trivial⟩ ?_
      exact h
    · replace h := h.2 c
      refine ev_aload_n dX10_priceSentences_58 rfl ?_
      refine ev_getA dX10_priceSentences_59 fl_WithoutE_98 lx_0 rfl ?_
      refine ev_getI dX10_priceSentences_62 fl_WithoutE_278 lx_86 rfl ?_
      refine ev_goto (tgt := 69) dX10_priceSentences_65 (by decide) ?_
      obtain ⟨c, h⟩ := h
      refine ev_iast dX10_priceSentences_69 lx_121 c ?_
      generalize eM3 : ev_wr M1 121 x1.toNatClampNeg (M1.1 86 15) = M3
      replace h := h M3 eM3.symm
      refine ev_iinc (v := x1 + 1) (ls2 := [some (.ref 0), some (.int (x1 + 1)), some (.int s0)]) dX10_priceSentences_70 rfl rfl rfl ?_
      refine ev_goto (tgt := 6) dX10_priceSentences_73 (by decide) ?_
      refine Ev.weak (ls := [some (.ref 0), some (.int (x1 + 1)), none]) ⟨rfl, rfl, trivial⟩ ?_
      exact h
  · replace h := h.2 c
    refine ev_aload_n dX10_priceSentences_35 rfl ?_
    refine ev_getA dX10_priceSentences_36 fl_WithoutE_98 lx_0 rfl ?_
    refine ev_getI dX10_priceSentences_39 fl_WithoutE_427 lx_86 rfl ?_
    refine ev_goto (tgt := 48) dX10_priceSentences_42 (by decide) ?_
    obtain ⟨c, h⟩ := h
    refine ev_iast dX10_priceSentences_48 lx_120 c ?_
    generalize eM4 : ev_wr M 120 x1.toNatClampNeg (M.1 86 17) = M4
    replace h := h M4 eM4.symm
    refine ev_aload_n dX10_priceSentences_49 rfl ?_
    refine ev_getA dX10_priceSentences_50 fl_WithoutE_71 lx_0 rfl ?_
    refine ev_iload_n dX10_priceSentences_53 rfl ?_
    refine ev_iload_n dX10_priceSentences_54 rfl ?_
    refine ev_if_eq (tgt := 68) dX10_priceSentences_55 (by decide) (fun c => ?_) (fun c => ?_)
    · replace h := h.1 c
      refine ev_iconst (v := 0) dX10_priceSentences_68 (by decide) ?_
      obtain ⟨c, h⟩ := h
      refine ev_iast dX10_priceSentences_69 lx_121 c ?_
      generalize eM5 : ev_wr M4 121 x1.toNatClampNeg 0 = M5
      replace h := h M5 eM5.symm
      refine ev_iinc (v := x1 + 1) (ls2 := [some (.ref 0), some (.int (x1 + 1)), some (.int s0)]) dX10_priceSentences_70 rfl rfl rfl ?_
      refine ev_goto (tgt := 6) dX10_priceSentences_73 (by decide) ?_
      refine Ev.weak (ls := [some (.ref 0), some (.int (x1 + 1)), none]) ⟨rfl, rfl, trivial⟩ ?_
      exact h
    · replace h := h.2 c
      refine ev_aload_n dX10_priceSentences_58 rfl ?_
      refine ev_getA dX10_priceSentences_59 fl_WithoutE_98 lx_0 rfl ?_
      refine ev_getI dX10_priceSentences_62 fl_WithoutE_278 lx_86 rfl ?_
      refine ev_goto (tgt := 69) dX10_priceSentences_65 (by decide) ?_
      obtain ⟨c, h⟩ := h
      refine ev_iast dX10_priceSentences_69 lx_121 c ?_
      generalize eM6 : ev_wr M4 121 x1.toNatClampNeg (M4.1 86 15) = M6
      replace h := h M6 eM6.symm
      refine ev_iinc (v := x1 + 1) (ls2 := [some (.ref 0), some (.int (x1 + 1)), some (.int s0)]) dX10_priceSentences_70 rfl rfl rfl ?_
      refine ev_goto (tgt := 6) dX10_priceSentences_73 (by decide) ?_
      refine Ev.weak (ls := [some (.ref 0), some (.int (x1 + 1)), none]) ⟨rfl, rfl, trivial⟩ ?_
      exact h
theorem dX10_sumOver_0 : decode cX10_sumOver 0 = .ok (.iconst 0, 1) := by decide +kernel
theorem dX10_sumOver_1 : decode cX10_sumOver 1 = .ok (.istore_n 2, 1) := by decide +kernel
theorem dX10_sumOver_2 : decode cX10_sumOver 2 = .ok (.iconst 0, 1) := by decide +kernel
theorem dX10_sumOver_3 : decode cX10_sumOver 3 = .ok (.istore_n 3, 1) := by decide +kernel
theorem dX10_sumOver_4 : decode cX10_sumOver 4 = .ok (.iload_n 3, 1) := by decide +kernel
theorem dX10_sumOver_5 : decode cX10_sumOver 5 = .ok (.aload_n 1, 1) := by decide +kernel
theorem dX10_sumOver_6 : decode cX10_sumOver 6 = .ok (.arraylength, 1) := by decide +kernel
theorem dX10_sumOver_7 : decode cX10_sumOver 7 = .ok (.if_icmp .ge 23, 3) := by decide +kernel
theorem dX10_sumOver_10 : decode cX10_sumOver 10 = .ok (.iload_n 0, 1) := by decide +kernel
theorem dX10_sumOver_11 : decode cX10_sumOver 11 = .ok (.iload_n 3, 1) := by decide +kernel
theorem dX10_sumOver_12 : decode cX10_sumOver 12 = .ok (.invokestatic 226, 3) := by decide +kernel
theorem dX10_sumOver_15 : decode cX10_sumOver 15 = .ok (.ifCond .eq 9, 3) := by decide +kernel
theorem dX10_sumOver_18 : decode cX10_sumOver 18 = .ok (.iload_n 2, 1) := by decide +kernel
theorem dX10_sumOver_19 : decode cX10_sumOver 19 = .ok (.aload_n 1, 1) := by decide +kernel
theorem dX10_sumOver_20 : decode cX10_sumOver 20 = .ok (.iload_n 3, 1) := by decide +kernel
theorem dX10_sumOver_21 : decode cX10_sumOver 21 = .ok (.iaload, 1) := by decide +kernel
theorem dX10_sumOver_22 : decode cX10_sumOver 22 = .ok (.iadd, 1) := by decide +kernel
theorem dX10_sumOver_23 : decode cX10_sumOver 23 = .ok (.istore_n 2, 1) := by decide +kernel
theorem dX10_sumOver_24 : decode cX10_sumOver 24 = .ok (.iinc 3 1, 3) := by decide +kernel
theorem dX10_sumOver_27 : decode cX10_sumOver 27 = .ok (.goto (-23), 3) := by decide +kernel
theorem dX10_sumOver_30 : decode cX10_sumOver 30 = .ok (.iload_n 2, 1) := by decide +kernel
theorem dX10_sumOver_31 : decode cX10_sumOver 31 = .ok (.ireturn, 1) := by decide +kernel
theorem gX10_sumOverp_0 {d : Nat} {M : ev_Mem} {Q : Option Value → ev_Mem → Prop} {x0 : Int32} (h : (Ev LX d mX10_sumOver 4 [some (.int x0), some (.ref 120), some (.int 0), some (.int 0)] [] M Q)) : Ev LX d mX10_sumOver 0 [some (.int x0), some (.ref 120), none, none] [] M Q := by
  refine ev_iconst (v := 0) dX10_sumOver_0 (by decide) ?_
  refine ev_istore_n (ls2 := [some (.int x0), some (.ref 120), some (.int 0), none]) dX10_sumOver_1 (Nat.le_of_ble_eq_true rfl) rfl ?_
  refine ev_iconst (v := 0) dX10_sumOver_2 (by decide) ?_
  refine ev_istore_n (ls2 := [some (.int x0), some (.ref 120), some (.int 0), some (.int 0)]) dX10_sumOver_3 (Nat.le_of_ble_eq_true rfl) rfl ?_
  exact h
theorem gX10_sumOverp_4 {d : Nat} {M : ev_Mem} {Q : Option Value → ev_Mem → Prop} {x0 x2 x3 : Int32} (h : (((8 ≤ x3) → (Q (some (.int x2)) M)) ∧ ((¬ 8 ≤ x3) → ((((hs x0 x3) = false) → (Ev LX (d + 1) mX10_sumOver 4 [some (.int x0), some (.ref 120), some (.int x2), some (.int (x3 + 1))] [] M Q)) ∧ (((hs x0 x3) = true) → (vp_in x3 8 ∧ (∀ v1 : Int32, v1 = x2 + (M.1 120 x3.toNatClampNeg) → (Ev LX (d + 1) mX10_sumOver 4 [some (.int x0), some (.ref 120), some (.int v1), some (.int (x3 + 1))] [] M Q)))))))) : Ev LX (d + 1) mX10_sumOver 4 [some (.int x0), some (.ref 120), some (.int x2), some (.int x3)] [] M Q := by
  refine ev_iload_n dX10_sumOver_4 rfl ?_
  refine ev_aload_n dX10_sumOver_5 rfl ?_
  refine ev_alen (q := 0) (v := 8) dX10_sumOver_6 lx_120 (fun _ => rfl) (by decide) ?_
  refine ev_icmp_ge (tgt := 30) dX10_sumOver_7 (by decide) (fun c => ?_) (fun c => ?_)
  · replace h := h.1 c
    refine ev_iload_n dX10_sumOver_30 rfl ?_
    exact ev_iret dX10_sumOver_31 rfl h
  · replace h := h.2 c
    refine ev_iload_n dX10_sumOver_10 rfl ?_
    refine ev_iload_n dX10_sumOver_11 rfl ?_
    refine ev_callS [.int x0, .int x3] dX10_sumOver_12 ml_WithoutE_226 rfl (Nat.le_of_ble_eq_true rfl) (kX10_has) ?_
    rintro zr zM ⟨q1, q2⟩
    rw [q1, q2]
    show Ev LX (d + 1) mX10_sumOver 15 [some (.int x0), some (.ref 120), some (.int x2), some (.int x3)] [(.int (bi (hs x0 x3)))] M Q
    refine ev_if_eq (tgt := 24) dX10_sumOver_15 (by decide) (fun c => ?_) (fun c => ?_)
    · replace h := h.1 ((bi_0 _).mp c)
      refine ev_iinc (v := x3 + 1) (ls2 := [some (.int x0), some (.ref 120), some (.int x2), some (.int (x3 + 1))]) dX10_sumOver_24 rfl rfl rfl ?_
      refine ev_goto (tgt := 4) dX10_sumOver_27 (by decide) ?_
      exact h
    · replace h := h.2 ((bi_n0 _).mp c)
      refine ev_iload_n dX10_sumOver_18 rfl ?_
      refine ev_aload_n dX10_sumOver_19 rfl ?_
      refine ev_iload_n dX10_sumOver_20 rfl ?_
      obtain ⟨c, h⟩ := h
      refine ev_iald dX10_sumOver_21 lx_120 c ?_
      refine ev_iadd dX10_sumOver_22 ?_
      refine ev_istore_n (ls2 := [some (.int x0), some (.ref 120), some (.int (x2 + (M.1 120 x3.toNatClampNeg))), some (.int x3)]) dX10_sumOver_23 (Nat.le_of_ble_eq_true rfl) rfl ?_
      generalize ev1 : x2 + (M.1 120 x3.toNatClampNeg) = v1
      replace h := h v1 ev1.symm
      refine ev_iinc (v := x3 + 1) (ls2 := [some (.int x0), some (.ref 120), some (.int v1), some (.int (x3 + 1))]) dX10_sumOver_24 rfl rfl rfl ?_
      refine ev_goto (tgt := 4) dX10_sumOver_27 (by decide) ?_
      exact h
theorem gX10_sumOvers_0 {d : Nat} {M : ev_Mem} {Q : Option Value → ev_Mem → Prop} {x0 : Int32} (h : (Ev LX d mX10_sumOver 4 [some (.int x0), some (.ref 121), some (.int 0), some (.int 0)] [] M Q)) : Ev LX d mX10_sumOver 0 [some (.int x0), some (.ref 121), none, none] [] M Q := by
  refine ev_iconst (v := 0) dX10_sumOver_0 (by decide) ?_
  refine ev_istore_n (ls2 := [some (.int x0), some (.ref 121), some (.int 0), none]) dX10_sumOver_1 (Nat.le_of_ble_eq_true rfl) rfl ?_
  refine ev_iconst (v := 0) dX10_sumOver_2 (by decide) ?_
  refine ev_istore_n (ls2 := [some (.int x0), some (.ref 121), some (.int 0), some (.int 0)]) dX10_sumOver_3 (Nat.le_of_ble_eq_true rfl) rfl ?_
  exact h
theorem gX10_sumOvers_4 {d : Nat} {M : ev_Mem} {Q : Option Value → ev_Mem → Prop} {x0 x2 x3 : Int32} (h : (((8 ≤ x3) → (Q (some (.int x2)) M)) ∧ ((¬ 8 ≤ x3) → ((((hs x0 x3) = false) → (Ev LX (d + 1) mX10_sumOver 4 [some (.int x0), some (.ref 121), some (.int x2), some (.int (x3 + 1))] [] M Q)) ∧ (((hs x0 x3) = true) → (vp_in x3 8 ∧ (∀ v1 : Int32, v1 = x2 + (M.1 121 x3.toNatClampNeg) → (Ev LX (d + 1) mX10_sumOver 4 [some (.int x0), some (.ref 121), some (.int v1), some (.int (x3 + 1))] [] M Q)))))))) : Ev LX (d + 1) mX10_sumOver 4 [some (.int x0), some (.ref 121), some (.int x2), some (.int x3)] [] M Q := by
  refine ev_iload_n dX10_sumOver_4 rfl ?_
  refine ev_aload_n dX10_sumOver_5 rfl ?_
  refine ev_alen (q := 0) (v := 8) dX10_sumOver_6 lx_121 (fun _ => rfl) (by decide) ?_
  refine ev_icmp_ge (tgt := 30) dX10_sumOver_7 (by decide) (fun c => ?_) (fun c => ?_)
  · replace h := h.1 c
    refine ev_iload_n dX10_sumOver_30 rfl ?_
    exact ev_iret dX10_sumOver_31 rfl h
  · replace h := h.2 c
    refine ev_iload_n dX10_sumOver_10 rfl ?_
    refine ev_iload_n dX10_sumOver_11 rfl ?_
    refine ev_callS [.int x0, .int x3] dX10_sumOver_12 ml_WithoutE_226 rfl (Nat.le_of_ble_eq_true rfl) (kX10_has) ?_
    rintro zr zM ⟨q1, q2⟩
    rw [q1, q2]
    show Ev LX (d + 1) mX10_sumOver 15 [some (.int x0), some (.ref 121), some (.int x2), some (.int x3)] [(.int (bi (hs x0 x3)))] M Q
    refine ev_if_eq (tgt := 24) dX10_sumOver_15 (by decide) (fun c => ?_) (fun c => ?_)
    · replace h := h.1 ((bi_0 _).mp c)
      refine ev_iinc (v := x3 + 1) (ls2 := [some (.int x0), some (.ref 121), some (.int x2), some (.int (x3 + 1))]) dX10_sumOver_24 rfl rfl rfl ?_
      refine ev_goto (tgt := 4) dX10_sumOver_27 (by decide) ?_
      exact h
    · replace h := h.2 ((bi_n0 _).mp c)
      refine ev_iload_n dX10_sumOver_18 rfl ?_
      refine ev_aload_n dX10_sumOver_19 rfl ?_
      refine ev_iload_n dX10_sumOver_20 rfl ?_
      obtain ⟨c, h⟩ := h
      refine ev_iald dX10_sumOver_21 lx_121 c ?_
      refine ev_iadd dX10_sumOver_22 ?_
      refine ev_istore_n (ls2 := [some (.int x0), some (.ref 121), some (.int (x2 + (M.1 121 x3.toNatClampNeg))), some (.int x3)]) dX10_sumOver_23 (Nat.le_of_ble_eq_true rfl) rfl ?_
      generalize ev1 : x2 + (M.1 121 x3.toNatClampNeg) = v1
      replace h := h v1 ev1.symm
      refine ev_iinc (v := x3 + 1) (ls2 := [some (.int x0), some (.ref 121), some (.int v1), some (.int (x3 + 1))]) dX10_sumOver_24 rfl rfl rfl ?_
      refine ev_goto (tgt := 4) dX10_sumOver_27 (by decide) ?_
      exact h
theorem dX10_line_0 : decode cX10_line 0 = .ok (.iload_n 1, 1) := by decide +kernel
theorem dX10_line_1 : decode cX10_line 1 = .ok (.ifCond .lt 10, 3) := by decide +kernel
theorem dX10_line_4 : decode cX10_line 4 = .ok (.iload_n 1, 1) := by decide +kernel
theorem dX10_line_5 : decode cX10_line 5 = .ok (.sipush 999, 3) := by decide +kernel
theorem dX10_line_8 : decode cX10_line 8 = .ok (.if_icmp .le 5, 3) := by decide +kernel
theorem dX10_line_11 : decode cX10_line 11 = .ok (.iconst (-1), 1) := by decide +kernel
theorem dX10_line_12 : decode cX10_line 12 = .ok (.ireturn, 1) := by decide +kernel
theorem dX10_line_13 : decode cX10_line 13 = .ok (.aload_n 0, 1) := by decide +kernel
theorem dX10_line_14 : decode cX10_line 14 = .ok (.invokevirtual 430, 3) := by decide +kernel
theorem dX10_line_17 : decode cX10_line 17 = .ok (.iconst 0, 1) := by decide +kernel
theorem dX10_line_18 : decode cX10_line 18 = .ok (.istore_n 3, 1) := by decide +kernel
theorem dX10_line_19 : decode cX10_line 19 = .ok (.iconst 0, 1) := by decide +kernel
theorem dX10_line_20 : decode cX10_line 20 = .ok (.istore 4, 2) := by decide +kernel
theorem dX10_line_22 : decode cX10_line 22 = .ok (.iconst 0, 1) := by decide +kernel
theorem dX10_line_23 : decode cX10_line 23 = .ok (.istore 5, 2) := by decide +kernel
theorem dX10_line_25 : decode cX10_line 25 = .ok (.iconst 1, 1) := by decide +kernel
theorem dX10_line_26 : decode cX10_line 26 = .ok (.istore 6, 2) := by decide +kernel
theorem dX10_line_28 : decode cX10_line 28 = .ok (.iload 6, 2) := by decide +kernel
theorem dX10_line_30 : decode cX10_line 30 = .ok (.iconst 1, 1) := by decide +kernel
theorem dX10_line_31 : decode cX10_line 31 = .ok (.aload_n 0, 1) := by decide +kernel
theorem dX10_line_32 : decode cX10_line 32 = .ok (.getfield 19, 3) := by decide +kernel
theorem dX10_line_35 : decode cX10_line 35 = .ok (.getfield 262, 3) := by decide +kernel
theorem dX10_line_38 : decode cX10_line 38 = .ok (.ishl, 1) := by decide +kernel
theorem dX10_line_39 : decode cX10_line 39 = .ok (.if_icmp .ge 81, 3) := by decide +kernel
theorem dX10_line_42 : decode cX10_line 42 = .ok (.iload 6, 2) := by decide +kernel
theorem dX10_line_44 : decode cX10_line 44 = .ok (.aload_n 0, 1) := by decide +kernel
theorem dX10_line_45 : decode cX10_line 45 = .ok (.getfield 68, 3) := by decide +kernel
theorem dX10_line_48 : decode cX10_line 48 = .ok (.invokestatic 433, 3) := by decide +kernel
theorem dX10_line_51 : decode cX10_line 51 = .ok (.istore 7, 2) := by decide +kernel
theorem dX10_line_53 : decode cX10_line 53 = .ok (.iload 6, 2) := by decide +kernel
theorem dX10_line_55 : decode cX10_line 55 = .ok (.aload_n 0, 1) := by decide +kernel
theorem dX10_line_56 : decode cX10_line 56 = .ok (.getfield 71, 3) := by decide +kernel
theorem dX10_line_59 : decode cX10_line 59 = .ok (.invokestatic 433, 3) := by decide +kernel
theorem dX10_line_62 : decode cX10_line 62 = .ok (.istore 8, 2) := by decide +kernel
theorem dX10_line_64 : decode cX10_line 64 = .ok (.iload 8, 2) := by decide +kernel
theorem dX10_line_66 : decode cX10_line 66 = .ok (.iload 5, 2) := by decide +kernel
theorem dX10_line_68 : decode cX10_line 68 = .ok (.if_icmp .gt 17, 3) := by decide +kernel
theorem dX10_line_71 : decode cX10_line 71 = .ok (.iload 8, 2) := by decide +kernel
theorem dX10_line_73 : decode cX10_line 73 = .ok (.iload 5, 2) := by decide +kernel
theorem dX10_line_75 : decode cX10_line 75 = .ok (.if_icmp .ne 14, 3) := by decide +kernel
theorem dX10_line_78 : decode cX10_line 78 = .ok (.iload 7, 2) := by decide +kernel
theorem dX10_line_80 : decode cX10_line 80 = .ok (.iload 4, 2) := by decide +kernel
theorem dX10_line_82 : decode cX10_line 82 = .ok (.if_icmp .ge 7, 3) := by decide +kernel
theorem dX10_line_85 : decode cX10_line 85 = .ok (.iconst 1, 1) := by decide +kernel
theorem dX10_line_86 : decode cX10_line 86 = .ok (.goto 4, 3) := by decide +kernel
theorem dX10_line_89 : decode cX10_line 89 = .ok (.iconst 0, 1) := by decide +kernel
theorem dX10_line_90 : decode cX10_line 90 = .ok (.istore 9, 2) := by decide +kernel
theorem dX10_line_92 : decode cX10_line 92 = .ok (.iload 7, 2) := by decide +kernel
theorem dX10_line_94 : decode cX10_line 94 = .ok (.iload_n 1, 1) := by decide +kernel
theorem dX10_line_95 : decode cX10_line 95 = .ok (.if_icmp .gt 19, 3) := by decide +kernel
theorem dX10_line_98 : decode cX10_line 98 = .ok (.iload 9, 2) := by decide +kernel
theorem dX10_line_100 : decode cX10_line 100 = .ok (.ifCond .eq 14, 3) := by decide +kernel
theorem dX10_line_103 : decode cX10_line 103 = .ok (.iload 6, 2) := by decide +kernel
theorem dX10_line_105 : decode cX10_line 105 = .ok (.istore_n 3, 1) := by decide +kernel
theorem dX10_line_106 : decode cX10_line 106 = .ok (.iload 7, 2) := by decide +kernel
theorem dX10_line_108 : decode cX10_line 108 = .ok (.istore 4, 2) := by decide +kernel
theorem dX10_line_110 : decode cX10_line 110 = .ok (.iload 8, 2) := by decide +kernel
theorem dX10_line_112 : decode cX10_line 112 = .ok (.istore 5, 2) := by decide +kernel
theorem dX10_line_114 : decode cX10_line 114 = .ok (.iinc 6 1, 3) := by decide +kernel
theorem dX10_line_117 : decode cX10_line 117 = .ok (.goto (-89), 3) := by decide +kernel
theorem dX10_line_120 : decode cX10_line 120 = .ok (.iload_n 2, 1) := by decide +kernel
theorem dX10_line_121 : decode cX10_line 121 = .ok (.ifCond .eq 8, 3) := by decide +kernel
theorem dX10_line_124 : decode cX10_line 124 = .ok (.iload 5, 2) := by decide +kernel
theorem dX10_line_126 : decode cX10_line 126 = .ok (.goto 4, 3) := by decide +kernel
theorem dX10_line_129 : decode cX10_line 129 = .ok (.iload_n 3, 1) := by decide +kernel
theorem dX10_line_130 : decode cX10_line 130 = .ok (.ireturn, 1) := by decide +kernel
theorem gX10_line_0 {d : Nat} {M : ev_Mem} {Q : Option Value → ev_Mem → Prop} {x1 x2 : Int32} (h : (((x1 < 0) → (Q (some (.int (-1))) M)) ∧ ((¬ x1 < 0) → (((x1 ≤ 999) → (∃ Q2 : Option Value → ev_Mem → Prop, Cl LX d mX10_priceSentences [.ref 0] M Q2 ∧ ∀ (zr : Option Value) (zM : ev_Mem), Q2 zr zM → Ev LX (d + 1) mX10_line 17 [some (.ref 0), some (.int x1), some (.int x2), none, none, none, none, none, none, none] (zr.toList ++ []) zM Q)) ∧ ((¬ x1 ≤ 999) → (Q (some (.int (-1))) M)))))) : Ev LX (d + 1) mX10_line 0 [some (.ref 0), some (.int x1), some (.int x2), none, none, none, none, none, none, none] [] M Q := by
  refine ev_iload_n dX10_line_0 rfl ?_
  refine ev_if_lt (tgt := 11) dX10_line_1 (by decide) (fun c => ?_) (fun c => ?_)
  · replace h := h.1 c
    refine ev_iconst (v := -1) dX10_line_11 (by decide) ?_
    exact ev_iret dX10_line_12 rfl h
  · replace h := h.2 c
    refine ev_iload_n dX10_line_4 rfl ?_
    refine ev_sipush (v := 999) dX10_line_5 (by decide) ?_
    refine ev_icmp_le (tgt := 13) dX10_line_8 (by decide) (fun c => ?_) (fun c => ?_)
    · replace h := h.1 c
      refine ev_aload_n dX10_line_13 rfl ?_
      obtain ⟨Q2, hc, h⟩ := h
      refine ev_callV [] dX10_line_14 ml_WithoutE_430 lx_0 rfl rfl (Nat.le_of_ble_eq_true rfl) hc (fun zr zM q => ?_)
      exact h zr zM q
    · replace h := h.2 c
      refine ev_iconst (v := -1) dX10_line_11 (by decide) ?_
      exact ev_iret dX10_line_12 rfl h
theorem gX10_line_17 {d : Nat} {M : ev_Mem} {Q : Option Value → ev_Mem → Prop} {x1 x2 : Int32} (h : (Ev LX d mX10_line 28 [some (.ref 0), some (.int x1), some (.int x2), some (.int 0), some (.int 0), some (.int 0), some (.int 1), none, none, none] [] M Q)) : Ev LX d mX10_line 17 [some (.ref 0), some (.int x1), some (.int x2), none, none, none, none, none, none, none] [] M Q := by
  refine ev_iconst (v := 0) dX10_line_17 (by decide) ?_
  refine ev_istore_n (ls2 := [some (.ref 0), some (.int x1), some (.int x2), some (.int 0), none, none, none, none, none, none]) dX10_line_18 (Nat.le_of_ble_eq_true rfl) rfl ?_
  refine ev_iconst (v := 0) dX10_line_19 (by decide) ?_
  refine ev_istore (ls2 := [some (.ref 0), some (.int x1), some (.int x2), some (.int 0), some (.int 0), none, none, none, none, none]) dX10_line_20 (Nat.le_of_ble_eq_true rfl) rfl ?_
  refine ev_iconst (v := 0) dX10_line_22 (by decide) ?_
  refine ev_istore (ls2 := [some (.ref 0), some (.int x1), some (.int x2), some (.int 0), some (.int 0), some (.int 0), none, none, none, none]) dX10_line_23 (Nat.le_of_ble_eq_true rfl) rfl ?_
  refine ev_iconst (v := 1) dX10_line_25 (by decide) ?_
  refine ev_istore (ls2 := [some (.ref 0), some (.int x1), some (.int x2), some (.int 0), some (.int 0), some (.int 0), some (.int 1), none, none, none]) dX10_line_26 (Nat.le_of_ble_eq_true rfl) rfl ?_
  exact h
theorem gX10_line_28 {d : Nat} {M : ev_Mem} {Q : Option Value → ev_Mem → Prop} {x1 x2 x3 x4 x5 x6 : Int32} (h : ((((1 <<< ((M.1 3 8) &&& 31)) ≤ x6) → (((x2 = 0) → (Q (some (.int x3)) M)) ∧ ((¬ x2 = 0) → (Q (some (.int x5)) M)))) ∧ ((¬ (1 <<< ((M.1 3 8) &&& 31)) ≤ x6) → (∃ Q2 : Option Value → ev_Mem → Prop, Cl LX d mX10_sumOver [.int x6, .ref 120] M Q2 ∧ ∀ (zr : Option Value) (zM : ev_Mem), Q2 zr zM → Ev LX (d + 1) mX10_line 51 [some (.ref 0), some (.int x1), some (.int x2), some (.int x3), some (.int x4), some (.int x5), some (.int x6), none, none, none] (zr.toList ++ []) zM Q)))) : Ev LX (d + 1) mX10_line 28 [some (.ref 0), some (.int x1), some (.int x2), some (.int x3), some (.int x4), some (.int x5), some (.int x6), none, none, none] [] M Q := by
  refine ev_iload dX10_line_28 rfl ?_
  refine ev_iconst (v := 1) dX10_line_30 (by decide) ?_
  refine ev_aload_n dX10_line_31 rfl ?_
  refine ev_getA dX10_line_32 fl_WithoutE_19 lx_0 rfl ?_
  refine ev_getI dX10_line_35 fl_WithoutE_262 lx_3 rfl ?_
  refine ev_ishl dX10_line_38 ?_
  refine ev_icmp_ge (tgt := 120) dX10_line_39 (by decide) (fun c => ?_) (fun c => ?_)
  · replace h := h.1 c
    refine ev_iload_n dX10_line_120 rfl ?_
    refine ev_if_eq (tgt := 129) dX10_line_121 (by decide) (fun c => ?_) (fun c => ?_)
    · replace h := h.1 c
      refine ev_iload_n dX10_line_129 rfl ?_
      exact ev_iret dX10_line_130 rfl h
    · replace h := h.2 c
      refine ev_iload dX10_line_124 rfl ?_
      refine ev_goto (tgt := 130) dX10_line_126 (by decide) ?_
      exact ev_iret dX10_line_130 rfl h
  · replace h := h.2 c
    refine ev_iload dX10_line_42 rfl ?_
    refine ev_aload_n dX10_line_44 rfl ?_
    refine ev_getA dX10_line_45 fl_WithoutE_68 lx_0 rfl ?_
    obtain ⟨Q2, hc, h⟩ := h
    refine ev_callS [.int x6, .ref 120] dX10_line_48 ml_WithoutE_433 rfl (Nat.le_of_ble_eq_true rfl) hc (fun zr zM q => ?_)
    exact h zr zM q
theorem gX10_line_51 {d : Nat} {M : ev_Mem} {Q : Option Value → ev_Mem → Prop} {x1 x2 x3 x4 x5 x6 s0 : Int32} (h : (∃ Q2 : Option Value → ev_Mem → Prop, Cl LX d mX10_sumOver [.int x6, .ref 121] M Q2 ∧ ∀ (zr : Option Value) (zM : ev_Mem), Q2 zr zM → Ev LX (d + 1) mX10_line 62 [some (.ref 0), some (.int x1), some (.int x2), some (.int x3), some (.int x4), some (.int x5), some (.int x6), some (.int s0), none, none] (zr.toList ++ []) zM Q)) : Ev LX (d + 1) mX10_line 51 [some (.ref 0), some (.int x1), some (.int x2), some (.int x3), some (.int x4), some (.int x5), some (.int x6), none, none, none] [(.int s0)] M Q := by
  refine ev_istore (ls2 := [some (.ref 0), some (.int x1), some (.int x2), some (.int x3), some (.int x4), some (.int x5), some (.int x6), some (.int s0), none, none]) dX10_line_51 (Nat.le_of_ble_eq_true rfl) rfl ?_
  refine ev_iload dX10_line_53 rfl ?_
  refine ev_aload_n dX10_line_55 rfl ?_
  refine ev_getA dX10_line_56 fl_WithoutE_71 lx_0 rfl ?_
  obtain ⟨Q2, hc, h⟩ := h
  refine ev_callS [.int x6, .ref 121] dX10_line_59 ml_WithoutE_433 rfl (Nat.le_of_ble_eq_true rfl) hc (fun zr zM q => ?_)
  exact h zr zM q
theorem gX10_line_62 {d : Nat} {M : ev_Mem} {Q : Option Value → ev_Mem → Prop} {x1 x2 x3 x4 x5 x6 x7 s0 : Int32} (h : (((x5 < s0) → (((x1 < x7) → (Ev LX d mX10_line 28 [some (.ref 0), some (.int x1), some (.int x2), some (.int x3), some (.int x4), some (.int x5), some (.int (x6 + 1)), none, none, none] [] M Q)) ∧ ((¬ x1 < x7) → (Ev LX d mX10_line 28 [some (.ref 0), some (.int x1), some (.int x2), some (.int x6), some (.int x7), some (.int s0), some (.int (x6 + 1)), none, none, none] [] M Q)))) ∧ ((¬ x5 < s0) → (((¬ s0 = x5) → (((x1 < x7) → (Ev LX d mX10_line 28 [some (.ref 0), some (.int x1), some (.int x2), some (.int x3), some (.int x4), some (.int x5), some (.int (x6 + 1)), none, none, none] [] M Q)) ∧ ((¬ x1 < x7) → (Ev LX d mX10_line 28 [some (.ref 0), some (.int x1), some (.int x2), some (.int x3), some (.int x4), some (.int x5), some (.int (x6 + 1)), none, none, none] [] M Q)))) ∧ ((s0 = x5) → (((x4 ≤ x7) → (((x1 < x7) → (Ev LX d mX10_line 28 [some (.ref 0), some (.int x1), some (.int x2), some (.int x3), some (.int x4), some (.int x5), some (.int (x6 + 1)), none, none, none] [] M Q)) ∧ ((¬ x1 < x7) → (Ev LX d mX10_line 28 [some (.ref 0), some (.int x1), some (.int x2), some (.int x3), some (.int x4), some (.int x5), some (.int (x6 + 1)), none, none, none] [] M Q)))) ∧ ((¬ x4 ≤ x7) → (((x1 < x7) → (Ev LX d mX10_line 28 [some (.ref 0), some (.int x1), some (.int x2), some (.int x3), some (.int x4), some (.int x5), some (.int (x6 + 1)), none, none, none] [] M Q)) ∧ ((¬ x1 < x7) → (Ev LX d mX10_line 28 [some (.ref 0), some (.int x1), some (.int x2), some (.int x6), some (.int x7), some (.int s0), some (.int (x6 + 1)), none, none, none] [] M Q)))))))))) : Ev LX d mX10_line 62 [some (.ref 0), some (.int x1), some (.int x2), some (.int x3), some (.int x4), some (.int x5), some (.int x6), some (.int x7), none, none] [(.int s0)] M Q := by
  refine ev_istore (ls2 := [some (.ref 0), some (.int x1), some (.int x2), some (.int x3), some (.int x4), some (.int x5), some (.int x6), some (.int x7), some (.int s0), none]) dX10_line_62 (Nat.le_of_ble_eq_true rfl) rfl ?_
  refine ev_iload dX10_line_64 rfl ?_
  refine ev_iload dX10_line_66 rfl ?_
  refine ev_icmp_gt (tgt := 85) dX10_line_68 (by decide) (fun c => ?_) (fun c => ?_)
  · replace h := h.1 c
    refine ev_iconst (v := 1) dX10_line_85 (by decide) ?_
    refine ev_goto (tgt := 90) dX10_line_86 (by decide) ?_
    refine ev_istore (ls2 := [some (.ref 0), some (.int x1), some (.int x2), some (.int x3), some (.int x4), some (.int x5), some (.int x6), some (.int x7), some (.int s0), some (.int 1)]) dX10_line_90 (Nat.le_of_ble_eq_true rfl) rfl ?_
    refine ev_iload dX10_line_92 rfl ?_
    refine ev_iload_n dX10_line_94 rfl ?_
    refine ev_icmp_gt (tgt := 114) dX10_line_95 (by decide) (fun c => ?_) (fun c => ?_)
    · replace h := h.1 c
      refine ev_iinc (v := x6 + 1) (ls2 := [some (.ref 0), some (.int x1), some (.int x2), some (.int x3), some (.int x4), some (.int x5), some (.int (x6 + 1)), some (.int x7), some (.int s0), some (.int 1)]) dX10_line_114 rfl rfl rfl ?_
      refine ev_goto (tgt := 28) dX10_line_117 (by decide) ?_
      refine Ev.weak (ls := [some (.ref 0), some (.int x1), some (.int x2), some (.int x3), some (.int x4), some (.int x5), some (.int (x6 + 1)), none, none, none]) ⟨rfl, rfl, rfl, rfl, rfl, rfl, rfl, trivial⟩ ?_
      exact h
    · replace h := h.2 c
      refine ev_iload dX10_line_98 rfl ?_
      refine ev_if_eq (tgt := 114) dX10_line_100 (by decide) (fun c => absurd c (by decide)) (fun _ => ?_)
      refine ev_iload dX10_line_103 rfl ?_
      refine ev_istore_n (ls2 := [some (.ref 0), some (.int x1), some (.int x2), some (.int x6), some (.int x4), some (.int x5), some (.int x6), some (.int x7), some (.int s0), some (.int 1)]) dX10_line_105 (Nat.le_of_ble_eq_true rfl) rfl ?_
      refine ev_iload dX10_line_106 rfl ?_
      refine ev_istore (ls2 := [some (.ref 0), some (.int x1), some (.int x2), some (.int x6), some (.int x7), some (.int x5), some (.int x6), some (.int x7), some (.int s0), some (.int 1)]) dX10_line_108 (Nat.le_of_ble_eq_true rfl) rfl ?_
      refine ev_iload dX10_line_110 rfl ?_
      refine ev_istore (ls2 := [some (.ref 0), some (.int x1), some (.int x2), some (.int x6), some (.int x7), some (.int s0), some (.int x6), some (.int x7), some (.int s0), some (.int 1)]) dX10_line_112 (Nat.le_of_ble_eq_true rfl) rfl ?_
      refine ev_iinc (v := x6 + 1) (ls2 := [some (.ref 0), some (.int x1), some (.int x2), some (.int x6), some (.int x7), some (.int s0), some (.int (x6 + 1)), some (.int x7), some (.int s0), some (.int 1)]) dX10_line_114 rfl rfl rfl ?_
      refine ev_goto (tgt := 28) dX10_line_117 (by decide) ?_
      refine Ev.weak (ls := [some (.ref 0), some (.int x1), some (.int x2), some (.int x6), some (.int x7), some (.int s0), some (.int (x6 + 1)), none, none, none]) ⟨rfl, rfl, rfl, rfl, rfl, rfl, rfl, trivial⟩ ?_
      exact h
  · replace h := h.2 c
    refine ev_iload dX10_line_71 rfl ?_
    refine ev_iload dX10_line_73 rfl ?_
    refine ev_icmp_ne (tgt := 89) dX10_line_75 (by decide) (fun c => ?_) (fun c => ?_)
    · replace h := h.1 c
      refine ev_iconst (v := 0) dX10_line_89 (by decide) ?_
      refine ev_istore (ls2 := [some (.ref 0), some (.int x1), some (.int x2), some (.int x3), some (.int x4), some (.int x5), some (.int x6), some (.int x7), some (.int s0), some (.int 0)]) dX10_line_90 (Nat.le_of_ble_eq_true rfl) rfl ?_
      refine ev_iload dX10_line_92 rfl ?_
      refine ev_iload_n dX10_line_94 rfl ?_
      refine ev_icmp_gt (tgt := 114) dX10_line_95 (by decide) (fun c => ?_) (fun c => ?_)
      · replace h := h.1 c
        refine ev_iinc (v := x6 + 1) (ls2 := [some (.ref 0), some (.int x1), some (.int x2), some (.int x3), some (.int x4), some (.int x5), some (.int (x6 + 1)), some (.int x7), some (.int s0), some (.int 0)]) dX10_line_114 rfl rfl rfl ?_
        refine ev_goto (tgt := 28) dX10_line_117 (by decide) ?_
        refine Ev.weak (ls := [some (.ref 0), some (.int x1), some (.int x2), some (.int x3), some (.int x4), some (.int x5), some (.int (x6 + 1)), none, none, none]) ⟨rfl, rfl, rfl, rfl, rfl, rfl, rfl, trivial⟩ ?_
        exact h
      · replace h := h.2 c
        refine ev_iload dX10_line_98 rfl ?_
        refine ev_if_eq (tgt := 114) dX10_line_100 (by decide) (fun _ => ?_) (fun c => absurd (by decide) c)
        refine ev_iinc (v := x6 + 1) (ls2 := [some (.ref 0), some (.int x1), some (.int x2), some (.int x3), some (.int x4), some (.int x5), some (.int (x6 + 1)), some (.int x7), some (.int s0), some (.int 0)]) dX10_line_114 rfl rfl rfl ?_
        refine ev_goto (tgt := 28) dX10_line_117 (by decide) ?_
        refine Ev.weak (ls := [some (.ref 0), some (.int x1), some (.int x2), some (.int x3), some (.int x4), some (.int x5), some (.int (x6 + 1)), none, none, none]) ⟨rfl, rfl, rfl, rfl, rfl, rfl, rfl, trivial⟩ ?_
        exact h
    · replace h := h.2 c
      refine ev_iload dX10_line_78 rfl ?_
      refine ev_iload dX10_line_80 rfl ?_
      refine ev_icmp_ge (tgt := 89) dX10_line_82 (by decide) (fun c => ?_) (fun c => ?_)
      · replace h := h.1 c
        refine ev_iconst (v := 0) dX10_line_89 (by decide) ?_
        refine ev_istore (ls2 := [some (.ref 0), some (.int x1), some (.int x2), some (.int x3), some (.int x4), some (.int x5), some (.int x6), some (.int x7), some (.int s0), some (.int 0)]) dX10_line_90 (Nat.le_of_ble_eq_true rfl) rfl ?_
        refine ev_iload dX10_line_92 rfl ?_
        refine ev_iload_n dX10_line_94 rfl ?_
        refine ev_icmp_gt (tgt := 114) dX10_line_95 (by decide) (fun c => ?_) (fun c => ?_)
        · replace h := h.1 c
          refine ev_iinc (v := x6 + 1) (ls2 := [some (.ref 0), some (.int x1), some (.int x2), some (.int x3), some (.int x4), some (.int x5), some (.int (x6 + 1)), some (.int x7), some (.int s0), some (.int 0)]) dX10_line_114 rfl rfl rfl ?_
          refine ev_goto (tgt := 28) dX10_line_117 (by decide) ?_
          refine Ev.weak (ls := [some (.ref 0), some (.int x1), some (.int x2), some (.int x3), some (.int x4), some (.int x5), some (.int (x6 + 1)), none, none, none]) ⟨rfl, rfl, rfl, rfl, rfl, rfl, rfl, trivial⟩ ?_
          exact h
        · replace h := h.2 c
          refine ev_iload dX10_line_98 rfl ?_
          refine ev_if_eq (tgt := 114) dX10_line_100 (by decide) (fun _ => ?_) (fun c => absurd (by decide) c)
          refine ev_iinc (v := x6 + 1) (ls2 := [some (.ref 0), some (.int x1), some (.int x2), some (.int x3), some (.int x4), some (.int x5), some (.int (x6 + 1)), some (.int x7), some (.int s0), some (.int 0)]) dX10_line_114 rfl rfl rfl ?_
          refine ev_goto (tgt := 28) dX10_line_117 (by decide) ?_
          refine Ev.weak (ls := [some (.ref 0), some (.int x1), some (.int x2), some (.int x3), some (.int x4), some (.int x5), some (.int (x6 + 1)), none, none, none]) ⟨rfl, rfl, rfl, rfl, rfl, rfl, rfl, trivial⟩ ?_
          exact h
      · replace h := h.2 c
        refine ev_iconst (v := 1) dX10_line_85 (by decide) ?_
        refine ev_goto (tgt := 90) dX10_line_86 (by decide) ?_
        refine ev_istore (ls2 := [some (.ref 0), some (.int x1), some (.int x2), some (.int x3), some (.int x4), some (.int x5), some (.int x6), some (.int x7), some (.int s0), some (.int 1)]) dX10_line_90 (Nat.le_of_ble_eq_true rfl) rfl ?_
        refine ev_iload dX10_line_92 rfl ?_
        refine ev_iload_n dX10_line_94 rfl ?_
        refine ev_icmp_gt (tgt := 114) dX10_line_95 (by decide) (fun c => ?_) (fun c => ?_)
        · replace h := h.1 c
          refine ev_iinc (v := x6 + 1) (ls2 := [some (.ref 0), some (.int x1), some (.int x2), some (.int x3), some (.int x4), some (.int x5), some (.int (x6 + 1)), some (.int x7), some (.int s0), some (.int 1)]) dX10_line_114 rfl rfl rfl ?_
          refine ev_goto (tgt := 28) dX10_line_117 (by decide) ?_
          refine Ev.weak (ls := [some (.ref 0), some (.int x1), some (.int x2), some (.int x3), some (.int x4), some (.int x5), some (.int (x6 + 1)), none, none, none]) ⟨rfl, rfl, rfl, rfl, rfl, rfl, rfl, trivial⟩ ?_
          exact h
        · replace h := h.2 c
          refine ev_iload dX10_line_98 rfl ?_
          refine ev_if_eq (tgt := 114) dX10_line_100 (by decide) (fun c => absurd c (by decide)) (fun _ => ?_)
          refine ev_iload dX10_line_103 rfl ?_
          refine ev_istore_n (ls2 := [some (.ref 0), some (.int x1), some (.int x2), some (.int x6), some (.int x4), some (.int x5), some (.int x6), some (.int x7), some (.int s0), some (.int 1)]) dX10_line_105 (Nat.le_of_ble_eq_true rfl) rfl ?_
          refine ev_iload dX10_line_106 rfl ?_
          refine ev_istore (ls2 := [some (.ref 0), some (.int x1), some (.int x2), some (.int x6), some (.int x7), some (.int x5), some (.int x6), some (.int x7), some (.int s0), some (.int 1)]) dX10_line_108 (Nat.le_of_ble_eq_true rfl) rfl ?_
          refine ev_iload dX10_line_110 rfl ?_
          refine ev_istore (ls2 := [some (.ref 0), some (.int x1), some (.int x2), some (.int x6), some (.int x7), some (.int s0), some (.int x6), some (.int x7), some (.int s0), some (.int 1)]) dX10_line_112 (Nat.le_of_ble_eq_true rfl) rfl ?_
          refine ev_iinc (v := x6 + 1) (ls2 := [some (.ref 0), some (.int x1), some (.int x2), some (.int x6), some (.int x7), some (.int s0), some (.int (x6 + 1)), some (.int x7), some (.int s0), some (.int 1)]) dX10_line_114 rfl rfl rfl ?_
          refine ev_goto (tgt := 28) dX10_line_117 (by decide) ?_
          refine Ev.weak (ls := [some (.ref 0), some (.int x1), some (.int x2), some (.int x6), some (.int x7), some (.int s0), some (.int (x6 + 1)), none, none, none]) ⟨rfl, rfl, rfl, rfl, rfl, rfl, rfl, trivial⟩ ?_
          exact h
theorem dX11_layNows_0 : decode cX11_layNows 0 = .ok (.aload_n 0, 1) := by decide +kernel
theorem dX11_layNows_1 : decode cX11_layNows 1 = .ok (.invokevirtual 368, 3) := by decide +kernel
theorem dX11_layNows_4 : decode cX11_layNows 4 = .ok (.iconst 0, 1) := by decide +kernel
theorem dX11_layNows_5 : decode cX11_layNows 5 = .ok (.istore_n 1, 1) := by decide +kernel
theorem dX11_layNows_6 : decode cX11_layNows 6 = .ok (.iload_n 1, 1) := by decide +kernel
theorem dX11_layNows_7 : decode cX11_layNows 7 = .ok (.bipush 26, 2) := by decide +kernel
theorem dX11_layNows_9 : decode cX11_layNows 9 = .ok (.if_icmp .ge 16, 3) := by decide +kernel
theorem dX11_layNows_12 : decode cX11_layNows 12 = .ok (.aload_n 0, 1) := by decide +kernel
theorem dX11_layNows_13 : decode cX11_layNows 13 = .ok (.getfield 64, 3) := by decide +kernel
theorem dX11_layNows_16 : decode cX11_layNows 16 = .ok (.iload_n 1, 1) := by decide +kernel
theorem dX11_layNows_17 : decode cX11_layNows 17 = .ok (.iconst 0, 1) := by decide +kernel
theorem dX11_layNows_18 : decode cX11_layNows 18 = .ok (.iastore, 1) := by decide +kernel
theorem dX11_layNows_19 : decode cX11_layNows 19 = .ok (.iinc 1 1, 3) := by decide +kernel
theorem dX11_layNows_22 : decode cX11_layNows 22 = .ok (.goto (-16), 3) := by decide +kernel
theorem dX11_layNows_25 : decode cX11_layNows 25 = .ok (.iconst 0, 1) := by decide +kernel
theorem dX11_layNows_26 : decode cX11_layNows 26 = .ok (.istore_n 1, 1) := by decide +kernel
theorem dX11_layNows_27 : decode cX11_layNows 27 = .ok (.iload_n 1, 1) := by decide +kernel
theorem dX11_layNows_28 : decode cX11_layNows 28 = .ok (.aload_n 0, 1) := by decide +kernel
theorem dX11_layNows_29 : decode cX11_layNows 29 = .ok (.getfield 7, 3) := by decide +kernel
theorem dX11_layNows_32 : decode cX11_layNows 32 = .ok (.iconst 1, 1) := by decide +kernel
theorem dX11_layNows_33 : decode cX11_layNows 33 = .ok (.iaload, 1) := by decide +kernel
theorem dX11_layNows_34 : decode cX11_layNows 34 = .ok (.if_icmp .ge 103, 3) := by decide +kernel
theorem dX11_layNows_37 : decode cX11_layNows 37 = .ok (.aload_n 0, 1) := by decide +kernel
theorem dX11_layNows_38 : decode cX11_layNows 38 = .ok (.iload_n 1, 1) := by decide +kernel
theorem dX11_layNows_39 : decode cX11_layNows 39 = .ok (.invokevirtual 371, 3) := by decide +kernel
theorem dX11_layNows_42 : decode cX11_layNows 42 = .ok (.iconst (-1), 1) := by decide +kernel
theorem dX11_layNows_43 : decode cX11_layNows 43 = .ok (.if_icmp .ne 6, 3) := by decide +kernel
theorem dX11_layNows_46 : decode cX11_layNows 46 = .ok (.goto 85, 3) := by decide +kernel
theorem dX11_layNows_49 : decode cX11_layNows 49 = .ok (.iconst 0, 1) := by decide +kernel
theorem dX11_layNows_50 : decode cX11_layNows 50 = .ok (.istore_n 2, 1) := by decide +kernel
theorem dX11_layNows_51 : decode cX11_layNows 51 = .ok (.iload_n 2, 1) := by decide +kernel
theorem dX11_layNows_52 : decode cX11_layNows 52 = .ok (.aload_n 0, 1) := by decide +kernel
theorem dX11_layNows_53 : decode cX11_layNows 53 = .ok (.iload_n 1, 1) := by decide +kernel
theorem dX11_layNows_54 : decode cX11_layNows 54 = .ok (.invokevirtual 359, 3) := by decide +kernel
theorem dX11_layNows_57 : decode cX11_layNows 57 = .ok (.if_icmp .ge 74, 3) := by decide +kernel
theorem dX11_layNows_60 : decode cX11_layNows 60 = .ok (.iconst 0, 1) := by decide +kernel
theorem dX11_layNows_61 : decode cX11_layNows 61 = .ok (.istore_n 3, 1) := by decide +kernel
theorem dX11_layNows_62 : decode cX11_layNows 62 = .ok (.iload_n 3, 1) := by decide +kernel
theorem dX11_layNows_63 : decode cX11_layNows 63 = .ok (.aload_n 0, 1) := by decide +kernel
theorem dX11_layNows_64 : decode cX11_layNows 64 = .ok (.aload_n 0, 1) := by decide +kernel
theorem dX11_layNows_65 : decode cX11_layNows 65 = .ok (.getfield 55, 3) := by decide +kernel
theorem dX11_layNows_68 : decode cX11_layNows 68 = .ok (.iload_n 2, 1) := by decide +kernel
theorem dX11_layNows_69 : decode cX11_layNows 69 = .ok (.iaload, 1) := by decide +kernel
theorem dX11_layNows_70 : decode cX11_layNows 70 = .ok (.iconst 3, 1) := by decide +kernel
theorem dX11_layNows_71 : decode cX11_layNows 71 = .ok (.invokevirtual 92, 3) := by decide +kernel
theorem dX11_layNows_74 : decode cX11_layNows 74 = .ok (.if_icmp .ge 51, 3) := by decide +kernel
theorem dX11_layNows_77 : decode cX11_layNows 77 = .ok (.aload_n 0, 1) := by decide +kernel
theorem dX11_layNows_78 : decode cX11_layNows 78 = .ok (.aload_n 0, 1) := by decide +kernel
theorem dX11_layNows_79 : decode cX11_layNows 79 = .ok (.getfield 55, 3) := by decide +kernel
theorem dX11_layNows_82 : decode cX11_layNows 82 = .ok (.iload_n 2, 1) := by decide +kernel
theorem dX11_layNows_83 : decode cX11_layNows 83 = .ok (.iaload, 1) := by decide +kernel
theorem dX11_layNows_84 : decode cX11_layNows 84 = .ok (.aload_n 0, 1) := by decide +kernel
theorem dX11_layNows_85 : decode cX11_layNows 85 = .ok (.aload_n 0, 1) := by decide +kernel
theorem dX11_layNows_86 : decode cX11_layNows 86 = .ok (.getfield 55, 3) := by decide +kernel
theorem dX11_layNows_89 : decode cX11_layNows 89 = .ok (.iload_n 2, 1) := by decide +kernel
theorem dX11_layNows_90 : decode cX11_layNows 90 = .ok (.iaload, 1) := by decide +kernel
theorem dX11_layNows_91 : decode cX11_layNows 91 = .ok (.iconst 4, 1) := by decide +kernel
theorem dX11_layNows_92 : decode cX11_layNows 92 = .ok (.iload_n 3, 1) := by decide +kernel
theorem dX11_layNows_93 : decode cX11_layNows 93 = .ok (.iadd, 1) := by decide +kernel
theorem dX11_layNows_94 : decode cX11_layNows 94 = .ok (.invokevirtual 92, 3) := by decide +kernel
theorem dX11_layNows_97 : decode cX11_layNows 97 = .ok (.invokevirtual 377, 3) := by decide +kernel
theorem dX11_layNows_100 : decode cX11_layNows 100 = .ok (.istore 4, 2) := by decide +kernel
theorem dX11_layNows_102 : decode cX11_layNows 102 = .ok (.iload 4, 2) := by decide +kernel
theorem dX11_layNows_104 : decode cX11_layNows 104 = .ok (.iconst (-1), 1) := by decide +kernel
theorem dX11_layNows_105 : decode cX11_layNows 105 = .ok (.if_icmp .eq 14, 3) := by decide +kernel
theorem dX11_layNows_108 : decode cX11_layNows 108 = .ok (.aload_n 0, 1) := by decide +kernel
theorem dX11_layNows_109 : decode cX11_layNows 109 = .ok (.getfield 64, 3) := by decide +kernel
theorem dX11_layNows_112 : decode cX11_layNows 112 = .ok (.iload 4, 2) := by decide +kernel
theorem dX11_layNows_114 : decode cX11_layNows 114 = .ok (.dup2, 1) := by decide +kernel
theorem dX11_layNows_115 : decode cX11_layNows 115 = .ok (.iaload, 1) := by decide +kernel
theorem dX11_layNows_116 : decode cX11_layNows 116 = .ok (.iconst 1, 1) := by decide +kernel
theorem dX11_layNows_117 : decode cX11_layNows 117 = .ok (.iadd, 1) := by decide +kernel
theorem dX11_layNows_118 : decode cX11_layNows 118 = .ok (.iastore, 1) := by decide +kernel
theorem dX11_layNows_119 : decode cX11_layNows 119 = .ok (.iinc 3 1, 3) := by decide +kernel
theorem dX11_layNows_122 : decode cX11_layNows 122 = .ok (.goto (-60), 3) := by decide +kernel
theorem dX11_layNows_125 : decode cX11_layNows 125 = .ok (.iinc 2 1, 3) := by decide +kernel
theorem dX11_layNows_128 : decode cX11_layNows 128 = .ok (.goto (-77), 3) := by decide +kernel
theorem dX11_layNows_131 : decode cX11_layNows 131 = .ok (.iinc 1 1, 3) := by decide +kernel
theorem dX11_layNows_134 : decode cX11_layNows 134 = .ok (.goto (-107), 3) := by decide +kernel
theorem dX11_layNows_137 : decode cX11_layNows 137 = .ok (.return_, 1) := by decide +kernel
theorem gX11_layNows_0 {d : Nat} {M : ev_Mem} {Q : Option Value → ev_Mem → Prop} (h : (∃ Q2 : Option Value → ev_Mem → Prop, Cl LM d mX11_layStiffs [.ref 0] M Q2 ∧ ∀ (zr : Option Value) (zM : ev_Mem), Q2 zr zM → Ev LM (d + 1) mX11_layNows 4 [some (.ref 0), none, none, none, none] (zr.toList ++ []) zM Q)) : Ev LM (d + 1) mX11_layNows 0 [some (.ref 0), none, none, none, none] [] M Q := by
  refine ev_aload_n dX11_layNows_0 rfl ?_
  obtain ⟨Q2, hc, h⟩ := h
  refine ev_callV [] dX11_layNows_1 ml_WithoutEModel_368 lm_0 rfl rfl (Nat.le_of_ble_eq_true rfl) hc (fun zr zM q => ?_)
  exact h zr zM q
theorem gX11_layNows_4 {d : Nat} {M : ev_Mem} {Q : Option Value → ev_Mem → Prop} (h : (Ev LM d mX11_layNows 6 [some (.ref 0), some (.int 0), none, none, none] [] M Q)) : Ev LM d mX11_layNows 4 [some (.ref 0), none, none, none, none] [] M Q := by
  refine ev_iconst (v := 0) dX11_layNows_4 (by decide) ?_
  refine ev_istore_n (ls2 := [some (.ref 0), some (.int 0), none, none, none]) dX11_layNows_5 (Nat.le_of_ble_eq_true rfl) rfl ?_
  exact h
theorem gX11_layNows_6 {d : Nat} {M : ev_Mem} {Q : Option Value → ev_Mem → Prop} {x1 : Int32} (h : (((26 ≤ x1) → (Ev LM d mX11_layNows 27 [some (.ref 0), some (.int 0), none, none, none] [] M Q)) ∧ ((¬ 26 ≤ x1) → (vp_in x1 26 ∧ (∀ M1 : ev_Mem, M1 = ev_wr M 16 x1.toNatClampNeg 0 → (Ev LM d mX11_layNows 6 [some (.ref 0), some (.int (x1 + 1)), none, none, none] [] M1 Q)))))) : Ev LM d mX11_layNows 6 [some (.ref 0), some (.int x1), none, none, none] [] M Q := by
  refine ev_iload_n dX11_layNows_6 rfl ?_
  refine ev_bipush (v := 26) dX11_layNows_7 (by decide) ?_
  refine ev_icmp_ge (tgt := 25) dX11_layNows_9 (by decide) (fun c => ?_) (fun c => ?_)
  · replace h := h.1 c
    refine ev_iconst (v := 0) dX11_layNows_25 (by decide) ?_
    refine ev_istore_n (ls2 := [some (.ref 0), some (.int 0), none, none, none]) dX11_layNows_26 (Nat.le_of_ble_eq_true rfl) rfl ?_
    exact h
  · replace h := h.2 c
    refine ev_aload_n dX11_layNows_12 rfl ?_
    refine ev_getA dX11_layNows_13 fl_WithoutEModel_64 lm_0 rfl ?_
    refine ev_iload_n dX11_layNows_16 rfl ?_
    refine ev_iconst (v := 0) dX11_layNows_17 (by decide) ?_
    obtain ⟨c, h⟩ := h
    refine ev_iast dX11_layNows_18 lm_16 c ?_
    generalize eM1 : ev_wr M 16 x1.toNatClampNeg 0 = M1
    replace h := h M1 eM1.symm
    refine ev_iinc (v := x1 + 1) (ls2 := [some (.ref 0), some (.int (x1 + 1)), none, none, none]) dX11_layNows_19 rfl rfl rfl ?_
    refine ev_goto (tgt := 6) dX11_layNows_22 (by decide) ?_
    exact h
theorem gX11_layNows_27 {d : Nat} {M : ev_Mem} {Q : Option Value → ev_Mem → Prop} {x1 : Int32} (h : ((((M.1 1 1) ≤ x1) → (Q none M)) ∧ ((¬ (M.1 1 1) ≤ x1) → (∃ Q2 : Option Value → ev_Mem → Prop, Cl LM d mX11_leastOf [.ref 0, .int x1] M Q2 ∧ ∀ (zr : Option Value) (zM : ev_Mem), Q2 zr zM → Ev LM (d + 1) mX11_layNows 42 [some (.ref 0), some (.int x1), none, none, none] (zr.toList ++ []) zM Q)))) : Ev LM (d + 1) mX11_layNows 27 [some (.ref 0), some (.int x1), none, none, none] [] M Q := by
  refine ev_iload_n dX11_layNows_27 rfl ?_
  refine ev_aload_n dX11_layNows_28 rfl ?_
  refine ev_getA dX11_layNows_29 fl_WithoutEModel_7 lm_0 rfl ?_
  refine ev_iconst (v := 1) dX11_layNows_32 (by decide) ?_
  refine ev_iaN (j := 1) dX11_layNows_33 lm_1 (by decide) (by decide) ?_
  refine ev_icmp_ge (tgt := 137) dX11_layNows_34 (by decide) (fun c => ?_) (fun c => ?_)
  · replace h := h.1 c
    exact ev_vret dX11_layNows_137 rfl h
  · replace h := h.2 c
    refine ev_aload_n dX11_layNows_37 rfl ?_
    refine ev_iload_n dX11_layNows_38 rfl ?_
    obtain ⟨Q2, hc, h⟩ := h
    refine ev_callV [.int x1] dX11_layNows_39 ml_WithoutEModel_371 lm_0 rfl rfl (Nat.le_of_ble_eq_true rfl) hc (fun zr zM q => ?_)
    exact h zr zM q
theorem gX11_layNows_42 {d : Nat} {M : ev_Mem} {Q : Option Value → ev_Mem → Prop} {x1 s0 : Int32} (h : (((¬ s0 = (-1)) → (Ev LM d mX11_layNows 51 [some (.ref 0), some (.int x1), some (.int 0), none, none] [] M Q)) ∧ ((s0 = (-1)) → (Ev LM d mX11_layNows 27 [some (.ref 0), some (.int (x1 + 1)), none, none, none] [] M Q)))) : Ev LM d mX11_layNows 42 [some (.ref 0), some (.int x1), none, none, none] [(.int s0)] M Q := by
  refine ev_iconst (v := -1) dX11_layNows_42 (by decide) ?_
  refine ev_icmp_ne (tgt := 49) dX11_layNows_43 (by decide) (fun c => ?_) (fun c => ?_)
  · replace h := h.1 c
    refine ev_iconst (v := 0) dX11_layNows_49 (by decide) ?_
    refine ev_istore_n (ls2 := [some (.ref 0), some (.int x1), some (.int 0), none, none]) dX11_layNows_50 (Nat.le_of_ble_eq_true rfl) rfl ?_
    exact h
  · replace h := h.2 c
    refine ev_goto (tgt := 131) dX11_layNows_46 (by decide) ?_
    refine ev_iinc (v := x1 + 1) (ls2 := [some (.ref 0), some (.int (x1 + 1)), none, none, none]) dX11_layNows_131 rfl rfl rfl ?_
    refine ev_goto (tgt := 27) dX11_layNows_134 (by decide) ?_
    exact h
theorem gX11_layNows_51 {d : Nat} {M : ev_Mem} {Q : Option Value → ev_Mem → Prop} {x1 x2 : Int32} (h : ((vp_in (351 + 6 * x1) 3315) ∧ ((((M.1 1 (351 + 6 * x1).toNatClampNeg) ≤ x2) → (Ev LM (d + 1) mX11_layNows 27 [some (.ref 0), some (.int (x1 + 1)), none, none, none] [] M Q)) ∧ ((¬ (M.1 1 (351 + 6 * x1).toNatClampNeg) ≤ x2) → (Ev LM (d + 1) mX11_layNows 62 [some (.ref 0), some (.int x1), some (.int x2), some (.int 0), none] [] M Q))))) : Ev LM (d + 1) mX11_layNows 51 [some (.ref 0), some (.int x1), some (.int x2), none, none] [] M Q := by
  refine ev_iload_n dX11_layNows_51 rfl ?_
  refine ev_aload_n dX11_layNows_52 rfl ?_
  refine ev_iload_n dX11_layNows_53 rfl ?_
  obtain ⟨p1, h⟩ := h
  refine ev_callV [.int x1] dX11_layNows_54 ml_WithoutEModel_359 lm_0 rfl rfl (Nat.le_of_ble_eq_true rfl) (kX11_lengthOf p1) ?_
  rintro zr zM ⟨q1, q2⟩
  rw [q1, q2]
  show Ev LM (d + 1) mX11_layNows 57 [some (.ref 0), some (.int x1), some (.int x2), none, none] [(.int (M.1 1 (351 + 6 * x1).toNatClampNeg)), (.int x2)] M Q
  refine ev_icmp_ge (tgt := 131) dX11_layNows_57 (by decide) (fun c => ?_) (fun c => ?_)
  · replace h := h.1 c
    refine ev_iinc (v := x1 + 1) (ls2 := [some (.ref 0), some (.int (x1 + 1)), some (.int x2), none, none]) dX11_layNows_131 rfl rfl rfl ?_
    refine ev_goto (tgt := 27) dX11_layNows_134 (by decide) ?_
    refine Ev.weak (ls := [some (.ref 0), some (.int (x1 + 1)), none, none, none]) ⟨rfl, rfl, trivial⟩ ?_
    exact h
  · replace h := h.2 c
    refine ev_iconst (v := 0) dX11_layNows_60 (by decide) ?_
    refine ev_istore_n (ls2 := [some (.ref 0), some (.int x1), some (.int x2), some (.int 0), none]) dX11_layNows_61 (Nat.le_of_ble_eq_true rfl) rfl ?_
    exact h
theorem gX11_layNows_62 {d : Nat} {M : ev_Mem} {Q : Option Value → ev_Mem → Prop} {x1 x2 x3 : Int32} (h : (vp_in x2 5 ∧ ((vp_in (39 + 13 * (M.1 13 x2.toNatClampNeg) + (3 : Int32)) 3315) ∧ ((((M.1 1 (39 + 13 * (M.1 13 x2.toNatClampNeg) + (3 : Int32)).toNatClampNeg) ≤ x3) → (Ev LM (d + 1) mX11_layNows 51 [some (.ref 0), some (.int x1), some (.int (x2 + 1)), none, none] [] M Q)) ∧ ((¬ (M.1 1 (39 + 13 * (M.1 13 x2.toNatClampNeg) + (3 : Int32)).toNatClampNeg) ≤ x3) → (vp_in x2 5 ∧ (vp_in x2 5 ∧ ((vp_in (39 + 13 * (M.1 13 x2.toNatClampNeg) + (4 + x3)) 3315) ∧ (∃ Q2 : Option Value → ev_Mem → Prop, Cl LM d mX11_keyFor [.ref 0, .int (M.1 13 x2.toNatClampNeg), .int (M.1 1 (39 + 13 * (M.1 13 x2.toNatClampNeg) + (4 + x3)).toNatClampNeg)] M Q2 ∧ ∀ (zr : Option Value) (zM : ev_Mem), Q2 zr zM → Ev LM (d + 1) mX11_layNows 100 [some (.ref 0), some (.int x1), some (.int x2), some (.int x3), none] (zr.toList ++ []) zM Q))))))))) : Ev LM (d + 1) mX11_layNows 62 [some (.ref 0), some (.int x1), some (.int x2), some (.int x3), none] [] M Q := by
  refine ev_iload_n dX11_layNows_62 rfl ?_
  refine ev_aload_n dX11_layNows_63 rfl ?_
  refine ev_aload_n dX11_layNows_64 rfl ?_
  refine ev_getA dX11_layNows_65 fl_WithoutEModel_55 lm_0 rfl ?_
  refine ev_iload_n dX11_layNows_68 rfl ?_
  obtain ⟨c, h⟩ := h
  refine ev_iald dX11_layNows_69 lm_13 c ?_
  refine ev_iconst (v := 3) dX11_layNows_70 (by decide) ?_
  obtain ⟨p1, h⟩ := h
  refine ev_callV [.int (M.1 13 x2.toNatClampNeg), .int 3] dX11_layNows_71 ml_WithoutEModel_92 lm_0 rfl rfl (Nat.le_of_ble_eq_true rfl) (kX11_get p1) ?_
  rintro zr zM ⟨q1, q2⟩
  rw [q1, q2]
  show Ev LM (d + 1) mX11_layNows 74 [some (.ref 0), some (.int x1), some (.int x2), some (.int x3), none] [(.int (M.1 1 (39 + 13 * (M.1 13 x2.toNatClampNeg) + (3 : Int32)).toNatClampNeg)), (.int x3)] M Q
  refine ev_icmp_ge (tgt := 125) dX11_layNows_74 (by decide) (fun c => ?_) (fun c => ?_)
  · replace h := h.1 c
    refine ev_iinc (v := x2 + 1) (ls2 := [some (.ref 0), some (.int x1), some (.int (x2 + 1)), some (.int x3), none]) dX11_layNows_125 rfl rfl rfl ?_
    refine ev_goto (tgt := 51) dX11_layNows_128 (by decide) ?_
    refine Ev.weak (ls := [some (.ref 0), some (.int x1), some (.int (x2 + 1)), none, none]) ⟨rfl, rfl, rfl, trivial⟩ ?_
    exact h
  · replace h := h.2 c
    refine ev_aload_n dX11_layNows_77 rfl ?_
    refine ev_aload_n dX11_layNows_78 rfl ?_
    refine ev_getA dX11_layNows_79 fl_WithoutEModel_55 lm_0 rfl ?_
    refine ev_iload_n dX11_layNows_82 rfl ?_
    obtain ⟨c, h⟩ := h
    refine ev_iald dX11_layNows_83 lm_13 c ?_
    refine ev_aload_n dX11_layNows_84 rfl ?_
    refine ev_aload_n dX11_layNows_85 rfl ?_
    refine ev_getA dX11_layNows_86 fl_WithoutEModel_55 lm_0 rfl ?_
    refine ev_iload_n dX11_layNows_89 rfl ?_
    obtain ⟨c, h⟩ := h
    refine ev_iald dX11_layNows_90 lm_13 c ?_
    refine ev_iconst (v := 4) dX11_layNows_91 (by decide) ?_
    refine ev_iload_n dX11_layNows_92 rfl ?_
    refine ev_iadd dX11_layNows_93 ?_
    obtain ⟨p1, h⟩ := h
    refine ev_callV [.int (M.1 13 x2.toNatClampNeg), .int (4 + x3)] dX11_layNows_94 ml_WithoutEModel_92 lm_0 rfl rfl (Nat.le_of_ble_eq_true rfl) (kX11_get p1) ?_
    rintro zr zM ⟨q1, q2⟩
    rw [q1, q2]
    show Ev LM (d + 1) mX11_layNows 97 [some (.ref 0), some (.int x1), some (.int x2), some (.int x3), none] [(.int (M.1 1 (39 + 13 * (M.1 13 x2.toNatClampNeg) + (4 + x3)).toNatClampNeg)), (.int (M.1 13 x2.toNatClampNeg)), (.ref 0)] M Q
    obtain ⟨Q2, hc, h⟩ := h
    refine ev_callV [.int (M.1 13 x2.toNatClampNeg), .int (M.1 1 (39 + 13 * (M.1 13 x2.toNatClampNeg) + (4 + x3)).toNatClampNeg)] dX11_layNows_97 ml_WithoutEModel_377 lm_0 rfl rfl (Nat.le_of_ble_eq_true rfl) hc (fun zr zM q => ?_)
    exact h zr zM q
theorem gX11_layNows_100 {d : Nat} {M : ev_Mem} {Q : Option Value → ev_Mem → Prop} {x1 x2 x3 s0 : Int32} (h : (((s0 = (-1)) → (Ev LM d mX11_layNows 62 [some (.ref 0), some (.int x1), some (.int x2), some (.int (x3 + 1)), none] [] M Q)) ∧ ((¬ s0 = (-1)) → (vp_in s0 26 ∧ (vp_in s0 26 ∧ (∀ M1 : ev_Mem, M1 = ev_wr M 16 s0.toNatClampNeg ((M.1 16 s0.toNatClampNeg) + 1) → (Ev LM d mX11_layNows 62 [some (.ref 0), some (.int x1), some (.int x2), some (.int (x3 + 1)), none] [] M1 Q))))))) : Ev LM d mX11_layNows 100 [some (.ref 0), some (.int x1), some (.int x2), some (.int x3), none] [(.int s0)] M Q := by
  refine ev_istore (ls2 := [some (.ref 0), some (.int x1), some (.int x2), some (.int x3), some (.int s0)]) dX11_layNows_100 (Nat.le_of_ble_eq_true rfl) rfl ?_
  refine ev_iload dX11_layNows_102 rfl ?_
  refine ev_iconst (v := -1) dX11_layNows_104 (by decide) ?_
  refine ev_icmp_eq (tgt := 119) dX11_layNows_105 (by decide) (fun c => ?_) (fun c => ?_)
  · replace h := h.1 c
    refine ev_iinc (v := x3 + 1) (ls2 := [some (.ref 0), some (.int x1), some (.int x2), some (.int (x3 + 1)), some (.int s0)]) dX11_layNows_119 rfl rfl rfl ?_
    refine ev_goto (tgt := 62) dX11_layNows_122 (by decide) ?_
    refine Ev.weak (ls := [some (.ref 0), some (.int x1), some (.int x2), some (.int (x3 + 1)), none]) ⟨rfl, rfl, rfl, rfl, trivial⟩ ?_
    exact h
  · replace h := h.2 c
    refine ev_aload_n dX11_layNows_108 rfl ?_
    refine ev_getA dX11_layNows_109 fl_WithoutEModel_64 lm_0 rfl ?_
    refine ev_iload dX11_layNows_112 rfl ?_
    refine ev_dup2 dX11_layNows_114 rfl rfl ?_
    obtain ⟨c, h⟩ := h
    refine ev_iald dX11_layNows_115 lm_16 c ?_
    refine ev_iconst (v := 1) dX11_layNows_116 (by decide) ?_
    refine ev_iadd dX11_layNows_117 ?_
    obtain ⟨c, h⟩ := h
    refine ev_iast dX11_layNows_118 lm_16 c ?_
    generalize eM1 : ev_wr M 16 s0.toNatClampNeg ((M.1 16 s0.toNatClampNeg) + 1) = M1
    replace h := h M1 eM1.symm
    refine ev_iinc (v := x3 + 1) (ls2 := [some (.ref 0), some (.int x1), some (.int x2), some (.int (x3 + 1)), some (.int s0)]) dX11_layNows_119 rfl rfl rfl ?_
    refine ev_goto (tgt := 62) dX11_layNows_122 (by decide) ?_
    refine Ev.weak (ls := [some (.ref 0), some (.int x1), some (.int x2), some (.int (x3 + 1)), none]) ⟨rfl, rfl, rfl, rfl, trivial⟩ ?_
    exact h
theorem dX11_now_0 : decode cX11_now 0 = .ok (.iload_n 1, 1) := by decide +kernel
theorem dX11_now_1 : decode cX11_now 1 = .ok (.invokestatic 343, 3) := by decide +kernel
theorem dX11_now_4 : decode cX11_now 4 = .ok (.ifCond .ne 5, 3) := by decide +kernel
theorem dX11_now_7 : decode cX11_now 7 = .ok (.iconst (-1), 1) := by decide +kernel
theorem dX11_now_8 : decode cX11_now 8 = .ok (.ireturn, 1) := by decide +kernel
theorem dX11_now_9 : decode cX11_now 9 = .ok (.aload_n 0, 1) := by decide +kernel
theorem dX11_now_10 : decode cX11_now 10 = .ok (.invokevirtual 454, 3) := by decide +kernel
theorem dX11_now_13 : decode cX11_now 13 = .ok (.aload_n 0, 1) := by decide +kernel
theorem dX11_now_14 : decode cX11_now 14 = .ok (.getfield 64, 3) := by decide +kernel
theorem dX11_now_17 : decode cX11_now 17 = .ok (.iload_n 1, 1) := by decide +kernel
theorem dX11_now_18 : decode cX11_now 18 = .ok (.iaload, 1) := by decide +kernel
theorem dX11_now_19 : decode cX11_now 19 = .ok (.ireturn, 1) := by decide +kernel
theorem gX11_now_0 {d : Nat} {M : ev_Mem} {Q : Option Value → ev_Mem → Prop} {x1 : Int32} (h : ((((iin x1 0 25) = true) → (∃ Q2 : Option Value → ev_Mem → Prop, Cl LM (d + 1) mX11_layNows [.ref 0] M Q2 ∧ ∀ (zr : Option Value) (zM : ev_Mem), Q2 zr zM → Ev LM (d + 2) mX11_now 13 [some (.ref 0), some (.int x1)] (zr.toList ++ []) zM Q)) ∧ (((iin x1 0 25) = false) → (Q (some (.int (-1))) M)))) : Ev LM (d + 2) mX11_now 0 [some (.ref 0), some (.int x1)] [] M Q := by
  refine ev_iload_n dX11_now_0 rfl ?_
  refine ev_callS [.int x1] dX11_now_1 ml_WithoutEModel_343 rfl (Nat.le_of_ble_eq_true rfl) (kX11_isLetter) ?_
  rintro zr zM ⟨q1, q2⟩
  rw [q1, q2]
  show Ev LM (d + 2) mX11_now 4 [some (.ref 0), some (.int x1)] [(.int (bi (iin x1 0 25)))] M Q
  refine ev_if_ne (tgt := 9) dX11_now_4 (by decide) (fun c => ?_) (fun c => ?_)
  · replace h := h.1 ((bi_n0 _).mp c)
    refine ev_aload_n dX11_now_9 rfl ?_
    obtain ⟨Q2, hc, h⟩ := h
    refine ev_callV [] dX11_now_10 ml_WithoutEModel_454 lm_0 rfl rfl (Nat.le_of_ble_eq_true rfl) hc (fun zr zM q => ?_)
    exact h zr zM q
  · replace h := h.2 ((bi_0 _).mp c)
    refine ev_iconst (v := -1) dX11_now_7 (by decide) ?_
    exact ev_iret dX11_now_8 rfl h
theorem gX11_now_13 {d : Nat} {M : ev_Mem} {Q : Option Value → ev_Mem → Prop} {x1 : Int32} (h : (vp_in x1 26 ∧ (Q (some (.int (M.1 16 x1.toNatClampNeg))) M))) : Ev LM d mX11_now 13 [some (.ref 0), some (.int x1)] [] M Q := by
  refine ev_aload_n dX11_now_13 rfl ?_
  refine ev_getA dX11_now_14 fl_WithoutEModel_64 lm_0 rfl ?_
  refine ev_iload_n dX11_now_17 rfl ?_
  obtain ⟨c, h⟩ := h
  refine ev_iald dX11_now_18 lm_16 c ?_
  exact ev_iret dX11_now_19 rfl h
theorem dX11_spare_0 : decode cX11_spare 0 = .ok (.aload_n 0, 1) := by decide +kernel
theorem dX11_spare_1 : decode cX11_spare 1 = .ok (.invokevirtual 454, 3) := by decide +kernel
theorem dX11_spare_4 : decode cX11_spare 4 = .ok (.iconst (-1), 1) := by decide +kernel
theorem dX11_spare_5 : decode cX11_spare 5 = .ok (.istore_n 1, 1) := by decide +kernel
theorem dX11_spare_6 : decode cX11_spare 6 = .ok (.iconst 0, 1) := by decide +kernel
theorem dX11_spare_7 : decode cX11_spare 7 = .ok (.istore_n 2, 1) := by decide +kernel
theorem dX11_spare_8 : decode cX11_spare 8 = .ok (.iconst 0, 1) := by decide +kernel
theorem dX11_spare_9 : decode cX11_spare 9 = .ok (.istore_n 3, 1) := by decide +kernel
theorem dX11_spare_10 : decode cX11_spare 10 = .ok (.iload_n 3, 1) := by decide +kernel
theorem dX11_spare_11 : decode cX11_spare 11 = .ok (.bipush 26, 2) := by decide +kernel
theorem dX11_spare_13 : decode cX11_spare 13 = .ok (.if_icmp .ge 39, 3) := by decide +kernel
theorem dX11_spare_16 : decode cX11_spare 16 = .ok (.aload_n 0, 1) := by decide +kernel
theorem dX11_spare_17 : decode cX11_spare 17 = .ok (.iload_n 3, 1) := by decide +kernel
theorem dX11_spare_18 : decode cX11_spare 18 = .ok (.invokevirtual 88, 3) := by decide +kernel
theorem dX11_spare_21 : decode cX11_spare 21 = .ok (.ifCond .ne 25, 3) := by decide +kernel
theorem dX11_spare_24 : decode cX11_spare 24 = .ok (.aload_n 0, 1) := by decide +kernel
theorem dX11_spare_25 : decode cX11_spare 25 = .ok (.getfield 64, 3) := by decide +kernel
theorem dX11_spare_28 : decode cX11_spare 28 = .ok (.iload_n 3, 1) := by decide +kernel
theorem dX11_spare_29 : decode cX11_spare 29 = .ok (.iaload, 1) := by decide +kernel
theorem dX11_spare_30 : decode cX11_spare 30 = .ok (.iload_n 2, 1) := by decide +kernel
theorem dX11_spare_31 : decode cX11_spare 31 = .ok (.if_icmp .gt 6, 3) := by decide +kernel
theorem dX11_spare_34 : decode cX11_spare 34 = .ok (.goto 12, 3) := by decide +kernel
theorem dX11_spare_37 : decode cX11_spare 37 = .ok (.aload_n 0, 1) := by decide +kernel
theorem dX11_spare_38 : decode cX11_spare 38 = .ok (.getfield 64, 3) := by decide +kernel
theorem dX11_spare_41 : decode cX11_spare 41 = .ok (.iload_n 3, 1) := by decide +kernel
theorem dX11_spare_42 : decode cX11_spare 42 = .ok (.iaload, 1) := by decide +kernel
theorem dX11_spare_43 : decode cX11_spare 43 = .ok (.istore_n 2, 1) := by decide +kernel
theorem dX11_spare_44 : decode cX11_spare 44 = .ok (.iload_n 3, 1) := by decide +kernel
theorem dX11_spare_45 : decode cX11_spare 45 = .ok (.istore_n 1, 1) := by decide +kernel
theorem dX11_spare_46 : decode cX11_spare 46 = .ok (.iinc 3 1, 3) := by decide +kernel
theorem dX11_spare_49 : decode cX11_spare 49 = .ok (.goto (-39), 3) := by decide +kernel
theorem dX11_spare_52 : decode cX11_spare 52 = .ok (.iload_n 1, 1) := by decide +kernel
theorem dX11_spare_53 : decode cX11_spare 53 = .ok (.ireturn, 1) := by decide +kernel
theorem gX11_spare_0 {d : Nat} {M : ev_Mem} {Q : Option Value → ev_Mem → Prop} (h : (∃ Q2 : Option Value → ev_Mem → Prop, Cl LM d mX11_layNows [.ref 0] M Q2 ∧ ∀ (zr : Option Value) (zM : ev_Mem), Q2 zr zM → Ev LM (d + 1) mX11_spare 4 [some (.ref 0), none, none, none] (zr.toList ++ []) zM Q)) : Ev LM (d + 1) mX11_spare 0 [some (.ref 0), none, none, none] [] M Q := by
  refine ev_aload_n dX11_spare_0 rfl ?_
  obtain ⟨Q2, hc, h⟩ := h
  refine ev_callV [] dX11_spare_1 ml_WithoutEModel_454 lm_0 rfl rfl (Nat.le_of_ble_eq_true rfl) hc (fun zr zM q => ?_)
  exact h zr zM q
theorem gX11_spare_4 {d : Nat} {M : ev_Mem} {Q : Option Value → ev_Mem → Prop} (h : (Ev LM d mX11_spare 10 [some (.ref 0), some (.int (-1)), some (.int 0), some (.int 0)] [] M Q)) : Ev LM d mX11_spare 4 [some (.ref 0), none, none, none] [] M Q := by
  refine ev_iconst (v := -1) dX11_spare_4 (by decide) ?_
  refine ev_istore_n (ls2 := [some (.ref 0), some (.int (-1)), none, none]) dX11_spare_5 (Nat.le_of_ble_eq_true rfl) rfl ?_
  refine ev_iconst (v := 0) dX11_spare_6 (by decide) ?_
  refine ev_istore_n (ls2 := [some (.ref 0), some (.int (-1)), some (.int 0), none]) dX11_spare_7 (Nat.le_of_ble_eq_true rfl) rfl ?_
  refine ev_iconst (v := 0) dX11_spare_8 (by decide) ?_
  refine ev_istore_n (ls2 := [some (.ref 0), some (.int (-1)), some (.int 0), some (.int 0)]) dX11_spare_9 (Nat.le_of_ble_eq_true rfl) rfl ?_
  exact h
theorem gX11_spare_10 {d : Nat} {M : ev_Mem} {Q : Option Value → ev_Mem → Prop} {x1 x2 x3 : Int32} (h : (((26 ≤ x3) → (Q (some (.int x1)) M)) ∧ ((¬ 26 ≤ x3) → ((((hs (M.1 1 9) x3) = true) → (Ev LM (d + 2) mX11_spare 10 [some (.ref 0), some (.int x1), some (.int x2), some (.int (x3 + 1))] [] M Q)) ∧ (((hs (M.1 1 9) x3) = false) → (vp_in x3 26 ∧ (((x2 < (M.1 16 x3.toNatClampNeg)) → (vp_in x3 26 ∧ (Ev LM (d + 2) mX11_spare 10 [some (.ref 0), some (.int x3), some (.int (M.1 16 x3.toNatClampNeg)), some (.int (x3 + 1))] [] M Q))) ∧ ((¬ x2 < (M.1 16 x3.toNatClampNeg)) → (Ev LM (d + 2) mX11_spare 10 [some (.ref 0), some (.int x1), some (.int x2), some (.int (x3 + 1))] [] M Q))))))))) : Ev LM (d + 2) mX11_spare 10 [some (.ref 0), some (.int x1), some (.int x2), some (.int x3)] [] M Q := by
  refine ev_iload_n dX11_spare_10 rfl ?_
  refine ev_bipush (v := 26) dX11_spare_11 (by decide) ?_
  refine ev_icmp_ge (tgt := 52) dX11_spare_13 (by decide) (fun c => ?_) (fun c => ?_)
  · replace h := h.1 c
    refine ev_iload_n dX11_spare_52 rfl ?_
    exact ev_iret dX11_spare_53 rfl h
  · replace h := h.2 c
    refine ev_aload_n dX11_spare_16 rfl ?_
    refine ev_iload_n dX11_spare_17 rfl ?_
    refine ev_callV [.int x3] dX11_spare_18 ml_WithoutEModel_88 lm_0 rfl rfl (Nat.le_of_ble_eq_true rfl) (kX11_isLost) ?_
    rintro zr zM ⟨q1, q2⟩
    rw [q1, q2]
    show Ev LM (d + 2) mX11_spare 21 [some (.ref 0), some (.int x1), some (.int x2), some (.int x3)] [(.int (bi (hs (M.1 1 9) x3)))] M Q
    refine ev_if_ne (tgt := 46) dX11_spare_21 (by decide) (fun c => ?_) (fun c => ?_)
    · replace h := h.1 ((bi_n0 _).mp c)
      refine ev_iinc (v := x3 + 1) (ls2 := [some (.ref 0), some (.int x1), some (.int x2), some (.int (x3 + 1))]) dX11_spare_46 rfl rfl rfl ?_
      refine ev_goto (tgt := 10) dX11_spare_49 (by decide) ?_
      exact h
    · replace h := h.2 ((bi_0 _).mp c)
      refine ev_aload_n dX11_spare_24 rfl ?_
      refine ev_getA dX11_spare_25 fl_WithoutEModel_64 lm_0 rfl ?_
      refine ev_iload_n dX11_spare_28 rfl ?_
      obtain ⟨c, h⟩ := h
      refine ev_iald dX11_spare_29 lm_16 c ?_
      refine ev_iload_n dX11_spare_30 rfl ?_
      refine ev_icmp_gt (tgt := 37) dX11_spare_31 (by decide) (fun c => ?_) (fun c => ?_)
      · replace h := h.1 c
        refine ev_aload_n dX11_spare_37 rfl ?_
        refine ev_getA dX11_spare_38 fl_WithoutEModel_64 lm_0 rfl ?_
        refine ev_iload_n dX11_spare_41 rfl ?_
        obtain ⟨c, h⟩ := h
        refine ev_iald dX11_spare_42 lm_16 c ?_
        refine ev_istore_n (ls2 := [some (.ref 0), some (.int x1), some (.int (M.1 16 x3.toNatClampNeg)), some (.int x3)]) dX11_spare_43 (Nat.le_of_ble_eq_true rfl) rfl ?_
        refine ev_iload_n dX11_spare_44 rfl ?_
        refine ev_istore_n (ls2 := [some (.ref 0), some (.int x3), some (.int (M.1 16 x3.toNatClampNeg)), some (.int x3)]) dX11_spare_45 (Nat.le_of_ble_eq_true rfl) rfl ?_
        refine ev_iinc (v := x3 + 1) (ls2 := [some (.ref 0), some (.int x3), some (.int (M.1 16 x3.toNatClampNeg)), some (.int (x3 + 1))]) dX11_spare_46 rfl rfl rfl ?_
        refine ev_goto (tgt := 10) dX11_spare_49 (by decide) ?_
        exact h
      · replace h := h.2 c
        refine ev_goto (tgt := 46) dX11_spare_34 (by decide) ?_
        refine ev_iinc (v := x3 + 1) (ls2 := [some (.ref 0), some (.int x1), some (.int x2), some (.int (x3 + 1))]) dX11_spare_46 rfl rfl rfl ?_
        refine ev_goto (tgt := 10) dX11_spare_49 (by decide) ?_
        exact h
theorem dX11_exact_0 : decode cX11_exact 0 = .ok (.iload_n 1, 1) := by decide +kernel
theorem dX11_exact_1 : decode cX11_exact 1 = .ok (.iconst 0, 1) := by decide +kernel
theorem dX11_exact_2 : decode cX11_exact 2 = .ok (.bipush 26, 2) := by decide +kernel
theorem dX11_exact_4 : decode cX11_exact 4 = .ok (.aload_n 0, 1) := by decide +kernel
theorem dX11_exact_5 : decode cX11_exact 5 = .ok (.getfield 7, 3) := by decide +kernel
theorem dX11_exact_8 : decode cX11_exact 8 = .ok (.bipush 9, 2) := by decide +kernel
theorem dX11_exact_10 : decode cX11_exact 10 = .ok (.iaload, 1) := by decide +kernel
theorem dX11_exact_11 : decode cX11_exact 11 = .ok (.invokestatic 312, 3) := by decide +kernel
theorem dX11_exact_14 : decode cX11_exact 14 = .ok (.isub, 1) := by decide +kernel
theorem dX11_exact_15 : decode cX11_exact 15 = .ok (.iconst 1, 1) := by decide +kernel
theorem dX11_exact_16 : decode cX11_exact 16 = .ok (.isub, 1) := by decide +kernel
theorem dX11_exact_17 : decode cX11_exact 17 = .ok (.invokestatic 80, 3) := by decide +kernel
theorem dX11_exact_20 : decode cX11_exact 20 = .ok (.ifCond .ne 5, 3) := by decide +kernel
theorem dX11_exact_23 : decode cX11_exact 23 = .ok (.iconst (-1), 1) := by decide +kernel
theorem dX11_exact_24 : decode cX11_exact 24 = .ok (.ireturn, 1) := by decide +kernel
theorem dX11_exact_25 : decode cX11_exact 25 = .ok (.aload_n 0, 1) := by decide +kernel
theorem dX11_exact_26 : decode cX11_exact 26 = .ok (.invokevirtual 454, 3) := by decide +kernel
theorem dX11_exact_29 : decode cX11_exact 29 = .ok (.iconst 0, 1) := by decide +kernel
theorem dX11_exact_30 : decode cX11_exact 30 = .ok (.istore_n 2, 1) := by decide +kernel
theorem dX11_exact_31 : decode cX11_exact 31 = .ok (.iload_n 2, 1) := by decide +kernel
theorem dX11_exact_32 : decode cX11_exact 32 = .ok (.bipush 26, 2) := by decide +kernel
theorem dX11_exact_34 : decode cX11_exact 34 = .ok (.if_icmp .ge 97, 3) := by decide +kernel
theorem dX11_exact_37 : decode cX11_exact 37 = .ok (.iconst 0, 1) := by decide +kernel
theorem dX11_exact_38 : decode cX11_exact 38 = .ok (.istore_n 3, 1) := by decide +kernel
theorem dX11_exact_39 : decode cX11_exact 39 = .ok (.iconst 0, 1) := by decide +kernel
theorem dX11_exact_40 : decode cX11_exact 40 = .ok (.istore 4, 2) := by decide +kernel
theorem dX11_exact_42 : decode cX11_exact 42 = .ok (.iload 4, 2) := by decide +kernel
theorem dX11_exact_44 : decode cX11_exact 44 = .ok (.bipush 26, 2) := by decide +kernel
theorem dX11_exact_46 : decode cX11_exact 46 = .ok (.if_icmp .ge 64, 3) := by decide +kernel
theorem dX11_exact_49 : decode cX11_exact 49 = .ok (.iload_n 3, 1) := by decide +kernel
theorem dX11_exact_50 : decode cX11_exact 50 = .ok (.aload_n 0, 1) := by decide +kernel
theorem dX11_exact_51 : decode cX11_exact 51 = .ok (.iload 4, 2) := by decide +kernel
theorem dX11_exact_53 : decode cX11_exact 53 = .ok (.invokevirtual 88, 3) := by decide +kernel
theorem dX11_exact_56 : decode cX11_exact 56 = .ok (.ifCond .ne 45, 3) := by decide +kernel
theorem dX11_exact_59 : decode cX11_exact 59 = .ok (.aload_n 0, 1) := by decide +kernel
theorem dX11_exact_60 : decode cX11_exact 60 = .ok (.getfield 64, 3) := by decide +kernel
theorem dX11_exact_63 : decode cX11_exact 63 = .ok (.iload 4, 2) := by decide +kernel
theorem dX11_exact_65 : decode cX11_exact 65 = .ok (.iaload, 1) := by decide +kernel
theorem dX11_exact_66 : decode cX11_exact 66 = .ok (.aload_n 0, 1) := by decide +kernel
theorem dX11_exact_67 : decode cX11_exact 67 = .ok (.getfield 64, 3) := by decide +kernel
theorem dX11_exact_70 : decode cX11_exact 70 = .ok (.iload_n 2, 1) := by decide +kernel
theorem dX11_exact_71 : decode cX11_exact 71 = .ok (.iaload, 1) := by decide +kernel
theorem dX11_exact_72 : decode cX11_exact 72 = .ok (.if_icmp .gt 25, 3) := by decide +kernel
theorem dX11_exact_75 : decode cX11_exact 75 = .ok (.aload_n 0, 1) := by decide +kernel
theorem dX11_exact_76 : decode cX11_exact 76 = .ok (.getfield 64, 3) := by decide +kernel
theorem dX11_exact_79 : decode cX11_exact 79 = .ok (.iload 4, 2) := by decide +kernel
theorem dX11_exact_81 : decode cX11_exact 81 = .ok (.iaload, 1) := by decide +kernel
theorem dX11_exact_82 : decode cX11_exact 82 = .ok (.aload_n 0, 1) := by decide +kernel
theorem dX11_exact_83 : decode cX11_exact 83 = .ok (.getfield 64, 3) := by decide +kernel
theorem dX11_exact_86 : decode cX11_exact 86 = .ok (.iload_n 2, 1) := by decide +kernel
theorem dX11_exact_87 : decode cX11_exact 87 = .ok (.iaload, 1) := by decide +kernel
theorem dX11_exact_88 : decode cX11_exact 88 = .ok (.if_icmp .ne 13, 3) := by decide +kernel
theorem dX11_exact_91 : decode cX11_exact 91 = .ok (.iload 4, 2) := by decide +kernel
theorem dX11_exact_93 : decode cX11_exact 93 = .ok (.iload_n 2, 1) := by decide +kernel
theorem dX11_exact_94 : decode cX11_exact 94 = .ok (.if_icmp .ge 7, 3) := by decide +kernel
theorem dX11_exact_97 : decode cX11_exact 97 = .ok (.iconst 1, 1) := by decide +kernel
theorem dX11_exact_98 : decode cX11_exact 98 = .ok (.goto 4, 3) := by decide +kernel
theorem dX11_exact_101 : decode cX11_exact 101 = .ok (.iconst 0, 1) := by decide +kernel
theorem dX11_exact_102 : decode cX11_exact 102 = .ok (.iadd, 1) := by decide +kernel
theorem dX11_exact_103 : decode cX11_exact 103 = .ok (.istore_n 3, 1) := by decide +kernel
theorem dX11_exact_104 : decode cX11_exact 104 = .ok (.iinc 4 1, 3) := by decide +kernel
theorem dX11_exact_107 : decode cX11_exact 107 = .ok (.goto (-65), 3) := by decide +kernel
theorem dX11_exact_110 : decode cX11_exact 110 = .ok (.aload_n 0, 1) := by decide +kernel
theorem dX11_exact_111 : decode cX11_exact 111 = .ok (.iload_n 2, 1) := by decide +kernel
theorem dX11_exact_112 : decode cX11_exact 112 = .ok (.invokevirtual 88, 3) := by decide +kernel
theorem dX11_exact_115 : decode cX11_exact 115 = .ok (.ifCond .ne 10, 3) := by decide +kernel
theorem dX11_exact_118 : decode cX11_exact 118 = .ok (.iload_n 3, 1) := by decide +kernel
theorem dX11_exact_119 : decode cX11_exact 119 = .ok (.iload_n 1, 1) := by decide +kernel
theorem dX11_exact_120 : decode cX11_exact 120 = .ok (.if_icmp .ne 5, 3) := by decide +kernel
theorem dX11_exact_123 : decode cX11_exact 123 = .ok (.iload_n 2, 1) := by decide +kernel
theorem dX11_exact_124 : decode cX11_exact 124 = .ok (.ireturn, 1) := by decide +kernel
theorem dX11_exact_125 : decode cX11_exact 125 = .ok (.iinc 2 1, 3) := by decide +kernel
theorem dX11_exact_128 : decode cX11_exact 128 = .ok (.goto (-97), 3) := by decide +kernel
theorem dX11_exact_131 : decode cX11_exact 131 = .ok (.iconst (-1), 1) := by decide +kernel
theorem dX11_exact_132 : decode cX11_exact 132 = .ok (.ireturn, 1) := by decide +kernel
theorem gX11_exact_0 {d : Nat} {M : ev_Mem} {Q : Option Value → ev_Mem → Prop} {x1 : Int32} (h : ((((iin x1 (0 : Int32) ((26 - (bc (M.1 1 9))) - 1)) = true) → (∃ Q2 : Option Value → ev_Mem → Prop, Cl LM d mX11_layNows [.ref 0] M Q2 ∧ ∀ (zr : Option Value) (zM : ev_Mem), Q2 zr zM → Ev LM (d + 1) mX11_exact 29 [some (.ref 0), some (.int x1), none, none, none] (zr.toList ++ []) zM Q)) ∧ (((iin x1 (0 : Int32) ((26 - (bc (M.1 1 9))) - 1)) = false) → (Q (some (.int (-1))) M)))) : Ev LM (d + 1) mX11_exact 0 [some (.ref 0), some (.int x1), none, none, none] [] M Q := by
  refine ev_iload_n dX11_exact_0 rfl ?_
  refine ev_iconst (v := 0) dX11_exact_1 (by decide) ?_
  refine ev_bipush (v := 26) dX11_exact_2 (by decide) ?_
  refine ev_aload_n dX11_exact_4 rfl ?_
  refine ev_getA dX11_exact_5 fl_WithoutEModel_7 lm_0 rfl ?_
  refine ev_bipush (v := 9) dX11_exact_8 (by decide) ?_
  refine ev_iaN (j := 9) dX11_exact_10 lm_1 (by decide) (by decide) ?_
  refine ev_callS [.int (M.1 1 9)] dX11_exact_11 ml_WithoutEModel_312 rfl (Nat.le_of_ble_eq_true rfl) (kX11_bits) ?_
  rintro zr zM ⟨q1, q2⟩
  rw [q1, q2]
  show Ev LM (d + 1) mX11_exact 14 [some (.ref 0), some (.int x1), none, none, none] [(.int (bc (M.1 1 9))), (.int 26), (.int 0), (.int x1)] M Q
  refine ev_isub dX11_exact_14 ?_
  refine ev_iconst (v := 1) dX11_exact_15 (by decide) ?_
  refine ev_isub dX11_exact_16 ?_
  refine ev_callS [.int x1, .int 0, .int ((26 - (bc (M.1 1 9))) - 1)] dX11_exact_17 ml_WithoutEModel_80 rfl (Nat.le_of_ble_eq_true rfl) (kX11_isIn) ?_
  rintro zr zM ⟨q1, q2⟩
  rw [q1, q2]
  show Ev LM (d + 1) mX11_exact 20 [some (.ref 0), some (.int x1), none, none, none] [(.int (bi (iin x1 (0 : Int32) ((26 - (bc (M.1 1 9))) - 1))))] M Q
  refine ev_if_ne (tgt := 25) dX11_exact_20 (by decide) (fun c => ?_) (fun c => ?_)
  · replace h := h.1 ((bi_n0 _).mp c)
    refine ev_aload_n dX11_exact_25 rfl ?_
    obtain ⟨Q2, hc, h⟩ := h
    refine ev_callV [] dX11_exact_26 ml_WithoutEModel_454 lm_0 rfl rfl (Nat.le_of_ble_eq_true rfl) hc (fun zr zM q => ?_)
    exact h zr zM q
  · replace h := h.2 ((bi_0 _).mp c)
    refine ev_iconst (v := -1) dX11_exact_23 (by decide) ?_
    exact ev_iret dX11_exact_24 rfl h
theorem gX11_exact_29 {d : Nat} {M : ev_Mem} {Q : Option Value → ev_Mem → Prop} {x1 : Int32} (h : (Ev LM d mX11_exact 31 [some (.ref 0), some (.int x1), some (.int 0), none, none] [] M Q)) : Ev LM d mX11_exact 29 [some (.ref 0), some (.int x1), none, none, none] [] M Q := by
  refine ev_iconst (v := 0) dX11_exact_29 (by decide) ?_
  refine ev_istore_n (ls2 := [some (.ref 0), some (.int x1), some (.int 0), none, none]) dX11_exact_30 (Nat.le_of_ble_eq_true rfl) rfl ?_
  exact h
theorem gX11_exact_31 {d : Nat} {M : ev_Mem} {Q : Option Value → ev_Mem → Prop} {x1 x2 : Int32} (h : (((26 ≤ x2) → (Q (some (.int (-1))) M)) ∧ ((¬ 26 ≤ x2) → (Ev LM d mX11_exact 42 [some (.ref 0), some (.int x1), some (.int x2), some (.int 0), some (.int 0)] [] M Q)))) : Ev LM d mX11_exact 31 [some (.ref 0), some (.int x1), some (.int x2), none, none] [] M Q := by
  refine ev_iload_n dX11_exact_31 rfl ?_
  refine ev_bipush (v := 26) dX11_exact_32 (by decide) ?_
  refine ev_icmp_ge (tgt := 131) dX11_exact_34 (by decide) (fun c => ?_) (fun c => ?_)
  · replace h := h.1 c
    refine ev_iconst (v := -1) dX11_exact_131 (by decide) ?_
    exact ev_iret dX11_exact_132 rfl h
  · replace h := h.2 c
    refine ev_iconst (v := 0) dX11_exact_37 (by decide) ?_
    refine ev_istore_n (ls2 := [some (.ref 0), some (.int x1), some (.int x2), some (.int 0), none]) dX11_exact_38 (Nat.le_of_ble_eq_true rfl) rfl ?_
    refine ev_iconst (v := 0) dX11_exact_39 (by decide) ?_
    refine ev_istore (ls2 := [some (.ref 0), some (.int x1), some (.int x2), some (.int 0), some (.int 0)]) dX11_exact_40 (Nat.le_of_ble_eq_true rfl) rfl ?_
    exact h
theorem gX11_exact_42 {d : Nat} {M : ev_Mem} {Q : Option Value → ev_Mem → Prop} {x1 x2 x3 x4 : Int32} (h : (((26 ≤ x4) → ((((hs (M.1 1 9) x2) = true) → (Ev LM (d + 2) mX11_exact 31 [some (.ref 0), some (.int x1), some (.int (x2 + 1)), none, none] [] M Q)) ∧ (((hs (M.1 1 9) x2) = false) → (((¬ x3 = x1) → (Ev LM (d + 2) mX11_exact 31 [some (.ref 0), some (.int x1), some (.int (x2 + 1)), none, none] [] M Q)) ∧ ((x3 = x1) → (Q (some (.int x2)) M)))))) ∧ ((¬ 26 ≤ x4) → ((((hs (M.1 1 9) x4) = true) → (Ev LM (d + 2) mX11_exact 42 [some (.ref 0), some (.int x1), some (.int x2), some (.int (x3 + 0)), some (.int (x4 + 1))] [] M Q)) ∧ (((hs (M.1 1 9) x4) = false) → (vp_in x4 26 ∧ (vp_in x2 26 ∧ ((((M.1 16 x2.toNatClampNeg) < (M.1 16 x4.toNatClampNeg)) → (Ev LM (d + 2) mX11_exact 42 [some (.ref 0), some (.int x1), some (.int x2), some (.int (x3 + 1)), some (.int (x4 + 1))] [] M Q)) ∧ ((¬ (M.1 16 x2.toNatClampNeg) < (M.1 16 x4.toNatClampNeg)) → (vp_in x4 26 ∧ (vp_in x2 26 ∧ (((¬ (M.1 16 x4.toNatClampNeg) = (M.1 16 x2.toNatClampNeg)) → (Ev LM (d + 2) mX11_exact 42 [some (.ref 0), some (.int x1), some (.int x2), some (.int (x3 + 0)), some (.int (x4 + 1))] [] M Q)) ∧ (((M.1 16 x4.toNatClampNeg) = (M.1 16 x2.toNatClampNeg)) → (((x2 ≤ x4) → (Ev LM (d + 2) mX11_exact 42 [some (.ref 0), some (.int x1), some (.int x2), some (.int (x3 + 0)), some (.int (x4 + 1))] [] M Q)) ∧ ((¬ x2 ≤ x4) → (Ev LM (d + 2) mX11_exact 42 [some (.ref 0), some (.int x1), some (.int x2), some (.int (x3 + 1)), some (.int (x4 + 1))] [] M Q)))))))))))))))) : Ev LM (d + 2) mX11_exact 42 [some (.ref 0), some (.int x1), some (.int x2), some (.int x3), some (.int x4)] [] M Q := by
  refine ev_iload dX11_exact_42 rfl ?_
  refine ev_bipush (v := 26) dX11_exact_44 (by decide) ?_
  refine ev_icmp_ge (tgt := 110) dX11_exact_46 (by decide) (fun c => ?_) (fun c => ?_)
  · replace h := h.1 c
    refine ev_aload_n dX11_exact_110 rfl ?_
    refine ev_iload_n dX11_exact_111 rfl ?_
    refine ev_callV [.int x2] dX11_exact_112 ml_WithoutEModel_88 lm_0 rfl rfl (Nat.le_of_ble_eq_true rfl) (kX11_isLost) ?_
    rintro zr zM ⟨q1, q2⟩
    rw [q1, q2]
    show Ev LM (d + 2) mX11_exact 115 [some (.ref 0), some (.int x1), some (.int x2), some (.int x3), some (.int x4)] [(.int (bi (hs (M.1 1 9) x2)))] M Q
    refine ev_if_ne (tgt := 125) dX11_exact_115 (by decide) (fun c => ?_) (fun c => ?_)
    · replace h := h.1 ((bi_n0 _).mp c)
      refine ev_iinc (v := x2 + 1) (ls2 := [some (.ref 0), some (.int x1), some (.int (x2 + 1)), some (.int x3), some (.int x4)]) dX11_exact_125 rfl rfl rfl ?_
      refine ev_goto (tgt := 31) dX11_exact_128 (by decide) ?_
      refine Ev.weak (ls := [some (.ref 0), some (.int x1), some (.int (x2 + 1)), none, none]) ⟨rfl, rfl, rfl, trivial⟩ ?_
      exact h
    · replace h := h.2 ((bi_0 _).mp c)
      refine ev_iload_n dX11_exact_118 rfl ?_
      refine ev_iload_n dX11_exact_119 rfl ?_
      refine ev_icmp_ne (tgt := 125) dX11_exact_120 (by decide) (fun c => ?_) (fun c => ?_)
      · replace h := h.1 c
        refine ev_iinc (v := x2 + 1) (ls2 := [some (.ref 0), some (.int x1), some (.int (x2 + 1)), some (.int x3), some (.int x4)]) dX11_exact_125 rfl rfl rfl ?_
        refine ev_goto (tgt := 31) dX11_exact_128 (by decide) ?_
        refine Ev.weak (ls := [some (.ref 0), some (.int x1), some (.int (x2 + 1)), none, none]) ⟨rfl, rfl, rfl, trivial⟩ ?_
        exact h
      · replace h := h.2 c
        refine ev_iload_n dX11_exact_123 rfl ?_
        exact ev_iret dX11_exact_124 rfl h
  · replace h := h.2 c
    refine ev_iload_n dX11_exact_49 rfl ?_
    refine ev_aload_n dX11_exact_50 rfl ?_
    refine ev_iload dX11_exact_51 rfl ?_
    refine ev_callV [.int x4] dX11_exact_53 ml_WithoutEModel_88 lm_0 rfl rfl (Nat.le_of_ble_eq_true rfl) (kX11_isLost) ?_
    rintro zr zM ⟨q1, q2⟩
    rw [q1, q2]
    show Ev LM (d + 2) mX11_exact 56 [some (.ref 0), some (.int x1), some (.int x2), some (.int x3), some (.int x4)] [(.int (bi (hs (M.1 1 9) x4))), (.int x3)] M Q
    refine ev_if_ne (tgt := 101) dX11_exact_56 (by decide) (fun c => ?_) (fun c => ?_)
    · replace h := h.1 ((bi_n0 _).mp c)
      refine ev_iconst (v := 0) dX11_exact_101 (by decide) ?_
      refine ev_iadd dX11_exact_102 ?_
      refine ev_istore_n (ls2 := [some (.ref 0), some (.int x1), some (.int x2), some (.int (x3 + 0)), some (.int x4)]) dX11_exact_103 (Nat.le_of_ble_eq_true rfl) rfl ?_
      refine ev_iinc (v := x4 + 1) (ls2 := [some (.ref 0), some (.int x1), some (.int x2), some (.int (x3 + 0)), some (.int (x4 + 1))]) dX11_exact_104 rfl rfl rfl ?_
      refine ev_goto (tgt := 42) dX11_exact_107 (by decide) ?_
      exact h
    · replace h := h.2 ((bi_0 _).mp c)
      refine ev_aload_n dX11_exact_59 rfl ?_
      refine ev_getA dX11_exact_60 fl_WithoutEModel_64 lm_0 rfl ?_
      refine ev_iload dX11_exact_63 rfl ?_
      obtain ⟨c, h⟩ := h
      refine ev_iald dX11_exact_65 lm_16 c ?_
      refine ev_aload_n dX11_exact_66 rfl ?_
      refine ev_getA dX11_exact_67 fl_WithoutEModel_64 lm_0 rfl ?_
      refine ev_iload_n dX11_exact_70 rfl ?_
      obtain ⟨c, h⟩ := h
      refine ev_iald dX11_exact_71 lm_16 c ?_
      refine ev_icmp_gt (tgt := 97) dX11_exact_72 (by decide) (fun c => ?_) (fun c => ?_)
      · replace h := h.1 c
        refine ev_iconst (v := 1) dX11_exact_97 (by decide) ?_
        refine ev_goto (tgt := 102) dX11_exact_98 (by decide) ?_
        refine ev_iadd dX11_exact_102 ?_
        refine ev_istore_n (ls2 := [some (.ref 0), some (.int x1), some (.int x2), some (.int (x3 + 1)), some (.int x4)]) dX11_exact_103 (Nat.le_of_ble_eq_true rfl) rfl ?_
        refine ev_iinc (v := x4 + 1) (ls2 := [some (.ref 0), some (.int x1), some (.int x2), some (.int (x3 + 1)), some (.int (x4 + 1))]) dX11_exact_104 rfl rfl rfl ?_
        refine ev_goto (tgt := 42) dX11_exact_107 (by decide) ?_
        exact h
      · replace h := h.2 c
        refine ev_aload_n dX11_exact_75 rfl ?_
        refine ev_getA dX11_exact_76 fl_WithoutEModel_64 lm_0 rfl ?_
        refine ev_iload dX11_exact_79 rfl ?_
        obtain ⟨c, h⟩ := h
        refine ev_iald dX11_exact_81 lm_16 c ?_
        refine ev_aload_n dX11_exact_82 rfl ?_
        refine ev_getA dX11_exact_83 fl_WithoutEModel_64 lm_0 rfl ?_
        refine ev_iload_n dX11_exact_86 rfl ?_
        obtain ⟨c, h⟩ := h
        refine ev_iald dX11_exact_87 lm_16 c ?_
        refine ev_icmp_ne (tgt := 101) dX11_exact_88 (by decide) (fun c => ?_) (fun c => ?_)
        · replace h := h.1 c
          refine ev_iconst (v := 0) dX11_exact_101 (by decide) ?_
          refine ev_iadd dX11_exact_102 ?_
          refine ev_istore_n (ls2 := [some (.ref 0), some (.int x1), some (.int x2), some (.int (x3 + 0)), some (.int x4)]) dX11_exact_103 (Nat.le_of_ble_eq_true rfl) rfl ?_
          refine ev_iinc (v := x4 + 1) (ls2 := [some (.ref 0), some (.int x1), some (.int x2), some (.int (x3 + 0)), some (.int (x4 + 1))]) dX11_exact_104 rfl rfl rfl ?_
          refine ev_goto (tgt := 42) dX11_exact_107 (by decide) ?_
          exact h
        · replace h := h.2 c
          refine ev_iload dX11_exact_91 rfl ?_
          refine ev_iload_n dX11_exact_93 rfl ?_
          refine ev_icmp_ge (tgt := 101) dX11_exact_94 (by decide) (fun c => ?_) (fun c => ?_)
          · replace h := h.1 c
            refine ev_iconst (v := 0) dX11_exact_101 (by decide) ?_
            refine ev_iadd dX11_exact_102 ?_
            refine ev_istore_n (ls2 := [some (.ref 0), some (.int x1), some (.int x2), some (.int (x3 + 0)), some (.int x4)]) dX11_exact_103 (Nat.le_of_ble_eq_true rfl) rfl ?_
            refine ev_iinc (v := x4 + 1) (ls2 := [some (.ref 0), some (.int x1), some (.int x2), some (.int (x3 + 0)), some (.int (x4 + 1))]) dX11_exact_104 rfl rfl rfl ?_
            refine ev_goto (tgt := 42) dX11_exact_107 (by decide) ?_
            exact h
          · replace h := h.2 c
            refine ev_iconst (v := 1) dX11_exact_97 (by decide) ?_
            refine ev_goto (tgt := 102) dX11_exact_98 (by decide) ?_
            refine ev_iadd dX11_exact_102 ?_
            refine ev_istore_n (ls2 := [some (.ref 0), some (.int x1), some (.int x2), some (.int (x3 + 1)), some (.int x4)]) dX11_exact_103 (Nat.le_of_ble_eq_true rfl) rfl ?_
            refine ev_iinc (v := x4 + 1) (ls2 := [some (.ref 0), some (.int x1), some (.int x2), some (.int (x3 + 1)), some (.int (x4 + 1))]) dX11_exact_104 rfl rfl rfl ?_
            refine ev_goto (tgt := 42) dX11_exact_107 (by decide) ?_
            exact h
theorem dX11_layLines_0 : decode cX11_layLines 0 = .ok (.aload_n 0, 1) := by decide +kernel
theorem dX11_layLines_1 : decode cX11_layLines 1 = .ok (.invokevirtual 368, 3) := by decide +kernel
theorem dX11_layLines_4 : decode cX11_layLines 4 = .ok (.aload_n 0, 1) := by decide +kernel
theorem dX11_layLines_5 : decode cX11_layLines 5 = .ok (.iconst 0, 1) := by decide +kernel
theorem dX11_layLines_6 : decode cX11_layLines 6 = .ok (.putfield 457, 3) := by decide +kernel
theorem dX11_layLines_9 : decode cX11_layLines 9 = .ok (.iconst 0, 1) := by decide +kernel
theorem dX11_layLines_10 : decode cX11_layLines 10 = .ok (.istore_n 1, 1) := by decide +kernel
theorem dX11_layLines_11 : decode cX11_layLines 11 = .ok (.iload_n 1, 1) := by decide +kernel
theorem dX11_layLines_12 : decode cX11_layLines 12 = .ok (.aload_n 0, 1) := by decide +kernel
theorem dX11_layLines_13 : decode cX11_layLines 13 = .ok (.getfield 7, 3) := by decide +kernel
theorem dX11_layLines_16 : decode cX11_layLines 16 = .ok (.iconst 1, 1) := by decide +kernel
theorem dX11_layLines_17 : decode cX11_layLines 17 = .ok (.iaload, 1) := by decide +kernel
theorem dX11_layLines_18 : decode cX11_layLines 18 = .ok (.if_icmp .ge 59, 3) := by decide +kernel
theorem dX11_layLines_21 : decode cX11_layLines 21 = .ok (.aload_n 0, 1) := by decide +kernel
theorem dX11_layLines_22 : decode cX11_layLines 22 = .ok (.iload_n 1, 1) := by decide +kernel
theorem dX11_layLines_23 : decode cX11_layLines 23 = .ok (.invokevirtual 371, 3) := by decide +kernel
theorem dX11_layLines_26 : decode cX11_layLines 26 = .ok (.istore_n 2, 1) := by decide +kernel
theorem dX11_layLines_27 : decode cX11_layLines 27 = .ok (.iload_n 2, 1) := by decide +kernel
theorem dX11_layLines_28 : decode cX11_layLines 28 = .ok (.iconst (-1), 1) := by decide +kernel
theorem dX11_layLines_29 : decode cX11_layLines 29 = .ok (.if_icmp .ne 6, 3) := by decide +kernel
theorem dX11_layLines_32 : decode cX11_layLines 32 = .ok (.goto 39, 3) := by decide +kernel
theorem dX11_layLines_35 : decode cX11_layLines 35 = .ok (.aload_n 0, 1) := by decide +kernel
theorem dX11_layLines_36 : decode cX11_layLines 36 = .ok (.getfield 67, 3) := by decide +kernel
theorem dX11_layLines_39 : decode cX11_layLines 39 = .ok (.aload_n 0, 1) := by decide +kernel
theorem dX11_layLines_40 : decode cX11_layLines 40 = .ok (.getfield 457, 3) := by decide +kernel
theorem dX11_layLines_43 : decode cX11_layLines 43 = .ok (.bipush 10, 2) := by decide +kernel
theorem dX11_layLines_45 : decode cX11_layLines 45 = .ok (.aload_n 0, 1) := by decide +kernel
theorem dX11_layLines_46 : decode cX11_layLines 46 = .ok (.aload_n 0, 1) := by decide +kernel
theorem dX11_layLines_47 : decode cX11_layLines 47 = .ok (.getfield 457, 3) := by decide +kernel
theorem dX11_layLines_50 : decode cX11_layLines 50 = .ok (.iload_n 2, 1) := by decide +kernel
theorem dX11_layLines_51 : decode cX11_layLines 51 = .ok (.aload_n 0, 1) := by decide +kernel
theorem dX11_layLines_52 : decode cX11_layLines 52 = .ok (.iload_n 1, 1) := by decide +kernel
theorem dX11_layLines_53 : decode cX11_layLines 53 = .ok (.invokevirtual 380, 3) := by decide +kernel
theorem dX11_layLines_56 : decode cX11_layLines 56 = .ok (.invokevirtual 460, 3) := by decide +kernel
theorem dX11_layLines_59 : decode cX11_layLines 59 = .ok (.isub, 1) := by decide +kernel
theorem dX11_layLines_60 : decode cX11_layLines 60 = .ok (.iastore, 1) := by decide +kernel
theorem dX11_layLines_61 : decode cX11_layLines 61 = .ok (.aload_n 0, 1) := by decide +kernel
theorem dX11_layLines_62 : decode cX11_layLines 62 = .ok (.dup, 1) := by decide +kernel
theorem dX11_layLines_63 : decode cX11_layLines 63 = .ok (.getfield 457, 3) := by decide +kernel
theorem dX11_layLines_66 : decode cX11_layLines 66 = .ok (.iconst 1, 1) := by decide +kernel
theorem dX11_layLines_67 : decode cX11_layLines 67 = .ok (.iadd, 1) := by decide +kernel
theorem dX11_layLines_68 : decode cX11_layLines 68 = .ok (.putfield 457, 3) := by decide +kernel
theorem dX11_layLines_71 : decode cX11_layLines 71 = .ok (.iinc 1 1, 3) := by decide +kernel
theorem dX11_layLines_74 : decode cX11_layLines 74 = .ok (.goto (-63), 3) := by decide +kernel
theorem dX11_layLines_77 : decode cX11_layLines 77 = .ok (.return_, 1) := by decide +kernel
theorem gX11_layLines_0 {d : Nat} {M : ev_Mem} {Q : Option Value → ev_Mem → Prop} (h : (∃ Q2 : Option Value → ev_Mem → Prop, Cl LM d mX11_layStiffs [.ref 0] M Q2 ∧ ∀ (zr : Option Value) (zM : ev_Mem), Q2 zr zM → Ev LM (d + 1) mX11_layLines 4 [some (.ref 0), none, none] (zr.toList ++ []) zM Q)) : Ev LM (d + 1) mX11_layLines 0 [some (.ref 0), none, none] [] M Q := by
  refine ev_aload_n dX11_layLines_0 rfl ?_
  obtain ⟨Q2, hc, h⟩ := h
  refine ev_callV [] dX11_layLines_1 ml_WithoutEModel_368 lm_0 rfl rfl (Nat.le_of_ble_eq_true rfl) hc (fun zr zM q => ?_)
  exact h zr zM q
theorem gX11_layLines_4 {d : Nat} {M : ev_Mem} {Q : Option Value → ev_Mem → Prop} (h : (∀ M1 : ev_Mem, M1 = ev_wr M 0 32 0 → (Ev LM d mX11_layLines 11 [some (.ref 0), some (.int 0), none] [] M1 Q))) : Ev LM d mX11_layLines 4 [some (.ref 0), none, none] [] M Q := by
  refine ev_aload_n dX11_layLines_4 rfl ?_
  refine ev_iconst (v := 0) dX11_layLines_5 (by decide) ?_
  refine ev_putI dX11_layLines_6 fp_WithoutEModel_457 lm_0 rfl rfl rfl ?_
  generalize eM1 : ev_wr M 0 32 0 = M1
  replace h := h M1 eM1.symm
  refine ev_iconst (v := 0) dX11_layLines_9 (by decide) ?_
  refine ev_istore_n (ls2 := [some (.ref 0), some (.int 0), none]) dX11_layLines_10 (Nat.le_of_ble_eq_true rfl) rfl ?_
  exact h
theorem gX11_layLines_11 {d : Nat} {M : ev_Mem} {Q : Option Value → ev_Mem → Prop} {x1 : Int32} (h : ((((M.1 1 1) ≤ x1) → (Q none M)) ∧ ((¬ (M.1 1 1) ≤ x1) → (∃ Q2 : Option Value → ev_Mem → Prop, Cl LM d mX11_leastOf [.ref 0, .int x1] M Q2 ∧ ∀ (zr : Option Value) (zM : ev_Mem), Q2 zr zM → Ev LM (d + 1) mX11_layLines 26 [some (.ref 0), some (.int x1), none] (zr.toList ++ []) zM Q)))) : Ev LM (d + 1) mX11_layLines 11 [some (.ref 0), some (.int x1), none] [] M Q := by
  refine ev_iload_n dX11_layLines_11 rfl ?_
  refine ev_aload_n dX11_layLines_12 rfl ?_
  refine ev_getA dX11_layLines_13 fl_WithoutEModel_7 lm_0 rfl ?_
  refine ev_iconst (v := 1) dX11_layLines_16 (by decide) ?_
  refine ev_iaN (j := 1) dX11_layLines_17 lm_1 (by decide) (by decide) ?_
  refine ev_icmp_ge (tgt := 77) dX11_layLines_18 (by decide) (fun c => ?_) (fun c => ?_)
  · replace h := h.1 c
    exact ev_vret dX11_layLines_77 rfl h
  · replace h := h.2 c
    refine ev_aload_n dX11_layLines_21 rfl ?_
    refine ev_iload_n dX11_layLines_22 rfl ?_
    obtain ⟨Q2, hc, h⟩ := h
    refine ev_callV [.int x1] dX11_layLines_23 ml_WithoutEModel_371 lm_0 rfl rfl (Nat.le_of_ble_eq_true rfl) hc (fun zr zM q => ?_)
    exact h zr zM q
theorem gX11_layLines_26 {d : Nat} {M : ev_Mem} {Q : Option Value → ev_Mem → Prop} {x1 s0 : Int32} (h : (((¬ s0 = (-1)) → (∃ Q2 : Option Value → ev_Mem → Prop, Cl LM d mX11_secondsIn [.ref 0, .int x1] M Q2 ∧ ∀ (zr : Option Value) (zM : ev_Mem), Q2 zr zM → Ev LM (d + 1) mX11_layLines 56 [some (.ref 0), some (.int x1), none] (zr.toList ++ [(.int s0), (.int (M.1 0 32)), (.ref 0), (.int 10), (.int (M.1 0 32)), (.ref 17)]) zM Q)) ∧ ((s0 = (-1)) → (Ev LM (d + 1) mX11_layLines 11 [some (.ref 0), some (.int (x1 + 1)), none] [] M Q)))) : Ev LM (d + 1) mX11_layLines 26 [some (.ref 0), some (.int x1), none] [(.int s0)] M Q := by
  refine ev_istore_n (ls2 := [some (.ref 0), some (.int x1), some (.int s0)]) dX11_layLines_26 (Nat.le_of_ble_eq_true rfl) rfl ?_
  refine ev_iload_n dX11_layLines_27 rfl ?_
  refine ev_iconst (v := -1) dX11_layLines_28 (by decide) ?_
  refine ev_icmp_ne (tgt := 35) dX11_layLines_29 (by decide) (fun c => ?_) (fun c => ?_)
  · replace h := h.1 c
    refine ev_aload_n dX11_layLines_35 rfl ?_
    refine ev_getA dX11_layLines_36 fl_WithoutEModel_67 lm_0 rfl ?_
    refine ev_aload_n dX11_layLines_39 rfl ?_
    refine ev_getI dX11_layLines_40 fl_WithoutEModel_457 lm_0 rfl ?_
    refine ev_bipush (v := 10) dX11_layLines_43 (by decide) ?_
    refine ev_aload_n dX11_layLines_45 rfl ?_
    refine ev_aload_n dX11_layLines_46 rfl ?_
    refine ev_getI dX11_layLines_47 fl_WithoutEModel_457 lm_0 rfl ?_
    refine ev_iload_n dX11_layLines_50 rfl ?_
    refine ev_aload_n dX11_layLines_51 rfl ?_
    refine ev_iload_n dX11_layLines_52 rfl ?_
    obtain ⟨Q2, hc, h⟩ := h
    refine ev_callV [.int x1] dX11_layLines_53 ml_WithoutEModel_380 lm_0 rfl rfl (Nat.le_of_ble_eq_true rfl) hc (fun zr zM q => ?_)
    refine Ev.weak (ls := [some (.ref 0), some (.int x1), none]) ⟨rfl, rfl, trivial⟩ ?_
    exact h zr zM q
  · replace h := h.2 c
    refine ev_goto (tgt := 71) dX11_layLines_32 (by decide) ?_
    refine ev_iinc (v := x1 + 1) (ls2 := [some (.ref 0), some (.int (x1 + 1)), some (.int s0)]) dX11_layLines_71 rfl rfl rfl ?_
    refine ev_goto (tgt := 11) dX11_layLines_74 (by decide) ?_
    refine Ev.weak (ls := [some (.ref 0), some (.int (x1 + 1)), none]) ⟨rfl, rfl, trivial⟩ ?_
    exact h
theorem gX11_layLines_56 {d : Nat} {M : ev_Mem} {Q : Option Value → ev_Mem → Prop} {x1 s0 s1 s2 s4 s5 : Int32} (h : (∃ Q2 : Option Value → ev_Mem → Prop, Cl LM d mX11_noticesOf [.ref 0, .int s2, .int s1, .int s0] M Q2 ∧ ∀ (zr : Option Value) (zM : ev_Mem), Q2 zr zM → Ev LM (d + 1) mX11_layLines 59 [some (.ref 0), some (.int x1), none] (zr.toList ++ [(.int s4), (.int s5), (.ref 17)]) zM Q)) : Ev LM (d + 1) mX11_layLines 56 [some (.ref 0), some (.int x1), none] [(.int s0), (.int s1), (.int s2), (.ref 0), (.int s4), (.int s5), (.ref 17)] M Q := by
  obtain ⟨Q2, hc, h⟩ := h
  refine ev_callV [.int s2, .int s1, .int s0] dX11_layLines_56 ml_WithoutEModel_460 lm_0 rfl rfl (Nat.le_of_ble_eq_true rfl) hc (fun zr zM q => ?_)
  exact h zr zM q
theorem gX11_layLines_59 {d : Nat} {M : ev_Mem} {Q : Option Value → ev_Mem → Prop} {x1 s0 s1 s2 : Int32} (h : (vp_in s2 8 ∧ (∀ M1 : ev_Mem, M1 = ev_wr M 17 s2.toNatClampNeg (s1 - s0) → (∀ M2 : ev_Mem, M2 = ev_wr M1 0 32 ((M1.1 0 32) + 1) → (Ev LM d mX11_layLines 11 [some (.ref 0), some (.int (x1 + 1)), none] [] M2 Q))))) : Ev LM d mX11_layLines 59 [some (.ref 0), some (.int x1), none] [(.int s0), (.int s1), (.int s2), (.ref 17)] M Q := by
  refine ev_isub dX11_layLines_59 ?_
  obtain ⟨c, h⟩ := h
  refine ev_iast dX11_layLines_60 lm_17 c ?_
  generalize eM1 : ev_wr M 17 s2.toNatClampNeg (s1 - s0) = M1
  replace h := h M1 eM1.symm
  refine ev_aload_n dX11_layLines_61 rfl ?_
  refine ev_dup dX11_layLines_62 rfl ?_
  refine ev_getI dX11_layLines_63 fl_WithoutEModel_457 lm_0 rfl ?_
  refine ev_iconst (v := 1) dX11_layLines_66 (by decide) ?_
  refine ev_iadd dX11_layLines_67 ?_
  refine ev_putI dX11_layLines_68 fp_WithoutEModel_457 lm_0 rfl rfl rfl ?_
  generalize eM2 : ev_wr M1 0 32 ((M1.1 0 32) + 1) = M2
  replace h := h M2 eM2.symm
  refine ev_iinc (v := x1 + 1) (ls2 := [some (.ref 0), some (.int (x1 + 1)), none]) dX11_layLines_71 rfl rfl rfl ?_
  refine ev_goto (tgt := 11) dX11_layLines_74 (by decide) ?_
  exact h
theorem dX11_notices_0 : decode cX11_notices 0 = .ok (.aload_n 0, 1) := by decide +kernel
theorem dX11_notices_1 : decode cX11_notices 1 = .ok (.invokevirtual 465, 3) := by decide +kernel
theorem dX11_notices_4 : decode cX11_notices 4 = .ok (.iload_n 1, 1) := by decide +kernel
theorem dX11_notices_5 : decode cX11_notices 5 = .ok (.iconst 0, 1) := by decide +kernel
theorem dX11_notices_6 : decode cX11_notices 6 = .ok (.aload_n 0, 1) := by decide +kernel
theorem dX11_notices_7 : decode cX11_notices 7 = .ok (.getfield 457, 3) := by decide +kernel
theorem dX11_notices_10 : decode cX11_notices 10 = .ok (.invokestatic 80, 3) := by decide +kernel
theorem dX11_notices_13 : decode cX11_notices 13 = .ok (.ifCond .ne 7, 3) := by decide +kernel
theorem dX11_notices_16 : decode cX11_notices 16 = .ok (.ldc2_w 468, 3) := by decide +kernel
theorem dX11_notices_19 : decode cX11_notices 19 = .ok (.lreturn, 1) := by decide +kernel
theorem dX11_notices_20 : decode cX11_notices 20 = .ok (.iload_n 1, 1) := by decide +kernel
theorem dX11_notices_21 : decode cX11_notices 21 = .ok (.invokestatic 470, 3) := by decide +kernel
theorem dX11_notices_24 : decode cX11_notices 24 = .ok (.lstore_n 3, 1) := by decide +kernel
theorem dX11_notices_25 : decode cX11_notices 25 = .ok (.lload_n 3, 1) := by decide +kernel
theorem dX11_notices_26 : decode cX11_notices 26 = .ok (.aload_n 0, 1) := by decide +kernel
theorem dX11_notices_27 : decode cX11_notices 27 = .ok (.iload_n 1, 1) := by decide +kernel
theorem dX11_notices_28 : decode cX11_notices 28 = .ok (.invokevirtual 474, 3) := by decide +kernel
theorem dX11_notices_31 : decode cX11_notices 31 = .ok (.lsub, 1) := by decide +kernel
theorem dX11_notices_32 : decode cX11_notices 32 = .ok (.lstore 5, 2) := by decide +kernel
theorem dX11_notices_34 : decode cX11_notices 34 = .ok (.iload_n 2, 1) := by decide +kernel
theorem dX11_notices_35 : decode cX11_notices 35 = .ok (.ifCond .eq 7, 3) := by decide +kernel
theorem dX11_notices_38 : decode cX11_notices 38 = .ok (.lload_n 3, 1) := by decide +kernel
theorem dX11_notices_39 : decode cX11_notices 39 = .ok (.goto 5, 3) := by decide +kernel
theorem dX11_notices_42 : decode cX11_notices 42 = .ok (.lload 5, 2) := by decide +kernel
theorem dX11_notices_44 : decode cX11_notices 44 = .ok (.lload 5, 2) := by decide +kernel
theorem dX11_notices_46 : decode cX11_notices 46 = .ok (.lload_n 3, 1) := by decide +kernel
theorem dX11_notices_47 : decode cX11_notices 47 = .ok (.invokestatic 477, 3) := by decide +kernel
theorem dX11_notices_50 : decode cX11_notices 50 = .ok (.ldiv, 1) := by decide +kernel
theorem dX11_notices_51 : decode cX11_notices 51 = .ok (.lreturn, 1) := by decide +kernel
theorem gX11_notices_0 {d : Nat} {M : ev_Mem} {Q : Option Value → ev_Mem → Prop} {x1 x2 : Int32} (h : (∃ Q2 : Option Value → ev_Mem → Prop, Cl LM d mX11_layLines [.ref 0] M Q2 ∧ ∀ (zr : Option Value) (zM : ev_Mem), Q2 zr zM → Ev LM (d + 1) mX11_notices 4 [some (.ref 0), some (.int x1), some (.int x2), none, none, none, none] (zr.toList ++ []) zM Q)) : Ev LM (d + 1) mX11_notices 0 [some (.ref 0), some (.int x1), some (.int x2), none, none, none, none] [] M Q := by
  refine ev_aload_n dX11_notices_0 rfl ?_
  obtain ⟨Q2, hc, h⟩ := h
  refine ev_callV [] dX11_notices_1 ml_WithoutEModel_465 lm_0 rfl rfl (Nat.le_of_ble_eq_true rfl) hc (fun zr zM q => ?_)
  exact h zr zM q
theorem gX11_notices_4 {d : Nat} {M : ev_Mem} {Q : Option Value → ev_Mem → Prop} {x1 x2 : Int32} (h : ((((iin x1 (0 : Int32) (M.1 0 32)) = true) → (∃ Q2 : Option Value → ev_Mem → Prop, Cl LM d mX11_tens [.int x1] M Q2 ∧ ∀ (zr : Option Value) (zM : ev_Mem), Q2 zr zM → Ev LM (d + 1) mX11_notices 24 [some (.ref 0), some (.int x1), some (.int x2), none, none, none, none] (zr.toList ++ []) zM Q)) ∧ (((iin x1 (0 : Int32) (M.1 0 32)) = false) → (Q (some (.long (-1))) M)))) : Ev LM (d + 1) mX11_notices 4 [some (.ref 0), some (.int x1), some (.int x2), none, none, none, none] [] M Q := by
  refine ev_iload_n dX11_notices_4 rfl ?_
  refine ev_iconst (v := 0) dX11_notices_5 (by decide) ?_
  refine ev_aload_n dX11_notices_6 rfl ?_
  refine ev_getI dX11_notices_7 fl_WithoutEModel_457 lm_0 rfl ?_
  refine ev_callS [.int x1, .int 0, .int (M.1 0 32)] dX11_notices_10 ml_WithoutEModel_80 rfl (Nat.le_of_ble_eq_true rfl) (kX11_isIn) ?_
  rintro zr zM ⟨q1, q2⟩
  rw [q1, q2]
  show Ev LM (d + 1) mX11_notices 13 [some (.ref 0), some (.int x1), some (.int x2), none, none, none, none] [(.int (bi (iin x1 (0 : Int32) (M.1 0 32))))] M Q
  refine ev_if_ne (tgt := 20) dX11_notices_13 (by decide) (fun c => ?_) (fun c => ?_)
  · replace h := h.1 ((bi_n0 _).mp c)
    refine ev_iload_n dX11_notices_20 rfl ?_
    obtain ⟨Q2, hc, h⟩ := h
    refine ev_callS [.int x1] dX11_notices_21 ml_WithoutEModel_470 rfl (Nat.le_of_ble_eq_true rfl) hc (fun zr zM q => ?_)
    exact h zr zM q
  · replace h := h.2 ((bi_0 _).mp c)
    refine ev_ldc2 (v := -1) dX11_notices_16 cw_WithoutEModel_468 ?_
    exact ev_lret dX11_notices_19 rfl h
theorem gX11_notices_24 {d : Nat} {M : ev_Mem} {Q : Option Value → ev_Mem → Prop} {x1 x2 : Int32} {s0 : Int64} (h : (∃ Q2 : Option Value → ev_Mem → Prop, Cl LM d mX11_unseen [.ref 0, .int x1] M Q2 ∧ ∀ (zr : Option Value) (zM : ev_Mem), Q2 zr zM → Ev LM (d + 1) mX11_notices 31 [none, none, some (.int x2), some (.long s0), none, none, none] (zr.toList ++ [(.long s0)]) zM Q)) : Ev LM (d + 1) mX11_notices 24 [some (.ref 0), some (.int x1), some (.int x2), none, none, none, none] [(.long s0)] M Q := by
  refine ev_lstore_n (ls2 := [some (.ref 0), some (.int x1), some (.int x2), some (.long s0), none, none, none]) dX11_notices_24 (Nat.le_of_ble_eq_true rfl) rfl ?_
  refine ev_lload_n dX11_notices_25 rfl ?_
  refine ev_aload_n dX11_notices_26 rfl ?_
  refine ev_iload_n dX11_notices_27 rfl ?_
  obtain ⟨Q2, hc, h⟩ := h
  refine ev_callV [.int x1] dX11_notices_28 ml_WithoutEModel_474 lm_0 rfl rfl (Nat.le_of_ble_eq_true rfl) hc (fun zr zM q => ?_)
  refine Ev.weak (ls := [none, none, some (.int x2), some (.long s0), none, none, none]) ⟨rfl, rfl, trivial⟩ ?_
  exact h zr zM q
theorem gX11_notices_31 {d : Nat} {M : ev_Mem} {Q : Option Value → ev_Mem → Prop} {x2 : Int32} {x3 s0 s1 : Int64} (h : (((x2 = 0) → (∃ Q2 : Option Value → ev_Mem → Prop, Cl LM d mX11_common [.long (s1 - s0), .long x3] M Q2 ∧ ∀ (zr : Option Value) (zM : ev_Mem), Q2 zr zM → Ev LM (d + 1) mX11_notices 50 [none, none, none, none, none, none, none] (zr.toList ++ [(.long (s1 - s0))]) zM Q)) ∧ ((¬ x2 = 0) → (∃ Q2 : Option Value → ev_Mem → Prop, Cl LM d mX11_common [.long (s1 - s0), .long x3] M Q2 ∧ ∀ (zr : Option Value) (zM : ev_Mem), Q2 zr zM → Ev LM (d + 1) mX11_notices 50 [none, none, none, none, none, none, none] (zr.toList ++ [(.long x3)]) zM Q)))) : Ev LM (d + 1) mX11_notices 31 [none, none, some (.int x2), some (.long x3), none, none, none] [(.long s0), (.long s1)] M Q := by
  refine ev_lsub dX11_notices_31 ?_
  refine ev_lstore (ls2 := [none, none, some (.int x2), some (.long x3), none, some (.long (s1 - s0)), none]) dX11_notices_32 (Nat.le_of_ble_eq_true rfl) rfl ?_
  refine ev_iload_n dX11_notices_34 rfl ?_
  refine ev_if_eq (tgt := 42) dX11_notices_35 (by decide) (fun c => ?_) (fun c => ?_)
  · replace h := h.1 c
    refine ev_lload dX11_notices_42 rfl ?_
    refine ev_lload dX11_notices_44 rfl ?_
    refine ev_lload_n dX11_notices_46 rfl ?_
    obtain ⟨Q2, hc, h⟩ := h
    refine ev_callS [.long (s1 - s0), .long x3] dX11_notices_47 ml_WithoutEModel_477 rfl (Nat.le_of_ble_eq_true rfl) hc (fun zr zM q => ?_)
    refine Ev.weak (ls := [none, none, none, none, none, none, none]) trivial ?_
    exact h zr zM q
  · replace h := h.2 c
    refine ev_lload_n dX11_notices_38 rfl ?_
    refine ev_goto (tgt := 44) dX11_notices_39 (by decide) ?_
    refine ev_lload dX11_notices_44 rfl ?_
    refine ev_lload_n dX11_notices_46 rfl ?_
    obtain ⟨Q2, hc, h⟩ := h
    refine ev_callS [.long (s1 - s0), .long x3] dX11_notices_47 ml_WithoutEModel_477 rfl (Nat.le_of_ble_eq_true rfl) hc (fun zr zM q => ?_)
    refine Ev.weak (ls := [none, none, none, none, none, none, none]) trivial ?_
    exact h zr zM q
theorem gX11_notices_50 {d : Nat} {M : ev_Mem} {Q : Option Value → ev_Mem → Prop} {s0 s1 : Int64} (h : (¬ (s0 : Int64) = 0 ∧ (Q (some (.long (s1 / s0))) M))) : Ev LM d mX11_notices 50 [none, none, none, none, none, none, none] [(.long s0), (.long s1)] M Q := by
  obtain ⟨c, h⟩ := h
  refine ev_ldiv dX11_notices_50 c ?_
  exact ev_lret dX11_notices_51 rfl h
theorem dX11_lines_0 : decode cX11_lines 0 = .ok (.iload_n 1, 1) := by decide +kernel
theorem dX11_lines_1 : decode cX11_lines 1 = .ok (.iconst 0, 1) := by decide +kernel
theorem dX11_lines_2 : decode cX11_lines 2 = .ok (.bipush 100, 2) := by decide +kernel
theorem dX11_lines_4 : decode cX11_lines 4 = .ok (.invokestatic 80, 3) := by decide +kernel
theorem dX11_lines_7 : decode cX11_lines 7 = .ok (.ifCond .ne 5, 3) := by decide +kernel
theorem dX11_lines_10 : decode cX11_lines 10 = .ok (.iconst (-1), 1) := by decide +kernel
theorem dX11_lines_11 : decode cX11_lines 11 = .ok (.ireturn, 1) := by decide +kernel
theorem dX11_lines_12 : decode cX11_lines 12 = .ok (.aload_n 0, 1) := by decide +kernel
theorem dX11_lines_13 : decode cX11_lines 13 = .ok (.invokevirtual 465, 3) := by decide +kernel
theorem dX11_lines_16 : decode cX11_lines 16 = .ok (.iconst 0, 1) := by decide +kernel
theorem dX11_lines_17 : decode cX11_lines 17 = .ok (.istore_n 2, 1) := by decide +kernel
theorem dX11_lines_18 : decode cX11_lines 18 = .ok (.iload_n 2, 1) := by decide +kernel
theorem dX11_lines_19 : decode cX11_lines 19 = .ok (.aload_n 0, 1) := by decide +kernel
theorem dX11_lines_20 : decode cX11_lines 20 = .ok (.getfield 457, 3) := by decide +kernel
theorem dX11_lines_23 : decode cX11_lines 23 = .ok (.if_icmp .gt 36, 3) := by decide +kernel
theorem dX11_lines_26 : decode cX11_lines 26 = .ok (.ldc2_w 481, 3) := by decide +kernel
theorem dX11_lines_29 : decode cX11_lines 29 = .ok (.iload_n 2, 1) := by decide +kernel
theorem dX11_lines_30 : decode cX11_lines 30 = .ok (.invokestatic 470, 3) := by decide +kernel
theorem dX11_lines_33 : decode cX11_lines 33 = .ok (.aload_n 0, 1) := by decide +kernel
theorem dX11_lines_34 : decode cX11_lines 34 = .ok (.iload_n 2, 1) := by decide +kernel
theorem dX11_lines_35 : decode cX11_lines 35 = .ok (.invokevirtual 474, 3) := by decide +kernel
theorem dX11_lines_38 : decode cX11_lines 38 = .ok (.lsub, 1) := by decide +kernel
theorem dX11_lines_39 : decode cX11_lines 39 = .ok (.lmul, 1) := by decide +kernel
theorem dX11_lines_40 : decode cX11_lines 40 = .ok (.iload_n 1, 1) := by decide +kernel
theorem dX11_lines_41 : decode cX11_lines 41 = .ok (.i2l, 1) := by decide +kernel
theorem dX11_lines_42 : decode cX11_lines 42 = .ok (.iload_n 2, 1) := by decide +kernel
theorem dX11_lines_43 : decode cX11_lines 43 = .ok (.invokestatic 470, 3) := by decide +kernel
theorem dX11_lines_46 : decode cX11_lines 46 = .ok (.lmul, 1) := by decide +kernel
theorem dX11_lines_47 : decode cX11_lines 47 = .ok (.lcmp, 1) := by decide +kernel
theorem dX11_lines_48 : decode cX11_lines 48 = .ok (.ifCond .lt 5, 3) := by decide +kernel
theorem dX11_lines_51 : decode cX11_lines 51 = .ok (.iload_n 2, 1) := by decide +kernel
theorem dX11_lines_52 : decode cX11_lines 52 = .ok (.ireturn, 1) := by decide +kernel
theorem dX11_lines_53 : decode cX11_lines 53 = .ok (.iinc 2 1, 3) := by decide +kernel
theorem dX11_lines_56 : decode cX11_lines 56 = .ok (.goto (-38), 3) := by decide +kernel
theorem dX11_lines_59 : decode cX11_lines 59 = .ok (.iconst (-1), 1) := by decide +kernel
theorem dX11_lines_60 : decode cX11_lines 60 = .ok (.ireturn, 1) := by decide +kernel
theorem gX11_lines_0 {d : Nat} {M : ev_Mem} {Q : Option Value → ev_Mem → Prop} {x1 : Int32} (h : ((((iin x1 (0 : Int32) (100 : Int32)) = true) → (∃ Q2 : Option Value → ev_Mem → Prop, Cl LM d mX11_layLines [.ref 0] M Q2 ∧ ∀ (zr : Option Value) (zM : ev_Mem), Q2 zr zM → Ev LM (d + 1) mX11_lines 16 [some (.ref 0), some (.int x1), none] (zr.toList ++ []) zM Q)) ∧ (((iin x1 (0 : Int32) (100 : Int32)) = false) → (Q (some (.int (-1))) M)))) : Ev LM (d + 1) mX11_lines 0 [some (.ref 0), some (.int x1), none] [] M Q := by
  refine ev_iload_n dX11_lines_0 rfl ?_
  refine ev_iconst (v := 0) dX11_lines_1 (by decide) ?_
  refine ev_bipush (v := 100) dX11_lines_2 (by decide) ?_
  refine ev_callS [.int x1, .int 0, .int 100] dX11_lines_4 ml_WithoutEModel_80 rfl (Nat.le_of_ble_eq_true rfl) (kX11_isIn) ?_
  rintro zr zM ⟨q1, q2⟩
  rw [q1, q2]
  show Ev LM (d + 1) mX11_lines 7 [some (.ref 0), some (.int x1), none] [(.int (bi (iin x1 (0 : Int32) (100 : Int32))))] M Q
  refine ev_if_ne (tgt := 12) dX11_lines_7 (by decide) (fun c => ?_) (fun c => ?_)
  · replace h := h.1 ((bi_n0 _).mp c)
    refine ev_aload_n dX11_lines_12 rfl ?_
    obtain ⟨Q2, hc, h⟩ := h
    refine ev_callV [] dX11_lines_13 ml_WithoutEModel_465 lm_0 rfl rfl (Nat.le_of_ble_eq_true rfl) hc (fun zr zM q => ?_)
    exact h zr zM q
  · replace h := h.2 ((bi_0 _).mp c)
    refine ev_iconst (v := -1) dX11_lines_10 (by decide) ?_
    exact ev_iret dX11_lines_11 rfl h
theorem gX11_lines_16 {d : Nat} {M : ev_Mem} {Q : Option Value → ev_Mem → Prop} {x1 : Int32} (h : (Ev LM d mX11_lines 18 [some (.ref 0), some (.int x1), some (.int 0)] [] M Q)) : Ev LM d mX11_lines 16 [some (.ref 0), some (.int x1), none] [] M Q := by
  refine ev_iconst (v := 0) dX11_lines_16 (by decide) ?_
  refine ev_istore_n (ls2 := [some (.ref 0), some (.int x1), some (.int 0)]) dX11_lines_17 (Nat.le_of_ble_eq_true rfl) rfl ?_
  exact h
theorem gX11_lines_18 {d : Nat} {M : ev_Mem} {Q : Option Value → ev_Mem → Prop} {x1 x2 : Int32} (h : ((((M.1 0 32) < x2) → (Q (some (.int (-1))) M)) ∧ ((¬ (M.1 0 32) < x2) → (∃ Q2 : Option Value → ev_Mem → Prop, Cl LM d mX11_tens [.int x2] M Q2 ∧ ∀ (zr : Option Value) (zM : ev_Mem), Q2 zr zM → Ev LM (d + 1) mX11_lines 33 [some (.ref 0), some (.int x1), some (.int x2)] (zr.toList ++ [(.long 100)]) zM Q)))) : Ev LM (d + 1) mX11_lines 18 [some (.ref 0), some (.int x1), some (.int x2)] [] M Q := by
  refine ev_iload_n dX11_lines_18 rfl ?_
  refine ev_aload_n dX11_lines_19 rfl ?_
  refine ev_getI dX11_lines_20 fl_WithoutEModel_457 lm_0 rfl ?_
  refine ev_icmp_gt (tgt := 59) dX11_lines_23 (by decide) (fun c => ?_) (fun c => ?_)
  · replace h := h.1 c
    refine ev_iconst (v := -1) dX11_lines_59 (by decide) ?_
    exact ev_iret dX11_lines_60 rfl h
  · replace h := h.2 c
    refine ev_ldc2 (v := 100) dX11_lines_26 cw_WithoutEModel_481 ?_
    refine ev_iload_n dX11_lines_29 rfl ?_
    obtain ⟨Q2, hc, h⟩ := h
    refine ev_callS [.int x2] dX11_lines_30 ml_WithoutEModel_470 rfl (Nat.le_of_ble_eq_true rfl) hc (fun zr zM q => ?_)
    exact h zr zM q
theorem gX11_lines_33 {d : Nat} {M : ev_Mem} {Q : Option Value → ev_Mem → Prop} {x1 x2 : Int32} {s0 s1 : Int64} (h : (∃ Q2 : Option Value → ev_Mem → Prop, Cl LM d mX11_unseen [.ref 0, .int x2] M Q2 ∧ ∀ (zr : Option Value) (zM : ev_Mem), Q2 zr zM → Ev LM (d + 1) mX11_lines 38 [some (.ref 0), some (.int x1), some (.int x2)] (zr.toList ++ [(.long s0), (.long s1)]) zM Q)) : Ev LM (d + 1) mX11_lines 33 [some (.ref 0), some (.int x1), some (.int x2)] [(.long s0), (.long s1)] M Q := by
  refine ev_aload_n dX11_lines_33 rfl ?_
  refine ev_iload_n dX11_lines_34 rfl ?_
  obtain ⟨Q2, hc, h⟩ := h
  refine ev_callV [.int x2] dX11_lines_35 ml_WithoutEModel_474 lm_0 rfl rfl (Nat.le_of_ble_eq_true rfl) hc (fun zr zM q => ?_)
  exact h zr zM q
theorem gX11_lines_38 {d : Nat} {M : ev_Mem} {Q : Option Value → ev_Mem → Prop} {x1 x2 : Int32} {s0 s1 s2 : Int64} (h : (∃ Q2 : Option Value → ev_Mem → Prop, Cl LM d mX11_tens [.int x2] M Q2 ∧ ∀ (zr : Option Value) (zM : ev_Mem), Q2 zr zM → Ev LM (d + 1) mX11_lines 46 [some (.ref 0), some (.int x1), some (.int x2)] (zr.toList ++ [(.long ((x1 : Int32).toInt64)), (.long (s2 * (s1 - s0)))]) zM Q)) : Ev LM (d + 1) mX11_lines 38 [some (.ref 0), some (.int x1), some (.int x2)] [(.long s0), (.long s1), (.long s2)] M Q := by
  refine ev_lsub dX11_lines_38 ?_
  refine ev_lmul dX11_lines_39 ?_
  refine ev_iload_n dX11_lines_40 rfl ?_
  refine ev_i2l dX11_lines_41 ?_
  refine ev_iload_n dX11_lines_42 rfl ?_
  obtain ⟨Q2, hc, h⟩ := h
  refine ev_callS [.int x2] dX11_lines_43 ml_WithoutEModel_470 rfl (Nat.le_of_ble_eq_true rfl) hc (fun zr zM q => ?_)
  exact h zr zM q
theorem gX11_lines_46 {d : Nat} {M : ev_Mem} {Q : Option Value → ev_Mem → Prop} {x1 x2 : Int32} {s0 s1 s2 : Int64} (h : ((((lg_cmp s2 (s1 * s0)) < 0) → (Ev LM d mX11_lines 18 [some (.ref 0), some (.int x1), some (.int (x2 + 1))] [] M Q)) ∧ ((¬ (lg_cmp s2 (s1 * s0)) < 0) → (Q (some (.int x2)) M)))) : Ev LM d mX11_lines 46 [some (.ref 0), some (.int x1), some (.int x2)] [(.long s0), (.long s1), (.long s2)] M Q := by
  refine ev_lmul dX11_lines_46 ?_
  refine ev_lcmp dX11_lines_47 ?_
  refine ev_if_lt (tgt := 53) dX11_lines_48 (by decide) (fun c => ?_) (fun c => ?_)
  · replace h := h.1 c
    refine ev_iinc (v := x2 + 1) (ls2 := [some (.ref 0), some (.int x1), some (.int (x2 + 1))]) dX11_lines_53 rfl rfl rfl ?_
    refine ev_goto (tgt := 18) dX11_lines_56 (by decide) ?_
    exact h
  · replace h := h.2 c
    refine ev_iload_n dX11_lines_51 rfl ?_
    exact ev_iret dX11_lines_52 rfl h
theorem dX11_sumOf_0 : decode cX11_sumOf 0 = .ok (.iconst 0, 1) := by decide +kernel
theorem dX11_sumOf_1 : decode cX11_sumOf 1 = .ok (.istore_n 2, 1) := by decide +kernel
theorem dX11_sumOf_2 : decode cX11_sumOf 2 = .ok (.iconst 0, 1) := by decide +kernel
theorem dX11_sumOf_3 : decode cX11_sumOf 3 = .ok (.istore_n 3, 1) := by decide +kernel
theorem dX11_sumOf_4 : decode cX11_sumOf 4 = .ok (.iload_n 3, 1) := by decide +kernel
theorem dX11_sumOf_5 : decode cX11_sumOf 5 = .ok (.bipush 8, 2) := by decide +kernel
theorem dX11_sumOf_7 : decode cX11_sumOf 7 = .ok (.if_icmp .ge 27, 3) := by decide +kernel
theorem dX11_sumOf_10 : decode cX11_sumOf 10 = .ok (.iload_n 2, 1) := by decide +kernel
theorem dX11_sumOf_11 : decode cX11_sumOf 11 = .ok (.iload_n 1, 1) := by decide +kernel
theorem dX11_sumOf_12 : decode cX11_sumOf 12 = .ok (.iload_n 3, 1) := by decide +kernel
theorem dX11_sumOf_13 : decode cX11_sumOf 13 = .ok (.invokestatic 84, 3) := by decide +kernel
theorem dX11_sumOf_16 : decode cX11_sumOf 16 = .ok (.ifCond .eq 9, 3) := by decide +kernel
theorem dX11_sumOf_19 : decode cX11_sumOf 19 = .ok (.aload_n 0, 1) := by decide +kernel
theorem dX11_sumOf_20 : decode cX11_sumOf 20 = .ok (.iload_n 3, 1) := by decide +kernel
theorem dX11_sumOf_21 : decode cX11_sumOf 21 = .ok (.iaload, 1) := by decide +kernel
theorem dX11_sumOf_22 : decode cX11_sumOf 22 = .ok (.goto 4, 3) := by decide +kernel
theorem dX11_sumOf_25 : decode cX11_sumOf 25 = .ok (.iconst 0, 1) := by decide +kernel
theorem dX11_sumOf_26 : decode cX11_sumOf 26 = .ok (.iadd, 1) := by decide +kernel
theorem dX11_sumOf_27 : decode cX11_sumOf 27 = .ok (.istore_n 2, 1) := by decide +kernel
theorem dX11_sumOf_28 : decode cX11_sumOf 28 = .ok (.iinc 3 1, 3) := by decide +kernel
theorem dX11_sumOf_31 : decode cX11_sumOf 31 = .ok (.goto (-27), 3) := by decide +kernel
theorem dX11_sumOf_34 : decode cX11_sumOf 34 = .ok (.iload_n 2, 1) := by decide +kernel
theorem dX11_sumOf_35 : decode cX11_sumOf 35 = .ok (.ireturn, 1) := by decide +kernel
theorem gX11_sumOfp_0 {d : Nat} {M : ev_Mem} {Q : Option Value → ev_Mem → Prop} {x1 : Int32} (h : (Ev LM d mX11_sumOf 4 [some (.ref 18), some (.int x1), some (.int 0), some (.int 0)] [] M Q)) : Ev LM d mX11_sumOf 0 [some (.ref 18), some (.int x1), none, none] [] M Q := by
  refine ev_iconst (v := 0) dX11_sumOf_0 (by decide) ?_
  refine ev_istore_n (ls2 := [some (.ref 18), some (.int x1), some (.int 0), none]) dX11_sumOf_1 (Nat.le_of_ble_eq_true rfl) rfl ?_
  refine ev_iconst (v := 0) dX11_sumOf_2 (by decide) ?_
  refine ev_istore_n (ls2 := [some (.ref 18), some (.int x1), some (.int 0), some (.int 0)]) dX11_sumOf_3 (Nat.le_of_ble_eq_true rfl) rfl ?_
  exact h
theorem gX11_sumOfp_4 {d : Nat} {M : ev_Mem} {Q : Option Value → ev_Mem → Prop} {x1 x2 x3 : Int32} (h : (((8 ≤ x3) → (Q (some (.int x2)) M)) ∧ ((¬ 8 ≤ x3) → ((((hs x1 x3) = false) → (Ev LM (d + 1) mX11_sumOf 4 [some (.ref 18), some (.int x1), some (.int (x2 + 0)), some (.int (x3 + 1))] [] M Q)) ∧ (((hs x1 x3) = true) → (vp_in x3 8 ∧ (∀ v1 : Int32, v1 = x2 + (M.1 18 x3.toNatClampNeg) → (Ev LM (d + 1) mX11_sumOf 4 [some (.ref 18), some (.int x1), some (.int v1), some (.int (x3 + 1))] [] M Q)))))))) : Ev LM (d + 1) mX11_sumOf 4 [some (.ref 18), some (.int x1), some (.int x2), some (.int x3)] [] M Q := by
  refine ev_iload_n dX11_sumOf_4 rfl ?_
  refine ev_bipush (v := 8) dX11_sumOf_5 (by decide) ?_
  refine ev_icmp_ge (tgt := 34) dX11_sumOf_7 (by decide) (fun c => ?_) (fun c => ?_)
  · replace h := h.1 c
    refine ev_iload_n dX11_sumOf_34 rfl ?_
    exact ev_iret dX11_sumOf_35 rfl h
  · replace h := h.2 c
    refine ev_iload_n dX11_sumOf_10 rfl ?_
    refine ev_iload_n dX11_sumOf_11 rfl ?_
    refine ev_iload_n dX11_sumOf_12 rfl ?_
    refine ev_callS [.int x1, .int x3] dX11_sumOf_13 ml_WithoutEModel_84 rfl (Nat.le_of_ble_eq_true rfl) (kX11_has) ?_
    rintro zr zM ⟨q1, q2⟩
    rw [q1, q2]
    show Ev LM (d + 1) mX11_sumOf 16 [some (.ref 18), some (.int x1), some (.int x2), some (.int x3)] [(.int (bi (hs x1 x3))), (.int x2)] M Q
    refine ev_if_eq (tgt := 25) dX11_sumOf_16 (by decide) (fun c => ?_) (fun c => ?_)
    · replace h := h.1 ((bi_0 _).mp c)
      refine ev_iconst (v := 0) dX11_sumOf_25 (by decide) ?_
      refine ev_iadd dX11_sumOf_26 ?_
      refine ev_istore_n (ls2 := [some (.ref 18), some (.int x1), some (.int (x2 + 0)), some (.int x3)]) dX11_sumOf_27 (Nat.le_of_ble_eq_true rfl) rfl ?_
      refine ev_iinc (v := x3 + 1) (ls2 := [some (.ref 18), some (.int x1), some (.int (x2 + 0)), some (.int (x3 + 1))]) dX11_sumOf_28 rfl rfl rfl ?_
      refine ev_goto (tgt := 4) dX11_sumOf_31 (by decide) ?_
      exact h
    · replace h := h.2 ((bi_n0 _).mp c)
      refine ev_aload_n dX11_sumOf_19 rfl ?_
      refine ev_iload_n dX11_sumOf_20 rfl ?_
      obtain ⟨c, h⟩ := h
      refine ev_iald dX11_sumOf_21 lm_18 c ?_
      refine ev_goto (tgt := 26) dX11_sumOf_22 (by decide) ?_
      refine ev_iadd dX11_sumOf_26 ?_
      refine ev_istore_n (ls2 := [some (.ref 18), some (.int x1), some (.int (x2 + (M.1 18 x3.toNatClampNeg))), some (.int x3)]) dX11_sumOf_27 (Nat.le_of_ble_eq_true rfl) rfl ?_
      generalize ev1 : x2 + (M.1 18 x3.toNatClampNeg) = v1
      replace h := h v1 ev1.symm
      refine ev_iinc (v := x3 + 1) (ls2 := [some (.ref 18), some (.int x1), some (.int v1), some (.int (x3 + 1))]) dX11_sumOf_28 rfl rfl rfl ?_
      refine ev_goto (tgt := 4) dX11_sumOf_31 (by decide) ?_
      exact h
theorem gX11_sumOfs_0 {d : Nat} {M : ev_Mem} {Q : Option Value → ev_Mem → Prop} {x1 : Int32} (h : (Ev LM d mX11_sumOf 4 [some (.ref 19), some (.int x1), some (.int 0), some (.int 0)] [] M Q)) : Ev LM d mX11_sumOf 0 [some (.ref 19), some (.int x1), none, none] [] M Q := by
  refine ev_iconst (v := 0) dX11_sumOf_0 (by decide) ?_
  refine ev_istore_n (ls2 := [some (.ref 19), some (.int x1), some (.int 0), none]) dX11_sumOf_1 (Nat.le_of_ble_eq_true rfl) rfl ?_
  refine ev_iconst (v := 0) dX11_sumOf_2 (by decide) ?_
  refine ev_istore_n (ls2 := [some (.ref 19), some (.int x1), some (.int 0), some (.int 0)]) dX11_sumOf_3 (Nat.le_of_ble_eq_true rfl) rfl ?_
  exact h
theorem gX11_sumOfs_4 {d : Nat} {M : ev_Mem} {Q : Option Value → ev_Mem → Prop} {x1 x2 x3 : Int32} (h : (((8 ≤ x3) → (Q (some (.int x2)) M)) ∧ ((¬ 8 ≤ x3) → ((((hs x1 x3) = false) → (Ev LM (d + 1) mX11_sumOf 4 [some (.ref 19), some (.int x1), some (.int (x2 + 0)), some (.int (x3 + 1))] [] M Q)) ∧ (((hs x1 x3) = true) → (vp_in x3 8 ∧ (∀ v1 : Int32, v1 = x2 + (M.1 19 x3.toNatClampNeg) → (Ev LM (d + 1) mX11_sumOf 4 [some (.ref 19), some (.int x1), some (.int v1), some (.int (x3 + 1))] [] M Q)))))))) : Ev LM (d + 1) mX11_sumOf 4 [some (.ref 19), some (.int x1), some (.int x2), some (.int x3)] [] M Q := by
  refine ev_iload_n dX11_sumOf_4 rfl ?_
  refine ev_bipush (v := 8) dX11_sumOf_5 (by decide) ?_
  refine ev_icmp_ge (tgt := 34) dX11_sumOf_7 (by decide) (fun c => ?_) (fun c => ?_)
  · replace h := h.1 c
    refine ev_iload_n dX11_sumOf_34 rfl ?_
    exact ev_iret dX11_sumOf_35 rfl h
  · replace h := h.2 c
    refine ev_iload_n dX11_sumOf_10 rfl ?_
    refine ev_iload_n dX11_sumOf_11 rfl ?_
    refine ev_iload_n dX11_sumOf_12 rfl ?_
    refine ev_callS [.int x1, .int x3] dX11_sumOf_13 ml_WithoutEModel_84 rfl (Nat.le_of_ble_eq_true rfl) (kX11_has) ?_
    rintro zr zM ⟨q1, q2⟩
    rw [q1, q2]
    show Ev LM (d + 1) mX11_sumOf 16 [some (.ref 19), some (.int x1), some (.int x2), some (.int x3)] [(.int (bi (hs x1 x3))), (.int x2)] M Q
    refine ev_if_eq (tgt := 25) dX11_sumOf_16 (by decide) (fun c => ?_) (fun c => ?_)
    · replace h := h.1 ((bi_0 _).mp c)
      refine ev_iconst (v := 0) dX11_sumOf_25 (by decide) ?_
      refine ev_iadd dX11_sumOf_26 ?_
      refine ev_istore_n (ls2 := [some (.ref 19), some (.int x1), some (.int (x2 + 0)), some (.int x3)]) dX11_sumOf_27 (Nat.le_of_ble_eq_true rfl) rfl ?_
      refine ev_iinc (v := x3 + 1) (ls2 := [some (.ref 19), some (.int x1), some (.int (x2 + 0)), some (.int (x3 + 1))]) dX11_sumOf_28 rfl rfl rfl ?_
      refine ev_goto (tgt := 4) dX11_sumOf_31 (by decide) ?_
      exact h
    · replace h := h.2 ((bi_n0 _).mp c)
      refine ev_aload_n dX11_sumOf_19 rfl ?_
      refine ev_iload_n dX11_sumOf_20 rfl ?_
      obtain ⟨c, h⟩ := h
      refine ev_iald dX11_sumOf_21 lm_19 c ?_
      refine ev_goto (tgt := 26) dX11_sumOf_22 (by decide) ?_
      refine ev_iadd dX11_sumOf_26 ?_
      refine ev_istore_n (ls2 := [some (.ref 19), some (.int x1), some (.int (x2 + (M.1 19 x3.toNatClampNeg))), some (.int x3)]) dX11_sumOf_27 (Nat.le_of_ble_eq_true rfl) rfl ?_
      generalize ev1 : x2 + (M.1 19 x3.toNatClampNeg) = v1
      replace h := h v1 ev1.symm
      refine ev_iinc (v := x3 + 1) (ls2 := [some (.ref 19), some (.int x1), some (.int v1), some (.int (x3 + 1))]) dX11_sumOf_28 rfl rfl rfl ?_
      refine ev_goto (tgt := 4) dX11_sumOf_31 (by decide) ?_
      exact h
theorem dX11_line_0 : decode cX11_line 0 = .ok (.iload_n 1, 1) := by decide +kernel
theorem dX11_line_1 : decode cX11_line 1 = .ok (.iconst 0, 1) := by decide +kernel
theorem dX11_line_2 : decode cX11_line 2 = .ok (.sipush 999, 3) := by decide +kernel
theorem dX11_line_5 : decode cX11_line 5 = .ok (.invokestatic 80, 3) := by decide +kernel
theorem dX11_line_8 : decode cX11_line 8 = .ok (.ifCond .ne 5, 3) := by decide +kernel
theorem dX11_line_11 : decode cX11_line 11 = .ok (.iconst (-1), 1) := by decide +kernel
theorem dX11_line_12 : decode cX11_line 12 = .ok (.ireturn, 1) := by decide +kernel
theorem dX11_line_13 : decode cX11_line 13 = .ok (.aload_n 0, 1) := by decide +kernel
theorem dX11_line_14 : decode cX11_line 14 = .ok (.invokevirtual 368, 3) := by decide +kernel
theorem dX11_line_17 : decode cX11_line 17 = .ok (.iconst 0, 1) := by decide +kernel
theorem dX11_line_18 : decode cX11_line 18 = .ok (.istore_n 3, 1) := by decide +kernel
theorem dX11_line_19 : decode cX11_line 19 = .ok (.iconst 0, 1) := by decide +kernel
theorem dX11_line_20 : decode cX11_line 20 = .ok (.istore 4, 2) := by decide +kernel
theorem dX11_line_22 : decode cX11_line 22 = .ok (.iload 4, 2) := by decide +kernel
theorem dX11_line_24 : decode cX11_line 24 = .ok (.aload_n 0, 1) := by decide +kernel
theorem dX11_line_25 : decode cX11_line 25 = .ok (.getfield 7, 3) := by decide +kernel
theorem dX11_line_28 : decode cX11_line 28 = .ok (.iconst 1, 1) := by decide +kernel
theorem dX11_line_29 : decode cX11_line 29 = .ok (.iaload, 1) := by decide +kernel
theorem dX11_line_30 : decode cX11_line 30 = .ok (.if_icmp .ge 55, 3) := by decide +kernel
theorem dX11_line_33 : decode cX11_line 33 = .ok (.aload_n 0, 1) := by decide +kernel
theorem dX11_line_34 : decode cX11_line 34 = .ok (.iload 4, 2) := by decide +kernel
theorem dX11_line_36 : decode cX11_line 36 = .ok (.invokevirtual 371, 3) := by decide +kernel
theorem dX11_line_39 : decode cX11_line 39 = .ok (.iconst (-1), 1) := by decide +kernel
theorem dX11_line_40 : decode cX11_line 40 = .ok (.if_icmp .ne 6, 3) := by decide +kernel
theorem dX11_line_43 : decode cX11_line 43 = .ok (.goto 36, 3) := by decide +kernel
theorem dX11_line_46 : decode cX11_line 46 = .ok (.iload_n 3, 1) := by decide +kernel
theorem dX11_line_47 : decode cX11_line 47 = .ok (.iconst 1, 1) := by decide +kernel
theorem dX11_line_48 : decode cX11_line 48 = .ok (.iload 4, 2) := by decide +kernel
theorem dX11_line_50 : decode cX11_line 50 = .ok (.ishl, 1) := by decide +kernel
theorem dX11_line_51 : decode cX11_line 51 = .ok (.ior, 1) := by decide +kernel
theorem dX11_line_52 : decode cX11_line 52 = .ok (.istore_n 3, 1) := by decide +kernel
theorem dX11_line_53 : decode cX11_line 53 = .ok (.aload_n 0, 1) := by decide +kernel
theorem dX11_line_54 : decode cX11_line 54 = .ok (.getfield 70, 3) := by decide +kernel
theorem dX11_line_57 : decode cX11_line 57 = .ok (.iload 4, 2) := by decide +kernel
theorem dX11_line_59 : decode cX11_line 59 = .ok (.aload_n 0, 1) := by decide +kernel
theorem dX11_line_60 : decode cX11_line 60 = .ok (.iload 4, 2) := by decide +kernel
theorem dX11_line_62 : decode cX11_line 62 = .ok (.invokevirtual 490, 3) := by decide +kernel
theorem dX11_line_65 : decode cX11_line 65 = .ok (.iastore, 1) := by decide +kernel
theorem dX11_line_66 : decode cX11_line 66 = .ok (.aload_n 0, 1) := by decide +kernel
theorem dX11_line_67 : decode cX11_line 67 = .ok (.getfield 73, 3) := by decide +kernel
theorem dX11_line_70 : decode cX11_line 70 = .ok (.iload 4, 2) := by decide +kernel
theorem dX11_line_72 : decode cX11_line 72 = .ok (.aload_n 0, 1) := by decide +kernel
theorem dX11_line_73 : decode cX11_line 73 = .ok (.iload 4, 2) := by decide +kernel
theorem dX11_line_75 : decode cX11_line 75 = .ok (.invokevirtual 380, 3) := by decide +kernel
theorem dX11_line_78 : decode cX11_line 78 = .ok (.iastore, 1) := by decide +kernel
theorem dX11_line_79 : decode cX11_line 79 = .ok (.iinc 4 1, 3) := by decide +kernel
theorem dX11_line_82 : decode cX11_line 82 = .ok (.goto (-60), 3) := by decide +kernel
theorem dX11_line_85 : decode cX11_line 85 = .ok (.iconst 0, 1) := by decide +kernel
theorem dX11_line_86 : decode cX11_line 86 = .ok (.istore 4, 2) := by decide +kernel
theorem dX11_line_88 : decode cX11_line 88 = .ok (.iconst 1, 1) := by decide +kernel
theorem dX11_line_89 : decode cX11_line 89 = .ok (.istore 5, 2) := by decide +kernel
theorem dX11_line_91 : decode cX11_line 91 = .ok (.iload 5, 2) := by decide +kernel
theorem dX11_line_93 : decode cX11_line 93 = .ok (.iload_n 3, 1) := by decide +kernel
theorem dX11_line_94 : decode cX11_line 94 = .ok (.if_icmp .gt 90, 3) := by decide +kernel
theorem dX11_line_97 : decode cX11_line 97 = .ok (.iload 5, 2) := by decide +kernel
theorem dX11_line_99 : decode cX11_line 99 = .ok (.iload_n 3, 1) := by decide +kernel
theorem dX11_line_100 : decode cX11_line 100 = .ok (.iconst (-1), 1) := by decide +kernel
theorem dX11_line_101 : decode cX11_line 101 = .ok (.ixor, 1) := by decide +kernel
theorem dX11_line_102 : decode cX11_line 102 = .ok (.iand, 1) := by decide +kernel
theorem dX11_line_103 : decode cX11_line 103 = .ok (.ifCond .ne 75, 3) := by decide +kernel
theorem dX11_line_106 : decode cX11_line 106 = .ok (.aload_n 0, 1) := by decide +kernel
theorem dX11_line_107 : decode cX11_line 107 = .ok (.getfield 70, 3) := by decide +kernel
theorem dX11_line_110 : decode cX11_line 110 = .ok (.iload 5, 2) := by decide +kernel
theorem dX11_line_112 : decode cX11_line 112 = .ok (.invokestatic 496, 3) := by decide +kernel
theorem dX11_line_115 : decode cX11_line 115 = .ok (.iload_n 1, 1) := by decide +kernel
theorem dX11_line_116 : decode cX11_line 116 = .ok (.if_icmp .le 6, 3) := by decide +kernel
theorem dX11_line_119 : decode cX11_line 119 = .ok (.goto 59, 3) := by decide +kernel
theorem dX11_line_122 : decode cX11_line 122 = .ok (.aload_n 0, 1) := by decide +kernel
theorem dX11_line_123 : decode cX11_line 123 = .ok (.getfield 73, 3) := by decide +kernel
theorem dX11_line_126 : decode cX11_line 126 = .ok (.iload 5, 2) := by decide +kernel
theorem dX11_line_128 : decode cX11_line 128 = .ok (.invokestatic 496, 3) := by decide +kernel
theorem dX11_line_131 : decode cX11_line 131 = .ok (.aload_n 0, 1) := by decide +kernel
theorem dX11_line_132 : decode cX11_line 132 = .ok (.getfield 73, 3) := by decide +kernel
theorem dX11_line_135 : decode cX11_line 135 = .ok (.iload 4, 2) := by decide +kernel
theorem dX11_line_137 : decode cX11_line 137 = .ok (.invokestatic 496, 3) := by decide +kernel
theorem dX11_line_140 : decode cX11_line 140 = .ok (.isub, 1) := by decide +kernel
theorem dX11_line_141 : decode cX11_line 141 = .ok (.istore 6, 2) := by decide +kernel
theorem dX11_line_143 : decode cX11_line 143 = .ok (.iload 6, 2) := by decide +kernel
theorem dX11_line_145 : decode cX11_line 145 = .ok (.ifCond .gt 29, 3) := by decide +kernel
theorem dX11_line_148 : decode cX11_line 148 = .ok (.iload 6, 2) := by decide +kernel
theorem dX11_line_150 : decode cX11_line 150 = .ok (.ifCond .ne 28, 3) := by decide +kernel
theorem dX11_line_153 : decode cX11_line 153 = .ok (.aload_n 0, 1) := by decide +kernel
theorem dX11_line_154 : decode cX11_line 154 = .ok (.getfield 70, 3) := by decide +kernel
theorem dX11_line_157 : decode cX11_line 157 = .ok (.iload 5, 2) := by decide +kernel
theorem dX11_line_159 : decode cX11_line 159 = .ok (.invokestatic 496, 3) := by decide +kernel
theorem dX11_line_162 : decode cX11_line 162 = .ok (.aload_n 0, 1) := by decide +kernel
theorem dX11_line_163 : decode cX11_line 163 = .ok (.getfield 70, 3) := by decide +kernel
theorem dX11_line_166 : decode cX11_line 166 = .ok (.iload 4, 2) := by decide +kernel
theorem dX11_line_168 : decode cX11_line 168 = .ok (.invokestatic 496, 3) := by decide +kernel
theorem dX11_line_171 : decode cX11_line 171 = .ok (.if_icmp .ge 7, 3) := by decide +kernel
theorem dX11_line_174 : decode cX11_line 174 = .ok (.iload 5, 2) := by decide +kernel
theorem dX11_line_176 : decode cX11_line 176 = .ok (.istore 4, 2) := by decide +kernel
theorem dX11_line_178 : decode cX11_line 178 = .ok (.iinc 5 1, 3) := by decide +kernel
theorem dX11_line_181 : decode cX11_line 181 = .ok (.goto (-90), 3) := by decide +kernel
theorem dX11_line_184 : decode cX11_line 184 = .ok (.iload_n 2, 1) := by decide +kernel
theorem dX11_line_185 : decode cX11_line 185 = .ok (.ifCond .eq 15, 3) := by decide +kernel
theorem dX11_line_188 : decode cX11_line 188 = .ok (.aload_n 0, 1) := by decide +kernel
theorem dX11_line_189 : decode cX11_line 189 = .ok (.getfield 73, 3) := by decide +kernel
theorem dX11_line_192 : decode cX11_line 192 = .ok (.iload 4, 2) := by decide +kernel
theorem dX11_line_194 : decode cX11_line 194 = .ok (.invokestatic 496, 3) := by decide +kernel
theorem dX11_line_197 : decode cX11_line 197 = .ok (.goto 5, 3) := by decide +kernel
theorem dX11_line_200 : decode cX11_line 200 = .ok (.iload 4, 2) := by decide +kernel
theorem dX11_line_202 : decode cX11_line 202 = .ok (.ireturn, 1) := by decide +kernel
theorem gX11_line_0 {d : Nat} {M : ev_Mem} {Q : Option Value → ev_Mem → Prop} {x1 x2 : Int32} (h : ((((iin x1 (0 : Int32) (999 : Int32)) = true) → (∃ Q2 : Option Value → ev_Mem → Prop, Cl LM d mX11_layStiffs [.ref 0] M Q2 ∧ ∀ (zr : Option Value) (zM : ev_Mem), Q2 zr zM → Ev LM (d + 1) mX11_line 17 [some (.ref 0), some (.int x1), some (.int x2), none, none, none, none] (zr.toList ++ []) zM Q)) ∧ (((iin x1 (0 : Int32) (999 : Int32)) = false) → (Q (some (.int (-1))) M)))) : Ev LM (d + 1) mX11_line 0 [some (.ref 0), some (.int x1), some (.int x2), none, none, none, none] [] M Q := by
  refine ev_iload_n dX11_line_0 rfl ?_
  refine ev_iconst (v := 0) dX11_line_1 (by decide) ?_
  refine ev_sipush (v := 999) dX11_line_2 (by decide) ?_
  refine ev_callS [.int x1, .int 0, .int 999] dX11_line_5 ml_WithoutEModel_80 rfl (Nat.le_of_ble_eq_true rfl) (kX11_isIn) ?_
  rintro zr zM ⟨q1, q2⟩
  rw [q1, q2]
  show Ev LM (d + 1) mX11_line 8 [some (.ref 0), some (.int x1), some (.int x2), none, none, none, none] [(.int (bi (iin x1 (0 : Int32) (999 : Int32))))] M Q
  refine ev_if_ne (tgt := 13) dX11_line_8 (by decide) (fun c => ?_) (fun c => ?_)
  · replace h := h.1 ((bi_n0 _).mp c)
    refine ev_aload_n dX11_line_13 rfl ?_
    obtain ⟨Q2, hc, h⟩ := h
    refine ev_callV [] dX11_line_14 ml_WithoutEModel_368 lm_0 rfl rfl (Nat.le_of_ble_eq_true rfl) hc (fun zr zM q => ?_)
    exact h zr zM q
  · replace h := h.2 ((bi_0 _).mp c)
    refine ev_iconst (v := -1) dX11_line_11 (by decide) ?_
    exact ev_iret dX11_line_12 rfl h
theorem gX11_line_17 {d : Nat} {M : ev_Mem} {Q : Option Value → ev_Mem → Prop} {x1 x2 : Int32} (h : (Ev LM d mX11_line 22 [some (.ref 0), some (.int x1), some (.int x2), some (.int 0), some (.int 0), none, none] [] M Q)) : Ev LM d mX11_line 17 [some (.ref 0), some (.int x1), some (.int x2), none, none, none, none] [] M Q := by
  refine ev_iconst (v := 0) dX11_line_17 (by decide) ?_
  refine ev_istore_n (ls2 := [some (.ref 0), some (.int x1), some (.int x2), some (.int 0), none, none, none]) dX11_line_18 (Nat.le_of_ble_eq_true rfl) rfl ?_
  refine ev_iconst (v := 0) dX11_line_19 (by decide) ?_
  refine ev_istore (ls2 := [some (.ref 0), some (.int x1), some (.int x2), some (.int 0), some (.int 0), none, none]) dX11_line_20 (Nat.le_of_ble_eq_true rfl) rfl ?_
  exact h
theorem gX11_line_22 {d : Nat} {M : ev_Mem} {Q : Option Value → ev_Mem → Prop} {x1 x2 x3 x4 : Int32} (h : ((((M.1 1 1) ≤ x4) → (Ev LM (d + 1) mX11_line 91 [some (.ref 0), some (.int x1), some (.int x2), some (.int x3), some (.int 0), some (.int 1), none] [] M Q)) ∧ ((¬ (M.1 1 1) ≤ x4) → (∃ Q2 : Option Value → ev_Mem → Prop, Cl LM d mX11_leastOf [.ref 0, .int x4] M Q2 ∧ ∀ (zr : Option Value) (zM : ev_Mem), Q2 zr zM → Ev LM (d + 1) mX11_line 39 [some (.ref 0), some (.int x1), some (.int x2), some (.int x3), some (.int x4), none, none] (zr.toList ++ []) zM Q)))) : Ev LM (d + 1) mX11_line 22 [some (.ref 0), some (.int x1), some (.int x2), some (.int x3), some (.int x4), none, none] [] M Q := by
  refine ev_iload dX11_line_22 rfl ?_
  refine ev_aload_n dX11_line_24 rfl ?_
  refine ev_getA dX11_line_25 fl_WithoutEModel_7 lm_0 rfl ?_
  refine ev_iconst (v := 1) dX11_line_28 (by decide) ?_
  refine ev_iaN (j := 1) dX11_line_29 lm_1 (by decide) (by decide) ?_
  refine ev_icmp_ge (tgt := 85) dX11_line_30 (by decide) (fun c => ?_) (fun c => ?_)
  · replace h := h.1 c
    refine ev_iconst (v := 0) dX11_line_85 (by decide) ?_
    refine ev_istore (ls2 := [some (.ref 0), some (.int x1), some (.int x2), some (.int x3), some (.int 0), none, none]) dX11_line_86 (Nat.le_of_ble_eq_true rfl) rfl ?_
    refine ev_iconst (v := 1) dX11_line_88 (by decide) ?_
    refine ev_istore (ls2 := [some (.ref 0), some (.int x1), some (.int x2), some (.int x3), some (.int 0), some (.int 1), none]) dX11_line_89 (Nat.le_of_ble_eq_true rfl) rfl ?_
    exact h
  · replace h := h.2 c
    refine ev_aload_n dX11_line_33 rfl ?_
    refine ev_iload dX11_line_34 rfl ?_
    obtain ⟨Q2, hc, h⟩ := h
    refine ev_callV [.int x4] dX11_line_36 ml_WithoutEModel_371 lm_0 rfl rfl (Nat.le_of_ble_eq_true rfl) hc (fun zr zM q => ?_)
    exact h zr zM q
theorem gX11_line_91 {d : Nat} {M : ev_Mem} {Q : Option Value → ev_Mem → Prop} {x1 x2 x3 x4 x5 : Int32} (h : (((x3 < x5) → (((x2 = 0) → (Q (some (.int x4)) M)) ∧ ((¬ x2 = 0) → (∃ Q2 : Option Value → ev_Mem → Prop, Cl LM d mX11_sumOf [.ref 19, .int x4] M Q2 ∧ ∀ (zr : Option Value) (zM : ev_Mem), Q2 zr zM → Ev LM (d + 1) mX11_line 197 [none, none, none, none, none, none, none] (zr.toList ++ []) zM Q)))) ∧ ((¬ x3 < x5) → (((¬ (x5 &&& (x3 ^^^ (-1))) = 0) → (Ev LM (d + 1) mX11_line 91 [some (.ref 0), some (.int x1), some (.int x2), some (.int x3), some (.int x4), some (.int (x5 + 1)), none] [] M Q)) ∧ (((x5 &&& (x3 ^^^ (-1))) = 0) → (∃ Q2 : Option Value → ev_Mem → Prop, Cl LM d mX11_sumOf [.ref 18, .int x5] M Q2 ∧ ∀ (zr : Option Value) (zM : ev_Mem), Q2 zr zM → Ev LM (d + 1) mX11_line 115 [some (.ref 0), some (.int x1), some (.int x2), some (.int x3), some (.int x4), some (.int x5), none] (zr.toList ++ []) zM Q)))))) : Ev LM (d + 1) mX11_line 91 [some (.ref 0), some (.int x1), some (.int x2), some (.int x3), some (.int x4), some (.int x5), none] [] M Q := by
  refine ev_iload dX11_line_91 rfl ?_
  refine ev_iload_n dX11_line_93 rfl ?_
  refine ev_icmp_gt (tgt := 184) dX11_line_94 (by decide) (fun c => ?_) (fun c => ?_)
  · replace h := h.1 c
    refine ev_iload_n dX11_line_184 rfl ?_
    refine ev_if_eq (tgt := 200) dX11_line_185 (by decide) (fun c => ?_) (fun c => ?_)
    · replace h := h.1 c
      refine ev_iload dX11_line_200 rfl ?_
      exact ev_iret dX11_line_202 rfl h
    · replace h := h.2 c
      refine ev_aload_n dX11_line_188 rfl ?_
      refine ev_getA dX11_line_189 fl_WithoutEModel_73 lm_0 rfl ?_
      refine ev_iload dX11_line_192 rfl ?_
      obtain ⟨Q2, hc, h⟩ := h
      refine ev_callS [.ref 19, .int x4] dX11_line_194 ml_WithoutEModel_496 rfl (Nat.le_of_ble_eq_true rfl) hc (fun zr zM q => ?_)
      refine Ev.weak (ls := [none, none, none, none, none, none, none]) trivial ?_
      exact h zr zM q
  · replace h := h.2 c
    refine ev_iload dX11_line_97 rfl ?_
    refine ev_iload_n dX11_line_99 rfl ?_
    refine ev_iconst (v := -1) dX11_line_100 (by decide) ?_
    refine ev_ixor dX11_line_101 ?_
    refine ev_iand dX11_line_102 ?_
    refine ev_if_ne (tgt := 178) dX11_line_103 (by decide) (fun c => ?_) (fun c => ?_)
    · replace h := h.1 c
      refine ev_iinc (v := x5 + 1) (ls2 := [some (.ref 0), some (.int x1), some (.int x2), some (.int x3), some (.int x4), some (.int (x5 + 1)), none]) dX11_line_178 rfl rfl rfl ?_
      refine ev_goto (tgt := 91) dX11_line_181 (by decide) ?_
      exact h
    · replace h := h.2 c
      refine ev_aload_n dX11_line_106 rfl ?_
      refine ev_getA dX11_line_107 fl_WithoutEModel_70 lm_0 rfl ?_
      refine ev_iload dX11_line_110 rfl ?_
      obtain ⟨Q2, hc, h⟩ := h
      refine ev_callS [.ref 18, .int x5] dX11_line_112 ml_WithoutEModel_496 rfl (Nat.le_of_ble_eq_true rfl) hc (fun zr zM q => ?_)
      exact h zr zM q
theorem gX11_line_39 {d : Nat} {M : ev_Mem} {Q : Option Value → ev_Mem → Prop} {x1 x2 x3 x4 s0 : Int32} (h : (((¬ s0 = (-1)) → (∀ v1 : Int32, v1 = x3 ||| (1 <<< (x4 &&& 31)) → (∃ Q2 : Option Value → ev_Mem → Prop, Cl LM d mX11_penceOf [.ref 0, .int x4] M Q2 ∧ ∀ (zr : Option Value) (zM : ev_Mem), Q2 zr zM → Ev LM (d + 1) mX11_line 65 [some (.ref 0), some (.int x1), some (.int x2), some (.int v1), some (.int x4), none, none] (zr.toList ++ [(.int x4), (.ref 18)]) zM Q))) ∧ ((s0 = (-1)) → (Ev LM (d + 1) mX11_line 22 [some (.ref 0), some (.int x1), some (.int x2), some (.int x3), some (.int (x4 + 1)), none, none] [] M Q)))) : Ev LM (d + 1) mX11_line 39 [some (.ref 0), some (.int x1), some (.int x2), some (.int x3), some (.int x4), none, none] [(.int s0)] M Q := by
  refine ev_iconst (v := -1) dX11_line_39 (by decide) ?_
  refine ev_icmp_ne (tgt := 46) dX11_line_40 (by decide) (fun c => ?_) (fun c => ?_)
  · replace h := h.1 c
    refine ev_iload_n dX11_line_46 rfl ?_
    refine ev_iconst (v := 1) dX11_line_47 (by decide) ?_
    refine ev_iload dX11_line_48 rfl ?_
    refine ev_ishl dX11_line_50 ?_
    refine ev_ior dX11_line_51 ?_
    refine ev_istore_n (ls2 := [some (.ref 0), some (.int x1), some (.int x2), some (.int (x3 ||| (1 <<< (x4 &&& 31)))), some (.int x4), none, none]) dX11_line_52 (Nat.le_of_ble_eq_true rfl) rfl ?_
    generalize ev1 : x3 ||| (1 <<< (x4 &&& 31)) = v1
    replace h := h v1 ev1.symm
    refine ev_aload_n dX11_line_53 rfl ?_
    refine ev_getA dX11_line_54 fl_WithoutEModel_70 lm_0 rfl ?_
    refine ev_iload dX11_line_57 rfl ?_
    refine ev_aload_n dX11_line_59 rfl ?_
    refine ev_iload dX11_line_60 rfl ?_
    obtain ⟨Q2, hc, h⟩ := h
    refine ev_callV [.int x4] dX11_line_62 ml_WithoutEModel_490 lm_0 rfl rfl (Nat.le_of_ble_eq_true rfl) hc (fun zr zM q => ?_)
    exact h zr zM q
  · replace h := h.2 c
    refine ev_goto (tgt := 79) dX11_line_43 (by decide) ?_
    refine ev_iinc (v := x4 + 1) (ls2 := [some (.ref 0), some (.int x1), some (.int x2), some (.int x3), some (.int (x4 + 1)), none, none]) dX11_line_79 rfl rfl rfl ?_
    refine ev_goto (tgt := 22) dX11_line_82 (by decide) ?_
    exact h
theorem gX11_line_197 {d : Nat} {M : ev_Mem} {Q : Option Value → ev_Mem → Prop} {s0 : Int32} (h : (Q (some (.int s0)) M)) : Ev LM d mX11_line 197 [none, none, none, none, none, none, none] [(.int s0)] M Q := by
  refine ev_goto (tgt := 202) dX11_line_197 (by decide) ?_
  exact ev_iret dX11_line_202 rfl h
theorem gX11_line_115 {d : Nat} {M : ev_Mem} {Q : Option Value → ev_Mem → Prop} {x1 x2 x3 x4 x5 s0 : Int32} (h : (((s0 ≤ x1) → (∃ Q2 : Option Value → ev_Mem → Prop, Cl LM d mX11_sumOf [.ref 19, .int x5] M Q2 ∧ ∀ (zr : Option Value) (zM : ev_Mem), Q2 zr zM → Ev LM (d + 1) mX11_line 131 [some (.ref 0), some (.int x1), some (.int x2), some (.int x3), some (.int x4), some (.int x5), none] (zr.toList ++ []) zM Q)) ∧ ((¬ s0 ≤ x1) → (Ev LM (d + 1) mX11_line 91 [some (.ref 0), some (.int x1), some (.int x2), some (.int x3), some (.int x4), some (.int (x5 + 1)), none] [] M Q)))) : Ev LM (d + 1) mX11_line 115 [some (.ref 0), some (.int x1), some (.int x2), some (.int x3), some (.int x4), some (.int x5), none] [(.int s0)] M Q := by
  refine ev_iload_n dX11_line_115 rfl ?_
  refine ev_icmp_le (tgt := 122) dX11_line_116 (by decide) (fun c => ?_) (fun c => ?_)
  · replace h := h.1 c
    refine ev_aload_n dX11_line_122 rfl ?_
    refine ev_getA dX11_line_123 fl_WithoutEModel_73 lm_0 rfl ?_
    refine ev_iload dX11_line_126 rfl ?_
    obtain ⟨Q2, hc, h⟩ := h
    refine ev_callS [.ref 19, .int x5] dX11_line_128 ml_WithoutEModel_496 rfl (Nat.le_of_ble_eq_true rfl) hc (fun zr zM q => ?_)
    exact h zr zM q
  · replace h := h.2 c
    refine ev_goto (tgt := 178) dX11_line_119 (by decide) ?_
    refine ev_iinc (v := x5 + 1) (ls2 := [some (.ref 0), some (.int x1), some (.int x2), some (.int x3), some (.int x4), some (.int (x5 + 1)), none]) dX11_line_178 rfl rfl rfl ?_
    refine ev_goto (tgt := 91) dX11_line_181 (by decide) ?_
    exact h
theorem gX11_line_65 {d : Nat} {M : ev_Mem} {Q : Option Value → ev_Mem → Prop} {x1 x2 x3 x4 s0 s1 : Int32} (h : (vp_in s1 8 ∧ (∀ M1 : ev_Mem, M1 = ev_wr M 18 s1.toNatClampNeg s0 → (∃ Q2 : Option Value → ev_Mem → Prop, Cl LM d mX11_secondsIn [.ref 0, .int x4] M1 Q2 ∧ ∀ (zr : Option Value) (zM : ev_Mem), Q2 zr zM → Ev LM (d + 1) mX11_line 78 [some (.ref 0), some (.int x1), some (.int x2), some (.int x3), some (.int x4), none, none] (zr.toList ++ [(.int x4), (.ref 19)]) zM Q)))) : Ev LM (d + 1) mX11_line 65 [some (.ref 0), some (.int x1), some (.int x2), some (.int x3), some (.int x4), none, none] [(.int s0), (.int s1), (.ref 18)] M Q := by
  obtain ⟨c, h⟩ := h
  refine ev_iast dX11_line_65 lm_18 c ?_
  generalize eM1 : ev_wr M 18 s1.toNatClampNeg s0 = M1
  replace h := h M1 eM1.symm
  refine ev_aload_n dX11_line_66 rfl ?_
  refine ev_getA dX11_line_67 fl_WithoutEModel_73 lm_0 rfl ?_
  refine ev_iload dX11_line_70 rfl ?_
  refine ev_aload_n dX11_line_72 rfl ?_
  refine ev_iload dX11_line_73 rfl ?_
  obtain ⟨Q2, hc, h⟩ := h
  refine ev_callV [.int x4] dX11_line_75 ml_WithoutEModel_380 lm_0 rfl rfl (Nat.le_of_ble_eq_true rfl) hc (fun zr zM q => ?_)
  exact h zr zM q
theorem gX11_line_131 {d : Nat} {M : ev_Mem} {Q : Option Value → ev_Mem → Prop} {x1 x2 x3 x4 x5 s0 : Int32} (h : (∃ Q2 : Option Value → ev_Mem → Prop, Cl LM d mX11_sumOf [.ref 19, .int x4] M Q2 ∧ ∀ (zr : Option Value) (zM : ev_Mem), Q2 zr zM → Ev LM (d + 1) mX11_line 140 [some (.ref 0), some (.int x1), some (.int x2), some (.int x3), some (.int x4), some (.int x5), none] (zr.toList ++ [(.int s0)]) zM Q)) : Ev LM (d + 1) mX11_line 131 [some (.ref 0), some (.int x1), some (.int x2), some (.int x3), some (.int x4), some (.int x5), none] [(.int s0)] M Q := by
  refine ev_aload_n dX11_line_131 rfl ?_
  refine ev_getA dX11_line_132 fl_WithoutEModel_73 lm_0 rfl ?_
  refine ev_iload dX11_line_135 rfl ?_
  obtain ⟨Q2, hc, h⟩ := h
  refine ev_callS [.ref 19, .int x4] dX11_line_137 ml_WithoutEModel_496 rfl (Nat.le_of_ble_eq_true rfl) hc (fun zr zM q => ?_)
  exact h zr zM q
theorem gX11_line_78 {d : Nat} {M : ev_Mem} {Q : Option Value → ev_Mem → Prop} {x1 x2 x3 x4 s0 s1 : Int32} (h : (vp_in s1 8 ∧ (∀ M1 : ev_Mem, M1 = ev_wr M 19 s1.toNatClampNeg s0 → (Ev LM d mX11_line 22 [some (.ref 0), some (.int x1), some (.int x2), some (.int x3), some (.int (x4 + 1)), none, none] [] M1 Q)))) : Ev LM d mX11_line 78 [some (.ref 0), some (.int x1), some (.int x2), some (.int x3), some (.int x4), none, none] [(.int s0), (.int s1), (.ref 19)] M Q := by
  obtain ⟨c, h⟩ := h
  refine ev_iast dX11_line_78 lm_19 c ?_
  generalize eM1 : ev_wr M 19 s1.toNatClampNeg s0 = M1
  replace h := h M1 eM1.symm
  refine ev_iinc (v := x4 + 1) (ls2 := [some (.ref 0), some (.int x1), some (.int x2), some (.int x3), some (.int (x4 + 1)), none, none]) dX11_line_79 rfl rfl rfl ?_
  refine ev_goto (tgt := 22) dX11_line_82 (by decide) ?_
  exact h
theorem gX11_line_140 {d : Nat} {M : ev_Mem} {Q : Option Value → ev_Mem → Prop} {x1 x2 x3 x4 x5 s0 s1 : Int32} (h : (((0 < (s1 - s0)) → (Ev LM (d + 1) mX11_line 91 [some (.ref 0), some (.int x1), some (.int x2), some (.int x3), some (.int x5), some (.int (x5 + 1)), none] [] M Q)) ∧ ((¬ 0 < (s1 - s0)) → (((¬ (s1 - s0) = 0) → (Ev LM (d + 1) mX11_line 91 [some (.ref 0), some (.int x1), some (.int x2), some (.int x3), some (.int x4), some (.int (x5 + 1)), none] [] M Q)) ∧ (((s1 - s0) = 0) → (∃ Q2 : Option Value → ev_Mem → Prop, Cl LM d mX11_sumOf [.ref 18, .int x5] M Q2 ∧ ∀ (zr : Option Value) (zM : ev_Mem), Q2 zr zM → Ev LM (d + 1) mX11_line 162 [some (.ref 0), some (.int x1), some (.int x2), some (.int x3), some (.int x4), some (.int x5), none] (zr.toList ++ []) zM Q)))))) : Ev LM (d + 1) mX11_line 140 [some (.ref 0), some (.int x1), some (.int x2), some (.int x3), some (.int x4), some (.int x5), none] [(.int s0), (.int s1)] M Q := by
  refine ev_isub dX11_line_140 ?_
  refine ev_istore (ls2 := [some (.ref 0), some (.int x1), some (.int x2), some (.int x3), some (.int x4), some (.int x5), some (.int (s1 - s0))]) dX11_line_141 (Nat.le_of_ble_eq_true rfl) rfl ?_
  refine ev_iload dX11_line_143 rfl ?_
  refine ev_if_gt (tgt := 174) dX11_line_145 (by decide) (fun c => ?_) (fun c => ?_)
  · replace h := h.1 c
    refine ev_iload dX11_line_174 rfl ?_
    refine ev_istore (ls2 := [some (.ref 0), some (.int x1), some (.int x2), some (.int x3), some (.int x5), some (.int x5), some (.int (s1 - s0))]) dX11_line_176 (Nat.le_of_ble_eq_true rfl) rfl ?_
    refine ev_iinc (v := x5 + 1) (ls2 := [some (.ref 0), some (.int x1), some (.int x2), some (.int x3), some (.int x5), some (.int (x5 + 1)), some (.int (s1 - s0))]) dX11_line_178 rfl rfl rfl ?_
    refine ev_goto (tgt := 91) dX11_line_181 (by decide) ?_
    refine Ev.weak (ls := [some (.ref 0), some (.int x1), some (.int x2), some (.int x3), some (.int x5), some (.int (x5 + 1)), none]) ⟨rfl, rfl, rfl, rfl, rfl, rfl, trivial⟩ ?_
    exact h
  · replace h := h.2 c
    refine ev_iload dX11_line_148 rfl ?_
    refine ev_if_ne (tgt := 178) dX11_line_150 (by decide) (fun c => ?_) (fun c => ?_)
    · replace h := h.1 c
      refine ev_iinc (v := x5 + 1) (ls2 := [some (.ref 0), some (.int x1), some (.int x2), some (.int x3), some (.int x4), some (.int (x5 + 1)), some (.int (s1 - s0))]) dX11_line_178 rfl rfl rfl ?_
      refine ev_goto (tgt := 91) dX11_line_181 (by decide) ?_
      refine Ev.weak (ls := [some (.ref 0), some (.int x1), some (.int x2), some (.int x3), some (.int x4), some (.int (x5 + 1)), none]) ⟨rfl, rfl, rfl, rfl, rfl, rfl, trivial⟩ ?_
      exact h
    · replace h := h.2 c
      refine ev_aload_n dX11_line_153 rfl ?_
      refine ev_getA dX11_line_154 fl_WithoutEModel_70 lm_0 rfl ?_
      refine ev_iload dX11_line_157 rfl ?_
      obtain ⟨Q2, hc, h⟩ := h
      refine ev_callS [.ref 18, .int x5] dX11_line_159 ml_WithoutEModel_496 rfl (Nat.le_of_ble_eq_true rfl) hc (fun zr zM q => ?_)
      refine Ev.weak (ls := [some (.ref 0), some (.int x1), some (.int x2), some (.int x3), some (.int x4), some (.int x5), none]) ⟨rfl, rfl, rfl, rfl, rfl, rfl, trivial⟩ ?_
      exact h zr zM q
theorem gX11_line_162 {d : Nat} {M : ev_Mem} {Q : Option Value → ev_Mem → Prop} {x1 x2 x3 x4 x5 s0 : Int32} (h : (∃ Q2 : Option Value → ev_Mem → Prop, Cl LM d mX11_sumOf [.ref 18, .int x4] M Q2 ∧ ∀ (zr : Option Value) (zM : ev_Mem), Q2 zr zM → Ev LM (d + 1) mX11_line 171 [some (.ref 0), some (.int x1), some (.int x2), some (.int x3), some (.int x4), some (.int x5), none] (zr.toList ++ [(.int s0)]) zM Q)) : Ev LM (d + 1) mX11_line 162 [some (.ref 0), some (.int x1), some (.int x2), some (.int x3), some (.int x4), some (.int x5), none] [(.int s0)] M Q := by
  refine ev_aload_n dX11_line_162 rfl ?_
  refine ev_getA dX11_line_163 fl_WithoutEModel_70 lm_0 rfl ?_
  refine ev_iload dX11_line_166 rfl ?_
  obtain ⟨Q2, hc, h⟩ := h
  refine ev_callS [.ref 18, .int x4] dX11_line_168 ml_WithoutEModel_496 rfl (Nat.le_of_ble_eq_true rfl) hc (fun zr zM q => ?_)
  exact h zr zM q
theorem gX11_line_171 {d : Nat} {M : ev_Mem} {Q : Option Value → ev_Mem → Prop} {x1 x2 x3 x4 x5 s0 s1 : Int32} (h : (((s0 ≤ s1) → (Ev LM d mX11_line 91 [some (.ref 0), some (.int x1), some (.int x2), some (.int x3), some (.int x4), some (.int (x5 + 1)), none] [] M Q)) ∧ ((¬ s0 ≤ s1) → (Ev LM d mX11_line 91 [some (.ref 0), some (.int x1), some (.int x2), some (.int x3), some (.int x5), some (.int (x5 + 1)), none] [] M Q)))) : Ev LM d mX11_line 171 [some (.ref 0), some (.int x1), some (.int x2), some (.int x3), some (.int x4), some (.int x5), none] [(.int s0), (.int s1)] M Q := by
  refine ev_icmp_ge (tgt := 178) dX11_line_171 (by decide) (fun c => ?_) (fun c => ?_)
  · replace h := h.1 c
    refine ev_iinc (v := x5 + 1) (ls2 := [some (.ref 0), some (.int x1), some (.int x2), some (.int x3), some (.int x4), some (.int (x5 + 1)), none]) dX11_line_178 rfl rfl rfl ?_
    refine ev_goto (tgt := 91) dX11_line_181 (by decide) ?_
    exact h
  · replace h := h.2 c
    refine ev_iload dX11_line_174 rfl ?_
    refine ev_istore (ls2 := [some (.ref 0), some (.int x1), some (.int x2), some (.int x3), some (.int x5), some (.int x5), none]) dX11_line_176 (Nat.le_of_ble_eq_true rfl) rfl ?_
    refine ev_iinc (v := x5 + 1) (ls2 := [some (.ref 0), some (.int x1), some (.int x2), some (.int x3), some (.int x5), some (.int (x5 + 1)), none]) dX11_line_178 rfl rfl rfl ?_
    refine ev_goto (tgt := 91) dX11_line_181 (by decide) ?_
    exact h
