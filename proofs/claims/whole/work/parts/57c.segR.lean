theorem dX10_ruling_0 : decode cX10_ruling 0 = .ok (.aload_n 0, 1) := by decide +kernel
theorem dX10_ruling_1 : decode cX10_ruling 1 = .ok (.aload_n 0, 1) := by decide +kernel
theorem dX10_ruling_2 : decode cX10_ruling 2 = .ok (.getfield 33, 3) := by decide +kernel
theorem dX10_ruling_5 : decode cX10_ruling 5 = .ok (.getfield 130, 3) := by decide +kernel
theorem dX10_ruling_8 : decode cX10_ruling 8 = .ok (.invokevirtual 126, 3) := by decide +kernel
theorem dX10_ruling_11 : decode cX10_ruling 11 = .ok (.ifCond .eq 18, 3) := by decide +kernel
theorem dX10_ruling_14 : decode cX10_ruling 14 = .ok (.aload_n 0, 1) := by decide +kernel
theorem dX10_ruling_15 : decode cX10_ruling 15 = .ok (.getfield 39, 3) := by decide +kernel
theorem dX10_ruling_18 : decode cX10_ruling 18 = .ok (.aload_n 0, 1) := by decide +kernel
theorem dX10_ruling_19 : decode cX10_ruling 19 = .ok (.getfield 33, 3) := by decide +kernel
theorem dX10_ruling_22 : decode cX10_ruling 22 = .ok (.getfield 130, 3) := by decide +kernel
theorem dX10_ruling_25 : decode cX10_ruling 25 = .ok (.aaload, 1) := by decide +kernel
theorem dX10_ruling_26 : decode cX10_ruling 26 = .ok (.goto 4, 3) := by decide +kernel
theorem dX10_ruling_29 : decode cX10_ruling 29 = .ok (.aconst_null, 1) := by decide +kernel
theorem dX10_ruling_30 : decode cX10_ruling 30 = .ok (.areturn, 1) := by decide +kernel
theorem gX10_ruling_0 {d : Nat} {M : ev_Mem} {Q : Option Value → ev_Mem → Prop} (h : ((okT M) ∧ ((((iin (M.1 47 3) 0 (M.1 47 2 - 1)) = false) → (Q (some .null) M)) ∧ (((iin (M.1 47 3) 0 (M.1 47 2 - 1)) = true) → (vp_in (M.1 47 3) 4 ∧ (Q (some (.ref (61 + 5 * (M.1 47 3).toNatClampNeg))) M)))))) : Ev LX (d + 1) mX10_ruling 0 [some (.ref 0)] [] M Q := by
  refine ev_aload_n dX10_ruling_0 rfl ?_
  refine ev_aload_n dX10_ruling_1 rfl ?_
  refine ev_getA dX10_ruling_2 fl_WithoutE_33 lx_0 rfl ?_
  refine ev_getI dX10_ruling_5 fl_WithoutE_130 lx_47 rfl ?_
  obtain ⟨p1, h⟩ := h
  refine ev_callV [.int (M.1 47 3)] dX10_ruling_8 ml_WithoutE_126 lx_0 rfl rfl (Nat.le_of_ble_eq_true rfl) (kX10_hasText p1) ?_
  rintro zr zM ⟨q1, q2⟩
  rw [q1, q2]
  show Ev LX (d + 1) mX10_ruling 11 [some (.ref 0)] [(.int (bi (iin (M.1 47 3) 0 (M.1 47 2 - 1))))] M Q
  refine ev_if_eq (tgt := 29) dX10_ruling_11 (by decide) (fun c => ?_) (fun c => ?_)
  · replace h := h.1 ((bi_0 _).mp c)
    refine ev_null dX10_ruling_29 ?_
    exact ev_aretN dX10_ruling_30 rfl h
  · replace h := h.2 ((bi_n0 _).mp c)
    refine ev_aload_n dX10_ruling_14 rfl ?_
    refine ev_getA dX10_ruling_15 fl_WithoutE_39 lx_0 rfl ?_
    refine ev_aload_n dX10_ruling_18 rfl ?_
    refine ev_getA dX10_ruling_19 fl_WithoutE_33 lx_0 rfl ?_
    refine ev_getI dX10_ruling_22 fl_WithoutE_130 lx_47 rfl ?_
    obtain ⟨b1, h⟩ := h
    refine ev_aald dX10_ruling_25 lx_60 (fun _ => rfl) rfl b1 ?_
    refine ev_goto (tgt := 30) dX10_ruling_26 (by decide) ?_
    exact ev_aret dX10_ruling_30 rfl h
