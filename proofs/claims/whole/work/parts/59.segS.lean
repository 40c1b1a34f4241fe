theorem dX10_hearNow_0 : decode cX10_hearNow 0 = .ok (.aload_n 0, 1) := by decide +kernel
theorem dX10_hearNow_1 : decode cX10_hearNow 1 = .ok (.getfield 98, 3) := by decide +kernel
theorem dX10_hearNow_4 : decode cX10_hearNow 4 = .ok (.invokevirtual 342, 3) := by decide +kernel
theorem dX10_hearNow_7 : decode cX10_hearNow 7 = .ok (.aload_n 0, 1) := by decide +kernel
theorem dX10_hearNow_8 : decode cX10_hearNow 8 = .ok (.getfield 98, 3) := by decide +kernel
theorem dX10_hearNow_11 : decode cX10_hearNow 11 = .ok (.aload_n 0, 1) := by decide +kernel
theorem dX10_hearNow_12 : decode cX10_hearNow 12 = .ok (.invokevirtual 294, 3) := by decide +kernel
theorem dX10_hearNow_15 : decode cX10_hearNow 15 = .ok (.aload_n 0, 1) := by decide +kernel
theorem dX10_hearNow_16 : decode cX10_hearNow 16 = .ok (.getfield 26, 3) := by decide +kernel
theorem dX10_hearNow_19 : decode cX10_hearNow 19 = .ok (.getfield 223, 3) := by decide +kernel
theorem dX10_hearNow_22 : decode cX10_hearNow 22 = .ok (.invokevirtual 345, 3) := by decide +kernel
theorem dX10_hearNow_25 : decode cX10_hearNow 25 = .ok (.return_, 1) := by decide +kernel
theorem gX10_hearNow_0 {d : Nat} {M : ev_Mem} {Q : Option Value → ev_Mem → Prop} (h : (∀ M1 : ev_Mem, M1 = ev_wr M 86 8 (-1) → ((okT M1) ∧ (∃ Q2 : Option Value → ev_Mem → Prop, Cl LX (d + 1) mX6_suppose [.ref 86, tv (M1.1 47 3), .int (M1.1 43 0)] M1 Q2 ∧ ∀ (zr : Option Value) (zM : ev_Mem), Q2 zr zM → Ev LX (d + 2) mX10_hearNow 25 [none] (zr.toList ++ []) zM Q)))) : Ev LX (d + 2) mX10_hearNow 0 [some (.ref 0)] [] M Q := by
  refine ev_aload_n dX10_hearNow_0 rfl ?_
  refine ev_getA dX10_hearNow_1 fl_WithoutE_98 lx_0 rfl ?_
  refine ev_callV [] dX10_hearNow_4 ml_WithoutE_342 lx_86 rfl rfl (Nat.le_of_ble_eq_true rfl) (kX6_forget) ?_
  rintro zr zM ⟨q1, q2⟩
  rw [q1, q2]
  generalize eM1 : ev_wr M 86 8 (-1) = M1
  replace h := h M1 eM1.symm
  show Ev LX (d + 2) mX10_hearNow 7 [some (.ref 0)] [] M1 Q
  refine ev_aload_n dX10_hearNow_7 rfl ?_
  refine ev_getA dX10_hearNow_8 fl_WithoutE_98 lx_0 rfl ?_
  refine ev_aload_n dX10_hearNow_11 rfl ?_
  obtain ⟨p1, h⟩ := h
  refine ev_callV [] dX10_hearNow_12 ml_WithoutE_294 lx_0 rfl rfl (Nat.le_of_ble_eq_true rfl) (kX10_ruling p1) ?_
  rintro zr zM ⟨q1, q2⟩
  rw [q1, q2]
  show Ev LX (d + 2) mX10_hearNow 15 [some (.ref 0)] [(tv (M1.1 47 3)), (.ref 86)] M1 Q
  refine ev_aload_n dX10_hearNow_15 rfl ?_
  refine ev_getA dX10_hearNow_16 fl_WithoutE_26 lx_0 rfl ?_
  refine ev_getI dX10_hearNow_19 fl_WithoutE_223 lx_43 rfl ?_
  obtain ⟨Q2, hc, h⟩ := h
  refine ev_callV [tv (M1.1 47 3), .int (M1.1 43 0)] dX10_hearNow_22 ml_WithoutE_345 lx_86 rfl rfl (Nat.le_of_ble_eq_true rfl) hc (fun zr zM q => ?_)
  refine Ev.weak (ls := [none]) trivial ?_
  exact h zr zM q
theorem gX10_hearNow_25 {d : Nat} {M : ev_Mem} {Q : Option Value → ev_Mem → Prop} (h : (Q none M)) : Ev LX d mX10_hearNow 25 [none] [] M Q := by
  exact ev_vret dX10_hearNow_25 rfl h
theorem dX10_speakNow_0 : decode cX10_speakNow 0 = .ok (.aload_n 0, 1) := by decide +kernel
theorem dX10_speakNow_1 : decode cX10_speakNow 1 = .ok (.getfield 19, 3) := by decide +kernel
theorem dX10_speakNow_4 : decode cX10_speakNow 4 = .ok (.iload_n 1, 1) := by decide +kernel
theorem dX10_speakNow_5 : decode cX10_speakNow 5 = .ok (.invokevirtual 233, 3) := by decide +kernel
theorem dX10_speakNow_8 : decode cX10_speakNow 8 = .ok (.ifCond .ne 5, 3) := by decide +kernel
theorem dX10_speakNow_11 : decode cX10_speakNow 11 = .ok (.iconst 0, 1) := by decide +kernel
theorem dX10_speakNow_12 : decode cX10_speakNow 12 = .ok (.ireturn, 1) := by decide +kernel
theorem dX10_speakNow_13 : decode cX10_speakNow 13 = .ok (.aload_n 0, 1) := by decide +kernel
theorem dX10_speakNow_14 : decode cX10_speakNow 14 = .ok (.invokevirtual 236, 3) := by decide +kernel
theorem dX10_speakNow_17 : decode cX10_speakNow 17 = .ok (.aload_n 0, 1) := by decide +kernel
theorem dX10_speakNow_18 : decode cX10_speakNow 18 = .ok (.getfield 98, 3) := by decide +kernel
theorem dX10_speakNow_21 : decode cX10_speakNow 21 = .ok (.iload_n 1, 1) := by decide +kernel
theorem dX10_speakNow_22 : decode cX10_speakNow 22 = .ok (.invokevirtual 239, 3) := by decide +kernel
theorem dX10_speakNow_25 : decode cX10_speakNow 25 = .ok (.ireturn, 1) := by decide +kernel
theorem gX10_speakNow_0 {d : Nat} {M : ev_Mem} {Q : Option Value → ev_Mem → Prop} {x1 : Int32} (h : ((okS M) ∧ ((((iin x1 0 (M.1 3 8 - 1)) = true) → (∃ Q2 : Option Value → ev_Mem → Prop, Cl LX d mX10_hearNow [.ref 0] M Q2 ∧ ∀ (zr : Option Value) (zM : ev_Mem), Q2 zr zM → Ev LX (d + 1) mX10_speakNow 17 [some (.ref 0), some (.int x1)] (zr.toList ++ []) zM Q)) ∧ (((iin x1 0 (M.1 3 8 - 1)) = false) → (Q (some (.int 0)) M))))) : Ev LX (d + 1) mX10_speakNow 0 [some (.ref 0), some (.int x1)] [] M Q := by
  refine ev_aload_n dX10_speakNow_0 rfl ?_
  refine ev_getA dX10_speakNow_1 fl_WithoutE_19 lx_0 rfl ?_
  refine ev_iload_n dX10_speakNow_4 rfl ?_
  obtain ⟨p1, h⟩ := h
  refine ev_callV [.int x1] dX10_speakNow_5 ml_WithoutE_233 lx_3 rfl rfl (Nat.le_of_ble_eq_true rfl) (kX0_hasSentence p1) ?_
  rintro zr zM ⟨q1, q2⟩
  rw [q1, q2]
  show Ev LX (d + 1) mX10_speakNow 8 [some (.ref 0), some (.int x1)] [(.int (bi (iin x1 0 (M.1 3 8 - 1))))] M Q
  refine ev_if_ne (tgt := 13) dX10_speakNow_8 (by decide) (fun c => ?_) (fun c => ?_)
  · replace h := h.1 ((bi_n0 _).mp c)
    refine ev_aload_n dX10_speakNow_13 rfl ?_
    obtain ⟨Q2, hc, h⟩ := h
    refine ev_callV [] dX10_speakNow_14 ml_WithoutE_236 lx_0 rfl rfl (Nat.le_of_ble_eq_true rfl) hc (fun zr zM q => ?_)
    exact h zr zM q
  · replace h := h.2 ((bi_0 _).mp c)
    refine ev_iconst (v := 0) dX10_speakNow_11 (by decide) ?_
    exact ev_zret dX10_speakNow_12 rfl (by decide) h
theorem gX10_speakNow_17 {d : Nat} {M : ev_Mem} {Q : Option Value → ev_Mem → Prop} {x1 : Int32} (h : (∃ Q2 : Option Value → ev_Mem → Prop, Cl LX d mX6_speak [.ref 86, .int x1] M Q2 ∧ ∀ (zr : Option Value) (zM : ev_Mem), Q2 zr zM → Ev LX (d + 1) mX10_speakNow 25 [none, none] (zr.toList ++ []) zM Q)) : Ev LX (d + 1) mX10_speakNow 17 [some (.ref 0), some (.int x1)] [] M Q := by
  refine ev_aload_n dX10_speakNow_17 rfl ?_
  refine ev_getA dX10_speakNow_18 fl_WithoutE_98 lx_0 rfl ?_
  refine ev_iload_n dX10_speakNow_21 rfl ?_
  obtain ⟨Q2, hc, h⟩ := h
  refine ev_callV [.int x1] dX10_speakNow_22 ml_WithoutE_239 lx_86 rfl rfl (Nat.le_of_ble_eq_true rfl) hc (fun zr zM q => ?_)
  refine Ev.weak (ls := [none, none]) trivial ?_
  exact h zr zM q
theorem gX10_speakNow_25 {d : Nat} {M : ev_Mem} {Q : Option Value → ev_Mem → Prop} {s0 : Int32} (h : (narrow .boolean (.int s0) = .int s0 ∧ (Q (some (.int s0)) M))) : Ev LX d mX10_speakNow 25 [none, none] [(.int s0)] M Q := by
  obtain ⟨c, h⟩ := h
  exact ev_zret dX10_speakNow_25 rfl c h
theorem dX10_noticeOdds_0 : decode cX10_noticeOdds 0 = .ok (.aload_n 0, 1) := by decide +kernel
theorem dX10_noticeOdds_1 : decode cX10_noticeOdds 1 = .ok (.getfield 89, 3) := by decide +kernel
theorem dX10_noticeOdds_4 : decode cX10_noticeOdds 4 = .ok (.aload_n 0, 1) := by decide +kernel
theorem dX10_noticeOdds_5 : decode cX10_noticeOdds 5 = .ok (.invokevirtual 294, 3) := by decide +kernel
theorem dX10_noticeOdds_8 : decode cX10_noticeOdds 8 = .ok (.iload_n 1, 1) := by decide +kernel
theorem dX10_noticeOdds_9 : decode cX10_noticeOdds 9 = .ok (.aload_n 0, 1) := by decide +kernel
theorem dX10_noticeOdds_10 : decode cX10_noticeOdds 10 = .ok (.getfield 98, 3) := by decide +kernel
theorem dX10_noticeOdds_13 : decode cX10_noticeOdds 13 = .ok (.getfield 245, 3) := by decide +kernel
theorem dX10_noticeOdds_16 : decode cX10_noticeOdds 16 = .ok (.aload_n 0, 1) := by decide +kernel
theorem dX10_noticeOdds_17 : decode cX10_noticeOdds 17 = .ok (.getfield 98, 3) := by decide +kernel
theorem dX10_noticeOdds_20 : decode cX10_noticeOdds 20 = .ok (.getfield 278, 3) := by decide +kernel
theorem dX10_noticeOdds_23 : decode cX10_noticeOdds 23 = .ok (.aload_n 0, 1) := by decide +kernel
theorem dX10_noticeOdds_24 : decode cX10_noticeOdds 24 = .ok (.getfield 26, 3) := by decide +kernel
theorem dX10_noticeOdds_27 : decode cX10_noticeOdds 27 = .ok (.getfield 223, 3) := by decide +kernel
theorem dX10_noticeOdds_30 : decode cX10_noticeOdds 30 = .ok (.invokevirtual 400, 3) := by decide +kernel
theorem dX10_noticeOdds_33 : decode cX10_noticeOdds 33 = .ok (.ireturn, 1) := by decide +kernel
theorem gX10_noticeOdds_0 {d : Nat} {M : ev_Mem} {Q : Option Value → ev_Mem → Prop} {x1 : Int32} (h : ((okT M) ∧ (∃ Q2 : Option Value → ev_Mem → Prop, Cl LX (d + 1) mX1_noticeOdds [.ref 83, tv (M.1 47 3), .int x1, .int (M.1 86 14), .int (M.1 86 15), .int (M.1 43 0)] M Q2 ∧ ∀ (zr : Option Value) (zM : ev_Mem), Q2 zr zM → Ev LX (d + 2) mX10_noticeOdds 33 [none, none] (zr.toList ++ []) zM Q))) : Ev LX (d + 2) mX10_noticeOdds 0 [some (.ref 0), some (.int x1)] [] M Q := by
  refine ev_aload_n dX10_noticeOdds_0 rfl ?_
  refine ev_getA dX10_noticeOdds_1 fl_WithoutE_89 lx_0 rfl ?_
  refine ev_aload_n dX10_noticeOdds_4 rfl ?_
  obtain ⟨p1, h⟩ := h
  refine ev_callV [] dX10_noticeOdds_5 ml_WithoutE_294 lx_0 rfl rfl (Nat.le_of_ble_eq_true rfl) (kX10_ruling p1) ?_
  rintro zr zM ⟨q1, q2⟩
  rw [q1, q2]
  show Ev LX (d + 2) mX10_noticeOdds 8 [some (.ref 0), some (.int x1)] [(tv (M.1 47 3)), (.ref 83)] M Q
  refine ev_iload_n dX10_noticeOdds_8 rfl ?_
  refine ev_aload_n dX10_noticeOdds_9 rfl ?_
  refine ev_getA dX10_noticeOdds_10 fl_WithoutE_98 lx_0 rfl ?_
  refine ev_getI dX10_noticeOdds_13 fl_WithoutE_245 lx_86 rfl ?_
  refine ev_aload_n dX10_noticeOdds_16 rfl ?_
  refine ev_getA dX10_noticeOdds_17 fl_WithoutE_98 lx_0 rfl ?_
  refine ev_getI dX10_noticeOdds_20 fl_WithoutE_278 lx_86 rfl ?_
  refine ev_aload_n dX10_noticeOdds_23 rfl ?_
  refine ev_getA dX10_noticeOdds_24 fl_WithoutE_26 lx_0 rfl ?_
  refine ev_getI dX10_noticeOdds_27 fl_WithoutE_223 lx_43 rfl ?_
  obtain ⟨Q2, hc, h⟩ := h
  refine ev_callV [tv (M.1 47 3), .int x1, .int (M.1 86 14), .int (M.1 86 15), .int (M.1 43 0)] dX10_noticeOdds_30 ml_WithoutE_400 lx_83 rfl rfl (Nat.le_of_ble_eq_true rfl) hc (fun zr zM q => ?_)
  refine Ev.weak (ls := [none, none]) trivial ?_
  exact h zr zM q
theorem gX10_noticeOdds_33 {d : Nat} {M : ev_Mem} {Q : Option Value → ev_Mem → Prop} {s0 : Int32} (h : (Q (some (.int s0)) M)) : Ev LX d mX10_noticeOdds 33 [none, none] [(.int s0)] M Q := by
  exact ev_iret dX10_noticeOdds_33 rfl h
theorem dX10_stiffnessBy_0 : decode cX10_stiffnessBy 0 = .ok (.aload_n 0, 1) := by decide +kernel
theorem dX10_stiffnessBy_1 : decode cX10_stiffnessBy 1 = .ok (.getfield 89, 3) := by decide +kernel
theorem dX10_stiffnessBy_4 : decode cX10_stiffnessBy 4 = .ok (.aload_n 1, 1) := by decide +kernel
theorem dX10_stiffnessBy_5 : decode cX10_stiffnessBy 5 = .ok (.iload_n 2, 1) := by decide +kernel
theorem dX10_stiffnessBy_6 : decode cX10_stiffnessBy 6 = .ok (.aload_n 0, 1) := by decide +kernel
theorem dX10_stiffnessBy_7 : decode cX10_stiffnessBy 7 = .ok (.getfield 80, 3) := by decide +kernel
theorem dX10_stiffnessBy_10 : decode cX10_stiffnessBy 10 = .ok (.iload_n 2, 1) := by decide +kernel
theorem dX10_stiffnessBy_11 : decode cX10_stiffnessBy 11 = .ok (.aload_n 0, 1) := by decide +kernel
theorem dX10_stiffnessBy_12 : decode cX10_stiffnessBy 12 = .ok (.getfield 26, 3) := by decide +kernel
theorem dX10_stiffnessBy_15 : decode cX10_stiffnessBy 15 = .ok (.getfield 223, 3) := by decide +kernel
theorem dX10_stiffnessBy_18 : decode cX10_stiffnessBy 18 = .ok (.invokevirtual 302, 3) := by decide +kernel
theorem dX10_stiffnessBy_21 : decode cX10_stiffnessBy 21 = .ok (.aload_n 0, 1) := by decide +kernel
theorem dX10_stiffnessBy_22 : decode cX10_stiffnessBy 22 = .ok (.getfield 80, 3) := by decide +kernel
theorem dX10_stiffnessBy_25 : decode cX10_stiffnessBy 25 = .ok (.iload_n 2, 1) := by decide +kernel
theorem dX10_stiffnessBy_26 : decode cX10_stiffnessBy 26 = .ok (.aload_n 0, 1) := by decide +kernel
theorem dX10_stiffnessBy_27 : decode cX10_stiffnessBy 27 = .ok (.getfield 26, 3) := by decide +kernel
theorem dX10_stiffnessBy_30 : decode cX10_stiffnessBy 30 = .ok (.getfield 223, 3) := by decide +kernel
theorem dX10_stiffnessBy_33 : decode cX10_stiffnessBy 33 = .ok (.invokevirtual 311, 3) := by decide +kernel
theorem dX10_stiffnessBy_36 : decode cX10_stiffnessBy 36 = .ok (.aload_n 0, 1) := by decide +kernel
theorem dX10_stiffnessBy_37 : decode cX10_stiffnessBy 37 = .ok (.getfield 26, 3) := by decide +kernel
theorem dX10_stiffnessBy_40 : decode cX10_stiffnessBy 40 = .ok (.getfield 223, 3) := by decide +kernel
theorem dX10_stiffnessBy_43 : decode cX10_stiffnessBy 43 = .ok (.invokestatic 251, 3) := by decide +kernel
theorem dX10_stiffnessBy_46 : decode cX10_stiffnessBy 46 = .ok (.invokevirtual 338, 3) := by decide +kernel
theorem dX10_stiffnessBy_49 : decode cX10_stiffnessBy 49 = .ok (.ireturn, 1) := by decide +kernel
theorem gX10_stiffnessBy_0 {d : Nat} {M : ev_Mem} {Q : Option Value → ev_Mem → Prop} {x2 : Int32} {k : Nat} (hk : ev_isT k) (h : ((wd M x2) ∧ ((wd M x2) ∧ (∃ Q2 : Option Value → ev_Mem → Prop, Cl LX (d + 2) mX1_stiffness [.ref 83, .ref k, .int x2, .int (nI (xH M x2 (M.1 43 0))), .int (xE M x2 (M.1 43 0)), .int (bc (M.1 43 0))] M Q2 ∧ ∀ (zr : Option Value) (zM : ev_Mem), Q2 zr zM → Ev LX (d + 3) mX10_stiffnessBy 49 [none, none, none] (zr.toList ++ []) zM Q)))) : Ev LX (d + 3) mX10_stiffnessBy 0 [some (.ref 0), some (.ref k), some (.int x2)] [] M Q := by
  refine ev_aload_n dX10_stiffnessBy_0 rfl ?_
  refine ev_getA dX10_stiffnessBy_1 fl_WithoutE_89 lx_0 rfl ?_
  refine ev_aload_n dX10_stiffnessBy_4 rfl ?_
  refine ev_iload_n dX10_stiffnessBy_5 rfl ?_
  refine ev_aload_n dX10_stiffnessBy_6 rfl ?_
  refine ev_getA dX10_stiffnessBy_7 fl_WithoutE_80 lx_0 rfl ?_
  refine ev_iload_n dX10_stiffnessBy_10 rfl ?_
  refine ev_aload_n dX10_stiffnessBy_11 rfl ?_
  refine ev_getA dX10_stiffnessBy_12 fl_WithoutE_26 lx_0 rfl ?_
  refine ev_getI dX10_stiffnessBy_15 fl_WithoutE_223 lx_43 rfl ?_
  obtain ⟨p1, h⟩ := h
  refine ev_callV [.int x2, .int (M.1 43 0)] dX10_stiffnessBy_18 ml_WithoutE_302 lx_82 rfl rfl (Nat.le_of_ble_eq_true rfl) (qX5_holesOf p1) ?_
  rintro zr zM ⟨q1, q2⟩
  rw [q1, q2]
  show Ev LX (d + 3) mX10_stiffnessBy 21 [some (.ref 0), some (.ref k), some (.int x2)] [(.int (nI (xH M x2 (M.1 43 0)))), (.int x2), (.ref k), (.ref 83)] M Q
  refine ev_aload_n dX10_stiffnessBy_21 rfl ?_
  refine ev_getA dX10_stiffnessBy_22 fl_WithoutE_80 lx_0 rfl ?_
  refine ev_iload_n dX10_stiffnessBy_25 rfl ?_
  refine ev_aload_n dX10_stiffnessBy_26 rfl ?_
  refine ev_getA dX10_stiffnessBy_27 fl_WithoutE_26 lx_0 rfl ?_
  refine ev_getI dX10_stiffnessBy_30 fl_WithoutE_223 lx_43 rfl ?_
  obtain ⟨p1, h⟩ := h
  refine ev_callV [.int x2, .int (M.1 43 0)] dX10_stiffnessBy_33 ml_WithoutE_311 lx_82 rfl rfl (Nat.le_of_ble_eq_true rfl) (qX5_extraOf p1) ?_
  rintro zr zM ⟨q1, q2⟩
  rw [q1, q2]
  show Ev LX (d + 3) mX10_stiffnessBy 36 [some (.ref 0), some (.ref k), some (.int x2)] [(.int (xE M x2 (M.1 43 0))), (.int (nI (xH M x2 (M.1 43 0)))), (.int x2), (.ref k), (.ref 83)] M Q
  refine ev_aload_n dX10_stiffnessBy_36 rfl ?_
  refine ev_getA dX10_stiffnessBy_37 fl_WithoutE_26 lx_0 rfl ?_
  refine ev_getI dX10_stiffnessBy_40 fl_WithoutE_223 lx_43 rfl ?_
  refine ev_callS [.int (M.1 43 0)] dX10_stiffnessBy_43 ml_WithoutE_251 rfl (Nat.le_of_ble_eq_true rfl) (kJ6_bitCount) ?_
  rintro zr zM ⟨q1, q2⟩
  rw [q1, q2]
  show Ev LX (d + 3) mX10_stiffnessBy 46 [some (.ref 0), some (.ref k), some (.int x2)] [(.int (bc (M.1 43 0))), (.int (xE M x2 (M.1 43 0))), (.int (nI (xH M x2 (M.1 43 0)))), (.int x2), (.ref k), (.ref 83)] M Q
  obtain ⟨Q2, hc, h⟩ := h
  refine ev_callV [.ref k, .int x2, .int (nI (xH M x2 (M.1 43 0))), .int (xE M x2 (M.1 43 0)), .int (bc (M.1 43 0))] dX10_stiffnessBy_46 ml_WithoutE_338 lx_83 rfl rfl (Nat.le_of_ble_eq_true rfl) hc (fun zr zM q => ?_)
  refine Ev.weak (ls := [none, none, none]) trivial ?_
  exact h zr zM q
theorem gX10_stiffnessBy_49 {d : Nat} {M : ev_Mem} {Q : Option Value → ev_Mem → Prop} {s0 : Int32} {k : Nat} (hk : ev_isT k) (h : (Q (some (.int s0)) M)) : Ev LX d mX10_stiffnessBy 49 [none, none, none] [(.int s0)] M Q := by
  exact ev_iret dX10_stiffnessBy_49 rfl h
theorem gX10_stiffnessByN_0 {d : Nat} {M : ev_Mem} {Q : Option Value → ev_Mem → Prop} {x2 : Int32} (h : ((wd M x2) ∧ ((wd M x2) ∧ (∃ Q2 : Option Value → ev_Mem → Prop, Cl LX (d + 2) mX1_stiffness [.ref 83, .null, .int x2, .int (nI (xH M x2 (M.1 43 0))), .int (xE M x2 (M.1 43 0)), .int (bc (M.1 43 0))] M Q2 ∧ ∀ (zr : Option Value) (zM : ev_Mem), Q2 zr zM → Ev LX (d + 3) mX10_stiffnessBy 49 [none, none, none] (zr.toList ++ []) zM Q)))) : Ev LX (d + 3) mX10_stiffnessBy 0 [some (.ref 0), some (.null), some (.int x2)] [] M Q := by
  refine ev_aload_n dX10_stiffnessBy_0 rfl ?_
  refine ev_getA dX10_stiffnessBy_1 fl_WithoutE_89 lx_0 rfl ?_
  refine ev_aload_nN dX10_stiffnessBy_4 rfl ?_
  refine ev_iload_n dX10_stiffnessBy_5 rfl ?_
  refine ev_aload_n dX10_stiffnessBy_6 rfl ?_
  refine ev_getA dX10_stiffnessBy_7 fl_WithoutE_80 lx_0 rfl ?_
  refine ev_iload_n dX10_stiffnessBy_10 rfl ?_
  refine ev_aload_n dX10_stiffnessBy_11 rfl ?_
  refine ev_getA dX10_stiffnessBy_12 fl_WithoutE_26 lx_0 rfl ?_
  refine ev_getI dX10_stiffnessBy_15 fl_WithoutE_223 lx_43 rfl ?_
  obtain ⟨p1, h⟩ := h
  refine ev_callV [.int x2, .int (M.1 43 0)] dX10_stiffnessBy_18 ml_WithoutE_302 lx_82 rfl rfl (Nat.le_of_ble_eq_true rfl) (qX5_holesOf p1) ?_
  rintro zr zM ⟨q1, q2⟩
  rw [q1, q2]
  show Ev LX (d + 3) mX10_stiffnessBy 21 [some (.ref 0), some (.null), some (.int x2)] [(.int (nI (xH M x2 (M.1 43 0)))), (.int x2), .null, (.ref 83)] M Q
  refine ev_aload_n dX10_stiffnessBy_21 rfl ?_
  refine ev_getA dX10_stiffnessBy_22 fl_WithoutE_80 lx_0 rfl ?_
  refine ev_iload_n dX10_stiffnessBy_25 rfl ?_
  refine ev_aload_n dX10_stiffnessBy_26 rfl ?_
  refine ev_getA dX10_stiffnessBy_27 fl_WithoutE_26 lx_0 rfl ?_
  refine ev_getI dX10_stiffnessBy_30 fl_WithoutE_223 lx_43 rfl ?_
  obtain ⟨p1, h⟩ := h
  refine ev_callV [.int x2, .int (M.1 43 0)] dX10_stiffnessBy_33 ml_WithoutE_311 lx_82 rfl rfl (Nat.le_of_ble_eq_true rfl) (qX5_extraOf p1) ?_
  rintro zr zM ⟨q1, q2⟩
  rw [q1, q2]
  show Ev LX (d + 3) mX10_stiffnessBy 36 [some (.ref 0), some (.null), some (.int x2)] [(.int (xE M x2 (M.1 43 0))), (.int (nI (xH M x2 (M.1 43 0)))), (.int x2), .null, (.ref 83)] M Q
  refine ev_aload_n dX10_stiffnessBy_36 rfl ?_
  refine ev_getA dX10_stiffnessBy_37 fl_WithoutE_26 lx_0 rfl ?_
  refine ev_getI dX10_stiffnessBy_40 fl_WithoutE_223 lx_43 rfl ?_
  refine ev_callS [.int (M.1 43 0)] dX10_stiffnessBy_43 ml_WithoutE_251 rfl (Nat.le_of_ble_eq_true rfl) (kJ6_bitCount) ?_
  rintro zr zM ⟨q1, q2⟩
  rw [q1, q2]
  show Ev LX (d + 3) mX10_stiffnessBy 46 [some (.ref 0), some (.null), some (.int x2)] [(.int (bc (M.1 43 0))), (.int (xE M x2 (M.1 43 0))), (.int (nI (xH M x2 (M.1 43 0)))), (.int x2), .null, (.ref 83)] M Q
  obtain ⟨Q2, hc, h⟩ := h
  refine ev_callV [.null, .int x2, .int (nI (xH M x2 (M.1 43 0))), .int (xE M x2 (M.1 43 0)), .int (bc (M.1 43 0))] dX10_stiffnessBy_46 ml_WithoutE_338 lx_83 rfl rfl (Nat.le_of_ble_eq_true rfl) hc (fun zr zM q => ?_)
  refine Ev.weak (ls := [none, none, none]) trivial ?_
  exact h zr zM q
theorem gX10_stiffnessByN_49 {d : Nat} {M : ev_Mem} {Q : Option Value → ev_Mem → Prop} {s0 : Int32} (h : (Q (some (.int s0)) M)) : Ev LX d mX10_stiffnessBy 49 [none, none, none] [(.int s0)] M Q := by
  exact ev_iret dX10_stiffnessBy_49 rfl h
theorem dX11_saidOf_0 : decode cX11_saidOf 0 = .ok (.aload_n 0, 1) := by decide +kernel
theorem dX11_saidOf_1 : decode cX11_saidOf 1 = .ok (.invokevirtual 368, 3) := by decide +kernel
theorem dX11_saidOf_4 : decode cX11_saidOf 4 = .ok (.aload_n 0, 1) := by decide +kernel
theorem dX11_saidOf_5 : decode cX11_saidOf 5 = .ok (.iload_n 1, 1) := by decide +kernel
theorem dX11_saidOf_6 : decode cX11_saidOf 6 = .ok (.invokevirtual 371, 3) := by decide +kernel
theorem dX11_saidOf_9 : decode cX11_saidOf 9 = .ok (.ireturn, 1) := by decide +kernel
theorem gX11_saidOf_0 {d : Nat} {M : ev_Mem} {Q : Option Value → ev_Mem → Prop} {x1 : Int32} (h : (∃ Q2 : Option Value → ev_Mem → Prop, Cl LM d mX11_layStiffs [.ref 0] M Q2 ∧ ∀ (zr : Option Value) (zM : ev_Mem), Q2 zr zM → Ev LM (d + 1) mX11_saidOf 4 [some (.ref 0), some (.int x1)] (zr.toList ++ []) zM Q)) : Ev LM (d + 1) mX11_saidOf 0 [some (.ref 0), some (.int x1)] [] M Q := by
  refine ev_aload_n dX11_saidOf_0 rfl ?_
  obtain ⟨Q2, hc, h⟩ := h
  refine ev_callV [] dX11_saidOf_1 ml_WithoutEModel_368 lm_0 rfl rfl (Nat.le_of_ble_eq_true rfl) hc (fun zr zM q => ?_)
  exact h zr zM q
theorem gX11_saidOf_4 {d : Nat} {M : ev_Mem} {Q : Option Value → ev_Mem → Prop} {x1 : Int32} (h : (∃ Q2 : Option Value → ev_Mem → Prop, Cl LM d mX11_leastOf [.ref 0, .int x1] M Q2 ∧ ∀ (zr : Option Value) (zM : ev_Mem), Q2 zr zM → Ev LM (d + 1) mX11_saidOf 9 [none, none] (zr.toList ++ []) zM Q)) : Ev LM (d + 1) mX11_saidOf 4 [some (.ref 0), some (.int x1)] [] M Q := by
  refine ev_aload_n dX11_saidOf_4 rfl ?_
  refine ev_iload_n dX11_saidOf_5 rfl ?_
  obtain ⟨Q2, hc, h⟩ := h
  refine ev_callV [.int x1] dX11_saidOf_6 ml_WithoutEModel_371 lm_0 rfl rfl (Nat.le_of_ble_eq_true rfl) hc (fun zr zM q => ?_)
  refine Ev.weak (ls := [none, none]) trivial ?_
  exact h zr zM q
theorem gX11_saidOf_9 {d : Nat} {M : ev_Mem} {Q : Option Value → ev_Mem → Prop} {s0 : Int32} (h : (Q (some (.int s0)) M)) : Ev LM d mX11_saidOf 9 [none, none] [(.int s0)] M Q := by
  exact ev_iret dX11_saidOf_9 rfl h
theorem dX11_secondsIn_0 : decode cX11_secondsIn 0 = .ok (.iconst 0, 1) := by decide +kernel
theorem dX11_secondsIn_1 : decode cX11_secondsIn 1 = .ok (.istore_n 2, 1) := by decide +kernel
theorem dX11_secondsIn_2 : decode cX11_secondsIn 2 = .ok (.iconst 0, 1) := by decide +kernel
theorem dX11_secondsIn_3 : decode cX11_secondsIn 3 = .ok (.istore_n 3, 1) := by decide +kernel
theorem dX11_secondsIn_4 : decode cX11_secondsIn 4 = .ok (.iload_n 3, 1) := by decide +kernel
theorem dX11_secondsIn_5 : decode cX11_secondsIn 5 = .ok (.aload_n 0, 1) := by decide +kernel
theorem dX11_secondsIn_6 : decode cX11_secondsIn 6 = .ok (.iload_n 1, 1) := by decide +kernel
theorem dX11_secondsIn_7 : decode cX11_secondsIn 7 = .ok (.invokevirtual 359, 3) := by decide +kernel
theorem dX11_secondsIn_10 : decode cX11_secondsIn 10 = .ok (.if_icmp .ge 22, 3) := by decide +kernel
theorem dX11_secondsIn_13 : decode cX11_secondsIn 13 = .ok (.iload_n 2, 1) := by decide +kernel
theorem dX11_secondsIn_14 : decode cX11_secondsIn 14 = .ok (.aload_n 0, 1) := by decide +kernel
theorem dX11_secondsIn_15 : decode cX11_secondsIn 15 = .ok (.aload_n 0, 1) := by decide +kernel
theorem dX11_secondsIn_16 : decode cX11_secondsIn 16 = .ok (.getfield 55, 3) := by decide +kernel
theorem dX11_secondsIn_19 : decode cX11_secondsIn 19 = .ok (.iload_n 3, 1) := by decide +kernel
theorem dX11_secondsIn_20 : decode cX11_secondsIn 20 = .ok (.iaload, 1) := by decide +kernel
theorem dX11_secondsIn_21 : decode cX11_secondsIn 21 = .ok (.invokevirtual 374, 3) := by decide +kernel
theorem dX11_secondsIn_24 : decode cX11_secondsIn 24 = .ok (.iadd, 1) := by decide +kernel
theorem dX11_secondsIn_25 : decode cX11_secondsIn 25 = .ok (.istore_n 2, 1) := by decide +kernel
theorem dX11_secondsIn_26 : decode cX11_secondsIn 26 = .ok (.iinc 3 1, 3) := by decide +kernel
theorem dX11_secondsIn_29 : decode cX11_secondsIn 29 = .ok (.goto (-25), 3) := by decide +kernel
theorem dX11_secondsIn_32 : decode cX11_secondsIn 32 = .ok (.iload_n 2, 1) := by decide +kernel
theorem dX11_secondsIn_33 : decode cX11_secondsIn 33 = .ok (.ireturn, 1) := by decide +kernel
theorem gX11_secondsIn_0 {d : Nat} {M : ev_Mem} {Q : Option Value → ev_Mem → Prop} {x1 : Int32} (h : (Ev LM d mX11_secondsIn 4 [some (.ref 0), some (.int x1), some (.int 0), some (.int 0)] [] M Q)) : Ev LM d mX11_secondsIn 0 [some (.ref 0), some (.int x1), none, none] [] M Q := by
  refine ev_iconst (v := 0) dX11_secondsIn_0 (by decide) ?_
  refine ev_istore_n (ls2 := [some (.ref 0), some (.int x1), some (.int 0), none]) dX11_secondsIn_1 (Nat.le_of_ble_eq_true rfl) rfl ?_
  refine ev_iconst (v := 0) dX11_secondsIn_2 (by decide) ?_
  refine ev_istore_n (ls2 := [some (.ref 0), some (.int x1), some (.int 0), some (.int 0)]) dX11_secondsIn_3 (Nat.le_of_ble_eq_true rfl) rfl ?_
  exact h
theorem gX11_secondsIn_4 {d : Nat} {M : ev_Mem} {Q : Option Value → ev_Mem → Prop} {x1 x2 x3 : Int32} (h : ((vp_in (351 + 6 * x1) 3315) ∧ ((((M.1 1 (351 + 6 * x1).toNatClampNeg) ≤ x3) → (Q (some (.int x2)) M)) ∧ ((¬ (M.1 1 (351 + 6 * x1).toNatClampNeg) ≤ x3) → (vp_in x3 5 ∧ ((wm M (M.1 13 x3.toNatClampNeg)) ∧ (∀ v1 : Int32, v1 = x2 + (mS M (M.1 13 x3.toNatClampNeg)) → (Ev LM (d + 4) mX11_secondsIn 4 [some (.ref 0), some (.int x1), some (.int v1), some (.int (x3 + 1))] [] M Q)))))))) : Ev LM (d + 4) mX11_secondsIn 4 [some (.ref 0), some (.int x1), some (.int x2), some (.int x3)] [] M Q := by
  refine ev_iload_n dX11_secondsIn_4 rfl ?_
  refine ev_aload_n dX11_secondsIn_5 rfl ?_
  refine ev_iload_n dX11_secondsIn_6 rfl ?_
  obtain ⟨p1, h⟩ := h
  refine ev_callV [.int x1] dX11_secondsIn_7 ml_WithoutEModel_359 lm_0 rfl rfl (Nat.le_of_ble_eq_true rfl) (kX11_lengthOf p1) ?_
  rintro zr zM ⟨q1, q2⟩
  rw [q1, q2]
  show Ev LM (d + 4) mX11_secondsIn 10 [some (.ref 0), some (.int x1), some (.int x2), some (.int x3)] [(.int (M.1 1 (351 + 6 * x1).toNatClampNeg)), (.int x3)] M Q
  refine ev_icmp_ge (tgt := 32) dX11_secondsIn_10 (by decide) (fun c => ?_) (fun c => ?_)
  · replace h := h.1 c
    refine ev_iload_n dX11_secondsIn_32 rfl ?_
    exact ev_iret dX11_secondsIn_33 rfl h
  · replace h := h.2 c
    refine ev_iload_n dX11_secondsIn_13 rfl ?_
    refine ev_aload_n dX11_secondsIn_14 rfl ?_
    refine ev_aload_n dX11_secondsIn_15 rfl ?_
    refine ev_getA dX11_secondsIn_16 fl_WithoutEModel_55 lm_0 rfl ?_
    refine ev_iload_n dX11_secondsIn_19 rfl ?_
    obtain ⟨c, h⟩ := h
    refine ev_iald dX11_secondsIn_20 lm_13 c ?_
    obtain ⟨p1, h⟩ := h
    refine ev_callV [.int (M.1 13 x3.toNatClampNeg)] dX11_secondsIn_21 ml_WithoutEModel_374 lm_0 rfl rfl (Nat.le_of_ble_eq_true rfl) (kX11_secondsOf p1) ?_
    rintro zr zM ⟨q1, q2⟩
    rw [q1, q2]
    show Ev LM (d + 4) mX11_secondsIn 24 [some (.ref 0), some (.int x1), some (.int x2), some (.int x3)] [(.int (mS M (M.1 13 x3.toNatClampNeg))), (.int x2)] M Q
    refine ev_iadd dX11_secondsIn_24 ?_
    refine ev_istore_n (ls2 := [some (.ref 0), some (.int x1), some (.int (x2 + (mS M (M.1 13 x3.toNatClampNeg)))), some (.int x3)]) dX11_secondsIn_25 (Nat.le_of_ble_eq_true rfl) rfl ?_
    generalize ev1 : x2 + (mS M (M.1 13 x3.toNatClampNeg)) = v1
    replace h := h v1 ev1.symm
    refine ev_iinc (v := x3 + 1) (ls2 := [some (.ref 0), some (.int x1), some (.int v1), some (.int (x3 + 1))]) dX11_secondsIn_26 rfl rfl rfl ?_
    refine ev_goto (tgt := 4) dX11_secondsIn_29 (by decide) ?_
    exact h
theorem dX11_lettersIn_0 : decode cX11_lettersIn 0 = .ok (.iconst 0, 1) := by decide +kernel
theorem dX11_lettersIn_1 : decode cX11_lettersIn 1 = .ok (.istore_n 2, 1) := by decide +kernel
theorem dX11_lettersIn_2 : decode cX11_lettersIn 2 = .ok (.iconst 0, 1) := by decide +kernel
theorem dX11_lettersIn_3 : decode cX11_lettersIn 3 = .ok (.istore_n 3, 1) := by decide +kernel
theorem dX11_lettersIn_4 : decode cX11_lettersIn 4 = .ok (.iload_n 3, 1) := by decide +kernel
theorem dX11_lettersIn_5 : decode cX11_lettersIn 5 = .ok (.aload_n 0, 1) := by decide +kernel
theorem dX11_lettersIn_6 : decode cX11_lettersIn 6 = .ok (.iload_n 1, 1) := by decide +kernel
theorem dX11_lettersIn_7 : decode cX11_lettersIn 7 = .ok (.invokevirtual 359, 3) := by decide +kernel
theorem dX11_lettersIn_10 : decode cX11_lettersIn 10 = .ok (.if_icmp .ge 23, 3) := by decide +kernel
theorem dX11_lettersIn_13 : decode cX11_lettersIn 13 = .ok (.iload_n 2, 1) := by decide +kernel
theorem dX11_lettersIn_14 : decode cX11_lettersIn 14 = .ok (.aload_n 0, 1) := by decide +kernel
theorem dX11_lettersIn_15 : decode cX11_lettersIn 15 = .ok (.aload_n 0, 1) := by decide +kernel
theorem dX11_lettersIn_16 : decode cX11_lettersIn 16 = .ok (.getfield 55, 3) := by decide +kernel
theorem dX11_lettersIn_19 : decode cX11_lettersIn 19 = .ok (.iload_n 3, 1) := by decide +kernel
theorem dX11_lettersIn_20 : decode cX11_lettersIn 20 = .ok (.iaload, 1) := by decide +kernel
theorem dX11_lettersIn_21 : decode cX11_lettersIn 21 = .ok (.iconst 3, 1) := by decide +kernel
theorem dX11_lettersIn_22 : decode cX11_lettersIn 22 = .ok (.invokevirtual 92, 3) := by decide +kernel
theorem dX11_lettersIn_25 : decode cX11_lettersIn 25 = .ok (.iadd, 1) := by decide +kernel
theorem dX11_lettersIn_26 : decode cX11_lettersIn 26 = .ok (.istore_n 2, 1) := by decide +kernel
theorem dX11_lettersIn_27 : decode cX11_lettersIn 27 = .ok (.iinc 3 1, 3) := by decide +kernel
theorem dX11_lettersIn_30 : decode cX11_lettersIn 30 = .ok (.goto (-26), 3) := by decide +kernel
theorem dX11_lettersIn_33 : decode cX11_lettersIn 33 = .ok (.iload_n 2, 1) := by decide +kernel
theorem dX11_lettersIn_34 : decode cX11_lettersIn 34 = .ok (.ireturn, 1) := by decide +kernel
theorem gX11_lettersIn_0 {d : Nat} {M : ev_Mem} {Q : Option Value → ev_Mem → Prop} {x1 : Int32} (h : (Ev LM d mX11_lettersIn 4 [some (.ref 0), some (.int x1), some (.int 0), some (.int 0)] [] M Q)) : Ev LM d mX11_lettersIn 0 [some (.ref 0), some (.int x1), none, none] [] M Q := by
  refine ev_iconst (v := 0) dX11_lettersIn_0 (by decide) ?_
  refine ev_istore_n (ls2 := [some (.ref 0), some (.int x1), some (.int 0), none]) dX11_lettersIn_1 (Nat.le_of_ble_eq_true rfl) rfl ?_
  refine ev_iconst (v := 0) dX11_lettersIn_2 (by decide) ?_
  refine ev_istore_n (ls2 := [some (.ref 0), some (.int x1), some (.int 0), some (.int 0)]) dX11_lettersIn_3 (Nat.le_of_ble_eq_true rfl) rfl ?_
  exact h
theorem gX11_lettersIn_4 {d : Nat} {M : ev_Mem} {Q : Option Value → ev_Mem → Prop} {x1 x2 x3 : Int32} (h : ((vp_in (351 + 6 * x1) 3315) ∧ ((((M.1 1 (351 + 6 * x1).toNatClampNeg) ≤ x3) → (Q (some (.int x2)) M)) ∧ ((¬ (M.1 1 (351 + 6 * x1).toNatClampNeg) ≤ x3) → (vp_in x3 5 ∧ ((vp_in (39 + 13 * (M.1 13 x3.toNatClampNeg) + (3 : Int32)) 3315) ∧ (∀ v1 : Int32, v1 = x2 + (M.1 1 (39 + 13 * (M.1 13 x3.toNatClampNeg) + (3 : Int32)).toNatClampNeg) → (Ev LM (d + 1) mX11_lettersIn 4 [some (.ref 0), some (.int x1), some (.int v1), some (.int (x3 + 1))] [] M Q)))))))) : Ev LM (d + 1) mX11_lettersIn 4 [some (.ref 0), some (.int x1), some (.int x2), some (.int x3)] [] M Q := by
  refine ev_iload_n dX11_lettersIn_4 rfl ?_
  refine ev_aload_n dX11_lettersIn_5 rfl ?_
  refine ev_iload_n dX11_lettersIn_6 rfl ?_
  obtain ⟨p1, h⟩ := h
  refine ev_callV [.int x1] dX11_lettersIn_7 ml_WithoutEModel_359 lm_0 rfl rfl (Nat.le_of_ble_eq_true rfl) (kX11_lengthOf p1) ?_
  rintro zr zM ⟨q1, q2⟩
  rw [q1, q2]
  show Ev LM (d + 1) mX11_lettersIn 10 [some (.ref 0), some (.int x1), some (.int x2), some (.int x3)] [(.int (M.1 1 (351 + 6 * x1).toNatClampNeg)), (.int x3)] M Q
  refine ev_icmp_ge (tgt := 33) dX11_lettersIn_10 (by decide) (fun c => ?_) (fun c => ?_)
  · replace h := h.1 c
    refine ev_iload_n dX11_lettersIn_33 rfl ?_
    exact ev_iret dX11_lettersIn_34 rfl h
  · replace h := h.2 c
    refine ev_iload_n dX11_lettersIn_13 rfl ?_
    refine ev_aload_n dX11_lettersIn_14 rfl ?_
    refine ev_aload_n dX11_lettersIn_15 rfl ?_
    refine ev_getA dX11_lettersIn_16 fl_WithoutEModel_55 lm_0 rfl ?_
    refine ev_iload_n dX11_lettersIn_19 rfl ?_
    obtain ⟨c, h⟩ := h
    refine ev_iald dX11_lettersIn_20 lm_13 c ?_
    refine ev_iconst (v := 3) dX11_lettersIn_21 (by decide) ?_
    obtain ⟨p1, h⟩ := h
    refine ev_callV [.int (M.1 13 x3.toNatClampNeg), .int 3] dX11_lettersIn_22 ml_WithoutEModel_92 lm_0 rfl rfl (Nat.le_of_ble_eq_true rfl) (kX11_get p1) ?_
    rintro zr zM ⟨q1, q2⟩
    rw [q1, q2]
    show Ev LM (d + 1) mX11_lettersIn 25 [some (.ref 0), some (.int x1), some (.int x2), some (.int x3)] [(.int (M.1 1 (39 + 13 * (M.1 13 x3.toNatClampNeg) + (3 : Int32)).toNatClampNeg)), (.int x2)] M Q
    refine ev_iadd dX11_lettersIn_25 ?_
    refine ev_istore_n (ls2 := [some (.ref 0), some (.int x1), some (.int (x2 + (M.1 1 (39 + 13 * (M.1 13 x3.toNatClampNeg) + (3 : Int32)).toNatClampNeg))), some (.int x3)]) dX11_lettersIn_26 (Nat.le_of_ble_eq_true rfl) rfl ?_
    generalize ev1 : x2 + (M.1 1 (39 + 13 * (M.1 13 x3.toNatClampNeg) + (3 : Int32)).toNatClampNeg) = v1
    replace h := h v1 ev1.symm
    refine ev_iinc (v := x3 + 1) (ls2 := [some (.ref 0), some (.int x1), some (.int v1), some (.int (x3 + 1))]) dX11_lettersIn_27 rfl rfl rfl ?_
    refine ev_goto (tgt := 4) dX11_lettersIn_30 (by decide) ?_
    exact h
theorem dX11_penceOf_0 : decode cX11_penceOf 0 = .ok (.iconst 0, 1) := by decide +kernel
theorem dX11_penceOf_1 : decode cX11_penceOf 1 = .ok (.istore_n 2, 1) := by decide +kernel
theorem dX11_penceOf_2 : decode cX11_penceOf 2 = .ok (.iconst 0, 1) := by decide +kernel
theorem dX11_penceOf_3 : decode cX11_penceOf 3 = .ok (.istore_n 3, 1) := by decide +kernel
theorem dX11_penceOf_4 : decode cX11_penceOf 4 = .ok (.iload_n 3, 1) := by decide +kernel
theorem dX11_penceOf_5 : decode cX11_penceOf 5 = .ok (.aload_n 0, 1) := by decide +kernel
theorem dX11_penceOf_6 : decode cX11_penceOf 6 = .ok (.iload_n 1, 1) := by decide +kernel
theorem dX11_penceOf_7 : decode cX11_penceOf 7 = .ok (.invokevirtual 359, 3) := by decide +kernel
theorem dX11_penceOf_10 : decode cX11_penceOf 10 = .ok (.if_icmp .ge 32, 3) := by decide +kernel
theorem dX11_penceOf_13 : decode cX11_penceOf 13 = .ok (.iload_n 2, 1) := by decide +kernel
theorem dX11_penceOf_14 : decode cX11_penceOf 14 = .ok (.aload_n 0, 1) := by decide +kernel
theorem dX11_penceOf_15 : decode cX11_penceOf 15 = .ok (.aload_n 0, 1) := by decide +kernel
theorem dX11_penceOf_16 : decode cX11_penceOf 16 = .ok (.getfield 55, 3) := by decide +kernel
theorem dX11_penceOf_19 : decode cX11_penceOf 19 = .ok (.iload_n 3, 1) := by decide +kernel
theorem dX11_penceOf_20 : decode cX11_penceOf 20 = .ok (.iaload, 1) := by decide +kernel
theorem dX11_penceOf_21 : decode cX11_penceOf 21 = .ok (.iconst 0, 1) := by decide +kernel
theorem dX11_penceOf_22 : decode cX11_penceOf 22 = .ok (.invokevirtual 92, 3) := by decide +kernel
theorem dX11_penceOf_25 : decode cX11_penceOf 25 = .ok (.iconst 2, 1) := by decide +kernel
theorem dX11_penceOf_26 : decode cX11_penceOf 26 = .ok (.if_icmp .ne 7, 3) := by decide +kernel
theorem dX11_penceOf_29 : decode cX11_penceOf 29 = .ok (.iconst 3, 1) := by decide +kernel
theorem dX11_penceOf_30 : decode cX11_penceOf 30 = .ok (.goto 4, 3) := by decide +kernel
theorem dX11_penceOf_33 : decode cX11_penceOf 33 = .ok (.iconst 2, 1) := by decide +kernel
theorem dX11_penceOf_34 : decode cX11_penceOf 34 = .ok (.iadd, 1) := by decide +kernel
theorem dX11_penceOf_35 : decode cX11_penceOf 35 = .ok (.istore_n 2, 1) := by decide +kernel
theorem dX11_penceOf_36 : decode cX11_penceOf 36 = .ok (.iinc 3 1, 3) := by decide +kernel
theorem dX11_penceOf_39 : decode cX11_penceOf 39 = .ok (.goto (-35), 3) := by decide +kernel
theorem dX11_penceOf_42 : decode cX11_penceOf 42 = .ok (.iload_n 2, 1) := by decide +kernel
theorem dX11_penceOf_43 : decode cX11_penceOf 43 = .ok (.ireturn, 1) := by decide +kernel
theorem gX11_penceOf_0 {d : Nat} {M : ev_Mem} {Q : Option Value → ev_Mem → Prop} {x1 : Int32} (h : (Ev LM d mX11_penceOf 4 [some (.ref 0), some (.int x1), some (.int 0), some (.int 0)] [] M Q)) : Ev LM d mX11_penceOf 0 [some (.ref 0), some (.int x1), none, none] [] M Q := by
  refine ev_iconst (v := 0) dX11_penceOf_0 (by decide) ?_
  refine ev_istore_n (ls2 := [some (.ref 0), some (.int x1), some (.int 0), none]) dX11_penceOf_1 (Nat.le_of_ble_eq_true rfl) rfl ?_
  refine ev_iconst (v := 0) dX11_penceOf_2 (by decide) ?_
  refine ev_istore_n (ls2 := [some (.ref 0), some (.int x1), some (.int 0), some (.int 0)]) dX11_penceOf_3 (Nat.le_of_ble_eq_true rfl) rfl ?_
  exact h
theorem gX11_penceOf_4 {d : Nat} {M : ev_Mem} {Q : Option Value → ev_Mem → Prop} {x1 x2 x3 : Int32} (h : ((vp_in (351 + 6 * x1) 3315) ∧ ((((M.1 1 (351 + 6 * x1).toNatClampNeg) ≤ x3) → (Q (some (.int x2)) M)) ∧ ((¬ (M.1 1 (351 + 6 * x1).toNatClampNeg) ≤ x3) → (vp_in x3 5 ∧ ((vp_in (39 + 13 * (M.1 13 x3.toNatClampNeg) + (0 : Int32)) 3315) ∧ (((¬ (M.1 1 (39 + 13 * (M.1 13 x3.toNatClampNeg) + (0 : Int32)).toNatClampNeg) = 2) → (Ev LM (d + 1) mX11_penceOf 4 [some (.ref 0), some (.int x1), some (.int (x2 + 2)), some (.int (x3 + 1))] [] M Q)) ∧ (((M.1 1 (39 + 13 * (M.1 13 x3.toNatClampNeg) + (0 : Int32)).toNatClampNeg) = 2) → (Ev LM (d + 1) mX11_penceOf 4 [some (.ref 0), some (.int x1), some (.int (x2 + 3)), some (.int (x3 + 1))] [] M Q))))))))) : Ev LM (d + 1) mX11_penceOf 4 [some (.ref 0), some (.int x1), some (.int x2), some (.int x3)] [] M Q := by
  refine ev_iload_n dX11_penceOf_4 rfl ?_
  refine ev_aload_n dX11_penceOf_5 rfl ?_
  refine ev_iload_n dX11_penceOf_6 rfl ?_
  obtain ⟨p1, h⟩ := h
  refine ev_callV [.int x1] dX11_penceOf_7 ml_WithoutEModel_359 lm_0 rfl rfl (Nat.le_of_ble_eq_true rfl) (kX11_lengthOf p1) ?_
  rintro zr zM ⟨q1, q2⟩
  rw [q1, q2]
  show Ev LM (d + 1) mX11_penceOf 10 [some (.ref 0), some (.int x1), some (.int x2), some (.int x3)] [(.int (M.1 1 (351 + 6 * x1).toNatClampNeg)), (.int x3)] M Q
  refine ev_icmp_ge (tgt := 42) dX11_penceOf_10 (by decide) (fun c => ?_) (fun c => ?_)
  · replace h := h.1 c
    refine ev_iload_n dX11_penceOf_42 rfl ?_
    exact ev_iret dX11_penceOf_43 rfl h
  · replace h := h.2 c
    refine ev_iload_n dX11_penceOf_13 rfl ?_
    refine ev_aload_n dX11_penceOf_14 rfl ?_
    refine ev_aload_n dX11_penceOf_15 rfl ?_
    refine ev_getA dX11_penceOf_16 fl_WithoutEModel_55 lm_0 rfl ?_
    refine ev_iload_n dX11_penceOf_19 rfl ?_
    obtain ⟨c, h⟩ := h
    refine ev_iald dX11_penceOf_20 lm_13 c ?_
    refine ev_iconst (v := 0) dX11_penceOf_21 (by decide) ?_
    obtain ⟨p1, h⟩ := h
    refine ev_callV [.int (M.1 13 x3.toNatClampNeg), .int 0] dX11_penceOf_22 ml_WithoutEModel_92 lm_0 rfl rfl (Nat.le_of_ble_eq_true rfl) (kX11_get p1) ?_
    rintro zr zM ⟨q1, q2⟩
    rw [q1, q2]
    show Ev LM (d + 1) mX11_penceOf 25 [some (.ref 0), some (.int x1), some (.int x2), some (.int x3)] [(.int (M.1 1 (39 + 13 * (M.1 13 x3.toNatClampNeg) + (0 : Int32)).toNatClampNeg)), (.int x2)] M Q
    refine ev_iconst (v := 2) dX11_penceOf_25 (by decide) ?_
    refine ev_icmp_ne (tgt := 33) dX11_penceOf_26 (by decide) (fun c => ?_) (fun c => ?_)
    · replace h := h.1 c
      refine ev_iconst (v := 2) dX11_penceOf_33 (by decide) ?_
      refine ev_iadd dX11_penceOf_34 ?_
      refine ev_istore_n (ls2 := [some (.ref 0), some (.int x1), some (.int (x2 + 2)), some (.int x3)]) dX11_penceOf_35 (Nat.le_of_ble_eq_true rfl) rfl ?_
      refine ev_iinc (v := x3 + 1) (ls2 := [some (.ref 0), some (.int x1), some (.int (x2 + 2)), some (.int (x3 + 1))]) dX11_penceOf_36 rfl rfl rfl ?_
      refine ev_goto (tgt := 4) dX11_penceOf_39 (by decide) ?_
      exact h
    · replace h := h.2 c
      refine ev_iconst (v := 3) dX11_penceOf_29 (by decide) ?_
      refine ev_goto (tgt := 34) dX11_penceOf_30 (by decide) ?_
      refine ev_iadd dX11_penceOf_34 ?_
      refine ev_istore_n (ls2 := [some (.ref 0), some (.int x1), some (.int (x2 + 3)), some (.int x3)]) dX11_penceOf_35 (Nat.le_of_ble_eq_true rfl) rfl ?_
      refine ev_iinc (v := x3 + 1) (ls2 := [some (.ref 0), some (.int x1), some (.int (x2 + 3)), some (.int (x3 + 1))]) dX11_penceOf_36 rfl rfl rfl ?_
      refine ev_goto (tgt := 4) dX11_penceOf_39 (by decide) ?_
      exact h
theorem dX11_keyFor_0 : decode cX11_keyFor 0 = .ok (.aload_n 0, 1) := by decide +kernel
theorem dX11_keyFor_1 : decode cX11_keyFor 1 = .ok (.iload_n 2, 1) := by decide +kernel
theorem dX11_keyFor_2 : decode cX11_keyFor 2 = .ok (.invokevirtual 88, 3) := by decide +kernel
theorem dX11_keyFor_5 : decode cX11_keyFor 5 = .ok (.ifCond .ne 7, 3) := by decide +kernel
theorem dX11_keyFor_8 : decode cX11_keyFor 8 = .ok (.iload_n 2, 1) := by decide +kernel
theorem dX11_keyFor_9 : decode cX11_keyFor 9 = .ok (.goto 29, 3) := by decide +kernel
theorem dX11_keyFor_12 : decode cX11_keyFor 12 = .ok (.aload_n 0, 1) := by decide +kernel
theorem dX11_keyFor_13 : decode cX11_keyFor 13 = .ok (.iload_n 1, 1) := by decide +kernel
theorem dX11_keyFor_14 : decode cX11_keyFor 14 = .ok (.iconst 0, 1) := by decide +kernel
theorem dX11_keyFor_15 : decode cX11_keyFor 15 = .ok (.invokevirtual 92, 3) := by decide +kernel
theorem dX11_keyFor_18 : decode cX11_keyFor 18 = .ok (.iconst 5, 1) := by decide +kernel
theorem dX11_keyFor_19 : decode cX11_keyFor 19 = .ok (.if_icmp .ne 18, 3) := by decide +kernel
theorem dX11_keyFor_22 : decode cX11_keyFor 22 = .ok (.aload_n 0, 1) := by decide +kernel
theorem dX11_keyFor_23 : decode cX11_keyFor 23 = .ok (.getfield 7, 3) := by decide +kernel
theorem dX11_keyFor_26 : decode cX11_keyFor 26 = .ok (.sipush 399, 3) := by decide +kernel
theorem dX11_keyFor_29 : decode cX11_keyFor 29 = .ok (.iconst 2, 1) := by decide +kernel
theorem dX11_keyFor_30 : decode cX11_keyFor 30 = .ok (.iload_n 2, 1) := by decide +kernel
theorem dX11_keyFor_31 : decode cX11_keyFor 31 = .ok (.imul, 1) := by decide +kernel
theorem dX11_keyFor_32 : decode cX11_keyFor 32 = .ok (.iadd, 1) := by decide +kernel
theorem dX11_keyFor_33 : decode cX11_keyFor 33 = .ok (.iaload, 1) := by decide +kernel
theorem dX11_keyFor_34 : decode cX11_keyFor 34 = .ok (.goto 4, 3) := by decide +kernel
theorem dX11_keyFor_37 : decode cX11_keyFor 37 = .ok (.iconst (-1), 1) := by decide +kernel
theorem dX11_keyFor_38 : decode cX11_keyFor 38 = .ok (.ireturn, 1) := by decide +kernel
theorem gX11_keyFor_0 {d : Nat} {M : ev_Mem} {Q : Option Value → ev_Mem → Prop} {x1 x2 : Int32} (h : ((((hs (M.1 1 9) x2) = true) → ((vp_in (39 + 13 * x1 + (0 : Int32)) 3315) ∧ (((¬ (M.1 1 (39 + 13 * x1 + (0 : Int32)).toNatClampNeg) = 5) → (Q (some (.int (-1))) M)) ∧ (((M.1 1 (39 + 13 * x1 + (0 : Int32)).toNatClampNeg) = 5) → (vp_in (399 + (2 * x2)) 3315 ∧ (Q (some (.int (M.1 1 (399 + (2 * x2)).toNatClampNeg))) M)))))) ∧ (((hs (M.1 1 9) x2) = false) → (Q (some (.int x2)) M)))) : Ev LM (d + 2) mX11_keyFor 0 [some (.ref 0), some (.int x1), some (.int x2)] [] M Q := by
  refine ev_aload_n dX11_keyFor_0 rfl ?_
  refine ev_iload_n dX11_keyFor_1 rfl ?_
  refine ev_callV [.int x2] dX11_keyFor_2 ml_WithoutEModel_88 lm_0 rfl rfl (Nat.le_of_ble_eq_true rfl) (kX11_isLost) ?_
  rintro zr zM ⟨q1, q2⟩
  rw [q1, q2]
  show Ev LM (d + 2) mX11_keyFor 5 [some (.ref 0), some (.int x1), some (.int x2)] [(.int (bi (hs (M.1 1 9) x2)))] M Q
  refine ev_if_ne (tgt := 12) dX11_keyFor_5 (by decide) (fun c => ?_) (fun c => ?_)
  · replace h := h.1 ((bi_n0 _).mp c)
    refine ev_aload_n dX11_keyFor_12 rfl ?_
    refine ev_iload_n dX11_keyFor_13 rfl ?_
    refine ev_iconst (v := 0) dX11_keyFor_14 (by decide) ?_
    obtain ⟨p1, h⟩ := h
    refine ev_callV [.int x1, .int 0] dX11_keyFor_15 ml_WithoutEModel_92 lm_0 rfl rfl (Nat.le_of_ble_eq_true rfl) (kX11_get p1) ?_
    rintro zr zM ⟨q1, q2⟩
    rw [q1, q2]
    show Ev LM (d + 2) mX11_keyFor 18 [some (.ref 0), some (.int x1), some (.int x2)] [(.int (M.1 1 (39 + 13 * x1 + (0 : Int32)).toNatClampNeg))] M Q
    refine ev_iconst (v := 5) dX11_keyFor_18 (by decide) ?_
    refine ev_icmp_ne (tgt := 37) dX11_keyFor_19 (by decide) (fun c => ?_) (fun c => ?_)
    · replace h := h.1 c
      refine ev_iconst (v := -1) dX11_keyFor_37 (by decide) ?_
      exact ev_iret dX11_keyFor_38 rfl h
    · replace h := h.2 c
      refine ev_aload_n dX11_keyFor_22 rfl ?_
      refine ev_getA dX11_keyFor_23 fl_WithoutEModel_7 lm_0 rfl ?_
      refine ev_sipush (v := 399) dX11_keyFor_26 (by decide) ?_
      refine ev_iconst (v := 2) dX11_keyFor_29 (by decide) ?_
      refine ev_iload_n dX11_keyFor_30 rfl ?_
      refine ev_imul dX11_keyFor_31 ?_
      refine ev_iadd dX11_keyFor_32 ?_
      obtain ⟨c, h⟩ := h
      refine ev_iald dX11_keyFor_33 lm_1 c ?_
      refine ev_goto (tgt := 38) dX11_keyFor_34 (by decide) ?_
      exact ev_iret dX11_keyFor_38 rfl h
  · replace h := h.2 ((bi_0 _).mp c)
    refine ev_iload_n dX11_keyFor_8 rfl ?_
    refine ev_goto (tgt := 38) dX11_keyFor_9 (by decide) ?_
    exact ev_iret dX11_keyFor_38 rfl h
theorem gX10_stiffnessByV_0 {d : Nat} {M : ev_Mem} {Q : Option Value → ev_Mem → Prop} {x2 : Int32} {v : Value} (hv : v = .null ∨ ∃ k, ev_isT k ∧ v = .ref k) (h : ((wd M x2) ∧ ((wd M x2) ∧ (∃ Q2 : Option Value → ev_Mem → Prop, Cl LX (d + 2) mX1_stiffness [.ref 83, v, .int x2, .int (nI (xH M x2 (M.1 43 0))), .int (xE M x2 (M.1 43 0)), .int (bc (M.1 43 0))] M Q2 ∧ ∀ (zr : Option Value) (zM : ev_Mem), Q2 zr zM → Ev LX (d + 3) mX10_stiffnessBy 49 [none, none, none] (zr.toList ++ []) zM Q)))) : Ev LX (d + 3) mX10_stiffnessBy 0 [some (.ref 0), some (v), some (.int x2)] [] M Q := by
  rcases hv with rfl | ⟨k, hk, rfl⟩
  · exact gX10_stiffnessByN_0 h
  · exact gX10_stiffnessBy_0 hk h
theorem gX10_stiffnessByV_49 {d : Nat} {M : ev_Mem} {Q : Option Value → ev_Mem → Prop} {s0 : Int32} {v : Value} (hv : v = .null ∨ ∃ k, ev_isT k ∧ v = .ref k) (h : (Q (some (.int s0)) M)) : Ev LX d mX10_stiffnessBy 49 [none, none, none] [(.int s0)] M Q := by
  rcases hv with rfl | ⟨k, hk, rfl⟩
  · exact gX10_stiffnessByN_49 h
  · exact gX10_stiffnessBy_49 hk h
