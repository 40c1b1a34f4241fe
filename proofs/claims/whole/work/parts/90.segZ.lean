theorem dX10_feed_0 : decode cX10_feed 0 = .ok (.aload_n 0, 1) := by decide +kernel
theorem dX10_feed_1 : decode cX10_feed 1 = .ok (.getfield 10, 3) := by decide +kernel
theorem dX10_feed_4 : decode cX10_feed 4 = .ok (.getfield 102, 3) := by decide +kernel
theorem dX10_feed_7 : decode cX10_feed 7 = .ok (.bipush 20, 2) := by decide +kernel
theorem dX10_feed_9 : decode cX10_feed 9 = .ok (.iadd, 1) := by decide +kernel
theorem dX10_feed_10 : decode cX10_feed 10 = .ok (.sipush 300, 3) := by decide +kernel
theorem dX10_feed_13 : decode cX10_feed 13 = .ok (.if_icmp .le 5, 3) := by decide +kernel
theorem dX10_feed_16 : decode cX10_feed 16 = .ok (.iconst (-1), 1) := by decide +kernel
theorem dX10_feed_17 : decode cX10_feed 17 = .ok (.ireturn, 1) := by decide +kernel
theorem dX10_feed_18 : decode cX10_feed 18 = .ok (.aload_n 0, 1) := by decide +kernel
theorem dX10_feed_19 : decode cX10_feed 19 = .ok (.getfield 10, 3) := by decide +kernel
theorem dX10_feed_22 : decode cX10_feed 22 = .ok (.iload_n 1, 1) := by decide +kernel
theorem dX10_feed_23 : decode cX10_feed 23 = .ok (.invokevirtual 106, 3) := by decide +kernel
theorem dX10_feed_26 : decode cX10_feed 26 = .ok (.aload_n 0, 1) := by decide +kernel
theorem dX10_feed_27 : decode cX10_feed 27 = .ok (.getfield 10, 3) := by decide +kernel
theorem dX10_feed_30 : decode cX10_feed 30 = .ok (.iload_n 2, 1) := by decide +kernel
theorem dX10_feed_31 : decode cX10_feed 31 = .ok (.invokevirtual 106, 3) := by decide +kernel
theorem dX10_feed_34 : decode cX10_feed 34 = .ok (.aload_n 0, 1) := by decide +kernel
theorem dX10_feed_35 : decode cX10_feed 35 = .ok (.getfield 10, 3) := by decide +kernel
theorem dX10_feed_38 : decode cX10_feed 38 = .ok (.iload_n 3, 1) := by decide +kernel
theorem dX10_feed_39 : decode cX10_feed 39 = .ok (.invokevirtual 106, 3) := by decide +kernel
theorem dX10_feed_42 : decode cX10_feed 42 = .ok (.aload_n 0, 1) := by decide +kernel
theorem dX10_feed_43 : decode cX10_feed 43 = .ok (.getfield 10, 3) := by decide +kernel
theorem dX10_feed_46 : decode cX10_feed 46 = .ok (.iload 4, 2) := by decide +kernel
theorem dX10_feed_48 : decode cX10_feed 48 = .ok (.invokevirtual 106, 3) := by decide +kernel
theorem dX10_feed_51 : decode cX10_feed 51 = .ok (.aload_n 0, 1) := by decide +kernel
theorem dX10_feed_52 : decode cX10_feed 52 = .ok (.getfield 10, 3) := by decide +kernel
theorem dX10_feed_55 : decode cX10_feed 55 = .ok (.iload 5, 2) := by decide +kernel
theorem dX10_feed_57 : decode cX10_feed 57 = .ok (.invokevirtual 106, 3) := by decide +kernel
theorem dX10_feed_60 : decode cX10_feed 60 = .ok (.aload_n 0, 1) := by decide +kernel
theorem dX10_feed_61 : decode cX10_feed 61 = .ok (.getfield 10, 3) := by decide +kernel
theorem dX10_feed_64 : decode cX10_feed 64 = .ok (.getfield 102, 3) := by decide +kernel
theorem dX10_feed_67 : decode cX10_feed 67 = .ok (.ireturn, 1) := by decide +kernel
theorem gX10_feed_0 {d : Nat} {M : ev_Mem} {Q : Option Value → ev_Mem → Prop} {x1 x2 x3 x4 x5 : Int32} (h : (((((M.1 1 1) + 20) ≤ 300) → (∃ Q2 : Option Value → ev_Mem → Prop, Cl LX d mX7_put [.ref 1, .int x1] M Q2 ∧ ∀ (zr : Option Value) (zM : ev_Mem), Q2 zr zM → Ev LX (d + 1) mX10_feed 26 [some (.ref 0), none, some (.int x2), some (.int x3), some (.int x4), some (.int x5)] (zr.toList ++ []) zM Q)) ∧ ((¬ ((M.1 1 1) + 20) ≤ 300) → (Q (some (.int (-1))) M)))) : Ev LX (d + 1) mX10_feed 0 [some (.ref 0), some (.int x1), some (.int x2), some (.int x3), some (.int x4), some (.int x5)] [] M Q := by
  refine ev_aload_n dX10_feed_0 rfl ?_
  refine ev_getA dX10_feed_1 fl_WithoutE_10 lx_0 rfl ?_
  refine ev_getI dX10_feed_4 fl_WithoutE_102 lx_1 rfl ?_
  refine ev_bipush (v := 20) dX10_feed_7 (by decide) ?_
  refine ev_iadd dX10_feed_9 ?_
  refine ev_sipush (v := 300) dX10_feed_10 (by decide) ?_
  refine ev_icmp_le (tgt := 18) dX10_feed_13 (by decide) (fun c => ?_) (fun c => ?_)
  · replace h := h.1 c
    refine ev_aload_n dX10_feed_18 rfl ?_
    refine ev_getA dX10_feed_19 fl_WithoutE_10 lx_0 rfl ?_
    refine ev_iload_n dX10_feed_22 rfl ?_
    obtain ⟨Q2, hc, h⟩ := h
    refine ev_callV [.int x1] dX10_feed_23 ml_WithoutE_106 lx_1 rfl rfl (Nat.le_of_ble_eq_true rfl) hc (fun zr zM q => ?_)
    refine Ev.weak (ls := [some (.ref 0), none, some (.int x2), some (.int x3), some (.int x4), some (.int x5)]) ⟨rfl, rfl, rfl, rfl, rfl, trivial⟩ ?_
    exact h zr zM q
  · replace h := h.2 c
    refine ev_iconst (v := -1) dX10_feed_16 (by decide) ?_
    exact ev_iret dX10_feed_17 rfl h
theorem gX10_feed_26 {d : Nat} {M : ev_Mem} {Q : Option Value → ev_Mem → Prop} {x2 x3 x4 x5 : Int32} (h : (∃ Q2 : Option Value → ev_Mem → Prop, Cl LX d mX7_put [.ref 1, .int x2] M Q2 ∧ ∀ (zr : Option Value) (zM : ev_Mem), Q2 zr zM → Ev LX (d + 1) mX10_feed 34 [some (.ref 0), none, none, some (.int x3), some (.int x4), some (.int x5)] (zr.toList ++ []) zM Q)) : Ev LX (d + 1) mX10_feed 26 [some (.ref 0), none, some (.int x2), some (.int x3), some (.int x4), some (.int x5)] [] M Q := by
  refine ev_aload_n dX10_feed_26 rfl ?_
  refine ev_getA dX10_feed_27 fl_WithoutE_10 lx_0 rfl ?_
  refine ev_iload_n dX10_feed_30 rfl ?_
  obtain ⟨Q2, hc, h⟩ := h
  refine ev_callV [.int x2] dX10_feed_31 ml_WithoutE_106 lx_1 rfl rfl (Nat.le_of_ble_eq_true rfl) hc (fun zr zM q => ?_)
  refine Ev.weak (ls := [some (.ref 0), none, none, some (.int x3), some (.int x4), some (.int x5)]) ⟨rfl, rfl, rfl, rfl, trivial⟩ ?_
  exact h zr zM q
theorem gX10_feed_34 {d : Nat} {M : ev_Mem} {Q : Option Value → ev_Mem → Prop} {x3 x4 x5 : Int32} (h : (∃ Q2 : Option Value → ev_Mem → Prop, Cl LX d mX7_put [.ref 1, .int x3] M Q2 ∧ ∀ (zr : Option Value) (zM : ev_Mem), Q2 zr zM → Ev LX (d + 1) mX10_feed 42 [some (.ref 0), none, none, none, some (.int x4), some (.int x5)] (zr.toList ++ []) zM Q)) : Ev LX (d + 1) mX10_feed 34 [some (.ref 0), none, none, some (.int x3), some (.int x4), some (.int x5)] [] M Q := by
  refine ev_aload_n dX10_feed_34 rfl ?_
  refine ev_getA dX10_feed_35 fl_WithoutE_10 lx_0 rfl ?_
  refine ev_iload_n dX10_feed_38 rfl ?_
  obtain ⟨Q2, hc, h⟩ := h
  refine ev_callV [.int x3] dX10_feed_39 ml_WithoutE_106 lx_1 rfl rfl (Nat.le_of_ble_eq_true rfl) hc (fun zr zM q => ?_)
  refine Ev.weak (ls := [some (.ref 0), none, none, none, some (.int x4), some (.int x5)]) ⟨rfl, rfl, rfl, trivial⟩ ?_
  exact h zr zM q
theorem gX10_feed_42 {d : Nat} {M : ev_Mem} {Q : Option Value → ev_Mem → Prop} {x4 x5 : Int32} (h : (∃ Q2 : Option Value → ev_Mem → Prop, Cl LX d mX7_put [.ref 1, .int x4] M Q2 ∧ ∀ (zr : Option Value) (zM : ev_Mem), Q2 zr zM → Ev LX (d + 1) mX10_feed 51 [some (.ref 0), none, none, none, none, some (.int x5)] (zr.toList ++ []) zM Q)) : Ev LX (d + 1) mX10_feed 42 [some (.ref 0), none, none, none, some (.int x4), some (.int x5)] [] M Q := by
  refine ev_aload_n dX10_feed_42 rfl ?_
  refine ev_getA dX10_feed_43 fl_WithoutE_10 lx_0 rfl ?_
  refine ev_iload dX10_feed_46 rfl ?_
  obtain ⟨Q2, hc, h⟩ := h
  refine ev_callV [.int x4] dX10_feed_48 ml_WithoutE_106 lx_1 rfl rfl (Nat.le_of_ble_eq_true rfl) hc (fun zr zM q => ?_)
  refine Ev.weak (ls := [some (.ref 0), none, none, none, none, some (.int x5)]) ⟨rfl, rfl, trivial⟩ ?_
  exact h zr zM q
theorem gX10_feed_51 {d : Nat} {M : ev_Mem} {Q : Option Value → ev_Mem → Prop} {x5 : Int32} (h : (∃ Q2 : Option Value → ev_Mem → Prop, Cl LX d mX7_put [.ref 1, .int x5] M Q2 ∧ ∀ (zr : Option Value) (zM : ev_Mem), Q2 zr zM → Ev LX (d + 1) mX10_feed 60 [some (.ref 0), none, none, none, none, none] (zr.toList ++ []) zM Q)) : Ev LX (d + 1) mX10_feed 51 [some (.ref 0), none, none, none, none, some (.int x5)] [] M Q := by
  refine ev_aload_n dX10_feed_51 rfl ?_
  refine ev_getA dX10_feed_52 fl_WithoutE_10 lx_0 rfl ?_
  refine ev_iload dX10_feed_55 rfl ?_
  obtain ⟨Q2, hc, h⟩ := h
  refine ev_callV [.int x5] dX10_feed_57 ml_WithoutE_106 lx_1 rfl rfl (Nat.le_of_ble_eq_true rfl) hc (fun zr zM q => ?_)
  refine Ev.weak (ls := [some (.ref 0), none, none, none, none, none]) ⟨rfl, trivial⟩ ?_
  exact h zr zM q
theorem gX10_feed_60 {d : Nat} {M : ev_Mem} {Q : Option Value → ev_Mem → Prop} (h : (Q (some (.int (M.1 1 1))) M)) : Ev LX d mX10_feed 60 [some (.ref 0), none, none, none, none, none] [] M Q := by
  refine ev_aload_n dX10_feed_60 rfl ?_
  refine ev_getA dX10_feed_61 fl_WithoutE_10 lx_0 rfl ?_
  refine ev_getI dX10_feed_64 fl_WithoutE_102 lx_1 rfl ?_
  exact ev_iret dX10_feed_67 rfl h
theorem dX10_addWord_0 : decode cX10_addWord 0 = .ok (.aload_n 0, 1) := by decide +kernel
theorem dX10_addWord_1 : decode cX10_addWord 1 = .ok (.getfield 19, 3) := by decide +kernel
theorem dX10_addWord_4 : decode cX10_addWord 4 = .ok (.getfield 194, 3) := by decide +kernel
theorem dX10_addWord_7 : decode cX10_addWord 7 = .ok (.bipush 24, 2) := by decide +kernel
theorem dX10_addWord_9 : decode cX10_addWord 9 = .ok (.if_icmp .lt 9, 3) := by decide +kernel
theorem dX10_addWord_12 : decode cX10_addWord 12 = .ok (.aload_n 0, 1) := by decide +kernel
theorem dX10_addWord_13 : decode cX10_addWord 13 = .ok (.iconst 1, 1) := by decide +kernel
theorem dX10_addWord_14 : decode cX10_addWord 14 = .ok (.invokevirtual 185, 3) := by decide +kernel
theorem dX10_addWord_17 : decode cX10_addWord 17 = .ok (.ireturn, 1) := by decide +kernel
theorem dX10_addWord_18 : decode cX10_addWord 18 = .ok (.aload_n 0, 1) := by decide +kernel
theorem dX10_addWord_19 : decode cX10_addWord 19 = .ok (.getfield 19, 3) := by decide +kernel
theorem dX10_addWord_22 : decode cX10_addWord 22 = .ok (.aload_n 1, 1) := by decide +kernel
theorem dX10_addWord_23 : decode cX10_addWord 23 = .ok (.iload_n 2, 1) := by decide +kernel
theorem dX10_addWord_24 : decode cX10_addWord 24 = .ok (.iload_n 3, 1) := by decide +kernel
theorem dX10_addWord_25 : decode cX10_addWord 25 = .ok (.iload 4, 2) := by decide +kernel
theorem dX10_addWord_27 : decode cX10_addWord 27 = .ok (.iload 5, 2) := by decide +kernel
theorem dX10_addWord_29 : decode cX10_addWord 29 = .ok (.iload 6, 2) := by decide +kernel
theorem dX10_addWord_31 : decode cX10_addWord 31 = .ok (.invokevirtual 211, 3) := by decide +kernel
theorem dX10_addWord_34 : decode cX10_addWord 34 = .ok (.ireturn, 1) := by decide +kernel
theorem gX10_addWord_0 {d : Nat} {M : ev_Mem} {Q : Option Value → ev_Mem → Prop} {x2 x3 x4 x5 x6 : Int32} {k n : Nat} {kid : Nat → Nat} (hk : LX[k]? = some (.inl (0, n, 0, kid))) (h : ((((M.1 3 5) < 24) → (∃ Q2 : Option Value → ev_Mem → Prop, Cl LX d mX0_tellWord [.ref 3, .ref k, .int x2, .int x3, .int x4, .int x5, .int x6] M Q2 ∧ ∀ (zr : Option Value) (zM : ev_Mem), Q2 zr zM → Ev LX (d + 1) mX10_addWord 34 [none, none, none, none, none, none, none] (zr.toList ++ []) zM Q)) ∧ ((¬ (M.1 3 5) < 24) → ((vp_in (1 : Int32) 3) ∧ (∀ M1 : ev_Mem, M1 = rfs M 117 (1 : Int32).toNatClampNeg → (Q (some (.int (-1))) M1)))))) : Ev LX (d + 1) mX10_addWord 0 [some (.ref 0), some (.ref k), some (.int x2), some (.int x3), some (.int x4), some (.int x5), some (.int x6)] [] M Q := by
  refine ev_aload_n dX10_addWord_0 rfl ?_
  refine ev_getA dX10_addWord_1 fl_WithoutE_19 lx_0 rfl ?_
  refine ev_getI dX10_addWord_4 fl_WithoutE_194 lx_3 rfl ?_
  refine ev_bipush (v := 24) dX10_addWord_7 (by decide) ?_
  refine ev_icmp_lt (tgt := 18) dX10_addWord_9 (by decide) (fun c => ?_) (fun c => ?_)
  · replace h := h.1 c
    refine ev_aload_n dX10_addWord_18 rfl ?_
    refine ev_getA dX10_addWord_19 fl_WithoutE_19 lx_0 rfl ?_
    refine ev_aload_n dX10_addWord_22 rfl ?_
    refine ev_iload_n dX10_addWord_23 rfl ?_
    refine ev_iload_n dX10_addWord_24 rfl ?_
    refine ev_iload dX10_addWord_25 rfl ?_
    refine ev_iload dX10_addWord_27 rfl ?_
    refine ev_iload dX10_addWord_29 rfl ?_
    obtain ⟨Q2, hc, h⟩ := h
    refine ev_callV [.ref k, .int x2, .int x3, .int x4, .int x5, .int x6] dX10_addWord_31 ml_WithoutE_211 lx_3 rfl rfl (Nat.le_of_ble_eq_true rfl) hc (fun zr zM q => ?_)
    refine Ev.weak (ls := [none, none, none, none, none, none, none]) trivial ?_
    exact h zr zM q
  · replace h := h.2 c
    refine ev_aload_n dX10_addWord_12 rfl ?_
    refine ev_iconst (v := 1) dX10_addWord_13 (by decide) ?_
    obtain ⟨p1, h⟩ := h
    refine ev_callV [.int 1] dX10_addWord_14 ml_WithoutE_185 lx_0 rfl rfl (Nat.le_of_ble_eq_true rfl) (qX10_refuse p1) ?_
    rintro zr zM ⟨q1, q2⟩
    rw [q1, q2]
    generalize eM1 : rfs M 117 (1 : Int32).toNatClampNeg = M1
    replace h := h M1 eM1.symm
    show Ev LX (d + 1) mX10_addWord 17 [some (.ref 0), some (.ref k), some (.int x2), some (.int x3), some (.int x4), some (.int x5), some (.int x6)] [(.int (-1))] M1 Q
    exact ev_iret dX10_addWord_17 rfl h
theorem gX10_addWord_34 {d : Nat} {M : ev_Mem} {Q : Option Value → ev_Mem → Prop} {s0 : Int32} {k n : Nat} {kid : Nat → Nat} (hk : LX[k]? = some (.inl (0, n, 0, kid))) (h : (Q (some (.int s0)) M)) : Ev LX d mX10_addWord 34 [none, none, none, none, none, none, none] [(.int s0)] M Q := by
  exact ev_iret dX10_addWord_34 rfl h
theorem dX10_addSentence_0 : decode cX10_addSentence 0 = .ok (.aload_n 0, 1) := by decide +kernel
theorem dX10_addSentence_1 : decode cX10_addSentence 1 = .ok (.getfield 19, 3) := by decide +kernel
theorem dX10_addSentence_4 : decode cX10_addSentence 4 = .ok (.getfield 262, 3) := by decide +kernel
theorem dX10_addSentence_7 : decode cX10_addSentence 7 = .ok (.bipush 8, 2) := by decide +kernel
theorem dX10_addSentence_9 : decode cX10_addSentence 9 = .ok (.if_icmp .lt 9, 3) := by decide +kernel
theorem dX10_addSentence_12 : decode cX10_addSentence 12 = .ok (.aload_n 0, 1) := by decide +kernel
theorem dX10_addSentence_13 : decode cX10_addSentence 13 = .ok (.iconst 1, 1) := by decide +kernel
theorem dX10_addSentence_14 : decode cX10_addSentence 14 = .ok (.invokevirtual 185, 3) := by decide +kernel
theorem dX10_addSentence_17 : decode cX10_addSentence 17 = .ok (.ireturn, 1) := by decide +kernel
theorem dX10_addSentence_18 : decode cX10_addSentence 18 = .ok (.aload_n 0, 1) := by decide +kernel
theorem dX10_addSentence_19 : decode cX10_addSentence 19 = .ok (.getfield 19, 3) := by decide +kernel
theorem dX10_addSentence_22 : decode cX10_addSentence 22 = .ok (.aload_n 1, 1) := by decide +kernel
theorem dX10_addSentence_23 : decode cX10_addSentence 23 = .ok (.iload_n 2, 1) := by decide +kernel
theorem dX10_addSentence_24 : decode cX10_addSentence 24 = .ok (.iload_n 3, 1) := by decide +kernel
theorem dX10_addSentence_25 : decode cX10_addSentence 25 = .ok (.invokevirtual 265, 3) := by decide +kernel
theorem dX10_addSentence_28 : decode cX10_addSentence 28 = .ok (.ireturn, 1) := by decide +kernel
theorem gX10_addSentence_0 {d : Nat} {M : ev_Mem} {Q : Option Value → ev_Mem → Prop} {x2 x3 : Int32} {k n : Nat} {kid : Nat → Nat} (hk : LX[k]? = some (.inl (0, n, 0, kid))) (h : ((((M.1 3 8) < 8) → (∃ Q2 : Option Value → ev_Mem → Prop, Cl LX d mX0_tellSentence [.ref 3, .ref k, .int x2, .int x3] M Q2 ∧ ∀ (zr : Option Value) (zM : ev_Mem), Q2 zr zM → Ev LX (d + 1) mX10_addSentence 28 [none, none, none, none] (zr.toList ++ []) zM Q)) ∧ ((¬ (M.1 3 8) < 8) → ((vp_in (1 : Int32) 3) ∧ (∀ M1 : ev_Mem, M1 = rfs M 117 (1 : Int32).toNatClampNeg → (Q (some (.int (-1))) M1)))))) : Ev LX (d + 1) mX10_addSentence 0 [some (.ref 0), some (.ref k), some (.int x2), some (.int x3)] [] M Q := by
  refine ev_aload_n dX10_addSentence_0 rfl ?_
  refine ev_getA dX10_addSentence_1 fl_WithoutE_19 lx_0 rfl ?_
  refine ev_getI dX10_addSentence_4 fl_WithoutE_262 lx_3 rfl ?_
  refine ev_bipush (v := 8) dX10_addSentence_7 (by decide) ?_
  refine ev_icmp_lt (tgt := 18) dX10_addSentence_9 (by decide) (fun c => ?_) (fun c => ?_)
  · replace h := h.1 c
    refine ev_aload_n dX10_addSentence_18 rfl ?_
    refine ev_getA dX10_addSentence_19 fl_WithoutE_19 lx_0 rfl ?_
    refine ev_aload_n dX10_addSentence_22 rfl ?_
    refine ev_iload_n dX10_addSentence_23 rfl ?_
    refine ev_iload_n dX10_addSentence_24 rfl ?_
    obtain ⟨Q2, hc, h⟩ := h
    refine ev_callV [.ref k, .int x2, .int x3] dX10_addSentence_25 ml_WithoutE_265 lx_3 rfl rfl (Nat.le_of_ble_eq_true rfl) hc (fun zr zM q => ?_)
    refine Ev.weak (ls := [none, none, none, none]) trivial ?_
    exact h zr zM q
  · replace h := h.2 c
    refine ev_aload_n dX10_addSentence_12 rfl ?_
    refine ev_iconst (v := 1) dX10_addSentence_13 (by decide) ?_
    obtain ⟨p1, h⟩ := h
    refine ev_callV [.int 1] dX10_addSentence_14 ml_WithoutE_185 lx_0 rfl rfl (Nat.le_of_ble_eq_true rfl) (qX10_refuse p1) ?_
    rintro zr zM ⟨q1, q2⟩
    rw [q1, q2]
    generalize eM1 : rfs M 117 (1 : Int32).toNatClampNeg = M1
    replace h := h M1 eM1.symm
    show Ev LX (d + 1) mX10_addSentence 17 [some (.ref 0), some (.ref k), some (.int x2), some (.int x3)] [(.int (-1))] M1 Q
    exact ev_iret dX10_addSentence_17 rfl h
theorem gX10_addSentence_28 {d : Nat} {M : ev_Mem} {Q : Option Value → ev_Mem → Prop} {s0 : Int32} {k n : Nat} {kid : Nat → Nat} (hk : LX[k]? = some (.inl (0, n, 0, kid))) (h : (Q (some (.int s0)) M)) : Ev LX d mX10_addSentence 28 [none, none, none, none] [(.int s0)] M Q := by
  exact ev_iret dX10_addSentence_28 rfl h
theorem dX10_word_0 : decode cX10_word 0 = .ok (.aload_n 0, 1) := by decide +kernel
theorem dX10_word_1 : decode cX10_word 1 = .ok (.getfield 10, 3) := by decide +kernel
theorem dX10_word_4 : decode cX10_word 4 = .ok (.iconst 0, 1) := by decide +kernel
theorem dX10_word_5 : decode cX10_word 5 = .ok (.invokevirtual 178, 3) := by decide +kernel
theorem dX10_word_8 : decode cX10_word 8 = .ok (.ifCond .eq 30, 3) := by decide +kernel
theorem dX10_word_11 : decode cX10_word 11 = .ok (.iload_n 1, 1) := by decide +kernel
theorem dX10_word_12 : decode cX10_word 12 = .ok (.ifCond .lt 26, 3) := by decide +kernel
theorem dX10_word_15 : decode cX10_word 15 = .ok (.iload_n 1, 1) := by decide +kernel
theorem dX10_word_16 : decode cX10_word 16 = .ok (.bipush 6, 2) := by decide +kernel
theorem dX10_word_18 : decode cX10_word 18 = .ok (.if_icmp .gt 20, 3) := by decide +kernel
theorem dX10_word_21 : decode cX10_word 21 = .ok (.iload_n 2, 1) := by decide +kernel
theorem dX10_word_22 : decode cX10_word 22 = .ok (.invokestatic 182, 3) := by decide +kernel
theorem dX10_word_25 : decode cX10_word 25 = .ok (.ifCond .eq 13, 3) := by decide +kernel
theorem dX10_word_28 : decode cX10_word 28 = .ok (.iload_n 3, 1) := by decide +kernel
theorem dX10_word_29 : decode cX10_word 29 = .ok (.ifCond .lt 9, 3) := by decide +kernel
theorem dX10_word_32 : decode cX10_word 32 = .ok (.iload_n 3, 1) := by decide +kernel
theorem dX10_word_33 : decode cX10_word 33 = .ok (.bipush 9, 2) := by decide +kernel
theorem dX10_word_35 : decode cX10_word 35 = .ok (.if_icmp .le 9, 3) := by decide +kernel
theorem dX10_word_38 : decode cX10_word 38 = .ok (.aload_n 0, 1) := by decide +kernel
theorem dX10_word_39 : decode cX10_word 39 = .ok (.iconst 0, 1) := by decide +kernel
theorem dX10_word_40 : decode cX10_word 40 = .ok (.invokevirtual 185, 3) := by decide +kernel
theorem dX10_word_43 : decode cX10_word 43 = .ok (.ireturn, 1) := by decide +kernel
theorem dX10_word_44 : decode cX10_word 44 = .ok (.aload_n 0, 1) := by decide +kernel
theorem dX10_word_45 : decode cX10_word 45 = .ok (.aload_n 0, 1) := by decide +kernel
theorem dX10_word_46 : decode cX10_word 46 = .ok (.getfield 10, 3) := by decide +kernel
theorem dX10_word_49 : decode cX10_word 49 = .ok (.getfield 188, 3) := by decide +kernel
theorem dX10_word_52 : decode cX10_word 52 = .ok (.iconst 0, 1) := by decide +kernel
theorem dX10_word_53 : decode cX10_word 53 = .ok (.aload_n 0, 1) := by decide +kernel
theorem dX10_word_54 : decode cX10_word 54 = .ok (.getfield 10, 3) := by decide +kernel
theorem dX10_word_57 : decode cX10_word 57 = .ok (.getfield 102, 3) := by decide +kernel
theorem dX10_word_60 : decode cX10_word 60 = .ok (.iload_n 1, 1) := by decide +kernel
theorem dX10_word_61 : decode cX10_word 61 = .ok (.iload_n 2, 1) := by decide +kernel
theorem dX10_word_62 : decode cX10_word 62 = .ok (.iload_n 3, 1) := by decide +kernel
theorem dX10_word_63 : decode cX10_word 63 = .ok (.invokevirtual 153, 3) := by decide +kernel
theorem dX10_word_66 : decode cX10_word 66 = .ok (.istore 4, 2) := by decide +kernel
theorem dX10_word_68 : decode cX10_word 68 = .ok (.iload 4, 2) := by decide +kernel
theorem dX10_word_70 : decode cX10_word 70 = .ok (.iconst (-1), 1) := by decide +kernel
theorem dX10_word_71 : decode cX10_word 71 = .ok (.if_icmp .eq 11, 3) := by decide +kernel
theorem dX10_word_74 : decode cX10_word 74 = .ok (.aload_n 0, 1) := by decide +kernel
theorem dX10_word_75 : decode cX10_word 75 = .ok (.getfield 10, 3) := by decide +kernel
theorem dX10_word_78 : decode cX10_word 78 = .ok (.iconst 0, 1) := by decide +kernel
theorem dX10_word_79 : decode cX10_word 79 = .ok (.putfield 102, 3) := by decide +kernel
theorem dX10_word_82 : decode cX10_word 82 = .ok (.iload 4, 2) := by decide +kernel
theorem dX10_word_84 : decode cX10_word 84 = .ok (.ireturn, 1) := by decide +kernel
theorem gX10_word_0 {d : Nat} {M : ev_Mem} {Q : Option Value → ev_Mem → Prop} {x1 x2 x3 : Int32} (h : (∃ Q2 : Option Value → ev_Mem → Prop, Cl LX d mX7_spells [.ref 1, .int 0] M Q2 ∧ ∀ (zr : Option Value) (zM : ev_Mem), Q2 zr zM → Ev LX (d + 1) mX10_word 8 [some (.ref 0), some (.int x1), some (.int x2), some (.int x3), none] (zr.toList ++ []) zM Q)) : Ev LX (d + 1) mX10_word 0 [some (.ref 0), some (.int x1), some (.int x2), some (.int x3), none] [] M Q := by
  refine ev_aload_n dX10_word_0 rfl ?_
  refine ev_getA dX10_word_1 fl_WithoutE_10 lx_0 rfl ?_
  refine ev_iconst (v := 0) dX10_word_4 (by decide) ?_
  obtain ⟨Q2, hc, h⟩ := h
  refine ev_callV [.int 0] dX10_word_5 ml_WithoutE_178 lx_1 rfl rfl (Nat.le_of_ble_eq_true rfl) hc (fun zr zM q => ?_)
  exact h zr zM q
theorem gX10_word_8 {d : Nat} {M : ev_Mem} {Q : Option Value → ev_Mem → Prop} {x1 x2 x3 s0 : Int32} (h : (((s0 = 0) → ((vp_in (0 : Int32) 3) ∧ (∀ M1 : ev_Mem, M1 = rfs M 117 (0 : Int32).toNatClampNeg → (Q (some (.int (-1))) M1)))) ∧ ((¬ s0 = 0) → (((x1 < 0) → ((vp_in (0 : Int32) 3) ∧ (∀ M2 : ev_Mem, M2 = rfs M 117 (0 : Int32).toNatClampNeg → (Q (some (.int (-1))) M2)))) ∧ ((¬ x1 < 0) → (((6 < x1) → ((vp_in (0 : Int32) 3) ∧ (∀ M3 : ev_Mem, M3 = rfs M 117 (0 : Int32).toNatClampNeg → (Q (some (.int (-1))) M3)))) ∧ ((¬ 6 < x1) → ((((iin x2 0 11) = false) → ((vp_in (0 : Int32) 3) ∧ (∀ M4 : ev_Mem, M4 = rfs M 117 (0 : Int32).toNatClampNeg → (Q (some (.int (-1))) M4)))) ∧ (((iin x2 0 11) = true) → (((x3 < 0) → ((vp_in (0 : Int32) 3) ∧ (∀ M5 : ev_Mem, M5 = rfs M 117 (0 : Int32).toNatClampNeg → (Q (some (.int (-1))) M5)))) ∧ ((¬ x3 < 0) → (((x3 ≤ 9) → (∃ Q2 : Option Value → ev_Mem → Prop, Cl LX d mX10_addWord [.ref 0, .ref 2, .int 0, .int (M.1 1 1), .int x1, .int x2, .int x3] M Q2 ∧ ∀ (zr : Option Value) (zM : ev_Mem), Q2 zr zM → Ev LX (d + 1) mX10_word 66 [some (.ref 0), none, none, none, none] (zr.toList ++ []) zM Q)) ∧ ((¬ x3 ≤ 9) → ((vp_in (0 : Int32) 3) ∧ (∀ M6 : ev_Mem, M6 = rfs M 117 (0 : Int32).toNatClampNeg → (Q (some (.int (-1))) M6)))))))))))))))) : Ev LX (d + 1) mX10_word 8 [some (.ref 0), some (.int x1), some (.int x2), some (.int x3), none] [(.int s0)] M Q := by
  refine ev_if_eq (tgt := 38) dX10_word_8 (by decide) (fun c => ?_) (fun c => ?_)
  · replace h := h.1 c
    refine ev_aload_n dX10_word_38 rfl ?_
    refine ev_iconst (v := 0) dX10_word_39 (by decide) ?_
    obtain ⟨p1, h⟩ := h
    refine ev_callV [.int 0] dX10_word_40 ml_WithoutE_185 lx_0 rfl rfl (Nat.le_of_ble_eq_true rfl) (qX10_refuse p1) ?_
    rintro zr zM ⟨q1, q2⟩
    rw [q1, q2]
    generalize eM1 : rfs M 117 (0 : Int32).toNatClampNeg = M1
    replace h := h M1 eM1.symm
    show Ev LX (d + 1) mX10_word 43 [some (.ref 0), some (.int x1), some (.int x2), some (.int x3), none] [(.int (-1))] M1 Q
    exact ev_iret dX10_word_43 rfl h
  · replace h := h.2 c
    refine ev_iload_n dX10_word_11 rfl ?_
    refine ev_if_lt (tgt := 38) dX10_word_12 (by decide) (fun c => ?_) (fun c => ?_)
    · replace h := h.1 c
      refine ev_aload_n dX10_word_38 rfl ?_
      refine ev_iconst (v := 0) dX10_word_39 (by decide) ?_
      obtain ⟨p1, h⟩ := h
      refine ev_callV [.int 0] dX10_word_40 ml_WithoutE_185 lx_0 rfl rfl (Nat.le_of_ble_eq_true rfl) (qX10_refuse p1) ?_
      rintro zr zM ⟨q1, q2⟩
      rw [q1, q2]
      generalize eM2 : rfs M 117 (0 : Int32).toNatClampNeg = M2
      replace h := h M2 eM2.symm
      show Ev LX (d + 1) mX10_word 43 [some (.ref 0), some (.int x1), some (.int x2), some (.int x3), none] [(.int (-1))] M2 Q
      exact ev_iret dX10_word_43 rfl h
    · replace h := h.2 c
      refine ev_iload_n dX10_word_15 rfl ?_
      refine ev_bipush (v := 6) dX10_word_16 (by decide) ?_
      refine ev_icmp_gt (tgt := 38) dX10_word_18 (by decide) (fun c => ?_) (fun c => ?_)
      · replace h := h.1 c
        refine ev_aload_n dX10_word_38 rfl ?_
        refine ev_iconst (v := 0) dX10_word_39 (by decide) ?_
        obtain ⟨p1, h⟩ := h
        refine ev_callV [.int 0] dX10_word_40 ml_WithoutE_185 lx_0 rfl rfl (Nat.le_of_ble_eq_true rfl) (qX10_refuse p1) ?_
        rintro zr zM ⟨q1, q2⟩
        rw [q1, q2]
        generalize eM3 : rfs M 117 (0 : Int32).toNatClampNeg = M3
        replace h := h M3 eM3.symm
        show Ev LX (d + 1) mX10_word 43 [some (.ref 0), some (.int x1), some (.int x2), some (.int x3), none] [(.int (-1))] M3 Q
        exact ev_iret dX10_word_43 rfl h
      · replace h := h.2 c
        refine ev_iload_n dX10_word_21 rfl ?_
        refine ev_callS [.int x2] dX10_word_22 ml_WithoutE_182 rfl (Nat.le_of_ble_eq_true rfl) (kX10_isSense) ?_
        rintro zr zM ⟨q1, q2⟩
        rw [q1, q2]
        show Ev LX (d + 1) mX10_word 25 [some (.ref 0), some (.int x1), some (.int x2), some (.int x3), none] [(.int (bi (iin x2 0 11)))] M Q
        refine ev_if_eq (tgt := 38) dX10_word_25 (by decide) (fun c => ?_) (fun c => ?_)
        · replace h := h.1 ((bi_0 _).mp c)
          refine ev_aload_n dX10_word_38 rfl ?_
          refine ev_iconst (v := 0) dX10_word_39 (by decide) ?_
          obtain ⟨p1, h⟩ := h
          refine ev_callV [.int 0] dX10_word_40 ml_WithoutE_185 lx_0 rfl rfl (Nat.le_of_ble_eq_true rfl) (qX10_refuse p1) ?_
          rintro zr zM ⟨q1, q2⟩
          rw [q1, q2]
          generalize eM4 : rfs M 117 (0 : Int32).toNatClampNeg = M4
          replace h := h M4 eM4.symm
          show Ev LX (d + 1) mX10_word 43 [some (.ref 0), some (.int x1), some (.int x2), some (.int x3), none] [(.int (-1))] M4 Q
          exact ev_iret dX10_word_43 rfl h
        · replace h := h.2 ((bi_n0 _).mp c)
          refine ev_iload_n dX10_word_28 rfl ?_
          refine ev_if_lt (tgt := 38) dX10_word_29 (by decide) (fun c => ?_) (fun c => ?_)
          · replace h := h.1 c
            refine ev_aload_n dX10_word_38 rfl ?_
            refine ev_iconst (v := 0) dX10_word_39 (by decide) ?_
            obtain ⟨p1, h⟩ := h
            refine ev_callV [.int 0] dX10_word_40 ml_WithoutE_185 lx_0 rfl rfl (Nat.le_of_ble_eq_true rfl) (qX10_refuse p1) ?_
            rintro zr zM ⟨q1, q2⟩
            rw [q1, q2]
            generalize eM5 : rfs M 117 (0 : Int32).toNatClampNeg = M5
            replace h := h M5 eM5.symm
            show Ev LX (d + 1) mX10_word 43 [some (.ref 0), some (.int x1), some (.int x2), some (.int x3), none] [(.int (-1))] M5 Q
            exact ev_iret dX10_word_43 rfl h
          · replace h := h.2 c
            refine ev_iload_n dX10_word_32 rfl ?_
            refine ev_bipush (v := 9) dX10_word_33 (by decide) ?_
            refine ev_icmp_le (tgt := 44) dX10_word_35 (by decide) (fun c => ?_) (fun c => ?_)
            · replace h := h.1 c
              refine ev_aload_n dX10_word_44 rfl ?_
              refine ev_aload_n dX10_word_45 rfl ?_
              refine ev_getA dX10_word_46 fl_WithoutE_10 lx_0 rfl ?_
              refine ev_getA dX10_word_49 fl_WithoutE_188 lx_1 rfl ?_
              refine ev_iconst (v := 0) dX10_word_52 (by decide) ?_
              refine ev_aload_n dX10_word_53 rfl ?_
              refine ev_getA dX10_word_54 fl_WithoutE_10 lx_0 rfl ?_
              refine ev_getI dX10_word_57 fl_WithoutE_102 lx_1 rfl ?_
              refine ev_iload_n dX10_word_60 rfl ?_
              refine ev_iload_n dX10_word_61 rfl ?_
              refine ev_iload_n dX10_word_62 rfl ?_
              obtain ⟨Q2, hc, h⟩ := h
              refine ev_callV [.ref 2, .int 0, .int (M.1 1 1), .int x1, .int x2, .int x3] dX10_word_63 ml_WithoutE_153 lx_0 rfl rfl (Nat.le_of_ble_eq_true rfl) hc (fun zr zM q => ?_)
              refine Ev.weak (ls := [some (.ref 0), none, none, none, none]) ⟨rfl, trivial⟩ ?_
              exact h zr zM q
            · replace h := h.2 c
              refine ev_aload_n dX10_word_38 rfl ?_
              refine ev_iconst (v := 0) dX10_word_39 (by decide) ?_
              obtain ⟨p1, h⟩ := h
              refine ev_callV [.int 0] dX10_word_40 ml_WithoutE_185 lx_0 rfl rfl (Nat.le_of_ble_eq_true rfl) (qX10_refuse p1) ?_
              rintro zr zM ⟨q1, q2⟩
              rw [q1, q2]
              generalize eM6 : rfs M 117 (0 : Int32).toNatClampNeg = M6
              replace h := h M6 eM6.symm
              show Ev LX (d + 1) mX10_word 43 [some (.ref 0), some (.int x1), some (.int x2), some (.int x3), none] [(.int (-1))] M6 Q
              exact ev_iret dX10_word_43 rfl h
theorem gX10_word_66 {d : Nat} {M : ev_Mem} {Q : Option Value → ev_Mem → Prop} {s0 : Int32} (h : (((s0 = (-1)) → (Q (some (.int s0)) M)) ∧ ((¬ s0 = (-1)) → (∀ M1 : ev_Mem, M1 = ev_wr M 1 1 0 → (Q (some (.int s0)) M1))))) : Ev LX d mX10_word 66 [some (.ref 0), none, none, none, none] [(.int s0)] M Q := by
  refine ev_istore (ls2 := [some (.ref 0), none, none, none, some (.int s0)]) dX10_word_66 (Nat.le_of_ble_eq_true rfl) rfl ?_
  refine ev_iload dX10_word_68 rfl ?_
  refine ev_iconst (v := -1) dX10_word_70 (by decide) ?_
  refine ev_icmp_eq (tgt := 82) dX10_word_71 (by decide) (fun c => ?_) (fun c => ?_)
  · replace h := h.1 c
    refine ev_iload dX10_word_82 rfl ?_
    exact ev_iret dX10_word_84 rfl h
  · replace h := h.2 c
    refine ev_aload_n dX10_word_74 rfl ?_
    refine ev_getA dX10_word_75 fl_WithoutE_10 lx_0 rfl ?_
    refine ev_iconst (v := 0) dX10_word_78 (by decide) ?_
    refine ev_putI dX10_word_79 fp_WithoutE_102 lx_1 rfl rfl rfl ?_
    generalize eM1 : ev_wr M 1 1 0 = M1
    replace h := h M1 eM1.symm
    refine ev_iload dX10_word_82 rfl ?_
    exact ev_iret dX10_word_84 rfl h
theorem dX10_turn_0 : decode cX10_turn 0 = .ok (.aload_n 0, 1) := by decide +kernel
theorem dX10_turn_1 : decode cX10_turn 1 = .ok (.getfield 19, 3) := by decide +kernel
theorem dX10_turn_4 : decode cX10_turn 4 = .ok (.iload_n 1, 1) := by decide +kernel
theorem dX10_turn_5 : decode cX10_turn 5 = .ok (.invokevirtual 191, 3) := by decide +kernel
theorem dX10_turn_8 : decode cX10_turn 8 = .ok (.ifCond .ne 9, 3) := by decide +kernel
theorem dX10_turn_11 : decode cX10_turn 11 = .ok (.aload_n 0, 1) := by decide +kernel
theorem dX10_turn_12 : decode cX10_turn 12 = .ok (.iconst 0, 1) := by decide +kernel
theorem dX10_turn_13 : decode cX10_turn 13 = .ok (.invokevirtual 185, 3) := by decide +kernel
theorem dX10_turn_16 : decode cX10_turn 16 = .ok (.ireturn, 1) := by decide +kernel
theorem dX10_turn_17 : decode cX10_turn 17 = .ok (.aload_n 0, 1) := by decide +kernel
theorem dX10_turn_18 : decode cX10_turn 18 = .ok (.getfield 19, 3) := by decide +kernel
theorem dX10_turn_21 : decode cX10_turn 21 = .ok (.getfield 194, 3) := by decide +kernel
theorem dX10_turn_24 : decode cX10_turn 24 = .ok (.bipush 24, 2) := by decide +kernel
theorem dX10_turn_26 : decode cX10_turn 26 = .ok (.if_icmp .lt 9, 3) := by decide +kernel
theorem dX10_turn_29 : decode cX10_turn 29 = .ok (.aload_n 0, 1) := by decide +kernel
theorem dX10_turn_30 : decode cX10_turn 30 = .ok (.iconst 1, 1) := by decide +kernel
theorem dX10_turn_31 : decode cX10_turn 31 = .ok (.invokevirtual 185, 3) := by decide +kernel
theorem dX10_turn_34 : decode cX10_turn 34 = .ok (.ireturn, 1) := by decide +kernel
theorem dX10_turn_35 : decode cX10_turn 35 = .ok (.aload_n 0, 1) := by decide +kernel
theorem dX10_turn_36 : decode cX10_turn 36 = .ok (.getfield 19, 3) := by decide +kernel
theorem dX10_turn_39 : decode cX10_turn 39 = .ok (.getfield 197, 3) := by decide +kernel
theorem dX10_turn_42 : decode cX10_turn 42 = .ok (.iload_n 1, 1) := by decide +kernel
theorem dX10_turn_43 : decode cX10_turn 43 = .ok (.iaload, 1) := by decide +kernel
theorem dX10_turn_44 : decode cX10_turn 44 = .ok (.istore_n 2, 1) := by decide +kernel
theorem dX10_turn_45 : decode cX10_turn 45 = .ok (.aload_n 0, 1) := by decide +kernel
theorem dX10_turn_46 : decode cX10_turn 46 = .ok (.getfield 19, 3) := by decide +kernel
theorem dX10_turn_49 : decode cX10_turn 49 = .ok (.getfield 200, 3) := by decide +kernel
theorem dX10_turn_52 : decode cX10_turn 52 = .ok (.iload_n 1, 1) := by decide +kernel
theorem dX10_turn_53 : decode cX10_turn 53 = .ok (.iaload, 1) := by decide +kernel
theorem dX10_turn_54 : decode cX10_turn 54 = .ok (.ifCond .ne 11, 3) := by decide +kernel
theorem dX10_turn_57 : decode cX10_turn 57 = .ok (.iload_n 2, 1) := by decide +kernel
theorem dX10_turn_58 : decode cX10_turn 58 = .ok (.iconst 3, 1) := by decide +kernel
theorem dX10_turn_59 : decode cX10_turn 59 = .ok (.iadd, 1) := by decide +kernel
theorem dX10_turn_60 : decode cX10_turn 60 = .ok (.bipush 9, 2) := by decide +kernel
theorem dX10_turn_62 : decode cX10_turn 62 = .ok (.if_icmp .le 9, 3) := by decide +kernel
theorem dX10_turn_65 : decode cX10_turn 65 = .ok (.aload_n 0, 1) := by decide +kernel
theorem dX10_turn_66 : decode cX10_turn 66 = .ok (.iconst 2, 1) := by decide +kernel
theorem dX10_turn_67 : decode cX10_turn 67 = .ok (.invokevirtual 185, 3) := by decide +kernel
theorem dX10_turn_70 : decode cX10_turn 70 = .ok (.ireturn, 1) := by decide +kernel
theorem dX10_turn_71 : decode cX10_turn 71 = .ok (.aload_n 0, 1) := by decide +kernel
theorem dX10_turn_72 : decode cX10_turn 72 = .ok (.getfield 62, 3) := by decide +kernel
theorem dX10_turn_75 : decode cX10_turn 75 = .ok (.iconst 0, 1) := by decide +kernel
theorem dX10_turn_76 : decode cX10_turn 76 = .ok (.bipush 100, 2) := by decide +kernel
theorem dX10_turn_78 : decode cX10_turn 78 = .ok (.iastore, 1) := by decide +kernel
theorem dX10_turn_79 : decode cX10_turn 79 = .ok (.aload_n 0, 1) := by decide +kernel
theorem dX10_turn_80 : decode cX10_turn 80 = .ok (.getfield 62, 3) := by decide +kernel
theorem dX10_turn_83 : decode cX10_turn 83 = .ok (.iconst 1, 1) := by decide +kernel
theorem dX10_turn_84 : decode cX10_turn 84 = .ok (.bipush 105, 2) := by decide +kernel
theorem dX10_turn_86 : decode cX10_turn 86 = .ok (.iastore, 1) := by decide +kernel
theorem dX10_turn_87 : decode cX10_turn 87 = .ok (.aload_n 0, 1) := by decide +kernel
theorem dX10_turn_88 : decode cX10_turn 88 = .ok (.getfield 62, 3) := by decide +kernel
theorem dX10_turn_91 : decode cX10_turn 91 = .ok (.iconst 2, 1) := by decide +kernel
theorem dX10_turn_92 : decode cX10_turn 92 = .ok (.bipush 100, 2) := by decide +kernel
theorem dX10_turn_94 : decode cX10_turn 94 = .ok (.iastore, 1) := by decide +kernel
theorem dX10_turn_95 : decode cX10_turn 95 = .ok (.iconst 0, 1) := by decide +kernel
theorem dX10_turn_96 : decode cX10_turn 96 = .ok (.istore_n 3, 1) := by decide +kernel
theorem dX10_turn_97 : decode cX10_turn 97 = .ok (.iload_n 3, 1) := by decide +kernel
theorem dX10_turn_98 : decode cX10_turn 98 = .ok (.iload_n 2, 1) := by decide +kernel
theorem dX10_turn_99 : decode cX10_turn 99 = .ok (.if_icmp .ge 31, 3) := by decide +kernel
theorem dX10_turn_102 : decode cX10_turn 102 = .ok (.aload_n 0, 1) := by decide +kernel
theorem dX10_turn_103 : decode cX10_turn 103 = .ok (.getfield 62, 3) := by decide +kernel
theorem dX10_turn_106 : decode cX10_turn 106 = .ok (.iload_n 3, 1) := by decide +kernel
theorem dX10_turn_107 : decode cX10_turn 107 = .ok (.iconst 3, 1) := by decide +kernel
theorem dX10_turn_108 : decode cX10_turn 108 = .ok (.iadd, 1) := by decide +kernel
theorem dX10_turn_109 : decode cX10_turn 109 = .ok (.bipush 97, 2) := by decide +kernel
theorem dX10_turn_111 : decode cX10_turn 111 = .ok (.aload_n 0, 1) := by decide +kernel
theorem dX10_turn_112 : decode cX10_turn 112 = .ok (.getfield 19, 3) := by decide +kernel
theorem dX10_turn_115 : decode cX10_turn 115 = .ok (.getfield 201, 3) := by decide +kernel
theorem dX10_turn_118 : decode cX10_turn 118 = .ok (.iload_n 1, 1) := by decide +kernel
theorem dX10_turn_119 : decode cX10_turn 119 = .ok (.aaload, 1) := by decide +kernel
theorem dX10_turn_120 : decode cX10_turn 120 = .ok (.iload_n 3, 1) := by decide +kernel
theorem dX10_turn_121 : decode cX10_turn 121 = .ok (.iaload, 1) := by decide +kernel
theorem dX10_turn_122 : decode cX10_turn 122 = .ok (.iadd, 1) := by decide +kernel
theorem dX10_turn_123 : decode cX10_turn 123 = .ok (.iastore, 1) := by decide +kernel
theorem dX10_turn_124 : decode cX10_turn 124 = .ok (.iinc 3 1, 3) := by decide +kernel
theorem dX10_turn_127 : decode cX10_turn 127 = .ok (.goto (-30), 3) := by decide +kernel
theorem dX10_turn_130 : decode cX10_turn 130 = .ok (.aload_n 0, 1) := by decide +kernel
theorem dX10_turn_131 : decode cX10_turn 131 = .ok (.getfield 19, 3) := by decide +kernel
theorem dX10_turn_134 : decode cX10_turn 134 = .ok (.aload_n 0, 1) := by decide +kernel
theorem dX10_turn_135 : decode cX10_turn 135 = .ok (.getfield 62, 3) := by decide +kernel
theorem dX10_turn_138 : decode cX10_turn 138 = .ok (.iconst 0, 1) := by decide +kernel
theorem dX10_turn_139 : decode cX10_turn 139 = .ok (.iload_n 2, 1) := by decide +kernel
theorem dX10_turn_140 : decode cX10_turn 140 = .ok (.iconst 3, 1) := by decide +kernel
theorem dX10_turn_141 : decode cX10_turn 141 = .ok (.iadd, 1) := by decide +kernel
theorem dX10_turn_142 : decode cX10_turn 142 = .ok (.iconst 2, 1) := by decide +kernel
theorem dX10_turn_143 : decode cX10_turn 143 = .ok (.aload_n 0, 1) := by decide +kernel
theorem dX10_turn_144 : decode cX10_turn 144 = .ok (.getfield 19, 3) := by decide +kernel
theorem dX10_turn_147 : decode cX10_turn 147 = .ok (.getfield 205, 3) := by decide +kernel
theorem dX10_turn_150 : decode cX10_turn 150 = .ok (.iload_n 1, 1) := by decide +kernel
theorem dX10_turn_151 : decode cX10_turn 151 = .ok (.iaload, 1) := by decide +kernel
theorem dX10_turn_152 : decode cX10_turn 152 = .ok (.aload_n 0, 1) := by decide +kernel
theorem dX10_turn_153 : decode cX10_turn 153 = .ok (.getfield 19, 3) := by decide +kernel
theorem dX10_turn_156 : decode cX10_turn 156 = .ok (.getfield 208, 3) := by decide +kernel
theorem dX10_turn_159 : decode cX10_turn 159 = .ok (.iload_n 1, 1) := by decide +kernel
theorem dX10_turn_160 : decode cX10_turn 160 = .ok (.iaload, 1) := by decide +kernel
theorem dX10_turn_161 : decode cX10_turn 161 = .ok (.invokevirtual 211, 3) := by decide +kernel
theorem dX10_turn_164 : decode cX10_turn 164 = .ok (.ireturn, 1) := by decide +kernel
theorem gX10_turn_0 {d : Nat} {M : ev_Mem} {Q : Option Value → ev_Mem → Prop} {x1 : Int32} (h : ((okW M) ∧ ((((iin x1 0 (M.1 3 5 - 1)) = true) → ((((M.1 3 5) < 24) → (vp_in x1 24 ∧ (vp_in x1 24 ∧ (((¬ (M.1 30 x1.toNatClampNeg) = 0) → ((vp_in (2 : Int32) 3) ∧ (∀ M1 : ev_Mem, M1 = rfs M 117 (2 : Int32).toNatClampNeg → (Q (some (.int (-1))) M1)))) ∧ (((M.1 30 x1.toNatClampNeg) = 0) → (((((M.1 29 x1.toNatClampNeg) + 3) ≤ 9) → (∀ M2 : ev_Mem, M2 = ev_wr M 118 0 100 → (∀ M3 : ev_Mem, M3 = ev_wr M2 118 1 105 → (∀ M4 : ev_Mem, M4 = ev_wr M3 118 2 100 → (Ev LX (d + 1) mX10_turn 97 [some (.ref 0), some (.int x1), some (.int (M.1 29 x1.toNatClampNeg)), some (.int 0)] [] M4 Q))))) ∧ ((¬ ((M.1 29 x1.toNatClampNeg) + 3) ≤ 9) → ((vp_in (2 : Int32) 3) ∧ (∀ M5 : ev_Mem, M5 = rfs M 117 (2 : Int32).toNatClampNeg → (Q (some (.int (-1))) M5)))))))))) ∧ ((¬ (M.1 3 5) < 24) → ((vp_in (1 : Int32) 3) ∧ (∀ M6 : ev_Mem, M6 = rfs M 117 (1 : Int32).toNatClampNeg → (Q (some (.int (-1))) M6)))))) ∧ (((iin x1 0 (M.1 3 5 - 1)) = false) → ((vp_in (0 : Int32) 3) ∧ (∀ M7 : ev_Mem, M7 = rfs M 117 (0 : Int32).toNatClampNeg → (Q (some (.int (-1))) M7))))))) : Ev LX (d + 1) mX10_turn 0 [some (.ref 0), some (.int x1), none, none] [] M Q := by
  refine ev_aload_n dX10_turn_0 rfl ?_
  refine ev_getA dX10_turn_1 fl_WithoutE_19 lx_0 rfl ?_
  refine ev_iload_n dX10_turn_4 rfl ?_
  obtain ⟨p1, h⟩ := h
  refine ev_callV [.int x1] dX10_turn_5 ml_WithoutE_191 lx_3 rfl rfl (Nat.le_of_ble_eq_true rfl) (kX0_hasWord p1) ?_
  rintro zr zM ⟨q1, q2⟩
  rw [q1, q2]
  show Ev LX (d + 1) mX10_turn 8 [some (.ref 0), some (.int x1), none, none] [(.int (bi (iin x1 0 (M.1 3 5 - 1))))] M Q
  refine ev_if_ne (tgt := 17) dX10_turn_8 (by decide) (fun c => ?_) (fun c => ?_)
  · replace h := h.1 ((bi_n0 _).mp c)
    refine ev_aload_n dX10_turn_17 rfl ?_
    refine ev_getA dX10_turn_18 fl_WithoutE_19 lx_0 rfl ?_
    refine ev_getI dX10_turn_21 fl_WithoutE_194 lx_3 rfl ?_
    refine ev_bipush (v := 24) dX10_turn_24 (by decide) ?_
    refine ev_icmp_lt (tgt := 35) dX10_turn_26 (by decide) (fun c => ?_) (fun c => ?_)
    · replace h := h.1 c
      refine ev_aload_n dX10_turn_35 rfl ?_
      refine ev_getA dX10_turn_36 fl_WithoutE_19 lx_0 rfl ?_
      refine ev_getA dX10_turn_39 fl_WithoutE_197 lx_3 rfl ?_
      refine ev_iload_n dX10_turn_42 rfl ?_
      obtain ⟨c, h⟩ := h
      refine ev_iald dX10_turn_43 lx_29 c ?_
      refine ev_istore_n (ls2 := [some (.ref 0), some (.int x1), some (.int (M.1 29 x1.toNatClampNeg)), none]) dX10_turn_44 (Nat.le_of_ble_eq_true rfl) rfl ?_
      refine ev_aload_n dX10_turn_45 rfl ?_
      refine ev_getA dX10_turn_46 fl_WithoutE_19 lx_0 rfl ?_
      refine ev_getA dX10_turn_49 fl_WithoutE_200 lx_3 rfl ?_
      refine ev_iload_n dX10_turn_52 rfl ?_
      obtain ⟨c, h⟩ := h
      refine ev_iald dX10_turn_53 lx_30 c ?_
      refine ev_if_ne (tgt := 65) dX10_turn_54 (by decide) (fun c => ?_) (fun c => ?_)
      · replace h := h.1 c
        refine ev_aload_n dX10_turn_65 rfl ?_
        refine ev_iconst (v := 2) dX10_turn_66 (by decide) ?_
        obtain ⟨p1, h⟩ := h
        refine ev_callV [.int 2] dX10_turn_67 ml_WithoutE_185 lx_0 rfl rfl (Nat.le_of_ble_eq_true rfl) (qX10_refuse p1) ?_
        rintro zr zM ⟨q1, q2⟩
        rw [q1, q2]
        generalize eM1 : rfs M 117 (2 : Int32).toNatClampNeg = M1
        replace h := h M1 eM1.symm
        show Ev LX (d + 1) mX10_turn 70 [some (.ref 0), some (.int x1), some (.int (M.1 29 x1.toNatClampNeg)), none] [(.int (-1))] M1 Q
        exact ev_iret dX10_turn_70 rfl h
      · replace h := h.2 c
        refine ev_iload_n dX10_turn_57 rfl ?_
        refine ev_iconst (v := 3) dX10_turn_58 (by decide) ?_
        refine ev_iadd dX10_turn_59 ?_
        refine ev_bipush (v := 9) dX10_turn_60 (by decide) ?_
        refine ev_icmp_le (tgt := 71) dX10_turn_62 (by decide) (fun c => ?_) (fun c => ?_)
        · replace h := h.1 c
          refine ev_aload_n dX10_turn_71 rfl ?_
          refine ev_getA dX10_turn_72 fl_WithoutE_62 lx_0 rfl ?_
          refine ev_iconst (v := 0) dX10_turn_75 (by decide) ?_
          refine ev_bipush (v := 100) dX10_turn_76 (by decide) ?_
          refine ev_isN (j := 0) dX10_turn_78 lx_118 (by decide) (by decide) ?_
          generalize eM2 : ev_wr M 118 0 100 = M2
          replace h := h M2 eM2.symm
          refine ev_aload_n dX10_turn_79 rfl ?_
          refine ev_getA dX10_turn_80 fl_WithoutE_62 lx_0 rfl ?_
          refine ev_iconst (v := 1) dX10_turn_83 (by decide) ?_
          refine ev_bipush (v := 105) dX10_turn_84 (by decide) ?_
          refine ev_isN (j := 1) dX10_turn_86 lx_118 (by decide) (by decide) ?_
          generalize eM3 : ev_wr M2 118 1 105 = M3
          replace h := h M3 eM3.symm
          refine ev_aload_n dX10_turn_87 rfl ?_
          refine ev_getA dX10_turn_88 fl_WithoutE_62 lx_0 rfl ?_
          refine ev_iconst (v := 2) dX10_turn_91 (by decide) ?_
          refine ev_bipush (v := 100) dX10_turn_92 (by decide) ?_
          refine ev_isN (j := 2) dX10_turn_94 lx_118 (by decide) (by decide) ?_
          generalize eM4 : ev_wr M3 118 2 100 = M4
          replace h := h M4 eM4.symm
          refine ev_iconst (v := 0) dX10_turn_95 (by decide) ?_
          refine ev_istore_n (ls2 := [some (.ref 0), some (.int x1), some (.int (M.1 29 x1.toNatClampNeg)), some (.int 0)]) dX10_turn_96 (Nat.le_of_ble_eq_true rfl) rfl ?_
          exact h
        · replace h := h.2 c
          refine ev_aload_n dX10_turn_65 rfl ?_
          refine ev_iconst (v := 2) dX10_turn_66 (by decide) ?_
          obtain ⟨p1, h⟩ := h
          refine ev_callV [.int 2] dX10_turn_67 ml_WithoutE_185 lx_0 rfl rfl (Nat.le_of_ble_eq_true rfl) (qX10_refuse p1) ?_
          rintro zr zM ⟨q1, q2⟩
          rw [q1, q2]
          generalize eM5 : rfs M 117 (2 : Int32).toNatClampNeg = M5
          replace h := h M5 eM5.symm
          show Ev LX (d + 1) mX10_turn 70 [some (.ref 0), some (.int x1), some (.int (M.1 29 x1.toNatClampNeg)), none] [(.int (-1))] M5 Q
          exact ev_iret dX10_turn_70 rfl h
    · replace h := h.2 c
      refine ev_aload_n dX10_turn_29 rfl ?_
      refine ev_iconst (v := 1) dX10_turn_30 (by decide) ?_
      obtain ⟨p1, h⟩ := h
      refine ev_callV [.int 1] dX10_turn_31 ml_WithoutE_185 lx_0 rfl rfl (Nat.le_of_ble_eq_true rfl) (qX10_refuse p1) ?_
      rintro zr zM ⟨q1, q2⟩
      rw [q1, q2]
      generalize eM6 : rfs M 117 (1 : Int32).toNatClampNeg = M6
      replace h := h M6 eM6.symm
      show Ev LX (d + 1) mX10_turn 34 [some (.ref 0), some (.int x1), none, none] [(.int (-1))] M6 Q
      exact ev_iret dX10_turn_34 rfl h
  · replace h := h.2 ((bi_0 _).mp c)
    refine ev_aload_n dX10_turn_11 rfl ?_
    refine ev_iconst (v := 0) dX10_turn_12 (by decide) ?_
    obtain ⟨p1, h⟩ := h
    refine ev_callV [.int 0] dX10_turn_13 ml_WithoutE_185 lx_0 rfl rfl (Nat.le_of_ble_eq_true rfl) (qX10_refuse p1) ?_
    rintro zr zM ⟨q1, q2⟩
    rw [q1, q2]
    generalize eM7 : rfs M 117 (0 : Int32).toNatClampNeg = M7
    replace h := h M7 eM7.symm
    show Ev LX (d + 1) mX10_turn 16 [some (.ref 0), some (.int x1), none, none] [(.int (-1))] M7 Q
    exact ev_iret dX10_turn_16 rfl h
theorem gX10_turn_97 {d : Nat} {M : ev_Mem} {Q : Option Value → ev_Mem → Prop} {x1 x2 x3 : Int32} (h : (((x2 ≤ x3) → (vp_in x1 24 ∧ (vp_in x1 24 ∧ (∃ Q2 : Option Value → ev_Mem → Prop, Cl LX d mX0_tellWord [.ref 3, .ref 118, .int 0, .int (x2 + 3), .int 2, .int (M.1 31 x1.toNatClampNeg), .int (M.1 32 x1.toNatClampNeg)] M Q2 ∧ ∀ (zr : Option Value) (zM : ev_Mem), Q2 zr zM → Ev LX (d + 1) mX10_turn 164 [none, none, none, none] (zr.toList ++ []) zM Q)))) ∧ ((¬ x2 ≤ x3) → (vp_in x1 24 ∧ (vp_in x3 9 ∧ (vp_in (x3 + 3) 9 ∧ (∀ M1 : ev_Mem, M1 = ev_wr M 118 (x3 + 3).toNatClampNeg (97 + (M.1 (5 + x1.toNatClampNeg) x3.toNatClampNeg)) → (Ev LX (d + 1) mX10_turn 97 [some (.ref 0), some (.int x1), some (.int x2), some (.int (x3 + 1))] [] M1 Q)))))))) : Ev LX (d + 1) mX10_turn 97 [some (.ref 0), some (.int x1), some (.int x2), some (.int x3)] [] M Q := by
  refine ev_iload_n dX10_turn_97 rfl ?_
  refine ev_iload_n dX10_turn_98 rfl ?_
  refine ev_icmp_ge (tgt := 130) dX10_turn_99 (by decide) (fun c => ?_) (fun c => ?_)
  · replace h := h.1 c
    refine ev_aload_n dX10_turn_130 rfl ?_
    refine ev_getA dX10_turn_131 fl_WithoutE_19 lx_0 rfl ?_
    refine ev_aload_n dX10_turn_134 rfl ?_
    refine ev_getA dX10_turn_135 fl_WithoutE_62 lx_0 rfl ?_
    refine ev_iconst (v := 0) dX10_turn_138 (by decide) ?_
    refine ev_iload_n dX10_turn_139 rfl ?_
    refine ev_iconst (v := 3) dX10_turn_140 (by decide) ?_
    refine ev_iadd dX10_turn_141 ?_
    refine ev_iconst (v := 2) dX10_turn_142 (by decide) ?_
    refine ev_aload_n dX10_turn_143 rfl ?_
    refine ev_getA dX10_turn_144 fl_WithoutE_19 lx_0 rfl ?_
    refine ev_getA dX10_turn_147 fl_WithoutE_205 lx_3 rfl ?_
    refine ev_iload_n dX10_turn_150 rfl ?_
    obtain ⟨c, h⟩ := h
    refine ev_iald dX10_turn_151 lx_31 c ?_
    refine ev_aload_n dX10_turn_152 rfl ?_
    refine ev_getA dX10_turn_153 fl_WithoutE_19 lx_0 rfl ?_
    refine ev_getA dX10_turn_156 fl_WithoutE_208 lx_3 rfl ?_
    refine ev_iload_n dX10_turn_159 rfl ?_
    obtain ⟨c, h⟩ := h
    refine ev_iald dX10_turn_160 lx_32 c ?_
    obtain ⟨Q2, hc, h⟩ := h
    refine ev_callV [.ref 118, .int 0, .int (x2 + 3), .int 2, .int (M.1 31 x1.toNatClampNeg), .int (M.1 32 x1.toNatClampNeg)] dX10_turn_161 ml_WithoutE_211 lx_3 rfl rfl (Nat.le_of_ble_eq_true rfl) hc (fun zr zM q => ?_)
    refine Ev.weak (ls := [none, none, none, none]) trivial ?_
    exact h zr zM q
  · replace h := h.2 c
    refine ev_aload_n dX10_turn_102 rfl ?_
    refine ev_getA dX10_turn_103 fl_WithoutE_62 lx_0 rfl ?_
    refine ev_iload_n dX10_turn_106 rfl ?_
    refine ev_iconst (v := 3) dX10_turn_107 (by decide) ?_
    refine ev_iadd dX10_turn_108 ?_
    refine ev_bipush (v := 97) dX10_turn_109 (by decide) ?_
    refine ev_aload_n dX10_turn_111 rfl ?_
    refine ev_getA dX10_turn_112 fl_WithoutE_19 lx_0 rfl ?_
    refine ev_getA dX10_turn_115 fl_WithoutE_201 lx_3 rfl ?_
    refine ev_iload_n dX10_turn_118 rfl ?_
    obtain ⟨b1, h⟩ := h
    refine ev_aald dX10_turn_119 lx_4 (fun _ => rfl) rfl b1 ?_
    refine ev_iload_n dX10_turn_120 rfl ?_
    obtain ⟨c, h⟩ := h
    refine ev_iald dX10_turn_121 (lx_sp (ev_lt b1)) c ?_
    refine ev_iadd dX10_turn_122 ?_
    obtain ⟨c, h⟩ := h
    refine ev_iast dX10_turn_123 lx_118 c ?_
    generalize eM1 : ev_wr M 118 (x3 + 3).toNatClampNeg (97 + (M.1 (5 + x1.toNatClampNeg) x3.toNatClampNeg)) = M1
    replace h := h M1 eM1.symm
    refine ev_iinc (v := x3 + 1) (ls2 := [some (.ref 0), some (.int x1), some (.int x2), some (.int (x3 + 1))]) dX10_turn_124 rfl rfl rfl ?_
    refine ev_goto (tgt := 97) dX10_turn_127 (by decide) ?_
    exact h
theorem gX10_turn_164 {d : Nat} {M : ev_Mem} {Q : Option Value → ev_Mem → Prop} {s0 : Int32} (h : (Q (some (.int s0)) M)) : Ev LX d mX10_turn 164 [none, none, none, none] [(.int s0)] M Q := by
  exact ev_iret dX10_turn_164 rfl h
theorem dX10_sense_0 : decode cX10_sense 0 = .ok (.iload_n 1, 1) := by decide +kernel
theorem dX10_sense_1 : decode cX10_sense 1 = .ok (.iconst 1, 1) := by decide +kernel
theorem dX10_sense_2 : decode cX10_sense 2 = .ok (.if_icmp .lt 8, 3) := by decide +kernel
theorem dX10_sense_5 : decode cX10_sense 5 = .ok (.iload_n 1, 1) := by decide +kernel
theorem dX10_sense_6 : decode cX10_sense 6 = .ok (.iconst 5, 1) := by decide +kernel
theorem dX10_sense_7 : decode cX10_sense 7 = .ok (.if_icmp .le 9, 3) := by decide +kernel
theorem dX10_sense_10 : decode cX10_sense 10 = .ok (.aload_n 0, 1) := by decide +kernel
theorem dX10_sense_11 : decode cX10_sense 11 = .ok (.iconst 0, 1) := by decide +kernel
theorem dX10_sense_12 : decode cX10_sense 12 = .ok (.invokevirtual 185, 3) := by decide +kernel
theorem dX10_sense_15 : decode cX10_sense 15 = .ok (.ireturn, 1) := by decide +kernel
theorem dX10_sense_16 : decode cX10_sense 16 = .ok (.aload_n 0, 1) := by decide +kernel
theorem dX10_sense_17 : decode cX10_sense 17 = .ok (.getfield 62, 3) := by decide +kernel
theorem dX10_sense_20 : decode cX10_sense 20 = .ok (.iconst 0, 1) := by decide +kernel
theorem dX10_sense_21 : decode cX10_sense 21 = .ok (.iload_n 2, 1) := by decide +kernel
theorem dX10_sense_22 : decode cX10_sense 22 = .ok (.iastore, 1) := by decide +kernel
theorem dX10_sense_23 : decode cX10_sense 23 = .ok (.aload_n 0, 1) := by decide +kernel
theorem dX10_sense_24 : decode cX10_sense 24 = .ok (.getfield 62, 3) := by decide +kernel
theorem dX10_sense_27 : decode cX10_sense 27 = .ok (.iconst 1, 1) := by decide +kernel
theorem dX10_sense_28 : decode cX10_sense 28 = .ok (.iload_n 3, 1) := by decide +kernel
theorem dX10_sense_29 : decode cX10_sense 29 = .ok (.iastore, 1) := by decide +kernel
theorem dX10_sense_30 : decode cX10_sense 30 = .ok (.aload_n 0, 1) := by decide +kernel
theorem dX10_sense_31 : decode cX10_sense 31 = .ok (.getfield 62, 3) := by decide +kernel
theorem dX10_sense_34 : decode cX10_sense 34 = .ok (.iconst 2, 1) := by decide +kernel
theorem dX10_sense_35 : decode cX10_sense 35 = .ok (.iload 4, 2) := by decide +kernel
theorem dX10_sense_37 : decode cX10_sense 37 = .ok (.iastore, 1) := by decide +kernel
theorem dX10_sense_38 : decode cX10_sense 38 = .ok (.aload_n 0, 1) := by decide +kernel
theorem dX10_sense_39 : decode cX10_sense 39 = .ok (.getfield 62, 3) := by decide +kernel
theorem dX10_sense_42 : decode cX10_sense 42 = .ok (.iconst 3, 1) := by decide +kernel
theorem dX10_sense_43 : decode cX10_sense 43 = .ok (.iload 5, 2) := by decide +kernel
theorem dX10_sense_45 : decode cX10_sense 45 = .ok (.iastore, 1) := by decide +kernel
theorem dX10_sense_46 : decode cX10_sense 46 = .ok (.aload_n 0, 1) := by decide +kernel
theorem dX10_sense_47 : decode cX10_sense 47 = .ok (.getfield 62, 3) := by decide +kernel
theorem dX10_sense_50 : decode cX10_sense 50 = .ok (.iconst 4, 1) := by decide +kernel
theorem dX10_sense_51 : decode cX10_sense 51 = .ok (.iload 6, 2) := by decide +kernel
theorem dX10_sense_53 : decode cX10_sense 53 = .ok (.iastore, 1) := by decide +kernel
theorem dX10_sense_54 : decode cX10_sense 54 = .ok (.iconst 0, 1) := by decide +kernel
theorem dX10_sense_55 : decode cX10_sense 55 = .ok (.istore 7, 2) := by decide +kernel
theorem dX10_sense_57 : decode cX10_sense 57 = .ok (.iload 7, 2) := by decide +kernel
theorem dX10_sense_59 : decode cX10_sense 59 = .ok (.iload_n 1, 1) := by decide +kernel
theorem dX10_sense_60 : decode cX10_sense 60 = .ok (.if_icmp .ge 28, 3) := by decide +kernel
theorem dX10_sense_63 : decode cX10_sense 63 = .ok (.aload_n 0, 1) := by decide +kernel
theorem dX10_sense_64 : decode cX10_sense 64 = .ok (.getfield 62, 3) := by decide +kernel
theorem dX10_sense_67 : decode cX10_sense 67 = .ok (.iload 7, 2) := by decide +kernel
theorem dX10_sense_69 : decode cX10_sense 69 = .ok (.iaload, 1) := by decide +kernel
theorem dX10_sense_70 : decode cX10_sense 70 = .ok (.invokestatic 182, 3) := by decide +kernel
theorem dX10_sense_73 : decode cX10_sense 73 = .ok (.ifCond .ne 9, 3) := by decide +kernel
theorem dX10_sense_76 : decode cX10_sense 76 = .ok (.aload_n 0, 1) := by decide +kernel
theorem dX10_sense_77 : decode cX10_sense 77 = .ok (.iconst 0, 1) := by decide +kernel
theorem dX10_sense_78 : decode cX10_sense 78 = .ok (.invokevirtual 185, 3) := by decide +kernel
theorem dX10_sense_81 : decode cX10_sense 81 = .ok (.ireturn, 1) := by decide +kernel
theorem dX10_sense_82 : decode cX10_sense 82 = .ok (.iinc 7 1, 3) := by decide +kernel
theorem dX10_sense_85 : decode cX10_sense 85 = .ok (.goto (-28), 3) := by decide +kernel
theorem dX10_sense_88 : decode cX10_sense 88 = .ok (.aload_n 0, 1) := by decide +kernel
theorem dX10_sense_89 : decode cX10_sense 89 = .ok (.aload_n 0, 1) := by decide +kernel
theorem dX10_sense_90 : decode cX10_sense 90 = .ok (.getfield 62, 3) := by decide +kernel
theorem dX10_sense_93 : decode cX10_sense 93 = .ok (.iconst 0, 1) := by decide +kernel
theorem dX10_sense_94 : decode cX10_sense 94 = .ok (.iload_n 1, 1) := by decide +kernel
theorem dX10_sense_95 : decode cX10_sense 95 = .ok (.invokevirtual 157, 3) := by decide +kernel
theorem dX10_sense_98 : decode cX10_sense 98 = .ok (.ireturn, 1) := by decide +kernel
theorem gX10_sense_0 {d : Nat} {M : ev_Mem} {Q : Option Value → ev_Mem → Prop} {x1 x2 x3 x4 x5 x6 : Int32} (h : (((x1 < 1) → ((vp_in (0 : Int32) 3) ∧ (∀ M1 : ev_Mem, M1 = rfs M 117 (0 : Int32).toNatClampNeg → (Q (some (.int (-1))) M1)))) ∧ ((¬ x1 < 1) → (((x1 ≤ 5) → (∀ M2 : ev_Mem, M2 = ev_wr M 118 0 x2 → (∀ M3 : ev_Mem, M3 = ev_wr M2 118 1 x3 → (∀ M4 : ev_Mem, M4 = ev_wr M3 118 2 x4 → (∀ M5 : ev_Mem, M5 = ev_wr M4 118 3 x5 → (∀ M6 : ev_Mem, M6 = ev_wr M5 118 4 x6 → (Ev LX (d + 1) mX10_sense 57 [some (.ref 0), some (.int x1), none, none, none, none, none, some (.int 0)] [] M6 Q))))))) ∧ ((¬ x1 ≤ 5) → ((vp_in (0 : Int32) 3) ∧ (∀ M7 : ev_Mem, M7 = rfs M 117 (0 : Int32).toNatClampNeg → (Q (some (.int (-1))) M7)))))))) : Ev LX (d + 1) mX10_sense 0 [some (.ref 0), some (.int x1), some (.int x2), some (.int x3), some (.int x4), some (.int x5), some (.int x6), none] [] M Q := by
  refine ev_iload_n dX10_sense_0 rfl ?_
  refine ev_iconst (v := 1) dX10_sense_1 (by decide) ?_
  refine ev_icmp_lt (tgt := 10) dX10_sense_2 (by decide) (fun c => ?_) (fun c => ?_)
  · replace h := h.1 c
    refine ev_aload_n dX10_sense_10 rfl ?_
    refine ev_iconst (v := 0) dX10_sense_11 (by decide) ?_
    obtain ⟨p1, h⟩ := h
    refine ev_callV [.int 0] dX10_sense_12 ml_WithoutE_185 lx_0 rfl rfl (Nat.le_of_ble_eq_true rfl) (qX10_refuse p1) ?_
    rintro zr zM ⟨q1, q2⟩
    rw [q1, q2]
    generalize eM1 : rfs M 117 (0 : Int32).toNatClampNeg = M1
    replace h := h M1 eM1.symm
    show Ev LX (d + 1) mX10_sense 15 [some (.ref 0), some (.int x1), some (.int x2), some (.int x3), some (.int x4), some (.int x5), some (.int x6), none] [(.int (-1))] M1 Q
    exact ev_iret dX10_sense_15 rfl h
  · replace h := h.2 c
    refine ev_iload_n dX10_sense_5 rfl ?_
    refine ev_iconst (v := 5) dX10_sense_6 (by decide) ?_
    refine ev_icmp_le (tgt := 16) dX10_sense_7 (by decide) (fun c => ?_) (fun c => ?_)
    · replace h := h.1 c
      refine ev_aload_n dX10_sense_16 rfl ?_
      refine ev_getA dX10_sense_17 fl_WithoutE_62 lx_0 rfl ?_
      refine ev_iconst (v := 0) dX10_sense_20 (by decide) ?_
      refine ev_iload_n dX10_sense_21 rfl ?_
      refine ev_isN (j := 0) dX10_sense_22 lx_118 (by decide) (by decide) ?_
      generalize eM2 : ev_wr M 118 0 x2 = M2
      replace h := h M2 eM2.symm
      refine ev_aload_n dX10_sense_23 rfl ?_
      refine ev_getA dX10_sense_24 fl_WithoutE_62 lx_0 rfl ?_
      refine ev_iconst (v := 1) dX10_sense_27 (by decide) ?_
      refine ev_iload_n dX10_sense_28 rfl ?_
      refine ev_isN (j := 1) dX10_sense_29 lx_118 (by decide) (by decide) ?_
      generalize eM3 : ev_wr M2 118 1 x3 = M3
      replace h := h M3 eM3.symm
      refine ev_aload_n dX10_sense_30 rfl ?_
      refine ev_getA dX10_sense_31 fl_WithoutE_62 lx_0 rfl ?_
      refine ev_iconst (v := 2) dX10_sense_34 (by decide) ?_
      refine ev_iload dX10_sense_35 rfl ?_
      refine ev_isN (j := 2) dX10_sense_37 lx_118 (by decide) (by decide) ?_
      generalize eM4 : ev_wr M3 118 2 x4 = M4
      replace h := h M4 eM4.symm
      refine ev_aload_n dX10_sense_38 rfl ?_
      refine ev_getA dX10_sense_39 fl_WithoutE_62 lx_0 rfl ?_
      refine ev_iconst (v := 3) dX10_sense_42 (by decide) ?_
      refine ev_iload dX10_sense_43 rfl ?_
      refine ev_isN (j := 3) dX10_sense_45 lx_118 (by decide) (by decide) ?_
      generalize eM5 : ev_wr M4 118 3 x5 = M5
      replace h := h M5 eM5.symm
      refine ev_aload_n dX10_sense_46 rfl ?_
      refine ev_getA dX10_sense_47 fl_WithoutE_62 lx_0 rfl ?_
      refine ev_iconst (v := 4) dX10_sense_50 (by decide) ?_
      refine ev_iload dX10_sense_51 rfl ?_
      refine ev_isN (j := 4) dX10_sense_53 lx_118 (by decide) (by decide) ?_
      generalize eM6 : ev_wr M5 118 4 x6 = M6
      replace h := h M6 eM6.symm
      refine ev_iconst (v := 0) dX10_sense_54 (by decide) ?_
      refine ev_istore (ls2 := [some (.ref 0), some (.int x1), some (.int x2), some (.int x3), some (.int x4), some (.int x5), some (.int x6), some (.int 0)]) dX10_sense_55 (Nat.le_of_ble_eq_true rfl) rfl ?_
      refine Ev.weak (ls := [some (.ref 0), some (.int x1), none, none, none, none, none, some (.int 0)]) ⟨rfl, rfl, rfl, trivial⟩ ?_
      exact h
    · replace h := h.2 c
      refine ev_aload_n dX10_sense_10 rfl ?_
      refine ev_iconst (v := 0) dX10_sense_11 (by decide) ?_
      obtain ⟨p1, h⟩ := h
      refine ev_callV [.int 0] dX10_sense_12 ml_WithoutE_185 lx_0 rfl rfl (Nat.le_of_ble_eq_true rfl) (qX10_refuse p1) ?_
      rintro zr zM ⟨q1, q2⟩
      rw [q1, q2]
      generalize eM7 : rfs M 117 (0 : Int32).toNatClampNeg = M7
      replace h := h M7 eM7.symm
      show Ev LX (d + 1) mX10_sense 15 [some (.ref 0), some (.int x1), some (.int x2), some (.int x3), some (.int x4), some (.int x5), some (.int x6), none] [(.int (-1))] M7 Q
      exact ev_iret dX10_sense_15 rfl h
theorem gX10_sense_57 {d : Nat} {M : ev_Mem} {Q : Option Value → ev_Mem → Prop} {x1 x7 : Int32} (h : (((x1 ≤ x7) → (∃ Q2 : Option Value → ev_Mem → Prop, Cl LX d mX10_addSentence [.ref 0, .ref 118, .int 0, .int x1] M Q2 ∧ ∀ (zr : Option Value) (zM : ev_Mem), Q2 zr zM → Ev LX (d + 1) mX10_sense 98 [none, none, none, none, none, none, none, none] (zr.toList ++ []) zM Q)) ∧ ((¬ x1 ≤ x7) → (vp_in x7 9 ∧ ((((iin (M.1 118 x7.toNatClampNeg) 0 11) = true) → (Ev LX (d + 1) mX10_sense 57 [some (.ref 0), some (.int x1), none, none, none, none, none, some (.int (x7 + 1))] [] M Q)) ∧ (((iin (M.1 118 x7.toNatClampNeg) 0 11) = false) → ((vp_in (0 : Int32) 3) ∧ (∀ M1 : ev_Mem, M1 = rfs M 117 (0 : Int32).toNatClampNeg → (Q (some (.int (-1))) M1))))))))) : Ev LX (d + 1) mX10_sense 57 [some (.ref 0), some (.int x1), none, none, none, none, none, some (.int x7)] [] M Q := by
  refine ev_iload dX10_sense_57 rfl ?_
  refine ev_iload_n dX10_sense_59 rfl ?_
  refine ev_icmp_ge (tgt := 88) dX10_sense_60 (by decide) (fun c => ?_) (fun c => ?_)
  · replace h := h.1 c
    refine ev_aload_n dX10_sense_88 rfl ?_
    refine ev_aload_n dX10_sense_89 rfl ?_
    refine ev_getA dX10_sense_90 fl_WithoutE_62 lx_0 rfl ?_
    refine ev_iconst (v := 0) dX10_sense_93 (by decide) ?_
    refine ev_iload_n dX10_sense_94 rfl ?_
    obtain ⟨Q2, hc, h⟩ := h
    refine ev_callV [.ref 118, .int 0, .int x1] dX10_sense_95 ml_WithoutE_157 lx_0 rfl rfl (Nat.le_of_ble_eq_true rfl) hc (fun zr zM q => ?_)
    refine Ev.weak (ls := [none, none, none, none, none, none, none, none]) trivial ?_
    exact h zr zM q
  · replace h := h.2 c
    refine ev_aload_n dX10_sense_63 rfl ?_
    refine ev_getA dX10_sense_64 fl_WithoutE_62 lx_0 rfl ?_
    refine ev_iload dX10_sense_67 rfl ?_
    obtain ⟨c, h⟩ := h
    refine ev_iald dX10_sense_69 lx_118 c ?_
    refine ev_callS [.int (M.1 118 x7.toNatClampNeg)] dX10_sense_70 ml_WithoutE_182 rfl (Nat.le_of_ble_eq_true rfl) (kX10_isSense) ?_
    rintro zr zM ⟨q1, q2⟩
    rw [q1, q2]
    show Ev LX (d + 1) mX10_sense 73 [some (.ref 0), some (.int x1), none, none, none, none, none, some (.int x7)] [(.int (bi (iin (M.1 118 x7.toNatClampNeg) 0 11)))] M Q
    refine ev_if_ne (tgt := 82) dX10_sense_73 (by decide) (fun c => ?_) (fun c => ?_)
    · replace h := h.1 ((bi_n0 _).mp c)
      refine ev_iinc (v := x7 + 1) (ls2 := [some (.ref 0), some (.int x1), none, none, none, none, none, some (.int (x7 + 1))]) dX10_sense_82 rfl rfl rfl ?_
      refine ev_goto (tgt := 57) dX10_sense_85 (by decide) ?_
      exact h
    · replace h := h.2 ((bi_0 _).mp c)
      refine ev_aload_n dX10_sense_76 rfl ?_
      refine ev_iconst (v := 0) dX10_sense_77 (by decide) ?_
      obtain ⟨p1, h⟩ := h
      refine ev_callV [.int 0] dX10_sense_78 ml_WithoutE_185 lx_0 rfl rfl (Nat.le_of_ble_eq_true rfl) (qX10_refuse p1) ?_
      rintro zr zM ⟨q1, q2⟩
      rw [q1, q2]
      generalize eM1 : rfs M 117 (0 : Int32).toNatClampNeg = M1
      replace h := h M1 eM1.symm
      show Ev LX (d + 1) mX10_sense 81 [some (.ref 0), some (.int x1), none, none, none, none, none, some (.int x7)] [(.int (-1))] M1 Q
      exact ev_iret dX10_sense_81 rfl h
theorem gX10_sense_98 {d : Nat} {M : ev_Mem} {Q : Option Value → ev_Mem → Prop} {s0 : Int32} (h : (Q (some (.int s0)) M)) : Ev LX d mX10_sense 98 [none, none, none, none, none, none, none, none] [(.int s0)] M Q := by
  exact ev_iret dX10_sense_98 rfl h
theorem dX10_undo_0 : decode cX10_undo 0 = .ok (.aload_n 0, 1) := by decide +kernel
theorem dX10_undo_1 : decode cX10_undo 1 = .ok (.getfield 26, 3) := by decide +kernel
theorem dX10_undo_4 : decode cX10_undo 4 = .ok (.getfield 256, 3) := by decide +kernel
theorem dX10_undo_7 : decode cX10_undo 7 = .ok (.iconst 1, 1) := by decide +kernel
theorem dX10_undo_8 : decode cX10_undo 8 = .ok (.if_icmp .ge 5, 3) := by decide +kernel
theorem dX10_undo_11 : decode cX10_undo 11 = .ok (.iconst (-1), 1) := by decide +kernel
theorem dX10_undo_12 : decode cX10_undo 12 = .ok (.ireturn, 1) := by decide +kernel
theorem dX10_undo_13 : decode cX10_undo 13 = .ok (.aload_n 0, 1) := by decide +kernel
theorem dX10_undo_14 : decode cX10_undo 14 = .ok (.getfield 26, 3) := by decide +kernel
theorem dX10_undo_17 : decode cX10_undo 17 = .ok (.invokevirtual 259, 3) := by decide +kernel
theorem dX10_undo_20 : decode cX10_undo 20 = .ok (.aload_n 0, 1) := by decide +kernel
theorem dX10_undo_21 : decode cX10_undo 21 = .ok (.getfield 26, 3) := by decide +kernel
theorem dX10_undo_24 : decode cX10_undo 24 = .ok (.getfield 256, 3) := by decide +kernel
theorem dX10_undo_27 : decode cX10_undo 27 = .ok (.ireturn, 1) := by decide +kernel
theorem gX10_undo_0 {d : Nat} {M : ev_Mem} {Q : Option Value → ev_Mem → Prop} (h : (((1 ≤ (M.1 43 9)) → (∃ Q2 : Option Value → ev_Mem → Prop, Cl LX d mX9_takeBack [.ref 43] M Q2 ∧ ∀ (zr : Option Value) (zM : ev_Mem), Q2 zr zM → Ev LX (d + 1) mX10_undo 20 [some (.ref 0)] (zr.toList ++ []) zM Q)) ∧ ((¬ 1 ≤ (M.1 43 9)) → (Q (some (.int (-1))) M)))) : Ev LX (d + 1) mX10_undo 0 [some (.ref 0)] [] M Q := by
  refine ev_aload_n dX10_undo_0 rfl ?_
  refine ev_getA dX10_undo_1 fl_WithoutE_26 lx_0 rfl ?_
  refine ev_getI dX10_undo_4 fl_WithoutE_256 lx_43 rfl ?_
  refine ev_iconst (v := 1) dX10_undo_7 (by decide) ?_
  refine ev_icmp_ge (tgt := 13) dX10_undo_8 (by decide) (fun c => ?_) (fun c => ?_)
  · replace h := h.1 c
    refine ev_aload_n dX10_undo_13 rfl ?_
    refine ev_getA dX10_undo_14 fl_WithoutE_26 lx_0 rfl ?_
    obtain ⟨Q2, hc, h⟩ := h
    refine ev_callV [] dX10_undo_17 ml_WithoutE_259 lx_43 rfl rfl (Nat.le_of_ble_eq_true rfl) hc (fun zr zM q => ?_)
    exact h zr zM q
  · replace h := h.2 c
    refine ev_iconst (v := -1) dX10_undo_11 (by decide) ?_
    exact ev_iret dX10_undo_12 rfl h
theorem gX10_undo_20 {d : Nat} {M : ev_Mem} {Q : Option Value → ev_Mem → Prop} (h : (Q (some (.int (M.1 43 9))) M)) : Ev LX d mX10_undo 20 [some (.ref 0)] [] M Q := by
  refine ev_aload_n dX10_undo_20 rfl ?_
  refine ev_getA dX10_undo_21 fl_WithoutE_26 lx_0 rfl ?_
  refine ev_getI dX10_undo_24 fl_WithoutE_256 lx_43 rfl ?_
  exact ev_iret dX10_undo_27 rfl h
theorem dX10_key_0 : decode cX10_key 0 = .ok (.iload_n 1, 1) := by decide +kernel
theorem dX10_key_1 : decode cX10_key 1 = .ok (.invokestatic 214, 3) := by decide +kernel
theorem dX10_key_4 : decode cX10_key 4 = .ok (.ifCond .ne 11, 3) := by decide +kernel
theorem dX10_key_7 : decode cX10_key 7 = .ok (.aload_n 0, 1) := by decide +kernel
theorem dX10_key_8 : decode cX10_key 8 = .ok (.iconst 0, 1) := by decide +kernel
theorem dX10_key_9 : decode cX10_key 9 = .ok (.invokevirtual 185, 3) := by decide +kernel
theorem dX10_key_12 : decode cX10_key 12 = .ok (.pop, 1) := by decide +kernel
theorem dX10_key_13 : decode cX10_key 13 = .ok (.iconst 0, 1) := by decide +kernel
theorem dX10_key_14 : decode cX10_key 14 = .ok (.ireturn, 1) := by decide +kernel
theorem dX10_key_15 : decode cX10_key 15 = .ok (.aload_n 0, 1) := by decide +kernel
theorem dX10_key_16 : decode cX10_key 16 = .ok (.getfield 26, 3) := by decide +kernel
theorem dX10_key_19 : decode cX10_key 19 = .ok (.getfield 223, 3) := by decide +kernel
theorem dX10_key_22 : decode cX10_key 22 = .ok (.iload_n 1, 1) := by decide +kernel
theorem dX10_key_23 : decode cX10_key 23 = .ok (.invokestatic 226, 3) := by decide +kernel
theorem dX10_key_26 : decode cX10_key 26 = .ok (.ifCond .eq 11, 3) := by decide +kernel
theorem dX10_key_29 : decode cX10_key 29 = .ok (.aload_n 0, 1) := by decide +kernel
theorem dX10_key_30 : decode cX10_key 30 = .ok (.iconst 2, 1) := by decide +kernel
theorem dX10_key_31 : decode cX10_key 31 = .ok (.invokevirtual 185, 3) := by decide +kernel
theorem dX10_key_34 : decode cX10_key 34 = .ok (.pop, 1) := by decide +kernel
theorem dX10_key_35 : decode cX10_key 35 = .ok (.iconst 0, 1) := by decide +kernel
theorem dX10_key_36 : decode cX10_key 36 = .ok (.ireturn, 1) := by decide +kernel
theorem dX10_key_37 : decode cX10_key 37 = .ok (.aload_n 0, 1) := by decide +kernel
theorem dX10_key_38 : decode cX10_key 38 = .ok (.getfield 26, 3) := by decide +kernel
theorem dX10_key_41 : decode cX10_key 41 = .ok (.invokevirtual 230, 3) := by decide +kernel
theorem dX10_key_44 : decode cX10_key 44 = .ok (.aload_n 0, 1) := by decide +kernel
theorem dX10_key_45 : decode cX10_key 45 = .ok (.getfield 26, 3) := by decide +kernel
theorem dX10_key_48 : decode cX10_key 48 = .ok (.dup, 1) := by decide +kernel
theorem dX10_key_49 : decode cX10_key 49 = .ok (.getfield 223, 3) := by decide +kernel
theorem dX10_key_52 : decode cX10_key 52 = .ok (.iconst 1, 1) := by decide +kernel
theorem dX10_key_53 : decode cX10_key 53 = .ok (.iload_n 1, 1) := by decide +kernel
theorem dX10_key_54 : decode cX10_key 54 = .ok (.ishl, 1) := by decide +kernel
theorem dX10_key_55 : decode cX10_key 55 = .ok (.ior, 1) := by decide +kernel
theorem dX10_key_56 : decode cX10_key 56 = .ok (.putfield 223, 3) := by decide +kernel
theorem dX10_key_59 : decode cX10_key 59 = .ok (.iconst 1, 1) := by decide +kernel
theorem dX10_key_60 : decode cX10_key 60 = .ok (.ireturn, 1) := by decide +kernel
theorem gX10_key_0 {d : Nat} {M : ev_Mem} {Q : Option Value → ev_Mem → Prop} {x1 : Int32} (h : ((((iin x1 0 25) = true) → ((((hs (M.1 43 0) x1) = false) → (∃ Q2 : Option Value → ev_Mem → Prop, Cl LX d mX9_markStep [.ref 43] M Q2 ∧ ∀ (zr : Option Value) (zM : ev_Mem), Q2 zr zM → Ev LX (d + 1) mX10_key 44 [some (.ref 0), some (.int x1)] (zr.toList ++ []) zM Q)) ∧ (((hs (M.1 43 0) x1) = true) → ((vp_in (2 : Int32) 3) ∧ (∀ M1 : ev_Mem, M1 = rfs M 117 (2 : Int32).toNatClampNeg → (Q (some (.int 0)) M1)))))) ∧ (((iin x1 0 25) = false) → ((vp_in (0 : Int32) 3) ∧ (∀ M2 : ev_Mem, M2 = rfs M 117 (0 : Int32).toNatClampNeg → (Q (some (.int 0)) M2)))))) : Ev LX (d + 1) mX10_key 0 [some (.ref 0), some (.int x1)] [] M Q := by
  refine ev_iload_n dX10_key_0 rfl ?_
  refine ev_callS [.int x1] dX10_key_1 ml_WithoutE_214 rfl (Nat.le_of_ble_eq_true rfl) (kX10_isLetter) ?_
  rintro zr zM ⟨q1, q2⟩
  rw [q1, q2]
  show Ev LX (d + 1) mX10_key 4 [some (.ref 0), some (.int x1)] [(.int (bi (iin x1 0 25)))] M Q
  refine ev_if_ne (tgt := 15) dX10_key_4 (by decide) (fun c => ?_) (fun c => ?_)
  · replace h := h.1 ((bi_n0 _).mp c)
    refine ev_aload_n dX10_key_15 rfl ?_
    refine ev_getA dX10_key_16 fl_WithoutE_26 lx_0 rfl ?_
    refine ev_getI dX10_key_19 fl_WithoutE_223 lx_43 rfl ?_
    refine ev_iload_n dX10_key_22 rfl ?_
    refine ev_callS [.int (M.1 43 0), .int x1] dX10_key_23 ml_WithoutE_226 rfl (Nat.le_of_ble_eq_true rfl) (kX10_has) ?_
    rintro zr zM ⟨q1, q2⟩
    rw [q1, q2]
    show Ev LX (d + 1) mX10_key 26 [some (.ref 0), some (.int x1)] [(.int (bi (hs (M.1 43 0) x1)))] M Q
    refine ev_if_eq (tgt := 37) dX10_key_26 (by decide) (fun c => ?_) (fun c => ?_)
    · replace h := h.1 ((bi_0 _).mp c)
      refine ev_aload_n dX10_key_37 rfl ?_
      refine ev_getA dX10_key_38 fl_WithoutE_26 lx_0 rfl ?_
      obtain ⟨Q2, hc, h⟩ := h
      refine ev_callV [] dX10_key_41 ml_WithoutE_230 lx_43 rfl rfl (Nat.le_of_ble_eq_true rfl) hc (fun zr zM q => ?_)
      exact h zr zM q
    · replace h := h.2 ((bi_n0 _).mp c)
      refine ev_aload_n dX10_key_29 rfl ?_
      refine ev_iconst (v := 2) dX10_key_30 (by decide) ?_
      obtain ⟨p1, h⟩ := h
      refine ev_callV [.int 2] dX10_key_31 ml_WithoutE_185 lx_0 rfl rfl (Nat.le_of_ble_eq_true rfl) (qX10_refuse p1) ?_
      rintro zr zM ⟨q1, q2⟩
      rw [q1, q2]
      generalize eM1 : rfs M 117 (2 : Int32).toNatClampNeg = M1
      replace h := h M1 eM1.symm
      show Ev LX (d + 1) mX10_key 34 [some (.ref 0), some (.int x1)] [(.int (-1))] M1 Q
      refine ev_pop dX10_key_34 rfl ?_
      refine ev_iconst (v := 0) dX10_key_35 (by decide) ?_
      exact ev_zret dX10_key_36 rfl (by decide) h
  · replace h := h.2 ((bi_0 _).mp c)
    refine ev_aload_n dX10_key_7 rfl ?_
    refine ev_iconst (v := 0) dX10_key_8 (by decide) ?_
    obtain ⟨p1, h⟩ := h
    refine ev_callV [.int 0] dX10_key_9 ml_WithoutE_185 lx_0 rfl rfl (Nat.le_of_ble_eq_true rfl) (qX10_refuse p1) ?_
    rintro zr zM ⟨q1, q2⟩
    rw [q1, q2]
    generalize eM2 : rfs M 117 (0 : Int32).toNatClampNeg = M2
    replace h := h M2 eM2.symm
    show Ev LX (d + 1) mX10_key 12 [some (.ref 0), some (.int x1)] [(.int (-1))] M2 Q
    refine ev_pop dX10_key_12 rfl ?_
    refine ev_iconst (v := 0) dX10_key_13 (by decide) ?_
    exact ev_zret dX10_key_14 rfl (by decide) h
theorem gX10_key_44 {d : Nat} {M : ev_Mem} {Q : Option Value → ev_Mem → Prop} {x1 : Int32} (h : (∀ M1 : ev_Mem, M1 = ev_wr M 43 0 ((M.1 43 0) ||| (1 <<< (x1 &&& 31))) → (Q (some (.int 1)) M1))) : Ev LX d mX10_key 44 [some (.ref 0), some (.int x1)] [] M Q := by
  refine ev_aload_n dX10_key_44 rfl ?_
  refine ev_getA dX10_key_45 fl_WithoutE_26 lx_0 rfl ?_
  refine ev_dup dX10_key_48 rfl ?_
  refine ev_getI dX10_key_49 fl_WithoutE_223 lx_43 rfl ?_
  refine ev_iconst (v := 1) dX10_key_52 (by decide) ?_
  refine ev_iload_n dX10_key_53 rfl ?_
  refine ev_ishl dX10_key_54 ?_
  refine ev_ior dX10_key_55 ?_
  refine ev_putI dX10_key_56 fp_WithoutE_223 lx_43 rfl rfl rfl ?_
  generalize eM1 : ev_wr M 43 0 ((M.1 43 0) ||| (1 <<< (x1 &&& 31))) = M1
  replace h := h M1 eM1.symm
  refine ev_iconst (v := 1) dX10_key_59 (by decide) ?_
  exact ev_zret dX10_key_60 rfl (by decide) h
theorem dX11_feed_0 : decode cX11_feed 0 = .ok (.aload_n 0, 1) := by decide +kernel
theorem dX11_feed_1 : decode cX11_feed 1 = .ok (.getfield 103, 3) := by decide +kernel
theorem dX11_feed_4 : decode cX11_feed 4 = .ok (.bipush 20, 2) := by decide +kernel
theorem dX11_feed_6 : decode cX11_feed 6 = .ok (.iadd, 1) := by decide +kernel
theorem dX11_feed_7 : decode cX11_feed 7 = .ok (.sipush 300, 3) := by decide +kernel
theorem dX11_feed_10 : decode cX11_feed 10 = .ok (.if_icmp .le 5, 3) := by decide +kernel
theorem dX11_feed_13 : decode cX11_feed 13 = .ok (.iconst (-1), 1) := by decide +kernel
theorem dX11_feed_14 : decode cX11_feed 14 = .ok (.ireturn, 1) := by decide +kernel
theorem dX11_feed_15 : decode cX11_feed 15 = .ok (.aload_n 0, 1) := by decide +kernel
theorem dX11_feed_16 : decode cX11_feed 16 = .ok (.iload_n 1, 1) := by decide +kernel
theorem dX11_feed_17 : decode cX11_feed 17 = .ok (.invokevirtual 106, 3) := by decide +kernel
theorem dX11_feed_20 : decode cX11_feed 20 = .ok (.aload_n 0, 1) := by decide +kernel
theorem dX11_feed_21 : decode cX11_feed 21 = .ok (.iload_n 2, 1) := by decide +kernel
theorem dX11_feed_22 : decode cX11_feed 22 = .ok (.invokevirtual 106, 3) := by decide +kernel
theorem dX11_feed_25 : decode cX11_feed 25 = .ok (.aload_n 0, 1) := by decide +kernel
theorem dX11_feed_26 : decode cX11_feed 26 = .ok (.iload_n 3, 1) := by decide +kernel
theorem dX11_feed_27 : decode cX11_feed 27 = .ok (.invokevirtual 106, 3) := by decide +kernel
theorem dX11_feed_30 : decode cX11_feed 30 = .ok (.aload_n 0, 1) := by decide +kernel
theorem dX11_feed_31 : decode cX11_feed 31 = .ok (.iload 4, 2) := by decide +kernel
theorem dX11_feed_33 : decode cX11_feed 33 = .ok (.invokevirtual 106, 3) := by decide +kernel
theorem dX11_feed_36 : decode cX11_feed 36 = .ok (.aload_n 0, 1) := by decide +kernel
theorem dX11_feed_37 : decode cX11_feed 37 = .ok (.iload 5, 2) := by decide +kernel
theorem dX11_feed_39 : decode cX11_feed 39 = .ok (.invokevirtual 106, 3) := by decide +kernel
theorem dX11_feed_42 : decode cX11_feed 42 = .ok (.aload_n 0, 1) := by decide +kernel
theorem dX11_feed_43 : decode cX11_feed 43 = .ok (.getfield 103, 3) := by decide +kernel
theorem dX11_feed_46 : decode cX11_feed 46 = .ok (.ireturn, 1) := by decide +kernel
theorem gX11_feed_0 {d : Nat} {M : ev_Mem} {Q : Option Value → ev_Mem → Prop} {x1 x2 x3 x4 x5 : Int32} (h : (((((M.1 0 5) + 20) ≤ 300) → (∃ Q2 : Option Value → ev_Mem → Prop, Cl LM d mX11_four [.ref 0, .int x1] M Q2 ∧ ∀ (zr : Option Value) (zM : ev_Mem), Q2 zr zM → Ev LM (d + 1) mX11_feed 20 [some (.ref 0), none, some (.int x2), some (.int x3), some (.int x4), some (.int x5)] (zr.toList ++ []) zM Q)) ∧ ((¬ ((M.1 0 5) + 20) ≤ 300) → (Q (some (.int (-1))) M)))) : Ev LM (d + 1) mX11_feed 0 [some (.ref 0), some (.int x1), some (.int x2), some (.int x3), some (.int x4), some (.int x5)] [] M Q := by
  refine ev_aload_n dX11_feed_0 rfl ?_
  refine ev_getI dX11_feed_1 fl_WithoutEModel_103 lm_0 rfl ?_
  refine ev_bipush (v := 20) dX11_feed_4 (by decide) ?_
  refine ev_iadd dX11_feed_6 ?_
  refine ev_sipush (v := 300) dX11_feed_7 (by decide) ?_
  refine ev_icmp_le (tgt := 15) dX11_feed_10 (by decide) (fun c => ?_) (fun c => ?_)
  · replace h := h.1 c
    refine ev_aload_n dX11_feed_15 rfl ?_
    refine ev_iload_n dX11_feed_16 rfl ?_
    obtain ⟨Q2, hc, h⟩ := h
    refine ev_callV [.int x1] dX11_feed_17 ml_WithoutEModel_106 lm_0 rfl rfl (Nat.le_of_ble_eq_true rfl) hc (fun zr zM q => ?_)
    refine Ev.weak (ls := [some (.ref 0), none, some (.int x2), some (.int x3), some (.int x4), some (.int x5)]) ⟨rfl, rfl, rfl, rfl, rfl, trivial⟩ ?_
    exact h zr zM q
  · replace h := h.2 c
    refine ev_iconst (v := -1) dX11_feed_13 (by decide) ?_
    exact ev_iret dX11_feed_14 rfl h
theorem gX11_feed_20 {d : Nat} {M : ev_Mem} {Q : Option Value → ev_Mem → Prop} {x2 x3 x4 x5 : Int32} (h : (∃ Q2 : Option Value → ev_Mem → Prop, Cl LM d mX11_four [.ref 0, .int x2] M Q2 ∧ ∀ (zr : Option Value) (zM : ev_Mem), Q2 zr zM → Ev LM (d + 1) mX11_feed 25 [some (.ref 0), none, none, some (.int x3), some (.int x4), some (.int x5)] (zr.toList ++ []) zM Q)) : Ev LM (d + 1) mX11_feed 20 [some (.ref 0), none, some (.int x2), some (.int x3), some (.int x4), some (.int x5)] [] M Q := by
  refine ev_aload_n dX11_feed_20 rfl ?_
  refine ev_iload_n dX11_feed_21 rfl ?_
  obtain ⟨Q2, hc, h⟩ := h
  refine ev_callV [.int x2] dX11_feed_22 ml_WithoutEModel_106 lm_0 rfl rfl (Nat.le_of_ble_eq_true rfl) hc (fun zr zM q => ?_)
  refine Ev.weak (ls := [some (.ref 0), none, none, some (.int x3), some (.int x4), some (.int x5)]) ⟨rfl, rfl, rfl, rfl, trivial⟩ ?_
  exact h zr zM q
theorem gX11_feed_25 {d : Nat} {M : ev_Mem} {Q : Option Value → ev_Mem → Prop} {x3 x4 x5 : Int32} (h : (∃ Q2 : Option Value → ev_Mem → Prop, Cl LM d mX11_four [.ref 0, .int x3] M Q2 ∧ ∀ (zr : Option Value) (zM : ev_Mem), Q2 zr zM → Ev LM (d + 1) mX11_feed 30 [some (.ref 0), none, none, none, some (.int x4), some (.int x5)] (zr.toList ++ []) zM Q)) : Ev LM (d + 1) mX11_feed 25 [some (.ref 0), none, none, some (.int x3), some (.int x4), some (.int x5)] [] M Q := by
  refine ev_aload_n dX11_feed_25 rfl ?_
  refine ev_iload_n dX11_feed_26 rfl ?_
  obtain ⟨Q2, hc, h⟩ := h
  refine ev_callV [.int x3] dX11_feed_27 ml_WithoutEModel_106 lm_0 rfl rfl (Nat.le_of_ble_eq_true rfl) hc (fun zr zM q => ?_)
  refine Ev.weak (ls := [some (.ref 0), none, none, none, some (.int x4), some (.int x5)]) ⟨rfl, rfl, rfl, trivial⟩ ?_
  exact h zr zM q
theorem gX11_feed_30 {d : Nat} {M : ev_Mem} {Q : Option Value → ev_Mem → Prop} {x4 x5 : Int32} (h : (∃ Q2 : Option Value → ev_Mem → Prop, Cl LM d mX11_four [.ref 0, .int x4] M Q2 ∧ ∀ (zr : Option Value) (zM : ev_Mem), Q2 zr zM → Ev LM (d + 1) mX11_feed 36 [some (.ref 0), none, none, none, none, some (.int x5)] (zr.toList ++ []) zM Q)) : Ev LM (d + 1) mX11_feed 30 [some (.ref 0), none, none, none, some (.int x4), some (.int x5)] [] M Q := by
  refine ev_aload_n dX11_feed_30 rfl ?_
  refine ev_iload dX11_feed_31 rfl ?_
  obtain ⟨Q2, hc, h⟩ := h
  refine ev_callV [.int x4] dX11_feed_33 ml_WithoutEModel_106 lm_0 rfl rfl (Nat.le_of_ble_eq_true rfl) hc (fun zr zM q => ?_)
  refine Ev.weak (ls := [some (.ref 0), none, none, none, none, some (.int x5)]) ⟨rfl, rfl, trivial⟩ ?_
  exact h zr zM q
theorem gX11_feed_36 {d : Nat} {M : ev_Mem} {Q : Option Value → ev_Mem → Prop} {x5 : Int32} (h : (∃ Q2 : Option Value → ev_Mem → Prop, Cl LM d mX11_four [.ref 0, .int x5] M Q2 ∧ ∀ (zr : Option Value) (zM : ev_Mem), Q2 zr zM → Ev LM (d + 1) mX11_feed 42 [some (.ref 0), none, none, none, none, none] (zr.toList ++ []) zM Q)) : Ev LM (d + 1) mX11_feed 36 [some (.ref 0), none, none, none, none, some (.int x5)] [] M Q := by
  refine ev_aload_n dX11_feed_36 rfl ?_
  refine ev_iload dX11_feed_37 rfl ?_
  obtain ⟨Q2, hc, h⟩ := h
  refine ev_callV [.int x5] dX11_feed_39 ml_WithoutEModel_106 lm_0 rfl rfl (Nat.le_of_ble_eq_true rfl) hc (fun zr zM q => ?_)
  refine Ev.weak (ls := [some (.ref 0), none, none, none, none, none]) ⟨rfl, trivial⟩ ?_
  exact h zr zM q
theorem gX11_feed_42 {d : Nat} {M : ev_Mem} {Q : Option Value → ev_Mem → Prop} (h : (Q (some (.int (M.1 0 5))) M)) : Ev LM d mX11_feed 42 [some (.ref 0), none, none, none, none, none] [] M Q := by
  refine ev_aload_n dX11_feed_42 rfl ?_
  refine ev_getI dX11_feed_43 fl_WithoutEModel_103 lm_0 rfl ?_
  exact ev_iret dX11_feed_46 rfl h
theorem dX11_isSpelled_0 : decode cX11_isSpelled 0 = .ok (.iconst 0, 1) := by decide +kernel
theorem dX11_isSpelled_1 : decode cX11_isSpelled 1 = .ok (.istore_n 1, 1) := by decide +kernel
theorem dX11_isSpelled_2 : decode cX11_isSpelled 2 = .ok (.iload_n 1, 1) := by decide +kernel
theorem dX11_isSpelled_3 : decode cX11_isSpelled 3 = .ok (.aload_n 0, 1) := by decide +kernel
theorem dX11_isSpelled_4 : decode cX11_isSpelled 4 = .ok (.getfield 103, 3) := by decide +kernel
theorem dX11_isSpelled_7 : decode cX11_isSpelled 7 = .ok (.if_icmp .ge 26, 3) := by decide +kernel
theorem dX11_isSpelled_10 : decode cX11_isSpelled 10 = .ok (.aload_n 0, 1) := by decide +kernel
theorem dX11_isSpelled_11 : decode cX11_isSpelled 11 = .ok (.iload_n 1, 1) := by decide +kernel
theorem dX11_isSpelled_12 : decode cX11_isSpelled 12 = .ok (.invokevirtual 113, 3) := by decide +kernel
theorem dX11_isSpelled_15 : decode cX11_isSpelled 15 = .ok (.bipush 97, 2) := by decide +kernel
theorem dX11_isSpelled_17 : decode cX11_isSpelled 17 = .ok (.bipush 122, 2) := by decide +kernel
theorem dX11_isSpelled_19 : decode cX11_isSpelled 19 = .ok (.invokestatic 80, 3) := by decide +kernel
theorem dX11_isSpelled_22 : decode cX11_isSpelled 22 = .ok (.ifCond .ne 5, 3) := by decide +kernel
theorem dX11_isSpelled_25 : decode cX11_isSpelled 25 = .ok (.iconst 0, 1) := by decide +kernel
theorem dX11_isSpelled_26 : decode cX11_isSpelled 26 = .ok (.ireturn, 1) := by decide +kernel
theorem dX11_isSpelled_27 : decode cX11_isSpelled 27 = .ok (.iinc 1 1, 3) := by decide +kernel
theorem dX11_isSpelled_30 : decode cX11_isSpelled 30 = .ok (.goto (-28), 3) := by decide +kernel
theorem dX11_isSpelled_33 : decode cX11_isSpelled 33 = .ok (.aload_n 0, 1) := by decide +kernel
theorem dX11_isSpelled_34 : decode cX11_isSpelled 34 = .ok (.getfield 103, 3) := by decide +kernel
theorem dX11_isSpelled_37 : decode cX11_isSpelled 37 = .ok (.iconst 1, 1) := by decide +kernel
theorem dX11_isSpelled_38 : decode cX11_isSpelled 38 = .ok (.bipush 9, 2) := by decide +kernel
theorem dX11_isSpelled_40 : decode cX11_isSpelled 40 = .ok (.invokestatic 80, 3) := by decide +kernel
theorem dX11_isSpelled_43 : decode cX11_isSpelled 43 = .ok (.ireturn, 1) := by decide +kernel
theorem gX11_isSpelled_0 {d : Nat} {M : ev_Mem} {Q : Option Value → ev_Mem → Prop} (h : (Ev LM d mX11_isSpelled 2 [some (.ref 0), some (.int 0)] [] M Q)) : Ev LM d mX11_isSpelled 0 [some (.ref 0), none] [] M Q := by
  refine ev_iconst (v := 0) dX11_isSpelled_0 (by decide) ?_
  refine ev_istore_n (ls2 := [some (.ref 0), some (.int 0)]) dX11_isSpelled_1 (Nat.le_of_ble_eq_true rfl) rfl ?_
  exact h
theorem gX11_isSpelled_2 {d : Nat} {M : ev_Mem} {Q : Option Value → ev_Mem → Prop} {x1 : Int32} (h : ((((M.1 0 5) ≤ x1) → (Q (some (.int (bi (iin (M.1 0 5) (1 : Int32) (9 : Int32))))) M)) ∧ ((¬ (M.1 0 5) ≤ x1) → ((baOK M x1) ∧ ((((iin (btA M x1) (97 : Int32) (122 : Int32)) = true) → (Ev LM (d + 1) mX11_isSpelled 2 [some (.ref 0), some (.int (x1 + 1))] [] M Q)) ∧ (((iin (btA M x1) (97 : Int32) (122 : Int32)) = false) → (Q (some (.int 0)) M))))))) : Ev LM (d + 1) mX11_isSpelled 2 [some (.ref 0), some (.int x1)] [] M Q := by
  refine ev_iload_n dX11_isSpelled_2 rfl ?_
  refine ev_aload_n dX11_isSpelled_3 rfl ?_
  refine ev_getI dX11_isSpelled_4 fl_WithoutEModel_103 lm_0 rfl ?_
  refine ev_icmp_ge (tgt := 33) dX11_isSpelled_7 (by decide) (fun c => ?_) (fun c => ?_)
  · replace h := h.1 c
    refine ev_aload_n dX11_isSpelled_33 rfl ?_
    refine ev_getI dX11_isSpelled_34 fl_WithoutEModel_103 lm_0 rfl ?_
    refine ev_iconst (v := 1) dX11_isSpelled_37 (by decide) ?_
    refine ev_bipush (v := 9) dX11_isSpelled_38 (by decide) ?_
    refine ev_callS [.int (M.1 0 5), .int 1, .int 9] dX11_isSpelled_40 ml_WithoutEModel_80 rfl (Nat.le_of_ble_eq_true rfl) (kX11_isIn) ?_
    rintro zr zM ⟨q1, q2⟩
    rw [q1, q2]
    show Ev LM (d + 1) mX11_isSpelled 43 [some (.ref 0), some (.int x1)] [(.int (bi (iin (M.1 0 5) (1 : Int32) (9 : Int32))))] M Q
    exact ev_zret dX11_isSpelled_43 rfl (bi_nar _) h
  · replace h := h.2 c
    refine ev_aload_n dX11_isSpelled_10 rfl ?_
    refine ev_iload_n dX11_isSpelled_11 rfl ?_
    obtain ⟨p1, h⟩ := h
    refine ev_callV [.int x1] dX11_isSpelled_12 ml_WithoutEModel_113 lm_0 rfl rfl (Nat.le_of_ble_eq_true rfl) (qX11_byteAt p1) ?_
    rintro zr zM ⟨q1, q2⟩
    rw [q1, q2]
    show Ev LM (d + 1) mX11_isSpelled 15 [some (.ref 0), some (.int x1)] [(.int (btA M x1))] M Q
    refine ev_bipush (v := 97) dX11_isSpelled_15 (by decide) ?_
    refine ev_bipush (v := 122) dX11_isSpelled_17 (by decide) ?_
    refine ev_callS [.int (btA M x1), .int 97, .int 122] dX11_isSpelled_19 ml_WithoutEModel_80 rfl (Nat.le_of_ble_eq_true rfl) (kX11_isIn) ?_
    rintro zr zM ⟨q1, q2⟩
    rw [q1, q2]
    show Ev LM (d + 1) mX11_isSpelled 22 [some (.ref 0), some (.int x1)] [(.int (bi (iin (btA M x1) (97 : Int32) (122 : Int32))))] M Q
    refine ev_if_ne (tgt := 27) dX11_isSpelled_22 (by decide) (fun c => ?_) (fun c => ?_)
    · replace h := h.1 ((bi_n0 _).mp c)
      refine ev_iinc (v := x1 + 1) (ls2 := [some (.ref 0), some (.int (x1 + 1))]) dX11_isSpelled_27 rfl rfl rfl ?_
      refine ev_goto (tgt := 2) dX11_isSpelled_30 (by decide) ?_
      exact h
    · replace h := h.2 ((bi_0 _).mp c)
      refine ev_iconst (v := 0) dX11_isSpelled_25 (by decide) ?_
      exact ev_zret dX11_isSpelled_26 rfl (by decide) h
theorem dX11_isWordTold_0 : decode cX11_isWordTold 0 = .ok (.iload_n 0, 1) := by decide +kernel
theorem dX11_isWordTold_1 : decode cX11_isWordTold 1 = .ok (.iconst 0, 1) := by decide +kernel
theorem dX11_isWordTold_2 : decode cX11_isWordTold 2 = .ok (.bipush 6, 2) := by decide +kernel
theorem dX11_isWordTold_4 : decode cX11_isWordTold 4 = .ok (.invokestatic 80, 3) := by decide +kernel
theorem dX11_isWordTold_7 : decode cX11_isWordTold 7 = .ok (.ifCond .eq 27, 3) := by decide +kernel
theorem dX11_isWordTold_10 : decode cX11_isWordTold 10 = .ok (.iload_n 1, 1) := by decide +kernel
theorem dX11_isWordTold_11 : decode cX11_isWordTold 11 = .ok (.iconst 0, 1) := by decide +kernel
theorem dX11_isWordTold_12 : decode cX11_isWordTold 12 = .ok (.bipush 11, 2) := by decide +kernel
theorem dX11_isWordTold_14 : decode cX11_isWordTold 14 = .ok (.invokestatic 80, 3) := by decide +kernel
theorem dX11_isWordTold_17 : decode cX11_isWordTold 17 = .ok (.ifCond .eq 17, 3) := by decide +kernel
theorem dX11_isWordTold_20 : decode cX11_isWordTold 20 = .ok (.iload_n 2, 1) := by decide +kernel
theorem dX11_isWordTold_21 : decode cX11_isWordTold 21 = .ok (.iconst 0, 1) := by decide +kernel
theorem dX11_isWordTold_22 : decode cX11_isWordTold 22 = .ok (.bipush 9, 2) := by decide +kernel
theorem dX11_isWordTold_24 : decode cX11_isWordTold 24 = .ok (.invokestatic 80, 3) := by decide +kernel
theorem dX11_isWordTold_27 : decode cX11_isWordTold 27 = .ok (.ifCond .eq 7, 3) := by decide +kernel
theorem dX11_isWordTold_30 : decode cX11_isWordTold 30 = .ok (.iconst 1, 1) := by decide +kernel
theorem dX11_isWordTold_31 : decode cX11_isWordTold 31 = .ok (.goto 4, 3) := by decide +kernel
theorem dX11_isWordTold_34 : decode cX11_isWordTold 34 = .ok (.iconst 0, 1) := by decide +kernel
theorem dX11_isWordTold_35 : decode cX11_isWordTold 35 = .ok (.ireturn, 1) := by decide +kernel
theorem gX11_isWordTold_0 {d : Nat} {M : ev_Mem} {Q : Option Value → ev_Mem → Prop} {x0 x1 x2 : Int32} (h : ((((iin x0 (0 : Int32) (6 : Int32)) = false) → (Q (some (.int 0)) M)) ∧ (((iin x0 (0 : Int32) (6 : Int32)) = true) → ((((iin x1 (0 : Int32) (11 : Int32)) = false) → (Q (some (.int 0)) M)) ∧ (((iin x1 (0 : Int32) (11 : Int32)) = true) → ((((iin x2 (0 : Int32) (9 : Int32)) = false) → (Q (some (.int 0)) M)) ∧ (((iin x2 (0 : Int32) (9 : Int32)) = true) → (Q (some (.int 1)) M)))))))) : Ev LM (d + 1) mX11_isWordTold 0 [some (.int x0), some (.int x1), some (.int x2)] [] M Q := by
  refine ev_iload_n dX11_isWordTold_0 rfl ?_
  refine ev_iconst (v := 0) dX11_isWordTold_1 (by decide) ?_
  refine ev_bipush (v := 6) dX11_isWordTold_2 (by decide) ?_
  refine ev_callS [.int x0, .int 0, .int 6] dX11_isWordTold_4 ml_WithoutEModel_80 rfl (Nat.le_of_ble_eq_true rfl) (kX11_isIn) ?_
  rintro zr zM ⟨q1, q2⟩
  rw [q1, q2]
  show Ev LM (d + 1) mX11_isWordTold 7 [some (.int x0), some (.int x1), some (.int x2)] [(.int (bi (iin x0 (0 : Int32) (6 : Int32))))] M Q
  refine ev_if_eq (tgt := 34) dX11_isWordTold_7 (by decide) (fun c => ?_) (fun c => ?_)
  · replace h := h.1 ((bi_0 _).mp c)
    refine ev_iconst (v := 0) dX11_isWordTold_34 (by decide) ?_
    exact ev_zret dX11_isWordTold_35 rfl (by decide) h
  · replace h := h.2 ((bi_n0 _).mp c)
    refine ev_iload_n dX11_isWordTold_10 rfl ?_
    refine ev_iconst (v := 0) dX11_isWordTold_11 (by decide) ?_
    refine ev_bipush (v := 11) dX11_isWordTold_12 (by decide) ?_
    refine ev_callS [.int x1, .int 0, .int 11] dX11_isWordTold_14 ml_WithoutEModel_80 rfl (Nat.le_of_ble_eq_true rfl) (kX11_isIn) ?_
    rintro zr zM ⟨q1, q2⟩
    rw [q1, q2]
    show Ev LM (d + 1) mX11_isWordTold 17 [some (.int x0), some (.int x1), some (.int x2)] [(.int (bi (iin x1 (0 : Int32) (11 : Int32))))] M Q
    refine ev_if_eq (tgt := 34) dX11_isWordTold_17 (by decide) (fun c => ?_) (fun c => ?_)
    · replace h := h.1 ((bi_0 _).mp c)
      refine ev_iconst (v := 0) dX11_isWordTold_34 (by decide) ?_
      exact ev_zret dX11_isWordTold_35 rfl (by decide) h
    · replace h := h.2 ((bi_n0 _).mp c)
      refine ev_iload_n dX11_isWordTold_20 rfl ?_
      refine ev_iconst (v := 0) dX11_isWordTold_21 (by decide) ?_
      refine ev_bipush (v := 9) dX11_isWordTold_22 (by decide) ?_
      refine ev_callS [.int x2, .int 0, .int 9] dX11_isWordTold_24 ml_WithoutEModel_80 rfl (Nat.le_of_ble_eq_true rfl) (kX11_isIn) ?_
      rintro zr zM ⟨q1, q2⟩
      rw [q1, q2]
      show Ev LM (d + 1) mX11_isWordTold 27 [some (.int x0), some (.int x1), some (.int x2)] [(.int (bi (iin x2 (0 : Int32) (9 : Int32))))] M Q
      refine ev_if_eq (tgt := 34) dX11_isWordTold_27 (by decide) (fun c => ?_) (fun c => ?_)
      · replace h := h.1 ((bi_0 _).mp c)
        refine ev_iconst (v := 0) dX11_isWordTold_34 (by decide) ?_
        exact ev_zret dX11_isWordTold_35 rfl (by decide) h
      · replace h := h.2 ((bi_n0 _).mp c)
        refine ev_iconst (v := 1) dX11_isWordTold_30 (by decide) ?_
        refine ev_goto (tgt := 35) dX11_isWordTold_31 (by decide) ?_
        exact ev_zret dX11_isWordTold_35 rfl (by decide) h
theorem dX11_lay_0 : decode cX11_lay 0 = .ok (.bipush 39, 2) := by decide +kernel
theorem dX11_lay_2 : decode cX11_lay 2 = .ok (.bipush 13, 2) := by decide +kernel
theorem dX11_lay_4 : decode cX11_lay 4 = .ok (.aload_n 0, 1) := by decide +kernel
theorem dX11_lay_5 : decode cX11_lay 5 = .ok (.getfield 7, 3) := by decide +kernel
theorem dX11_lay_8 : decode cX11_lay 8 = .ok (.iconst 0, 1) := by decide +kernel
theorem dX11_lay_9 : decode cX11_lay 9 = .ok (.iaload, 1) := by decide +kernel
theorem dX11_lay_10 : decode cX11_lay 10 = .ok (.imul, 1) := by decide +kernel
theorem dX11_lay_11 : decode cX11_lay 11 = .ok (.iadd, 1) := by decide +kernel
theorem dX11_lay_12 : decode cX11_lay 12 = .ok (.istore 4, 2) := by decide +kernel
theorem dX11_lay_14 : decode cX11_lay 14 = .ok (.aload_n 0, 1) := by decide +kernel
theorem dX11_lay_15 : decode cX11_lay 15 = .ok (.getfield 7, 3) := by decide +kernel
theorem dX11_lay_18 : decode cX11_lay 18 = .ok (.iload 4, 2) := by decide +kernel
theorem dX11_lay_20 : decode cX11_lay 20 = .ok (.iconst 0, 1) := by decide +kernel
theorem dX11_lay_21 : decode cX11_lay 21 = .ok (.iadd, 1) := by decide +kernel
theorem dX11_lay_22 : decode cX11_lay 22 = .ok (.iload_n 1, 1) := by decide +kernel
theorem dX11_lay_23 : decode cX11_lay 23 = .ok (.iastore, 1) := by decide +kernel
theorem dX11_lay_24 : decode cX11_lay 24 = .ok (.aload_n 0, 1) := by decide +kernel
theorem dX11_lay_25 : decode cX11_lay 25 = .ok (.getfield 7, 3) := by decide +kernel
theorem dX11_lay_28 : decode cX11_lay 28 = .ok (.iload 4, 2) := by decide +kernel
theorem dX11_lay_30 : decode cX11_lay 30 = .ok (.iconst 1, 1) := by decide +kernel
theorem dX11_lay_31 : decode cX11_lay 31 = .ok (.iadd, 1) := by decide +kernel
theorem dX11_lay_32 : decode cX11_lay 32 = .ok (.iload_n 2, 1) := by decide +kernel
theorem dX11_lay_33 : decode cX11_lay 33 = .ok (.iastore, 1) := by decide +kernel
theorem dX11_lay_34 : decode cX11_lay 34 = .ok (.aload_n 0, 1) := by decide +kernel
theorem dX11_lay_35 : decode cX11_lay 35 = .ok (.getfield 7, 3) := by decide +kernel
theorem dX11_lay_38 : decode cX11_lay 38 = .ok (.iload 4, 2) := by decide +kernel
theorem dX11_lay_40 : decode cX11_lay 40 = .ok (.iconst 2, 1) := by decide +kernel
theorem dX11_lay_41 : decode cX11_lay 41 = .ok (.iadd, 1) := by decide +kernel
theorem dX11_lay_42 : decode cX11_lay 42 = .ok (.iload_n 3, 1) := by decide +kernel
theorem dX11_lay_43 : decode cX11_lay 43 = .ok (.iastore, 1) := by decide +kernel
theorem dX11_lay_44 : decode cX11_lay 44 = .ok (.aload_n 0, 1) := by decide +kernel
theorem dX11_lay_45 : decode cX11_lay 45 = .ok (.getfield 7, 3) := by decide +kernel
theorem dX11_lay_48 : decode cX11_lay 48 = .ok (.iconst 0, 1) := by decide +kernel
theorem dX11_lay_49 : decode cX11_lay 49 = .ok (.dup2, 1) := by decide +kernel
theorem dX11_lay_50 : decode cX11_lay 50 = .ok (.iaload, 1) := by decide +kernel
theorem dX11_lay_51 : decode cX11_lay 51 = .ok (.iconst 1, 1) := by decide +kernel
theorem dX11_lay_52 : decode cX11_lay 52 = .ok (.iadd, 1) := by decide +kernel
theorem dX11_lay_53 : decode cX11_lay 53 = .ok (.iastore, 1) := by decide +kernel
theorem dX11_lay_54 : decode cX11_lay 54 = .ok (.aload_n 0, 1) := by decide +kernel
theorem dX11_lay_55 : decode cX11_lay 55 = .ok (.getfield 7, 3) := by decide +kernel
theorem dX11_lay_58 : decode cX11_lay 58 = .ok (.iconst 0, 1) := by decide +kernel
theorem dX11_lay_59 : decode cX11_lay 59 = .ok (.iaload, 1) := by decide +kernel
theorem dX11_lay_60 : decode cX11_lay 60 = .ok (.iconst 1, 1) := by decide +kernel
theorem dX11_lay_61 : decode cX11_lay 61 = .ok (.isub, 1) := by decide +kernel
theorem dX11_lay_62 : decode cX11_lay 62 = .ok (.ireturn, 1) := by decide +kernel
theorem gX11_lay_0 {d : Nat} {M : ev_Mem} {Q : Option Value → ev_Mem → Prop} {x1 x2 x3 : Int32} (h : (vp_in ((39 + (13 * (M.1 1 0))) + 0) 3315 ∧ (∀ M1 : ev_Mem, M1 = ev_wr M 1 ((39 + (13 * (M.1 1 0))) + 0).toNatClampNeg x1 → (vp_in ((39 + (13 * (M.1 1 0))) + 1) 3315 ∧ (∀ M2 : ev_Mem, M2 = ev_wr M1 1 ((39 + (13 * (M.1 1 0))) + 1).toNatClampNeg x2 → (vp_in ((39 + (13 * (M.1 1 0))) + 2) 3315 ∧ (∀ M3 : ev_Mem, M3 = ev_wr M2 1 ((39 + (13 * (M.1 1 0))) + 2).toNatClampNeg x3 → (∀ M4 : ev_Mem, M4 = ev_wr M3 1 0 ((M3.1 1 0) + 1) → (Q (some (.int ((M4.1 1 0) - 1))) M4))))))))) : Ev LM d mX11_lay 0 [some (.ref 0), some (.int x1), some (.int x2), some (.int x3), none] [] M Q := by
  refine ev_bipush (v := 39) dX11_lay_0 (by decide) ?_
  refine ev_bipush (v := 13) dX11_lay_2 (by decide) ?_
  refine ev_aload_n dX11_lay_4 rfl ?_
  refine ev_getA dX11_lay_5 fl_WithoutEModel_7 lm_0 rfl ?_
  refine ev_iconst (v := 0) dX11_lay_8 (by decide) ?_
  refine ev_iaN (j := 0) dX11_lay_9 lm_1 (by decide) (by decide) ?_
  refine ev_imul dX11_lay_10 ?_
  refine ev_iadd dX11_lay_11 ?_
  refine ev_istore (ls2 := [some (.ref 0), some (.int x1), some (.int x2), some (.int x3), some (.int (39 + (13 * (M.1 1 0))))]) dX11_lay_12 (Nat.le_of_ble_eq_true rfl) rfl ?_
  refine ev_aload_n dX11_lay_14 rfl ?_
  refine ev_getA dX11_lay_15 fl_WithoutEModel_7 lm_0 rfl ?_
  refine ev_iload dX11_lay_18 rfl ?_
  refine ev_iconst (v := 0) dX11_lay_20 (by decide) ?_
  refine ev_iadd dX11_lay_21 ?_
  refine ev_iload_n dX11_lay_22 rfl ?_
  obtain ⟨c, h⟩ := h
  refine ev_iast dX11_lay_23 lm_1 c ?_
  generalize eM1 : ev_wr M 1 ((39 + (13 * (M.1 1 0))) + 0).toNatClampNeg x1 = M1
  replace h := h M1 eM1.symm
  refine ev_aload_n dX11_lay_24 rfl ?_
  refine ev_getA dX11_lay_25 fl_WithoutEModel_7 lm_0 rfl ?_
  refine ev_iload dX11_lay_28 rfl ?_
  refine ev_iconst (v := 1) dX11_lay_30 (by decide) ?_
  refine ev_iadd dX11_lay_31 ?_
  refine ev_iload_n dX11_lay_32 rfl ?_
  obtain ⟨c, h⟩ := h
  refine ev_iast dX11_lay_33 lm_1 c ?_
  generalize eM2 : ev_wr M1 1 ((39 + (13 * (M.1 1 0))) + 1).toNatClampNeg x2 = M2
  replace h := h M2 eM2.symm
  refine ev_aload_n dX11_lay_34 rfl ?_
  refine ev_getA dX11_lay_35 fl_WithoutEModel_7 lm_0 rfl ?_
  refine ev_iload dX11_lay_38 rfl ?_
  refine ev_iconst (v := 2) dX11_lay_40 (by decide) ?_
  refine ev_iadd dX11_lay_41 ?_
  refine ev_iload_n dX11_lay_42 rfl ?_
  obtain ⟨c, h⟩ := h
  refine ev_iast dX11_lay_43 lm_1 c ?_
  generalize eM3 : ev_wr M2 1 ((39 + (13 * (M.1 1 0))) + 2).toNatClampNeg x3 = M3
  replace h := h M3 eM3.symm
  refine ev_aload_n dX11_lay_44 rfl ?_
  refine ev_getA dX11_lay_45 fl_WithoutEModel_7 lm_0 rfl ?_
  refine ev_iconst (v := 0) dX11_lay_48 (by decide) ?_
  refine ev_dup2 dX11_lay_49 rfl rfl ?_
  refine ev_iaN (j := 0) dX11_lay_50 lm_1 (by decide) (by decide) ?_
  refine ev_iconst (v := 1) dX11_lay_51 (by decide) ?_
  refine ev_iadd dX11_lay_52 ?_
  refine ev_isN (j := 0) dX11_lay_53 lm_1 (by decide) (by decide) ?_
  generalize eM4 : ev_wr M3 1 0 ((M3.1 1 0) + 1) = M4
  replace h := h M4 eM4.symm
  refine ev_aload_n dX11_lay_54 rfl ?_
  refine ev_getA dX11_lay_55 fl_WithoutEModel_7 lm_0 rfl ?_
  refine ev_iconst (v := 0) dX11_lay_58 (by decide) ?_
  refine ev_iaN (j := 0) dX11_lay_59 lm_1 (by decide) (by decide) ?_
  refine ev_iconst (v := 1) dX11_lay_60 (by decide) ?_
  refine ev_isub dX11_lay_61 ?_
  exact ev_iret dX11_lay_62 rfl h
theorem dX11_word_0 : decode cX11_word 0 = .ok (.iload_n 1, 1) := by decide +kernel
theorem dX11_word_1 : decode cX11_word 1 = .ok (.iload_n 2, 1) := by decide +kernel
theorem dX11_word_2 : decode cX11_word 2 = .ok (.iload_n 3, 1) := by decide +kernel
theorem dX11_word_3 : decode cX11_word 3 = .ok (.invokestatic 325, 3) := by decide +kernel
theorem dX11_word_6 : decode cX11_word 6 = .ok (.ifCond .eq 10, 3) := by decide +kernel
theorem dX11_word_9 : decode cX11_word 9 = .ok (.aload_n 0, 1) := by decide +kernel
theorem dX11_word_10 : decode cX11_word 10 = .ok (.invokevirtual 328, 3) := by decide +kernel
theorem dX11_word_13 : decode cX11_word 13 = .ok (.ifCond .ne 9, 3) := by decide +kernel
theorem dX11_word_16 : decode cX11_word 16 = .ok (.aload_n 0, 1) := by decide +kernel
theorem dX11_word_17 : decode cX11_word 17 = .ok (.iconst 0, 1) := by decide +kernel
theorem dX11_word_18 : decode cX11_word 18 = .ok (.invokevirtual 331, 3) := by decide +kernel
theorem dX11_word_21 : decode cX11_word 21 = .ok (.ireturn, 1) := by decide +kernel
theorem dX11_word_22 : decode cX11_word 22 = .ok (.aload_n 0, 1) := by decide +kernel
theorem dX11_word_23 : decode cX11_word 23 = .ok (.getfield 7, 3) := by decide +kernel
theorem dX11_word_26 : decode cX11_word 26 = .ok (.iconst 0, 1) := by decide +kernel
theorem dX11_word_27 : decode cX11_word 27 = .ok (.iaload, 1) := by decide +kernel
theorem dX11_word_28 : decode cX11_word 28 = .ok (.bipush 24, 2) := by decide +kernel
theorem dX11_word_30 : decode cX11_word 30 = .ok (.if_icmp .ne 9, 3) := by decide +kernel
theorem dX11_word_33 : decode cX11_word 33 = .ok (.aload_n 0, 1) := by decide +kernel
theorem dX11_word_34 : decode cX11_word 34 = .ok (.iconst 1, 1) := by decide +kernel
theorem dX11_word_35 : decode cX11_word 35 = .ok (.invokevirtual 331, 3) := by decide +kernel
theorem dX11_word_38 : decode cX11_word 38 = .ok (.ireturn, 1) := by decide +kernel
theorem dX11_word_39 : decode cX11_word 39 = .ok (.bipush 39, 2) := by decide +kernel
theorem dX11_word_41 : decode cX11_word 41 = .ok (.bipush 13, 2) := by decide +kernel
theorem dX11_word_43 : decode cX11_word 43 = .ok (.aload_n 0, 1) := by decide +kernel
theorem dX11_word_44 : decode cX11_word 44 = .ok (.getfield 7, 3) := by decide +kernel
theorem dX11_word_47 : decode cX11_word 47 = .ok (.iconst 0, 1) := by decide +kernel
theorem dX11_word_48 : decode cX11_word 48 = .ok (.iaload, 1) := by decide +kernel
theorem dX11_word_49 : decode cX11_word 49 = .ok (.imul, 1) := by decide +kernel
theorem dX11_word_50 : decode cX11_word 50 = .ok (.iadd, 1) := by decide +kernel
theorem dX11_word_51 : decode cX11_word 51 = .ok (.istore 4, 2) := by decide +kernel
theorem dX11_word_53 : decode cX11_word 53 = .ok (.aload_n 0, 1) := by decide +kernel
theorem dX11_word_54 : decode cX11_word 54 = .ok (.getfield 7, 3) := by decide +kernel
theorem dX11_word_57 : decode cX11_word 57 = .ok (.iload 4, 2) := by decide +kernel
theorem dX11_word_59 : decode cX11_word 59 = .ok (.iconst 3, 1) := by decide +kernel
theorem dX11_word_60 : decode cX11_word 60 = .ok (.iadd, 1) := by decide +kernel
theorem dX11_word_61 : decode cX11_word 61 = .ok (.aload_n 0, 1) := by decide +kernel
theorem dX11_word_62 : decode cX11_word 62 = .ok (.getfield 103, 3) := by decide +kernel
theorem dX11_word_65 : decode cX11_word 65 = .ok (.iastore, 1) := by decide +kernel
theorem dX11_word_66 : decode cX11_word 66 = .ok (.iconst 0, 1) := by decide +kernel
theorem dX11_word_67 : decode cX11_word 67 = .ok (.istore 5, 2) := by decide +kernel
theorem dX11_word_69 : decode cX11_word 69 = .ok (.iload 5, 2) := by decide +kernel
theorem dX11_word_71 : decode cX11_word 71 = .ok (.aload_n 0, 1) := by decide +kernel
theorem dX11_word_72 : decode cX11_word 72 = .ok (.getfield 103, 3) := by decide +kernel
theorem dX11_word_75 : decode cX11_word 75 = .ok (.if_icmp .ge 30, 3) := by decide +kernel
theorem dX11_word_78 : decode cX11_word 78 = .ok (.aload_n 0, 1) := by decide +kernel
theorem dX11_word_79 : decode cX11_word 79 = .ok (.getfield 7, 3) := by decide +kernel
theorem dX11_word_82 : decode cX11_word 82 = .ok (.iload 4, 2) := by decide +kernel
theorem dX11_word_84 : decode cX11_word 84 = .ok (.iconst 4, 1) := by decide +kernel
theorem dX11_word_85 : decode cX11_word 85 = .ok (.iadd, 1) := by decide +kernel
theorem dX11_word_86 : decode cX11_word 86 = .ok (.iload 5, 2) := by decide +kernel
theorem dX11_word_88 : decode cX11_word 88 = .ok (.iadd, 1) := by decide +kernel
theorem dX11_word_89 : decode cX11_word 89 = .ok (.aload_n 0, 1) := by decide +kernel
theorem dX11_word_90 : decode cX11_word 90 = .ok (.iload 5, 2) := by decide +kernel
theorem dX11_word_92 : decode cX11_word 92 = .ok (.invokevirtual 113, 3) := by decide +kernel
theorem dX11_word_95 : decode cX11_word 95 = .ok (.bipush 97, 2) := by decide +kernel
theorem dX11_word_97 : decode cX11_word 97 = .ok (.isub, 1) := by decide +kernel
theorem dX11_word_98 : decode cX11_word 98 = .ok (.iastore, 1) := by decide +kernel
theorem dX11_word_99 : decode cX11_word 99 = .ok (.iinc 5 1, 3) := by decide +kernel
theorem dX11_word_102 : decode cX11_word 102 = .ok (.goto (-33), 3) := by decide +kernel
theorem dX11_word_105 : decode cX11_word 105 = .ok (.aload_n 0, 1) := by decide +kernel
theorem dX11_word_106 : decode cX11_word 106 = .ok (.iconst 0, 1) := by decide +kernel
theorem dX11_word_107 : decode cX11_word 107 = .ok (.putfield 103, 3) := by decide +kernel
theorem dX11_word_110 : decode cX11_word 110 = .ok (.aload_n 0, 1) := by decide +kernel
theorem dX11_word_111 : decode cX11_word 111 = .ok (.iload_n 1, 1) := by decide +kernel
theorem dX11_word_112 : decode cX11_word 112 = .ok (.iload_n 2, 1) := by decide +kernel
theorem dX11_word_113 : decode cX11_word 113 = .ok (.iload_n 3, 1) := by decide +kernel
theorem dX11_word_114 : decode cX11_word 114 = .ok (.invokevirtual 334, 3) := by decide +kernel
theorem dX11_word_117 : decode cX11_word 117 = .ok (.ireturn, 1) := by decide +kernel
theorem gX11_word_0 {d : Nat} {M : ev_Mem} {Q : Option Value → ev_Mem → Prop} {x1 x2 x3 : Int32} (h : (∃ Q2 : Option Value → ev_Mem → Prop, Cl LM d mX11_isWordTold [.int x1, .int x2, .int x3] M Q2 ∧ ∀ (zr : Option Value) (zM : ev_Mem), Q2 zr zM → Ev LM (d + 1) mX11_word 6 [some (.ref 0), some (.int x1), some (.int x2), some (.int x3), none, none] (zr.toList ++ []) zM Q)) : Ev LM (d + 1) mX11_word 0 [some (.ref 0), some (.int x1), some (.int x2), some (.int x3), none, none] [] M Q := by
  refine ev_iload_n dX11_word_0 rfl ?_
  refine ev_iload_n dX11_word_1 rfl ?_
  refine ev_iload_n dX11_word_2 rfl ?_
  obtain ⟨Q2, hc, h⟩ := h
  refine ev_callS [.int x1, .int x2, .int x3] dX11_word_3 ml_WithoutEModel_325 rfl (Nat.le_of_ble_eq_true rfl) hc (fun zr zM q => ?_)
  exact h zr zM q
theorem gX11_word_6 {d : Nat} {M : ev_Mem} {Q : Option Value → ev_Mem → Prop} {x1 x2 x3 s0 : Int32} (h : (((s0 = 0) → ((vp_in (0 : Int32) 3) ∧ (∀ M1 : ev_Mem, M1 = rfs M 3 (0 : Int32).toNatClampNeg → (Q (some (.int (-1))) M1)))) ∧ ((¬ s0 = 0) → (∃ Q2 : Option Value → ev_Mem → Prop, Cl LM d mX11_isSpelled [.ref 0] M Q2 ∧ ∀ (zr : Option Value) (zM : ev_Mem), Q2 zr zM → Ev LM (d + 1) mX11_word 13 [some (.ref 0), some (.int x1), some (.int x2), some (.int x3), none, none] (zr.toList ++ []) zM Q)))) : Ev LM (d + 1) mX11_word 6 [some (.ref 0), some (.int x1), some (.int x2), some (.int x3), none, none] [(.int s0)] M Q := by
  refine ev_if_eq (tgt := 16) dX11_word_6 (by decide) (fun c => ?_) (fun c => ?_)
  · replace h := h.1 c
    refine ev_aload_n dX11_word_16 rfl ?_
    refine ev_iconst (v := 0) dX11_word_17 (by decide) ?_
    obtain ⟨p1, h⟩ := h
    refine ev_callV [.int 0] dX11_word_18 ml_WithoutEModel_331 lm_0 rfl rfl (Nat.le_of_ble_eq_true rfl) (qX11_refused p1) ?_
    rintro zr zM ⟨q1, q2⟩
    rw [q1, q2]
    generalize eM1 : rfs M 3 (0 : Int32).toNatClampNeg = M1
    replace h := h M1 eM1.symm
    show Ev LM (d + 1) mX11_word 21 [some (.ref 0), some (.int x1), some (.int x2), some (.int x3), none, none] [(.int (-1))] M1 Q
    exact ev_iret dX11_word_21 rfl h
  · replace h := h.2 c
    refine ev_aload_n dX11_word_9 rfl ?_
    obtain ⟨Q2, hc, h⟩ := h
    refine ev_callV [] dX11_word_10 ml_WithoutEModel_328 lm_0 rfl rfl (Nat.le_of_ble_eq_true rfl) hc (fun zr zM q => ?_)
    exact h zr zM q
theorem gX11_word_13 {d : Nat} {M : ev_Mem} {Q : Option Value → ev_Mem → Prop} {x1 x2 x3 s0 : Int32} (h : (((¬ s0 = 0) → (((¬ (M.1 1 0) = 24) → (vp_in ((39 + (13 * (M.1 1 0))) + 3) 3315 ∧ (∀ M1 : ev_Mem, M1 = ev_wr M 1 ((39 + (13 * (M.1 1 0))) + 3).toNatClampNeg (M.1 0 5) → (Ev LM (d + 1) mX11_word 69 [some (.ref 0), some (.int x1), some (.int x2), some (.int x3), some (.int (39 + (13 * (M.1 1 0)))), some (.int 0)] [] M1 Q)))) ∧ (((M.1 1 0) = 24) → ((vp_in (1 : Int32) 3) ∧ (∀ M2 : ev_Mem, M2 = rfs M 3 (1 : Int32).toNatClampNeg → (Q (some (.int (-1))) M2)))))) ∧ ((s0 = 0) → ((vp_in (0 : Int32) 3) ∧ (∀ M3 : ev_Mem, M3 = rfs M 3 (0 : Int32).toNatClampNeg → (Q (some (.int (-1))) M3)))))) : Ev LM (d + 1) mX11_word 13 [some (.ref 0), some (.int x1), some (.int x2), some (.int x3), none, none] [(.int s0)] M Q := by
  refine ev_if_ne (tgt := 22) dX11_word_13 (by decide) (fun c => ?_) (fun c => ?_)
  · replace h := h.1 c
    refine ev_aload_n dX11_word_22 rfl ?_
    refine ev_getA dX11_word_23 fl_WithoutEModel_7 lm_0 rfl ?_
    refine ev_iconst (v := 0) dX11_word_26 (by decide) ?_
    refine ev_iaN (j := 0) dX11_word_27 lm_1 (by decide) (by decide) ?_
    refine ev_bipush (v := 24) dX11_word_28 (by decide) ?_
    refine ev_icmp_ne (tgt := 39) dX11_word_30 (by decide) (fun c => ?_) (fun c => ?_)
    · replace h := h.1 c
      refine ev_bipush (v := 39) dX11_word_39 (by decide) ?_
      refine ev_bipush (v := 13) dX11_word_41 (by decide) ?_
      refine ev_aload_n dX11_word_43 rfl ?_
      refine ev_getA dX11_word_44 fl_WithoutEModel_7 lm_0 rfl ?_
      refine ev_iconst (v := 0) dX11_word_47 (by decide) ?_
      refine ev_iaN (j := 0) dX11_word_48 lm_1 (by decide) (by decide) ?_
      refine ev_imul dX11_word_49 ?_
      refine ev_iadd dX11_word_50 ?_
      refine ev_istore (ls2 := [some (.ref 0), some (.int x1), some (.int x2), some (.int x3), some (.int (39 + (13 * (M.1 1 0)))), none]) dX11_word_51 (Nat.le_of_ble_eq_true rfl) rfl ?_
      refine ev_aload_n dX11_word_53 rfl ?_
      refine ev_getA dX11_word_54 fl_WithoutEModel_7 lm_0 rfl ?_
      refine ev_iload dX11_word_57 rfl ?_
      refine ev_iconst (v := 3) dX11_word_59 (by decide) ?_
      refine ev_iadd dX11_word_60 ?_
      refine ev_aload_n dX11_word_61 rfl ?_
      refine ev_getI dX11_word_62 fl_WithoutEModel_103 lm_0 rfl ?_
      obtain ⟨c, h⟩ := h
      refine ev_iast dX11_word_65 lm_1 c ?_
      generalize eM1 : ev_wr M 1 ((39 + (13 * (M.1 1 0))) + 3).toNatClampNeg (M.1 0 5) = M1
      replace h := h M1 eM1.symm
      refine ev_iconst (v := 0) dX11_word_66 (by decide) ?_
      refine ev_istore (ls2 := [some (.ref 0), some (.int x1), some (.int x2), some (.int x3), some (.int (39 + (13 * (M.1 1 0)))), some (.int 0)]) dX11_word_67 (Nat.le_of_ble_eq_true rfl) rfl ?_
      exact h
    · replace h := h.2 c
      refine ev_aload_n dX11_word_33 rfl ?_
      refine ev_iconst (v := 1) dX11_word_34 (by decide) ?_
      obtain ⟨p1, h⟩ := h
      refine ev_callV [.int 1] dX11_word_35 ml_WithoutEModel_331 lm_0 rfl rfl (Nat.le_of_ble_eq_true rfl) (qX11_refused p1) ?_
      rintro zr zM ⟨q1, q2⟩
      rw [q1, q2]
      generalize eM2 : rfs M 3 (1 : Int32).toNatClampNeg = M2
      replace h := h M2 eM2.symm
      show Ev LM (d + 1) mX11_word 38 [some (.ref 0), some (.int x1), some (.int x2), some (.int x3), none, none] [(.int (-1))] M2 Q
      exact ev_iret dX11_word_38 rfl h
  · replace h := h.2 c
    refine ev_aload_n dX11_word_16 rfl ?_
    refine ev_iconst (v := 0) dX11_word_17 (by decide) ?_
    obtain ⟨p1, h⟩ := h
    refine ev_callV [.int 0] dX11_word_18 ml_WithoutEModel_331 lm_0 rfl rfl (Nat.le_of_ble_eq_true rfl) (qX11_refused p1) ?_
    rintro zr zM ⟨q1, q2⟩
    rw [q1, q2]
    generalize eM3 : rfs M 3 (0 : Int32).toNatClampNeg = M3
    replace h := h M3 eM3.symm
    show Ev LM (d + 1) mX11_word 21 [some (.ref 0), some (.int x1), some (.int x2), some (.int x3), none, none] [(.int (-1))] M3 Q
    exact ev_iret dX11_word_21 rfl h
theorem gX11_word_69 {d : Nat} {M : ev_Mem} {Q : Option Value → ev_Mem → Prop} {x1 x2 x3 x4 x5 : Int32} (h : ((((M.1 0 5) ≤ x5) → (∀ M1 : ev_Mem, M1 = ev_wr M 0 5 0 → (∃ Q2 : Option Value → ev_Mem → Prop, Cl LM d mX11_lay [.ref 0, .int x1, .int x2, .int x3] M1 Q2 ∧ ∀ (zr : Option Value) (zM : ev_Mem), Q2 zr zM → Ev LM (d + 1) mX11_word 117 [none, none, none, none, none, none] (zr.toList ++ []) zM Q))) ∧ ((¬ (M.1 0 5) ≤ x5) → ((baOK M x5) ∧ (vp_in ((x4 + 4) + x5) 3315 ∧ (∀ M2 : ev_Mem, M2 = ev_wr M 1 ((x4 + 4) + x5).toNatClampNeg ((btA M x5) - 97) → (Ev LM (d + 1) mX11_word 69 [some (.ref 0), some (.int x1), some (.int x2), some (.int x3), some (.int x4), some (.int (x5 + 1))] [] M2 Q))))))) : Ev LM (d + 1) mX11_word 69 [some (.ref 0), some (.int x1), some (.int x2), some (.int x3), some (.int x4), some (.int x5)] [] M Q := by
  refine ev_iload dX11_word_69 rfl ?_
  refine ev_aload_n dX11_word_71 rfl ?_
  refine ev_getI dX11_word_72 fl_WithoutEModel_103 lm_0 rfl ?_
  refine ev_icmp_ge (tgt := 105) dX11_word_75 (by decide) (fun c => ?_) (fun c => ?_)
  · replace h := h.1 c
    refine ev_aload_n dX11_word_105 rfl ?_
    refine ev_iconst (v := 0) dX11_word_106 (by decide) ?_
    refine ev_putI dX11_word_107 fp_WithoutEModel_103 lm_0 rfl rfl rfl ?_
    generalize eM1 : ev_wr M 0 5 0 = M1
    replace h := h M1 eM1.symm
    refine ev_aload_n dX11_word_110 rfl ?_
    refine ev_iload_n dX11_word_111 rfl ?_
    refine ev_iload_n dX11_word_112 rfl ?_
    refine ev_iload_n dX11_word_113 rfl ?_
    obtain ⟨Q2, hc, h⟩ := h
    refine ev_callV [.int x1, .int x2, .int x3] dX11_word_114 ml_WithoutEModel_334 lm_0 rfl rfl (Nat.le_of_ble_eq_true rfl) hc (fun zr zM q => ?_)
    refine Ev.weak (ls := [none, none, none, none, none, none]) trivial ?_
    exact h zr zM q
  · replace h := h.2 c
    refine ev_aload_n dX11_word_78 rfl ?_
    refine ev_getA dX11_word_79 fl_WithoutEModel_7 lm_0 rfl ?_
    refine ev_iload dX11_word_82 rfl ?_
    refine ev_iconst (v := 4) dX11_word_84 (by decide) ?_
    refine ev_iadd dX11_word_85 ?_
    refine ev_iload dX11_word_86 rfl ?_
    refine ev_iadd dX11_word_88 ?_
    refine ev_aload_n dX11_word_89 rfl ?_
    refine ev_iload dX11_word_90 rfl ?_
    obtain ⟨p1, h⟩ := h
    refine ev_callV [.int x5] dX11_word_92 ml_WithoutEModel_113 lm_0 rfl rfl (Nat.le_of_ble_eq_true rfl) (qX11_byteAt p1) ?_
    rintro zr zM ⟨q1, q2⟩
    rw [q1, q2]
    show Ev LM (d + 1) mX11_word 95 [some (.ref 0), some (.int x1), some (.int x2), some (.int x3), some (.int x4), some (.int x5)] [(.int (btA M x5)), (.int ((x4 + 4) + x5)), (.ref 1)] M Q
    refine ev_bipush (v := 97) dX11_word_95 (by decide) ?_
    refine ev_isub dX11_word_97 ?_
    obtain ⟨c, h⟩ := h
    refine ev_iast dX11_word_98 lm_1 c ?_
    generalize eM2 : ev_wr M 1 ((x4 + 4) + x5).toNatClampNeg ((btA M x5) - 97) = M2
    replace h := h M2 eM2.symm
    refine ev_iinc (v := x5 + 1) (ls2 := [some (.ref 0), some (.int x1), some (.int x2), some (.int x3), some (.int x4), some (.int (x5 + 1))]) dX11_word_99 rfl rfl rfl ?_
    refine ev_goto (tgt := 69) dX11_word_102 (by decide) ?_
    exact h
theorem gX11_word_117 {d : Nat} {M : ev_Mem} {Q : Option Value → ev_Mem → Prop} {s0 : Int32} (h : (Q (some (.int s0)) M)) : Ev LM d mX11_word 117 [none, none, none, none, none, none] [(.int s0)] M Q := by
  exact ev_iret dX11_word_117 rfl h
theorem dX11_wordOf_0 : decode cX11_wordOf 0 = .ok (.aload_n 0, 1) := by decide +kernel
theorem dX11_wordOf_1 : decode cX11_wordOf 1 = .ok (.getfield 7, 3) := by decide +kernel
theorem dX11_wordOf_4 : decode cX11_wordOf 4 = .ok (.iconst 0, 1) := by decide +kernel
theorem dX11_wordOf_5 : decode cX11_wordOf 5 = .ok (.iaload, 1) := by decide +kernel
theorem dX11_wordOf_6 : decode cX11_wordOf 6 = .ok (.bipush 24, 2) := by decide +kernel
theorem dX11_wordOf_8 : decode cX11_wordOf 8 = .ok (.if_icmp .ne 9, 3) := by decide +kernel
theorem dX11_wordOf_11 : decode cX11_wordOf 11 = .ok (.aload_n 0, 1) := by decide +kernel
theorem dX11_wordOf_12 : decode cX11_wordOf 12 = .ok (.iconst 1, 1) := by decide +kernel
theorem dX11_wordOf_13 : decode cX11_wordOf 13 = .ok (.invokevirtual 331, 3) := by decide +kernel
theorem dX11_wordOf_16 : decode cX11_wordOf 16 = .ok (.ireturn, 1) := by decide +kernel
theorem dX11_wordOf_17 : decode cX11_wordOf 17 = .ok (.bipush 39, 2) := by decide +kernel
theorem dX11_wordOf_19 : decode cX11_wordOf 19 = .ok (.bipush 13, 2) := by decide +kernel
theorem dX11_wordOf_21 : decode cX11_wordOf 21 = .ok (.aload_n 0, 1) := by decide +kernel
theorem dX11_wordOf_22 : decode cX11_wordOf 22 = .ok (.getfield 7, 3) := by decide +kernel
theorem dX11_wordOf_25 : decode cX11_wordOf 25 = .ok (.iconst 0, 1) := by decide +kernel
theorem dX11_wordOf_26 : decode cX11_wordOf 26 = .ok (.iaload, 1) := by decide +kernel
theorem dX11_wordOf_27 : decode cX11_wordOf 27 = .ok (.imul, 1) := by decide +kernel
theorem dX11_wordOf_28 : decode cX11_wordOf 28 = .ok (.iadd, 1) := by decide +kernel
theorem dX11_wordOf_29 : decode cX11_wordOf 29 = .ok (.istore_n 2, 1) := by decide +kernel
theorem dX11_wordOf_30 : decode cX11_wordOf 30 = .ok (.aload_n 0, 1) := by decide +kernel
theorem dX11_wordOf_31 : decode cX11_wordOf 31 = .ok (.getfield 7, 3) := by decide +kernel
theorem dX11_wordOf_34 : decode cX11_wordOf 34 = .ok (.iload_n 2, 1) := by decide +kernel
theorem dX11_wordOf_35 : decode cX11_wordOf 35 = .ok (.iconst 3, 1) := by decide +kernel
theorem dX11_wordOf_36 : decode cX11_wordOf 36 = .ok (.iadd, 1) := by decide +kernel
theorem dX11_wordOf_37 : decode cX11_wordOf 37 = .ok (.aload_n 0, 1) := by decide +kernel
theorem dX11_wordOf_38 : decode cX11_wordOf 38 = .ok (.getfield 19, 3) := by decide +kernel
theorem dX11_wordOf_41 : decode cX11_wordOf 41 = .ok (.iload_n 1, 1) := by decide +kernel
theorem dX11_wordOf_42 : decode cX11_wordOf 42 = .ok (.iconst 4, 1) := by decide +kernel
theorem dX11_wordOf_43 : decode cX11_wordOf 43 = .ok (.iadd, 1) := by decide +kernel
theorem dX11_wordOf_44 : decode cX11_wordOf 44 = .ok (.iaload, 1) := by decide +kernel
theorem dX11_wordOf_45 : decode cX11_wordOf 45 = .ok (.iastore, 1) := by decide +kernel
theorem dX11_wordOf_46 : decode cX11_wordOf 46 = .ok (.iconst 0, 1) := by decide +kernel
theorem dX11_wordOf_47 : decode cX11_wordOf 47 = .ok (.istore_n 3, 1) := by decide +kernel
theorem dX11_wordOf_48 : decode cX11_wordOf 48 = .ok (.iload_n 3, 1) := by decide +kernel
theorem dX11_wordOf_49 : decode cX11_wordOf 49 = .ok (.aload_n 0, 1) := by decide +kernel
theorem dX11_wordOf_50 : decode cX11_wordOf 50 = .ok (.getfield 19, 3) := by decide +kernel
theorem dX11_wordOf_53 : decode cX11_wordOf 53 = .ok (.iload_n 1, 1) := by decide +kernel
theorem dX11_wordOf_54 : decode cX11_wordOf 54 = .ok (.iconst 4, 1) := by decide +kernel
theorem dX11_wordOf_55 : decode cX11_wordOf 55 = .ok (.iadd, 1) := by decide +kernel
theorem dX11_wordOf_56 : decode cX11_wordOf 56 = .ok (.iaload, 1) := by decide +kernel
theorem dX11_wordOf_57 : decode cX11_wordOf 57 = .ok (.if_icmp .ge 29, 3) := by decide +kernel
theorem dX11_wordOf_60 : decode cX11_wordOf 60 = .ok (.aload_n 0, 1) := by decide +kernel
theorem dX11_wordOf_61 : decode cX11_wordOf 61 = .ok (.getfield 7, 3) := by decide +kernel
theorem dX11_wordOf_64 : decode cX11_wordOf 64 = .ok (.iload_n 2, 1) := by decide +kernel
theorem dX11_wordOf_65 : decode cX11_wordOf 65 = .ok (.iconst 4, 1) := by decide +kernel
theorem dX11_wordOf_66 : decode cX11_wordOf 66 = .ok (.iadd, 1) := by decide +kernel
theorem dX11_wordOf_67 : decode cX11_wordOf 67 = .ok (.iload_n 3, 1) := by decide +kernel
theorem dX11_wordOf_68 : decode cX11_wordOf 68 = .ok (.iadd, 1) := by decide +kernel
theorem dX11_wordOf_69 : decode cX11_wordOf 69 = .ok (.aload_n 0, 1) := by decide +kernel
theorem dX11_wordOf_70 : decode cX11_wordOf 70 = .ok (.getfield 19, 3) := by decide +kernel
theorem dX11_wordOf_73 : decode cX11_wordOf 73 = .ok (.iload_n 1, 1) := by decide +kernel
theorem dX11_wordOf_74 : decode cX11_wordOf 74 = .ok (.iconst 5, 1) := by decide +kernel
theorem dX11_wordOf_75 : decode cX11_wordOf 75 = .ok (.iadd, 1) := by decide +kernel
theorem dX11_wordOf_76 : decode cX11_wordOf 76 = .ok (.iload_n 3, 1) := by decide +kernel
theorem dX11_wordOf_77 : decode cX11_wordOf 77 = .ok (.iadd, 1) := by decide +kernel
theorem dX11_wordOf_78 : decode cX11_wordOf 78 = .ok (.iaload, 1) := by decide +kernel
theorem dX11_wordOf_79 : decode cX11_wordOf 79 = .ok (.iastore, 1) := by decide +kernel
theorem dX11_wordOf_80 : decode cX11_wordOf 80 = .ok (.iinc 3 1, 3) := by decide +kernel
theorem dX11_wordOf_83 : decode cX11_wordOf 83 = .ok (.goto (-35), 3) := by decide +kernel
theorem dX11_wordOf_86 : decode cX11_wordOf 86 = .ok (.aload_n 0, 1) := by decide +kernel
theorem dX11_wordOf_87 : decode cX11_wordOf 87 = .ok (.aload_n 0, 1) := by decide +kernel
theorem dX11_wordOf_88 : decode cX11_wordOf 88 = .ok (.getfield 19, 3) := by decide +kernel
theorem dX11_wordOf_91 : decode cX11_wordOf 91 = .ok (.iload_n 1, 1) := by decide +kernel
theorem dX11_wordOf_92 : decode cX11_wordOf 92 = .ok (.iconst 1, 1) := by decide +kernel
theorem dX11_wordOf_93 : decode cX11_wordOf 93 = .ok (.iadd, 1) := by decide +kernel
theorem dX11_wordOf_94 : decode cX11_wordOf 94 = .ok (.iaload, 1) := by decide +kernel
theorem dX11_wordOf_95 : decode cX11_wordOf 95 = .ok (.aload_n 0, 1) := by decide +kernel
theorem dX11_wordOf_96 : decode cX11_wordOf 96 = .ok (.getfield 19, 3) := by decide +kernel
theorem dX11_wordOf_99 : decode cX11_wordOf 99 = .ok (.iload_n 1, 1) := by decide +kernel
theorem dX11_wordOf_100 : decode cX11_wordOf 100 = .ok (.iconst 2, 1) := by decide +kernel
theorem dX11_wordOf_101 : decode cX11_wordOf 101 = .ok (.iadd, 1) := by decide +kernel
theorem dX11_wordOf_102 : decode cX11_wordOf 102 = .ok (.iaload, 1) := by decide +kernel
theorem dX11_wordOf_103 : decode cX11_wordOf 103 = .ok (.aload_n 0, 1) := by decide +kernel
theorem dX11_wordOf_104 : decode cX11_wordOf 104 = .ok (.getfield 19, 3) := by decide +kernel
theorem dX11_wordOf_107 : decode cX11_wordOf 107 = .ok (.iload_n 1, 1) := by decide +kernel
theorem dX11_wordOf_108 : decode cX11_wordOf 108 = .ok (.iconst 3, 1) := by decide +kernel
theorem dX11_wordOf_109 : decode cX11_wordOf 109 = .ok (.iadd, 1) := by decide +kernel
theorem dX11_wordOf_110 : decode cX11_wordOf 110 = .ok (.iaload, 1) := by decide +kernel
theorem dX11_wordOf_111 : decode cX11_wordOf 111 = .ok (.invokevirtual 334, 3) := by decide +kernel
theorem dX11_wordOf_114 : decode cX11_wordOf 114 = .ok (.ireturn, 1) := by decide +kernel
theorem gX11_wordOf_0 {d : Nat} {M : ev_Mem} {Q : Option Value → ev_Mem → Prop} {x1 : Int32} (h : (((¬ (M.1 1 0) = 24) → (vp_in (x1 + 4) 3780 ∧ (vp_in ((39 + (13 * (M.1 1 0))) + 3) 3315 ∧ (∀ M1 : ev_Mem, M1 = ev_wr M 1 ((39 + (13 * (M.1 1 0))) + 3).toNatClampNeg (M.1 4 (x1 + 4).toNatClampNeg) → (Ev LM (d + 1) mX11_wordOf 48 [some (.ref 0), some (.int x1), some (.int (39 + (13 * (M.1 1 0)))), some (.int 0)] [] M1 Q))))) ∧ (((M.1 1 0) = 24) → ((vp_in (1 : Int32) 3) ∧ (∀ M2 : ev_Mem, M2 = rfs M 3 (1 : Int32).toNatClampNeg → (Q (some (.int (-1))) M2)))))) : Ev LM (d + 1) mX11_wordOf 0 [some (.ref 0), some (.int x1), none, none] [] M Q := by
  refine ev_aload_n dX11_wordOf_0 rfl ?_
  refine ev_getA dX11_wordOf_1 fl_WithoutEModel_7 lm_0 rfl ?_
  refine ev_iconst (v := 0) dX11_wordOf_4 (by decide) ?_
  refine ev_iaN (j := 0) dX11_wordOf_5 lm_1 (by decide) (by decide) ?_
  refine ev_bipush (v := 24) dX11_wordOf_6 (by decide) ?_
  refine ev_icmp_ne (tgt := 17) dX11_wordOf_8 (by decide) (fun c => ?_) (fun c => ?_)
  · replace h := h.1 c
    refine ev_bipush (v := 39) dX11_wordOf_17 (by decide) ?_
    refine ev_bipush (v := 13) dX11_wordOf_19 (by decide) ?_
    refine ev_aload_n dX11_wordOf_21 rfl ?_
    refine ev_getA dX11_wordOf_22 fl_WithoutEModel_7 lm_0 rfl ?_
    refine ev_iconst (v := 0) dX11_wordOf_25 (by decide) ?_
    refine ev_iaN (j := 0) dX11_wordOf_26 lm_1 (by decide) (by decide) ?_
    refine ev_imul dX11_wordOf_27 ?_
    refine ev_iadd dX11_wordOf_28 ?_
    refine ev_istore_n (ls2 := [some (.ref 0), some (.int x1), some (.int (39 + (13 * (M.1 1 0)))), none]) dX11_wordOf_29 (Nat.le_of_ble_eq_true rfl) rfl ?_
    refine ev_aload_n dX11_wordOf_30 rfl ?_
    refine ev_getA dX11_wordOf_31 fl_WithoutEModel_7 lm_0 rfl ?_
    refine ev_iload_n dX11_wordOf_34 rfl ?_
    refine ev_iconst (v := 3) dX11_wordOf_35 (by decide) ?_
    refine ev_iadd dX11_wordOf_36 ?_
    refine ev_aload_n dX11_wordOf_37 rfl ?_
    refine ev_getA dX11_wordOf_38 fl_WithoutEModel_19 lm_0 rfl ?_
    refine ev_iload_n dX11_wordOf_41 rfl ?_
    refine ev_iconst (v := 4) dX11_wordOf_42 (by decide) ?_
    refine ev_iadd dX11_wordOf_43 ?_
    obtain ⟨c, h⟩ := h
    refine ev_iald dX11_wordOf_44 lm_4 c ?_
    obtain ⟨c, h⟩ := h
    refine ev_iast dX11_wordOf_45 lm_1 c ?_
    generalize eM1 : ev_wr M 1 ((39 + (13 * (M.1 1 0))) + 3).toNatClampNeg (M.1 4 (x1 + 4).toNatClampNeg) = M1
    replace h := h M1 eM1.symm
    refine ev_iconst (v := 0) dX11_wordOf_46 (by decide) ?_
    refine ev_istore_n (ls2 := [some (.ref 0), some (.int x1), some (.int (39 + (13 * (M.1 1 0)))), some (.int 0)]) dX11_wordOf_47 (Nat.le_of_ble_eq_true rfl) rfl ?_
    exact h
  · replace h := h.2 c
    refine ev_aload_n dX11_wordOf_11 rfl ?_
    refine ev_iconst (v := 1) dX11_wordOf_12 (by decide) ?_
    obtain ⟨p1, h⟩ := h
    refine ev_callV [.int 1] dX11_wordOf_13 ml_WithoutEModel_331 lm_0 rfl rfl (Nat.le_of_ble_eq_true rfl) (qX11_refused p1) ?_
    rintro zr zM ⟨q1, q2⟩
    rw [q1, q2]
    generalize eM2 : rfs M 3 (1 : Int32).toNatClampNeg = M2
    replace h := h M2 eM2.symm
    show Ev LM (d + 1) mX11_wordOf 16 [some (.ref 0), some (.int x1), none, none] [(.int (-1))] M2 Q
    exact ev_iret dX11_wordOf_16 rfl h
theorem gX11_wordOf_48 {d : Nat} {M : ev_Mem} {Q : Option Value → ev_Mem → Prop} {x1 x2 x3 : Int32} (h : (vp_in (x1 + 4) 3780 ∧ ((((M.1 4 (x1 + 4).toNatClampNeg) ≤ x3) → (vp_in (x1 + 1) 3780 ∧ (vp_in (x1 + 2) 3780 ∧ (vp_in (x1 + 3) 3780 ∧ (∃ Q2 : Option Value → ev_Mem → Prop, Cl LM d mX11_lay [.ref 0, .int (M.1 4 (x1 + 1).toNatClampNeg), .int (M.1 4 (x1 + 2).toNatClampNeg), .int (M.1 4 (x1 + 3).toNatClampNeg)] M Q2 ∧ ∀ (zr : Option Value) (zM : ev_Mem), Q2 zr zM → Ev LM (d + 1) mX11_wordOf 114 [none, none, none, none] (zr.toList ++ []) zM Q))))) ∧ ((¬ (M.1 4 (x1 + 4).toNatClampNeg) ≤ x3) → (vp_in ((x1 + 5) + x3) 3780 ∧ (vp_in ((x2 + 4) + x3) 3315 ∧ (∀ M1 : ev_Mem, M1 = ev_wr M 1 ((x2 + 4) + x3).toNatClampNeg (M.1 4 ((x1 + 5) + x3).toNatClampNeg) → (Ev LM (d + 1) mX11_wordOf 48 [some (.ref 0), some (.int x1), some (.int x2), some (.int (x3 + 1))] [] M1 Q)))))))) : Ev LM (d + 1) mX11_wordOf 48 [some (.ref 0), some (.int x1), some (.int x2), some (.int x3)] [] M Q := by
  refine ev_iload_n dX11_wordOf_48 rfl ?_
  refine ev_aload_n dX11_wordOf_49 rfl ?_
  refine ev_getA dX11_wordOf_50 fl_WithoutEModel_19 lm_0 rfl ?_
  refine ev_iload_n dX11_wordOf_53 rfl ?_
  refine ev_iconst (v := 4) dX11_wordOf_54 (by decide) ?_
  refine ev_iadd dX11_wordOf_55 ?_
  obtain ⟨c, h⟩ := h
  refine ev_iald dX11_wordOf_56 lm_4 c ?_
  refine ev_icmp_ge (tgt := 86) dX11_wordOf_57 (by decide) (fun c => ?_) (fun c => ?_)
  · replace h := h.1 c
    refine ev_aload_n dX11_wordOf_86 rfl ?_
    refine ev_aload_n dX11_wordOf_87 rfl ?_
    refine ev_getA dX11_wordOf_88 fl_WithoutEModel_19 lm_0 rfl ?_
    refine ev_iload_n dX11_wordOf_91 rfl ?_
    refine ev_iconst (v := 1) dX11_wordOf_92 (by decide) ?_
    refine ev_iadd dX11_wordOf_93 ?_
    obtain ⟨c, h⟩ := h
    refine ev_iald dX11_wordOf_94 lm_4 c ?_
    refine ev_aload_n dX11_wordOf_95 rfl ?_
    refine ev_getA dX11_wordOf_96 fl_WithoutEModel_19 lm_0 rfl ?_
    refine ev_iload_n dX11_wordOf_99 rfl ?_
    refine ev_iconst (v := 2) dX11_wordOf_100 (by decide) ?_
    refine ev_iadd dX11_wordOf_101 ?_
    obtain ⟨c, h⟩ := h
    refine ev_iald dX11_wordOf_102 lm_4 c ?_
    refine ev_aload_n dX11_wordOf_103 rfl ?_
    refine ev_getA dX11_wordOf_104 fl_WithoutEModel_19 lm_0 rfl ?_
    refine ev_iload_n dX11_wordOf_107 rfl ?_
    refine ev_iconst (v := 3) dX11_wordOf_108 (by decide) ?_
    refine ev_iadd dX11_wordOf_109 ?_
    obtain ⟨c, h⟩ := h
    refine ev_iald dX11_wordOf_110 lm_4 c ?_
    obtain ⟨Q2, hc, h⟩ := h
    refine ev_callV [.int (M.1 4 (x1 + 1).toNatClampNeg), .int (M.1 4 (x1 + 2).toNatClampNeg), .int (M.1 4 (x1 + 3).toNatClampNeg)] dX11_wordOf_111 ml_WithoutEModel_334 lm_0 rfl rfl (Nat.le_of_ble_eq_true rfl) hc (fun zr zM q => ?_)
    refine Ev.weak (ls := [none, none, none, none]) trivial ?_
    exact h zr zM q
  · replace h := h.2 c
    refine ev_aload_n dX11_wordOf_60 rfl ?_
    refine ev_getA dX11_wordOf_61 fl_WithoutEModel_7 lm_0 rfl ?_
    refine ev_iload_n dX11_wordOf_64 rfl ?_
    refine ev_iconst (v := 4) dX11_wordOf_65 (by decide) ?_
    refine ev_iadd dX11_wordOf_66 ?_
    refine ev_iload_n dX11_wordOf_67 rfl ?_
    refine ev_iadd dX11_wordOf_68 ?_
    refine ev_aload_n dX11_wordOf_69 rfl ?_
    refine ev_getA dX11_wordOf_70 fl_WithoutEModel_19 lm_0 rfl ?_
    refine ev_iload_n dX11_wordOf_73 rfl ?_
    refine ev_iconst (v := 5) dX11_wordOf_74 (by decide) ?_
    refine ev_iadd dX11_wordOf_75 ?_
    refine ev_iload_n dX11_wordOf_76 rfl ?_
    refine ev_iadd dX11_wordOf_77 ?_
    obtain ⟨c, h⟩ := h
    refine ev_iald dX11_wordOf_78 lm_4 c ?_
    obtain ⟨c, h⟩ := h
    refine ev_iast dX11_wordOf_79 lm_1 c ?_
    generalize eM1 : ev_wr M 1 ((x2 + 4) + x3).toNatClampNeg (M.1 4 ((x1 + 5) + x3).toNatClampNeg) = M1
    replace h := h M1 eM1.symm
    refine ev_iinc (v := x3 + 1) (ls2 := [some (.ref 0), some (.int x1), some (.int x2), some (.int (x3 + 1))]) dX11_wordOf_80 rfl rfl rfl ?_
    refine ev_goto (tgt := 48) dX11_wordOf_83 (by decide) ?_
    exact h
theorem gX11_wordOf_114 {d : Nat} {M : ev_Mem} {Q : Option Value → ev_Mem → Prop} {s0 : Int32} (h : (Q (some (.int s0)) M)) : Ev LM d mX11_wordOf 114 [none, none, none, none] [(.int s0)] M Q := by
  exact ev_iret dX11_wordOf_114 rfl h
theorem dX11_turn_0 : decode cX11_turn 0 = .ok (.aload_n 0, 1) := by decide +kernel
theorem dX11_turn_1 : decode cX11_turn 1 = .ok (.iload_n 1, 1) := by decide +kernel
theorem dX11_turn_2 : decode cX11_turn 2 = .ok (.invokevirtual 337, 3) := by decide +kernel
theorem dX11_turn_5 : decode cX11_turn 5 = .ok (.ifCond .ne 9, 3) := by decide +kernel
theorem dX11_turn_8 : decode cX11_turn 8 = .ok (.aload_n 0, 1) := by decide +kernel
theorem dX11_turn_9 : decode cX11_turn 9 = .ok (.iconst 0, 1) := by decide +kernel
theorem dX11_turn_10 : decode cX11_turn 10 = .ok (.invokevirtual 331, 3) := by decide +kernel
theorem dX11_turn_13 : decode cX11_turn 13 = .ok (.ireturn, 1) := by decide +kernel
theorem dX11_turn_14 : decode cX11_turn 14 = .ok (.aload_n 0, 1) := by decide +kernel
theorem dX11_turn_15 : decode cX11_turn 15 = .ok (.getfield 7, 3) := by decide +kernel
theorem dX11_turn_18 : decode cX11_turn 18 = .ok (.iconst 0, 1) := by decide +kernel
theorem dX11_turn_19 : decode cX11_turn 19 = .ok (.iaload, 1) := by decide +kernel
theorem dX11_turn_20 : decode cX11_turn 20 = .ok (.bipush 24, 2) := by decide +kernel
theorem dX11_turn_22 : decode cX11_turn 22 = .ok (.if_icmp .ne 9, 3) := by decide +kernel
theorem dX11_turn_25 : decode cX11_turn 25 = .ok (.aload_n 0, 1) := by decide +kernel
theorem dX11_turn_26 : decode cX11_turn 26 = .ok (.iconst 1, 1) := by decide +kernel
theorem dX11_turn_27 : decode cX11_turn 27 = .ok (.invokevirtual 331, 3) := by decide +kernel
theorem dX11_turn_30 : decode cX11_turn 30 = .ok (.ireturn, 1) := by decide +kernel
theorem dX11_turn_31 : decode cX11_turn 31 = .ok (.aload_n 0, 1) := by decide +kernel
theorem dX11_turn_32 : decode cX11_turn 32 = .ok (.iload_n 1, 1) := by decide +kernel
theorem dX11_turn_33 : decode cX11_turn 33 = .ok (.iconst 0, 1) := by decide +kernel
theorem dX11_turn_34 : decode cX11_turn 34 = .ok (.invokevirtual 92, 3) := by decide +kernel
theorem dX11_turn_37 : decode cX11_turn 37 = .ok (.ifCond .ne 14, 3) := by decide +kernel
theorem dX11_turn_40 : decode cX11_turn 40 = .ok (.aload_n 0, 1) := by decide +kernel
theorem dX11_turn_41 : decode cX11_turn 41 = .ok (.iload_n 1, 1) := by decide +kernel
theorem dX11_turn_42 : decode cX11_turn 42 = .ok (.iconst 3, 1) := by decide +kernel
theorem dX11_turn_43 : decode cX11_turn 43 = .ok (.invokevirtual 92, 3) := by decide +kernel
theorem dX11_turn_46 : decode cX11_turn 46 = .ok (.bipush 6, 2) := by decide +kernel
theorem dX11_turn_48 : decode cX11_turn 48 = .ok (.if_icmp .le 9, 3) := by decide +kernel
theorem dX11_turn_51 : decode cX11_turn 51 = .ok (.aload_n 0, 1) := by decide +kernel
theorem dX11_turn_52 : decode cX11_turn 52 = .ok (.iconst 2, 1) := by decide +kernel
theorem dX11_turn_53 : decode cX11_turn 53 = .ok (.invokevirtual 331, 3) := by decide +kernel
theorem dX11_turn_56 : decode cX11_turn 56 = .ok (.ireturn, 1) := by decide +kernel
theorem dX11_turn_57 : decode cX11_turn 57 = .ok (.bipush 39, 2) := by decide +kernel
theorem dX11_turn_59 : decode cX11_turn 59 = .ok (.bipush 13, 2) := by decide +kernel
theorem dX11_turn_61 : decode cX11_turn 61 = .ok (.aload_n 0, 1) := by decide +kernel
theorem dX11_turn_62 : decode cX11_turn 62 = .ok (.getfield 7, 3) := by decide +kernel
theorem dX11_turn_65 : decode cX11_turn 65 = .ok (.iconst 0, 1) := by decide +kernel
theorem dX11_turn_66 : decode cX11_turn 66 = .ok (.iaload, 1) := by decide +kernel
theorem dX11_turn_67 : decode cX11_turn 67 = .ok (.imul, 1) := by decide +kernel
theorem dX11_turn_68 : decode cX11_turn 68 = .ok (.iadd, 1) := by decide +kernel
theorem dX11_turn_69 : decode cX11_turn 69 = .ok (.istore_n 2, 1) := by decide +kernel
theorem dX11_turn_70 : decode cX11_turn 70 = .ok (.aload_n 0, 1) := by decide +kernel
theorem dX11_turn_71 : decode cX11_turn 71 = .ok (.getfield 7, 3) := by decide +kernel
theorem dX11_turn_74 : decode cX11_turn 74 = .ok (.iload_n 2, 1) := by decide +kernel
theorem dX11_turn_75 : decode cX11_turn 75 = .ok (.iconst 3, 1) := by decide +kernel
theorem dX11_turn_76 : decode cX11_turn 76 = .ok (.iadd, 1) := by decide +kernel
theorem dX11_turn_77 : decode cX11_turn 77 = .ok (.iconst 3, 1) := by decide +kernel
theorem dX11_turn_78 : decode cX11_turn 78 = .ok (.aload_n 0, 1) := by decide +kernel
theorem dX11_turn_79 : decode cX11_turn 79 = .ok (.iload_n 1, 1) := by decide +kernel
theorem dX11_turn_80 : decode cX11_turn 80 = .ok (.iconst 3, 1) := by decide +kernel
theorem dX11_turn_81 : decode cX11_turn 81 = .ok (.invokevirtual 92, 3) := by decide +kernel
theorem dX11_turn_84 : decode cX11_turn 84 = .ok (.iadd, 1) := by decide +kernel
theorem dX11_turn_85 : decode cX11_turn 85 = .ok (.iastore, 1) := by decide +kernel
theorem dX11_turn_86 : decode cX11_turn 86 = .ok (.aload_n 0, 1) := by decide +kernel
theorem dX11_turn_87 : decode cX11_turn 87 = .ok (.getfield 7, 3) := by decide +kernel
theorem dX11_turn_90 : decode cX11_turn 90 = .ok (.iload_n 2, 1) := by decide +kernel
theorem dX11_turn_91 : decode cX11_turn 91 = .ok (.iconst 4, 1) := by decide +kernel
theorem dX11_turn_92 : decode cX11_turn 92 = .ok (.iadd, 1) := by decide +kernel
theorem dX11_turn_93 : decode cX11_turn 93 = .ok (.iconst 3, 1) := by decide +kernel
theorem dX11_turn_94 : decode cX11_turn 94 = .ok (.iastore, 1) := by decide +kernel
theorem dX11_turn_95 : decode cX11_turn 95 = .ok (.aload_n 0, 1) := by decide +kernel
theorem dX11_turn_96 : decode cX11_turn 96 = .ok (.getfield 7, 3) := by decide +kernel
theorem dX11_turn_99 : decode cX11_turn 99 = .ok (.iload_n 2, 1) := by decide +kernel
theorem dX11_turn_100 : decode cX11_turn 100 = .ok (.iconst 4, 1) := by decide +kernel
theorem dX11_turn_101 : decode cX11_turn 101 = .ok (.iadd, 1) := by decide +kernel
theorem dX11_turn_102 : decode cX11_turn 102 = .ok (.iconst 1, 1) := by decide +kernel
theorem dX11_turn_103 : decode cX11_turn 103 = .ok (.iadd, 1) := by decide +kernel
theorem dX11_turn_104 : decode cX11_turn 104 = .ok (.bipush 8, 2) := by decide +kernel
theorem dX11_turn_106 : decode cX11_turn 106 = .ok (.iastore, 1) := by decide +kernel
theorem dX11_turn_107 : decode cX11_turn 107 = .ok (.aload_n 0, 1) := by decide +kernel
theorem dX11_turn_108 : decode cX11_turn 108 = .ok (.getfield 7, 3) := by decide +kernel
theorem dX11_turn_111 : decode cX11_turn 111 = .ok (.iload_n 2, 1) := by decide +kernel
theorem dX11_turn_112 : decode cX11_turn 112 = .ok (.iconst 4, 1) := by decide +kernel
theorem dX11_turn_113 : decode cX11_turn 113 = .ok (.iadd, 1) := by decide +kernel
theorem dX11_turn_114 : decode cX11_turn 114 = .ok (.iconst 2, 1) := by decide +kernel
theorem dX11_turn_115 : decode cX11_turn 115 = .ok (.iadd, 1) := by decide +kernel
theorem dX11_turn_116 : decode cX11_turn 116 = .ok (.iconst 3, 1) := by decide +kernel
theorem dX11_turn_117 : decode cX11_turn 117 = .ok (.iastore, 1) := by decide +kernel
theorem dX11_turn_118 : decode cX11_turn 118 = .ok (.iconst 0, 1) := by decide +kernel
theorem dX11_turn_119 : decode cX11_turn 119 = .ok (.istore_n 3, 1) := by decide +kernel
theorem dX11_turn_120 : decode cX11_turn 120 = .ok (.iload_n 3, 1) := by decide +kernel
theorem dX11_turn_121 : decode cX11_turn 121 = .ok (.aload_n 0, 1) := by decide +kernel
theorem dX11_turn_122 : decode cX11_turn 122 = .ok (.iload_n 1, 1) := by decide +kernel
theorem dX11_turn_123 : decode cX11_turn 123 = .ok (.iconst 3, 1) := by decide +kernel
theorem dX11_turn_124 : decode cX11_turn 124 = .ok (.invokevirtual 92, 3) := by decide +kernel
theorem dX11_turn_127 : decode cX11_turn 127 = .ok (.if_icmp .ge 29, 3) := by decide +kernel
theorem dX11_turn_130 : decode cX11_turn 130 = .ok (.aload_n 0, 1) := by decide +kernel
theorem dX11_turn_131 : decode cX11_turn 131 = .ok (.getfield 7, 3) := by decide +kernel
theorem dX11_turn_134 : decode cX11_turn 134 = .ok (.iload_n 2, 1) := by decide +kernel
theorem dX11_turn_135 : decode cX11_turn 135 = .ok (.iconst 4, 1) := by decide +kernel
theorem dX11_turn_136 : decode cX11_turn 136 = .ok (.iadd, 1) := by decide +kernel
theorem dX11_turn_137 : decode cX11_turn 137 = .ok (.iconst 3, 1) := by decide +kernel
theorem dX11_turn_138 : decode cX11_turn 138 = .ok (.iadd, 1) := by decide +kernel
theorem dX11_turn_139 : decode cX11_turn 139 = .ok (.iload_n 3, 1) := by decide +kernel
theorem dX11_turn_140 : decode cX11_turn 140 = .ok (.iadd, 1) := by decide +kernel
theorem dX11_turn_141 : decode cX11_turn 141 = .ok (.aload_n 0, 1) := by decide +kernel
theorem dX11_turn_142 : decode cX11_turn 142 = .ok (.iload_n 1, 1) := by decide +kernel
theorem dX11_turn_143 : decode cX11_turn 143 = .ok (.iconst 4, 1) := by decide +kernel
theorem dX11_turn_144 : decode cX11_turn 144 = .ok (.iload_n 3, 1) := by decide +kernel
theorem dX11_turn_145 : decode cX11_turn 145 = .ok (.iadd, 1) := by decide +kernel
theorem dX11_turn_146 : decode cX11_turn 146 = .ok (.invokevirtual 92, 3) := by decide +kernel
theorem dX11_turn_149 : decode cX11_turn 149 = .ok (.iastore, 1) := by decide +kernel
theorem dX11_turn_150 : decode cX11_turn 150 = .ok (.iinc 3 1, 3) := by decide +kernel
theorem dX11_turn_153 : decode cX11_turn 153 = .ok (.goto (-33), 3) := by decide +kernel
theorem dX11_turn_156 : decode cX11_turn 156 = .ok (.aload_n 0, 1) := by decide +kernel
theorem dX11_turn_157 : decode cX11_turn 157 = .ok (.iconst 2, 1) := by decide +kernel
theorem dX11_turn_158 : decode cX11_turn 158 = .ok (.aload_n 0, 1) := by decide +kernel
theorem dX11_turn_159 : decode cX11_turn 159 = .ok (.iload_n 1, 1) := by decide +kernel
theorem dX11_turn_160 : decode cX11_turn 160 = .ok (.iconst 1, 1) := by decide +kernel
theorem dX11_turn_161 : decode cX11_turn 161 = .ok (.invokevirtual 92, 3) := by decide +kernel
theorem dX11_turn_164 : decode cX11_turn 164 = .ok (.aload_n 0, 1) := by decide +kernel
theorem dX11_turn_165 : decode cX11_turn 165 = .ok (.iload_n 1, 1) := by decide +kernel
theorem dX11_turn_166 : decode cX11_turn 166 = .ok (.iconst 2, 1) := by decide +kernel
theorem dX11_turn_167 : decode cX11_turn 167 = .ok (.invokevirtual 92, 3) := by decide +kernel
theorem dX11_turn_170 : decode cX11_turn 170 = .ok (.invokevirtual 334, 3) := by decide +kernel
theorem dX11_turn_173 : decode cX11_turn 173 = .ok (.ireturn, 1) := by decide +kernel
theorem gX11_turn_0 {d : Nat} {M : ev_Mem} {Q : Option Value → ev_Mem → Prop} {x1 : Int32} (h : ((((iin x1 0 (M.1 1 0 - 1)) = true) → (((¬ (M.1 1 0) = 24) → ((vp_in (39 + 13 * x1 + (0 : Int32)) 3315) ∧ (((¬ (M.1 1 (39 + 13 * x1 + (0 : Int32)).toNatClampNeg) = 0) → ((vp_in (2 : Int32) 3) ∧ (∀ M1 : ev_Mem, M1 = rfs M 3 (2 : Int32).toNatClampNeg → (Q (some (.int (-1))) M1)))) ∧ (((M.1 1 (39 + 13 * x1 + (0 : Int32)).toNatClampNeg) = 0) → ((vp_in (39 + 13 * x1 + (3 : Int32)) 3315) ∧ ((((M.1 1 (39 + 13 * x1 + (3 : Int32)).toNatClampNeg) ≤ 6) → ((vp_in (39 + 13 * x1 + (3 : Int32)) 3315) ∧ (vp_in ((39 + (13 * (M.1 1 0))) + 3) 3315 ∧ (∀ M2 : ev_Mem, M2 = ev_wr M 1 ((39 + (13 * (M.1 1 0))) + 3).toNatClampNeg (3 + (M.1 1 (39 + 13 * x1 + (3 : Int32)).toNatClampNeg)) → (vp_in ((39 + (13 * (M.1 1 0))) + 4) 3315 ∧ (∀ M3 : ev_Mem, M3 = ev_wr M2 1 ((39 + (13 * (M.1 1 0))) + 4).toNatClampNeg 3 → (vp_in (((39 + (13 * (M.1 1 0))) + 4) + 1) 3315 ∧ (∀ M4 : ev_Mem, M4 = ev_wr M3 1 (((39 + (13 * (M.1 1 0))) + 4) + 1).toNatClampNeg 8 → (vp_in (((39 + (13 * (M.1 1 0))) + 4) + 2) 3315 ∧ (∀ M5 : ev_Mem, M5 = ev_wr M4 1 (((39 + (13 * (M.1 1 0))) + 4) + 2).toNatClampNeg 3 → (Ev LM (d + 2) mX11_turn 120 [some (.ref 0), some (.int x1), some (.int (39 + (13 * (M.1 1 0)))), some (.int 0)] [] M5 Q))))))))))) ∧ ((¬ (M.1 1 (39 + 13 * x1 + (3 : Int32)).toNatClampNeg) ≤ 6) → ((vp_in (2 : Int32) 3) ∧ (∀ M6 : ev_Mem, M6 = rfs M 3 (2 : Int32).toNatClampNeg → (Q (some (.int (-1))) M6)))))))))) ∧ (((M.1 1 0) = 24) → ((vp_in (1 : Int32) 3) ∧ (∀ M7 : ev_Mem, M7 = rfs M 3 (1 : Int32).toNatClampNeg → (Q (some (.int (-1))) M7)))))) ∧ (((iin x1 0 (M.1 1 0 - 1)) = false) → ((vp_in (0 : Int32) 3) ∧ (∀ M8 : ev_Mem, M8 = rfs M 3 (0 : Int32).toNatClampNeg → (Q (some (.int (-1))) M8)))))) : Ev LM (d + 2) mX11_turn 0 [some (.ref 0), some (.int x1), none, none] [] M Q := by
  refine ev_aload_n dX11_turn_0 rfl ?_
  refine ev_iload_n dX11_turn_1 rfl ?_
  refine ev_callV [.int x1] dX11_turn_2 ml_WithoutEModel_337 lm_0 rfl rfl (Nat.le_of_ble_eq_true rfl) (kX11_isWordOf) ?_
  rintro zr zM ⟨q1, q2⟩
  rw [q1, q2]
  show Ev LM (d + 2) mX11_turn 5 [some (.ref 0), some (.int x1), none, none] [(.int (bi (iin x1 0 (M.1 1 0 - 1))))] M Q
  refine ev_if_ne (tgt := 14) dX11_turn_5 (by decide) (fun c => ?_) (fun c => ?_)
  · replace h := h.1 ((bi_n0 _).mp c)
    refine ev_aload_n dX11_turn_14 rfl ?_
    refine ev_getA dX11_turn_15 fl_WithoutEModel_7 lm_0 rfl ?_
    refine ev_iconst (v := 0) dX11_turn_18 (by decide) ?_
    refine ev_iaN (j := 0) dX11_turn_19 lm_1 (by decide) (by decide) ?_
    refine ev_bipush (v := 24) dX11_turn_20 (by decide) ?_
    refine ev_icmp_ne (tgt := 31) dX11_turn_22 (by decide) (fun c => ?_) (fun c => ?_)
    · replace h := h.1 c
      refine ev_aload_n dX11_turn_31 rfl ?_
      refine ev_iload_n dX11_turn_32 rfl ?_
      refine ev_iconst (v := 0) dX11_turn_33 (by decide) ?_
      obtain ⟨p1, h⟩ := h
      refine ev_callV [.int x1, .int 0] dX11_turn_34 ml_WithoutEModel_92 lm_0 rfl rfl (Nat.le_of_ble_eq_true rfl) (kX11_get p1) ?_
      rintro zr zM ⟨q1, q2⟩
      rw [q1, q2]
      show Ev LM (d + 2) mX11_turn 37 [some (.ref 0), some (.int x1), none, none] [(.int (M.1 1 (39 + 13 * x1 + (0 : Int32)).toNatClampNeg))] M Q
      refine ev_if_ne (tgt := 51) dX11_turn_37 (by decide) (fun c => ?_) (fun c => ?_)
      · replace h := h.1 c
        refine ev_aload_n dX11_turn_51 rfl ?_
        refine ev_iconst (v := 2) dX11_turn_52 (by decide) ?_
        obtain ⟨p1, h⟩ := h
        refine ev_callV [.int 2] dX11_turn_53 ml_WithoutEModel_331 lm_0 rfl rfl (Nat.le_of_ble_eq_true rfl) (qX11_refused p1) ?_
        rintro zr zM ⟨q1, q2⟩
        rw [q1, q2]
        generalize eM1 : rfs M 3 (2 : Int32).toNatClampNeg = M1
        replace h := h M1 eM1.symm
        show Ev LM (d + 2) mX11_turn 56 [some (.ref 0), some (.int x1), none, none] [(.int (-1))] M1 Q
        exact ev_iret dX11_turn_56 rfl h
      · replace h := h.2 c
        refine ev_aload_n dX11_turn_40 rfl ?_
        refine ev_iload_n dX11_turn_41 rfl ?_
        refine ev_iconst (v := 3) dX11_turn_42 (by decide) ?_
        obtain ⟨p1, h⟩ := h
        refine ev_callV [.int x1, .int 3] dX11_turn_43 ml_WithoutEModel_92 lm_0 rfl rfl (Nat.le_of_ble_eq_true rfl) (kX11_get p1) ?_
        rintro zr zM ⟨q1, q2⟩
        rw [q1, q2]
        show Ev LM (d + 2) mX11_turn 46 [some (.ref 0), some (.int x1), none, none] [(.int (M.1 1 (39 + 13 * x1 + (3 : Int32)).toNatClampNeg))] M Q
        refine ev_bipush (v := 6) dX11_turn_46 (by decide) ?_
        refine ev_icmp_le (tgt := 57) dX11_turn_48 (by decide) (fun c => ?_) (fun c => ?_)
        · replace h := h.1 c
          refine ev_bipush (v := 39) dX11_turn_57 (by decide) ?_
          refine ev_bipush (v := 13) dX11_turn_59 (by decide) ?_
          refine ev_aload_n dX11_turn_61 rfl ?_
          refine ev_getA dX11_turn_62 fl_WithoutEModel_7 lm_0 rfl ?_
          refine ev_iconst (v := 0) dX11_turn_65 (by decide) ?_
          refine ev_iaN (j := 0) dX11_turn_66 lm_1 (by decide) (by decide) ?_
          refine ev_imul dX11_turn_67 ?_
          refine ev_iadd dX11_turn_68 ?_
          refine ev_istore_n (ls2 := [some (.ref 0), some (.int x1), some (.int (39 + (13 * (M.1 1 0)))), none]) dX11_turn_69 (Nat.le_of_ble_eq_true rfl) rfl ?_
          refine ev_aload_n dX11_turn_70 rfl ?_
          refine ev_getA dX11_turn_71 fl_WithoutEModel_7 lm_0 rfl ?_
          refine ev_iload_n dX11_turn_74 rfl ?_
          refine ev_iconst (v := 3) dX11_turn_75 (by decide) ?_
          refine ev_iadd dX11_turn_76 ?_
          refine ev_iconst (v := 3) dX11_turn_77 (by decide) ?_
          refine ev_aload_n dX11_turn_78 rfl ?_
          refine ev_iload_n dX11_turn_79 rfl ?_
          refine ev_iconst (v := 3) dX11_turn_80 (by decide) ?_
          obtain ⟨p1, h⟩ := h
          refine ev_callV [.int x1, .int 3] dX11_turn_81 ml_WithoutEModel_92 lm_0 rfl rfl (Nat.le_of_ble_eq_true rfl) (kX11_get p1) ?_
          rintro zr zM ⟨q1, q2⟩
          rw [q1, q2]
          show Ev LM (d + 2) mX11_turn 84 [some (.ref 0), some (.int x1), some (.int (39 + (13 * (M.1 1 0)))), none] [(.int (M.1 1 (39 + 13 * x1 + (3 : Int32)).toNatClampNeg)), (.int 3), (.int ((39 + (13 * (M.1 1 0))) + 3)), (.ref 1)] M Q
          refine ev_iadd dX11_turn_84 ?_
          obtain ⟨c, h⟩ := h
          refine ev_iast dX11_turn_85 lm_1 c ?_
          generalize eM2 : ev_wr M 1 ((39 + (13 * (M.1 1 0))) + 3).toNatClampNeg (3 + (M.1 1 (39 + 13 * x1 + (3 : Int32)).toNatClampNeg)) = M2
          replace h := h M2 eM2.symm
          refine ev_aload_n dX11_turn_86 rfl ?_
          refine ev_getA dX11_turn_87 fl_WithoutEModel_7 lm_0 rfl ?_
          refine ev_iload_n dX11_turn_90 rfl ?_
          refine ev_iconst (v := 4) dX11_turn_91 (by decide) ?_
          refine ev_iadd dX11_turn_92 ?_
          refine ev_iconst (v := 3) dX11_turn_93 (by decide) ?_
          obtain ⟨c, h⟩ := h
          refine ev_iast dX11_turn_94 lm_1 c ?_
          generalize eM3 : ev_wr M2 1 ((39 + (13 * (M.1 1 0))) + 4).toNatClampNeg 3 = M3
          replace h := h M3 eM3.symm
          refine ev_aload_n dX11_turn_95 rfl ?_
          refine ev_getA dX11_turn_96 fl_WithoutEModel_7 lm_0 rfl ?_
          refine ev_iload_n dX11_turn_99 rfl ?_
          refine ev_iconst (v := 4) dX11_turn_100 (by decide) ?_
          refine ev_iadd dX11_turn_101 ?_
          refine ev_iconst (v := 1) dX11_turn_102 (by decide) ?_
          refine ev_iadd dX11_turn_103 ?_
          refine ev_bipush (v := 8) dX11_turn_104 (by decide) ?_
          obtain ⟨c, h⟩ := h
          refine ev_iast dX11_turn_106 lm_1 c ?_
          generalize eM4 : ev_wr M3 1 (((39 + (13 * (M.1 1 0))) + 4) + 1).toNatClampNeg 8 = M4
          replace h := h M4 eM4.symm
          refine ev_aload_n dX11_turn_107 rfl ?_
          refine ev_getA dX11_turn_108 fl_WithoutEModel_7 lm_0 rfl ?_
          refine ev_iload_n dX11_turn_111 rfl ?_
          refine ev_iconst (v := 4) dX11_turn_112 (by decide) ?_
          refine ev_iadd dX11_turn_113 ?_
          refine ev_iconst (v := 2) dX11_turn_114 (by decide) ?_
          refine ev_iadd dX11_turn_115 ?_
          refine ev_iconst (v := 3) dX11_turn_116 (by decide) ?_
          obtain ⟨c, h⟩ := h
          refine ev_iast dX11_turn_117 lm_1 c ?_
          generalize eM5 : ev_wr M4 1 (((39 + (13 * (M.1 1 0))) + 4) + 2).toNatClampNeg 3 = M5
          replace h := h M5 eM5.symm
          refine ev_iconst (v := 0) dX11_turn_118 (by decide) ?_
          refine ev_istore_n (ls2 := [some (.ref 0), some (.int x1), some (.int (39 + (13 * (M.1 1 0)))), some (.int 0)]) dX11_turn_119 (Nat.le_of_ble_eq_true rfl) rfl ?_
          exact h
        · replace h := h.2 c
          refine ev_aload_n dX11_turn_51 rfl ?_
          refine ev_iconst (v := 2) dX11_turn_52 (by decide) ?_
          obtain ⟨p1, h⟩ := h
          refine ev_callV [.int 2] dX11_turn_53 ml_WithoutEModel_331 lm_0 rfl rfl (Nat.le_of_ble_eq_true rfl) (qX11_refused p1) ?_
          rintro zr zM ⟨q1, q2⟩
          rw [q1, q2]
          generalize eM6 : rfs M 3 (2 : Int32).toNatClampNeg = M6
          replace h := h M6 eM6.symm
          show Ev LM (d + 2) mX11_turn 56 [some (.ref 0), some (.int x1), none, none] [(.int (-1))] M6 Q
          exact ev_iret dX11_turn_56 rfl h
    · replace h := h.2 c
      refine ev_aload_n dX11_turn_25 rfl ?_
      refine ev_iconst (v := 1) dX11_turn_26 (by decide) ?_
      obtain ⟨p1, h⟩ := h
      refine ev_callV [.int 1] dX11_turn_27 ml_WithoutEModel_331 lm_0 rfl rfl (Nat.le_of_ble_eq_true rfl) (qX11_refused p1) ?_
      rintro zr zM ⟨q1, q2⟩
      rw [q1, q2]
      generalize eM7 : rfs M 3 (1 : Int32).toNatClampNeg = M7
      replace h := h M7 eM7.symm
      show Ev LM (d + 2) mX11_turn 30 [some (.ref 0), some (.int x1), none, none] [(.int (-1))] M7 Q
      exact ev_iret dX11_turn_30 rfl h
  · replace h := h.2 ((bi_0 _).mp c)
    refine ev_aload_n dX11_turn_8 rfl ?_
    refine ev_iconst (v := 0) dX11_turn_9 (by decide) ?_
    obtain ⟨p1, h⟩ := h
    refine ev_callV [.int 0] dX11_turn_10 ml_WithoutEModel_331 lm_0 rfl rfl (Nat.le_of_ble_eq_true rfl) (qX11_refused p1) ?_
    rintro zr zM ⟨q1, q2⟩
    rw [q1, q2]
    generalize eM8 : rfs M 3 (0 : Int32).toNatClampNeg = M8
    replace h := h M8 eM8.symm
    show Ev LM (d + 2) mX11_turn 13 [some (.ref 0), some (.int x1), none, none] [(.int (-1))] M8 Q
    exact ev_iret dX11_turn_13 rfl h
theorem gX11_turn_120 {d : Nat} {M : ev_Mem} {Q : Option Value → ev_Mem → Prop} {x1 x2 x3 : Int32} (h : ((vp_in (39 + 13 * x1 + (3 : Int32)) 3315) ∧ ((((M.1 1 (39 + 13 * x1 + (3 : Int32)).toNatClampNeg) ≤ x3) → ((vp_in (39 + 13 * x1 + (1 : Int32)) 3315) ∧ ((vp_in (39 + 13 * x1 + (2 : Int32)) 3315) ∧ (∃ Q2 : Option Value → ev_Mem → Prop, Cl LM d mX11_lay [.ref 0, .int 2, .int (M.1 1 (39 + 13 * x1 + (1 : Int32)).toNatClampNeg), .int (M.1 1 (39 + 13 * x1 + (2 : Int32)).toNatClampNeg)] M Q2 ∧ ∀ (zr : Option Value) (zM : ev_Mem), Q2 zr zM → Ev LM (d + 1) mX11_turn 173 [none, none, none, none] (zr.toList ++ []) zM Q)))) ∧ ((¬ (M.1 1 (39 + 13 * x1 + (3 : Int32)).toNatClampNeg) ≤ x3) → ((vp_in (39 + 13 * x1 + (4 + x3)) 3315) ∧ (vp_in (((x2 + 4) + 3) + x3) 3315 ∧ (∀ M1 : ev_Mem, M1 = ev_wr M 1 (((x2 + 4) + 3) + x3).toNatClampNeg (M.1 1 (39 + 13 * x1 + (4 + x3)).toNatClampNeg) → (Ev LM (d + 1) mX11_turn 120 [some (.ref 0), some (.int x1), some (.int x2), some (.int (x3 + 1))] [] M1 Q)))))))) : Ev LM (d + 1) mX11_turn 120 [some (.ref 0), some (.int x1), some (.int x2), some (.int x3)] [] M Q := by
  refine ev_iload_n dX11_turn_120 rfl ?_
  refine ev_aload_n dX11_turn_121 rfl ?_
  refine ev_iload_n dX11_turn_122 rfl ?_
  refine ev_iconst (v := 3) dX11_turn_123 (by decide) ?_
  obtain ⟨p1, h⟩ := h
  refine ev_callV [.int x1, .int 3] dX11_turn_124 ml_WithoutEModel_92 lm_0 rfl rfl (Nat.le_of_ble_eq_true rfl) (kX11_get p1) ?_
  rintro zr zM ⟨q1, q2⟩
  rw [q1, q2]
  show Ev LM (d + 1) mX11_turn 127 [some (.ref 0), some (.int x1), some (.int x2), some (.int x3)] [(.int (M.1 1 (39 + 13 * x1 + (3 : Int32)).toNatClampNeg)), (.int x3)] M Q
  refine ev_icmp_ge (tgt := 156) dX11_turn_127 (by decide) (fun c => ?_) (fun c => ?_)
  · replace h := h.1 c
    refine ev_aload_n dX11_turn_156 rfl ?_
    refine ev_iconst (v := 2) dX11_turn_157 (by decide) ?_
    refine ev_aload_n dX11_turn_158 rfl ?_
    refine ev_iload_n dX11_turn_159 rfl ?_
    refine ev_iconst (v := 1) dX11_turn_160 (by decide) ?_
    obtain ⟨p1, h⟩ := h
    refine ev_callV [.int x1, .int 1] dX11_turn_161 ml_WithoutEModel_92 lm_0 rfl rfl (Nat.le_of_ble_eq_true rfl) (kX11_get p1) ?_
    rintro zr zM ⟨q1, q2⟩
    rw [q1, q2]
    show Ev LM (d + 1) mX11_turn 164 [some (.ref 0), some (.int x1), some (.int x2), some (.int x3)] [(.int (M.1 1 (39 + 13 * x1 + (1 : Int32)).toNatClampNeg)), (.int 2), (.ref 0)] M Q
    refine ev_aload_n dX11_turn_164 rfl ?_
    refine ev_iload_n dX11_turn_165 rfl ?_
    refine ev_iconst (v := 2) dX11_turn_166 (by decide) ?_
    obtain ⟨p1, h⟩ := h
    refine ev_callV [.int x1, .int 2] dX11_turn_167 ml_WithoutEModel_92 lm_0 rfl rfl (Nat.le_of_ble_eq_true rfl) (kX11_get p1) ?_
    rintro zr zM ⟨q1, q2⟩
    rw [q1, q2]
    show Ev LM (d + 1) mX11_turn 170 [some (.ref 0), some (.int x1), some (.int x2), some (.int x3)] [(.int (M.1 1 (39 + 13 * x1 + (2 : Int32)).toNatClampNeg)), (.int (M.1 1 (39 + 13 * x1 + (1 : Int32)).toNatClampNeg)), (.int 2), (.ref 0)] M Q
    obtain ⟨Q2, hc, h⟩ := h
    refine ev_callV [.int 2, .int (M.1 1 (39 + 13 * x1 + (1 : Int32)).toNatClampNeg), .int (M.1 1 (39 + 13 * x1 + (2 : Int32)).toNatClampNeg)] dX11_turn_170 ml_WithoutEModel_334 lm_0 rfl rfl (Nat.le_of_ble_eq_true rfl) hc (fun zr zM q => ?_)
    refine Ev.weak (ls := [none, none, none, none]) trivial ?_
    exact h zr zM q
  · replace h := h.2 c
    refine ev_aload_n dX11_turn_130 rfl ?_
    refine ev_getA dX11_turn_131 fl_WithoutEModel_7 lm_0 rfl ?_
    refine ev_iload_n dX11_turn_134 rfl ?_
    refine ev_iconst (v := 4) dX11_turn_135 (by decide) ?_
    refine ev_iadd dX11_turn_136 ?_
    refine ev_iconst (v := 3) dX11_turn_137 (by decide) ?_
    refine ev_iadd dX11_turn_138 ?_
    refine ev_iload_n dX11_turn_139 rfl ?_
    refine ev_iadd dX11_turn_140 ?_
    refine ev_aload_n dX11_turn_141 rfl ?_
    refine ev_iload_n dX11_turn_142 rfl ?_
    refine ev_iconst (v := 4) dX11_turn_143 (by decide) ?_
    refine ev_iload_n dX11_turn_144 rfl ?_
    refine ev_iadd dX11_turn_145 ?_
    obtain ⟨p1, h⟩ := h
    refine ev_callV [.int x1, .int (4 + x3)] dX11_turn_146 ml_WithoutEModel_92 lm_0 rfl rfl (Nat.le_of_ble_eq_true rfl) (kX11_get p1) ?_
    rintro zr zM ⟨q1, q2⟩
    rw [q1, q2]
    show Ev LM (d + 1) mX11_turn 149 [some (.ref 0), some (.int x1), some (.int x2), some (.int x3)] [(.int (M.1 1 (39 + 13 * x1 + (4 + x3)).toNatClampNeg)), (.int (((x2 + 4) + 3) + x3)), (.ref 1)] M Q
    obtain ⟨c, h⟩ := h
    refine ev_iast dX11_turn_149 lm_1 c ?_
    generalize eM1 : ev_wr M 1 (((x2 + 4) + 3) + x3).toNatClampNeg (M.1 1 (39 + 13 * x1 + (4 + x3)).toNatClampNeg) = M1
    replace h := h M1 eM1.symm
    refine ev_iinc (v := x3 + 1) (ls2 := [some (.ref 0), some (.int x1), some (.int x2), some (.int (x3 + 1))]) dX11_turn_150 rfl rfl rfl ?_
    refine ev_goto (tgt := 120) dX11_turn_153 (by decide) ?_
    exact h
theorem gX11_turn_173 {d : Nat} {M : ev_Mem} {Q : Option Value → ev_Mem → Prop} {s0 : Int32} (h : (Q (some (.int s0)) M)) : Ev LM d mX11_turn 173 [none, none, none, none] [(.int s0)] M Q := by
  exact ev_iret dX11_turn_173 rfl h
theorem dX11_sentenceOf_0 : decode cX11_sentenceOf 0 = .ok (.iconst 0, 1) := by decide +kernel
theorem dX11_sentenceOf_1 : decode cX11_sentenceOf 1 = .ok (.istore_n 2, 1) := by decide +kernel
theorem dX11_sentenceOf_2 : decode cX11_sentenceOf 2 = .ok (.iload_n 2, 1) := by decide +kernel
theorem dX11_sentenceOf_3 : decode cX11_sentenceOf 3 = .ok (.iload_n 1, 1) := by decide +kernel
theorem dX11_sentenceOf_4 : decode cX11_sentenceOf 4 = .ok (.if_icmp .ge 30, 3) := by decide +kernel
theorem dX11_sentenceOf_7 : decode cX11_sentenceOf 7 = .ok (.aload_n 0, 1) := by decide +kernel
theorem dX11_sentenceOf_8 : decode cX11_sentenceOf 8 = .ok (.getfield 46, 3) := by decide +kernel
theorem dX11_sentenceOf_11 : decode cX11_sentenceOf 11 = .ok (.iload_n 2, 1) := by decide +kernel
theorem dX11_sentenceOf_12 : decode cX11_sentenceOf 12 = .ok (.iaload, 1) := by decide +kernel
theorem dX11_sentenceOf_13 : decode cX11_sentenceOf 13 = .ok (.iconst 0, 1) := by decide +kernel
theorem dX11_sentenceOf_14 : decode cX11_sentenceOf 14 = .ok (.bipush 11, 2) := by decide +kernel
theorem dX11_sentenceOf_16 : decode cX11_sentenceOf 16 = .ok (.invokestatic 80, 3) := by decide +kernel
theorem dX11_sentenceOf_19 : decode cX11_sentenceOf 19 = .ok (.ifCond .ne 9, 3) := by decide +kernel
theorem dX11_sentenceOf_22 : decode cX11_sentenceOf 22 = .ok (.aload_n 0, 1) := by decide +kernel
theorem dX11_sentenceOf_23 : decode cX11_sentenceOf 23 = .ok (.iconst 0, 1) := by decide +kernel
theorem dX11_sentenceOf_24 : decode cX11_sentenceOf 24 = .ok (.invokevirtual 331, 3) := by decide +kernel
theorem dX11_sentenceOf_27 : decode cX11_sentenceOf 27 = .ok (.ireturn, 1) := by decide +kernel
theorem dX11_sentenceOf_28 : decode cX11_sentenceOf 28 = .ok (.iinc 2 1, 3) := by decide +kernel
theorem dX11_sentenceOf_31 : decode cX11_sentenceOf 31 = .ok (.goto (-29), 3) := by decide +kernel
theorem dX11_sentenceOf_34 : decode cX11_sentenceOf 34 = .ok (.aload_n 0, 1) := by decide +kernel
theorem dX11_sentenceOf_35 : decode cX11_sentenceOf 35 = .ok (.getfield 7, 3) := by decide +kernel
theorem dX11_sentenceOf_38 : decode cX11_sentenceOf 38 = .ok (.iconst 1, 1) := by decide +kernel
theorem dX11_sentenceOf_39 : decode cX11_sentenceOf 39 = .ok (.iaload, 1) := by decide +kernel
theorem dX11_sentenceOf_40 : decode cX11_sentenceOf 40 = .ok (.bipush 8, 2) := by decide +kernel
theorem dX11_sentenceOf_42 : decode cX11_sentenceOf 42 = .ok (.if_icmp .ne 9, 3) := by decide +kernel
theorem dX11_sentenceOf_45 : decode cX11_sentenceOf 45 = .ok (.aload_n 0, 1) := by decide +kernel
theorem dX11_sentenceOf_46 : decode cX11_sentenceOf 46 = .ok (.iconst 1, 1) := by decide +kernel
theorem dX11_sentenceOf_47 : decode cX11_sentenceOf 47 = .ok (.invokevirtual 331, 3) := by decide +kernel
theorem dX11_sentenceOf_50 : decode cX11_sentenceOf 50 = .ok (.ireturn, 1) := by decide +kernel
theorem dX11_sentenceOf_51 : decode cX11_sentenceOf 51 = .ok (.sipush 351, 3) := by decide +kernel
theorem dX11_sentenceOf_54 : decode cX11_sentenceOf 54 = .ok (.bipush 6, 2) := by decide +kernel
theorem dX11_sentenceOf_56 : decode cX11_sentenceOf 56 = .ok (.aload_n 0, 1) := by decide +kernel
theorem dX11_sentenceOf_57 : decode cX11_sentenceOf 57 = .ok (.getfield 7, 3) := by decide +kernel
theorem dX11_sentenceOf_60 : decode cX11_sentenceOf 60 = .ok (.iconst 1, 1) := by decide +kernel
theorem dX11_sentenceOf_61 : decode cX11_sentenceOf 61 = .ok (.iaload, 1) := by decide +kernel
theorem dX11_sentenceOf_62 : decode cX11_sentenceOf 62 = .ok (.imul, 1) := by decide +kernel
theorem dX11_sentenceOf_63 : decode cX11_sentenceOf 63 = .ok (.iadd, 1) := by decide +kernel
theorem dX11_sentenceOf_64 : decode cX11_sentenceOf 64 = .ok (.istore_n 2, 1) := by decide +kernel
theorem dX11_sentenceOf_65 : decode cX11_sentenceOf 65 = .ok (.aload_n 0, 1) := by decide +kernel
theorem dX11_sentenceOf_66 : decode cX11_sentenceOf 66 = .ok (.getfield 7, 3) := by decide +kernel
theorem dX11_sentenceOf_69 : decode cX11_sentenceOf 69 = .ok (.iload_n 2, 1) := by decide +kernel
theorem dX11_sentenceOf_70 : decode cX11_sentenceOf 70 = .ok (.iload_n 1, 1) := by decide +kernel
theorem dX11_sentenceOf_71 : decode cX11_sentenceOf 71 = .ok (.iastore, 1) := by decide +kernel
theorem dX11_sentenceOf_72 : decode cX11_sentenceOf 72 = .ok (.iconst 0, 1) := by decide +kernel
theorem dX11_sentenceOf_73 : decode cX11_sentenceOf 73 = .ok (.istore_n 3, 1) := by decide +kernel
theorem dX11_sentenceOf_74 : decode cX11_sentenceOf 74 = .ok (.iload_n 3, 1) := by decide +kernel
theorem dX11_sentenceOf_75 : decode cX11_sentenceOf 75 = .ok (.iload_n 1, 1) := by decide +kernel
theorem dX11_sentenceOf_76 : decode cX11_sentenceOf 76 = .ok (.if_icmp .ge 25, 3) := by decide +kernel
theorem dX11_sentenceOf_79 : decode cX11_sentenceOf 79 = .ok (.aload_n 0, 1) := by decide +kernel
theorem dX11_sentenceOf_80 : decode cX11_sentenceOf 80 = .ok (.getfield 7, 3) := by decide +kernel
theorem dX11_sentenceOf_83 : decode cX11_sentenceOf 83 = .ok (.iload_n 2, 1) := by decide +kernel
theorem dX11_sentenceOf_84 : decode cX11_sentenceOf 84 = .ok (.iconst 1, 1) := by decide +kernel
theorem dX11_sentenceOf_85 : decode cX11_sentenceOf 85 = .ok (.iadd, 1) := by decide +kernel
theorem dX11_sentenceOf_86 : decode cX11_sentenceOf 86 = .ok (.iload_n 3, 1) := by decide +kernel
theorem dX11_sentenceOf_87 : decode cX11_sentenceOf 87 = .ok (.iadd, 1) := by decide +kernel
theorem dX11_sentenceOf_88 : decode cX11_sentenceOf 88 = .ok (.aload_n 0, 1) := by decide +kernel
theorem dX11_sentenceOf_89 : decode cX11_sentenceOf 89 = .ok (.getfield 46, 3) := by decide +kernel
theorem dX11_sentenceOf_92 : decode cX11_sentenceOf 92 = .ok (.iload_n 3, 1) := by decide +kernel
theorem dX11_sentenceOf_93 : decode cX11_sentenceOf 93 = .ok (.iaload, 1) := by decide +kernel
theorem dX11_sentenceOf_94 : decode cX11_sentenceOf 94 = .ok (.iastore, 1) := by decide +kernel
theorem dX11_sentenceOf_95 : decode cX11_sentenceOf 95 = .ok (.iinc 3 1, 3) := by decide +kernel
theorem dX11_sentenceOf_98 : decode cX11_sentenceOf 98 = .ok (.goto (-24), 3) := by decide +kernel
theorem dX11_sentenceOf_101 : decode cX11_sentenceOf 101 = .ok (.aload_n 0, 1) := by decide +kernel
theorem dX11_sentenceOf_102 : decode cX11_sentenceOf 102 = .ok (.getfield 7, 3) := by decide +kernel
theorem dX11_sentenceOf_105 : decode cX11_sentenceOf 105 = .ok (.iconst 1, 1) := by decide +kernel
theorem dX11_sentenceOf_106 : decode cX11_sentenceOf 106 = .ok (.dup2, 1) := by decide +kernel
theorem dX11_sentenceOf_107 : decode cX11_sentenceOf 107 = .ok (.iaload, 1) := by decide +kernel
theorem dX11_sentenceOf_108 : decode cX11_sentenceOf 108 = .ok (.iconst 1, 1) := by decide +kernel
theorem dX11_sentenceOf_109 : decode cX11_sentenceOf 109 = .ok (.iadd, 1) := by decide +kernel
theorem dX11_sentenceOf_110 : decode cX11_sentenceOf 110 = .ok (.iastore, 1) := by decide +kernel
theorem dX11_sentenceOf_111 : decode cX11_sentenceOf 111 = .ok (.aload_n 0, 1) := by decide +kernel
theorem dX11_sentenceOf_112 : decode cX11_sentenceOf 112 = .ok (.getfield 7, 3) := by decide +kernel
theorem dX11_sentenceOf_115 : decode cX11_sentenceOf 115 = .ok (.iconst 1, 1) := by decide +kernel
theorem dX11_sentenceOf_116 : decode cX11_sentenceOf 116 = .ok (.iaload, 1) := by decide +kernel
theorem dX11_sentenceOf_117 : decode cX11_sentenceOf 117 = .ok (.iconst 1, 1) := by decide +kernel
theorem dX11_sentenceOf_118 : decode cX11_sentenceOf 118 = .ok (.isub, 1) := by decide +kernel
theorem dX11_sentenceOf_119 : decode cX11_sentenceOf 119 = .ok (.ireturn, 1) := by decide +kernel
theorem gX11_sentenceOf_0 {d : Nat} {M : ev_Mem} {Q : Option Value → ev_Mem → Prop} {x1 : Int32} (h : (Ev LM d mX11_sentenceOf 2 [some (.ref 0), some (.int x1), some (.int 0), none] [] M Q)) : Ev LM d mX11_sentenceOf 0 [some (.ref 0), some (.int x1), none, none] [] M Q := by
  refine ev_iconst (v := 0) dX11_sentenceOf_0 (by decide) ?_
  refine ev_istore_n (ls2 := [some (.ref 0), some (.int x1), some (.int 0), none]) dX11_sentenceOf_1 (Nat.le_of_ble_eq_true rfl) rfl ?_
  exact h
theorem gX11_sentenceOf_2 {d : Nat} {M : ev_Mem} {Q : Option Value → ev_Mem → Prop} {x1 x2 : Int32} (h : (((x1 ≤ x2) → (((¬ (M.1 1 1) = 8) → (vp_in (351 + (6 * (M.1 1 1))) 3315 ∧ (∀ M1 : ev_Mem, M1 = ev_wr M 1 (351 + (6 * (M.1 1 1))).toNatClampNeg x1 → (Ev LM (d + 1) mX11_sentenceOf 74 [some (.ref 0), some (.int x1), some (.int (351 + (6 * (M.1 1 1)))), some (.int 0)] [] M1 Q)))) ∧ (((M.1 1 1) = 8) → ((vp_in (1 : Int32) 3) ∧ (∀ M2 : ev_Mem, M2 = rfs M 3 (1 : Int32).toNatClampNeg → (Q (some (.int (-1))) M2)))))) ∧ ((¬ x1 ≤ x2) → (vp_in x2 5 ∧ ((((iin (M.1 10 x2.toNatClampNeg) (0 : Int32) (11 : Int32)) = true) → (Ev LM (d + 1) mX11_sentenceOf 2 [some (.ref 0), some (.int x1), some (.int (x2 + 1)), none] [] M Q)) ∧ (((iin (M.1 10 x2.toNatClampNeg) (0 : Int32) (11 : Int32)) = false) → ((vp_in (0 : Int32) 3) ∧ (∀ M3 : ev_Mem, M3 = rfs M 3 (0 : Int32).toNatClampNeg → (Q (some (.int (-1))) M3))))))))) : Ev LM (d + 1) mX11_sentenceOf 2 [some (.ref 0), some (.int x1), some (.int x2), none] [] M Q := by
  refine ev_iload_n dX11_sentenceOf_2 rfl ?_
  refine ev_iload_n dX11_sentenceOf_3 rfl ?_
  refine ev_icmp_ge (tgt := 34) dX11_sentenceOf_4 (by decide) (fun c => ?_) (fun c => ?_)
  · replace h := h.1 c
    refine ev_aload_n dX11_sentenceOf_34 rfl ?_
    refine ev_getA dX11_sentenceOf_35 fl_WithoutEModel_7 lm_0 rfl ?_
    refine ev_iconst (v := 1) dX11_sentenceOf_38 (by decide) ?_
    refine ev_iaN (j := 1) dX11_sentenceOf_39 lm_1 (by decide) (by decide) ?_
    refine ev_bipush (v := 8) dX11_sentenceOf_40 (by decide) ?_
    refine ev_icmp_ne (tgt := 51) dX11_sentenceOf_42 (by decide) (fun c => ?_) (fun c => ?_)
    · replace h := h.1 c
      refine ev_sipush (v := 351) dX11_sentenceOf_51 (by decide) ?_
      refine ev_bipush (v := 6) dX11_sentenceOf_54 (by decide) ?_
      refine ev_aload_n dX11_sentenceOf_56 rfl ?_
      refine ev_getA dX11_sentenceOf_57 fl_WithoutEModel_7 lm_0 rfl ?_
      refine ev_iconst (v := 1) dX11_sentenceOf_60 (by decide) ?_
      refine ev_iaN (j := 1) dX11_sentenceOf_61 lm_1 (by decide) (by decide) ?_
      refine ev_imul dX11_sentenceOf_62 ?_
      refine ev_iadd dX11_sentenceOf_63 ?_
      refine ev_istore_n (ls2 := [some (.ref 0), some (.int x1), some (.int (351 + (6 * (M.1 1 1)))), none]) dX11_sentenceOf_64 (Nat.le_of_ble_eq_true rfl) rfl ?_
      refine ev_aload_n dX11_sentenceOf_65 rfl ?_
      refine ev_getA dX11_sentenceOf_66 fl_WithoutEModel_7 lm_0 rfl ?_
      refine ev_iload_n dX11_sentenceOf_69 rfl ?_
      refine ev_iload_n dX11_sentenceOf_70 rfl ?_
      obtain ⟨c, h⟩ := h
      refine ev_iast dX11_sentenceOf_71 lm_1 c ?_
      generalize eM1 : ev_wr M 1 (351 + (6 * (M.1 1 1))).toNatClampNeg x1 = M1
      replace h := h M1 eM1.symm
      refine ev_iconst (v := 0) dX11_sentenceOf_72 (by decide) ?_
      refine ev_istore_n (ls2 := [some (.ref 0), some (.int x1), some (.int (351 + (6 * (M.1 1 1)))), some (.int 0)]) dX11_sentenceOf_73 (Nat.le_of_ble_eq_true rfl) rfl ?_
      exact h
    · replace h := h.2 c
      refine ev_aload_n dX11_sentenceOf_45 rfl ?_
      refine ev_iconst (v := 1) dX11_sentenceOf_46 (by decide) ?_
      obtain ⟨p1, h⟩ := h
      refine ev_callV [.int 1] dX11_sentenceOf_47 ml_WithoutEModel_331 lm_0 rfl rfl (Nat.le_of_ble_eq_true rfl) (qX11_refused p1) ?_
      rintro zr zM ⟨q1, q2⟩
      rw [q1, q2]
      generalize eM2 : rfs M 3 (1 : Int32).toNatClampNeg = M2
      replace h := h M2 eM2.symm
      show Ev LM (d + 1) mX11_sentenceOf 50 [some (.ref 0), some (.int x1), some (.int x2), none] [(.int (-1))] M2 Q
      exact ev_iret dX11_sentenceOf_50 rfl h
  · replace h := h.2 c
    refine ev_aload_n dX11_sentenceOf_7 rfl ?_
    refine ev_getA dX11_sentenceOf_8 fl_WithoutEModel_46 lm_0 rfl ?_
    refine ev_iload_n dX11_sentenceOf_11 rfl ?_
    obtain ⟨c, h⟩ := h
    refine ev_iald dX11_sentenceOf_12 lm_10 c ?_
    refine ev_iconst (v := 0) dX11_sentenceOf_13 (by decide) ?_
    refine ev_bipush (v := 11) dX11_sentenceOf_14 (by decide) ?_
    refine ev_callS [.int (M.1 10 x2.toNatClampNeg), .int 0, .int 11] dX11_sentenceOf_16 ml_WithoutEModel_80 rfl (Nat.le_of_ble_eq_true rfl) (kX11_isIn) ?_
    rintro zr zM ⟨q1, q2⟩
    rw [q1, q2]
    show Ev LM (d + 1) mX11_sentenceOf 19 [some (.ref 0), some (.int x1), some (.int x2), none] [(.int (bi (iin (M.1 10 x2.toNatClampNeg) (0 : Int32) (11 : Int32))))] M Q
    refine ev_if_ne (tgt := 28) dX11_sentenceOf_19 (by decide) (fun c => ?_) (fun c => ?_)
    · replace h := h.1 ((bi_n0 _).mp c)
      refine ev_iinc (v := x2 + 1) (ls2 := [some (.ref 0), some (.int x1), some (.int (x2 + 1)), none]) dX11_sentenceOf_28 rfl rfl rfl ?_
      refine ev_goto (tgt := 2) dX11_sentenceOf_31 (by decide) ?_
      exact h
    · replace h := h.2 ((bi_0 _).mp c)
      refine ev_aload_n dX11_sentenceOf_22 rfl ?_
      refine ev_iconst (v := 0) dX11_sentenceOf_23 (by decide) ?_
      obtain ⟨p1, h⟩ := h
      refine ev_callV [.int 0] dX11_sentenceOf_24 ml_WithoutEModel_331 lm_0 rfl rfl (Nat.le_of_ble_eq_true rfl) (qX11_refused p1) ?_
      rintro zr zM ⟨q1, q2⟩
      rw [q1, q2]
      generalize eM3 : rfs M 3 (0 : Int32).toNatClampNeg = M3
      replace h := h M3 eM3.symm
      show Ev LM (d + 1) mX11_sentenceOf 27 [some (.ref 0), some (.int x1), some (.int x2), none] [(.int (-1))] M3 Q
      exact ev_iret dX11_sentenceOf_27 rfl h
theorem gX11_sentenceOf_74 {d : Nat} {M : ev_Mem} {Q : Option Value → ev_Mem → Prop} {x1 x2 x3 : Int32} (h : (((x1 ≤ x3) → (∀ M1 : ev_Mem, M1 = ev_wr M 1 1 ((M.1 1 1) + 1) → (Q (some (.int ((M1.1 1 1) - 1))) M1))) ∧ ((¬ x1 ≤ x3) → (vp_in x3 5 ∧ (vp_in ((x2 + 1) + x3) 3315 ∧ (∀ M2 : ev_Mem, M2 = ev_wr M 1 ((x2 + 1) + x3).toNatClampNeg (M.1 10 x3.toNatClampNeg) → (Ev LM d mX11_sentenceOf 74 [some (.ref 0), some (.int x1), some (.int x2), some (.int (x3 + 1))] [] M2 Q))))))) : Ev LM d mX11_sentenceOf 74 [some (.ref 0), some (.int x1), some (.int x2), some (.int x3)] [] M Q := by
  refine ev_iload_n dX11_sentenceOf_74 rfl ?_
  refine ev_iload_n dX11_sentenceOf_75 rfl ?_
  refine ev_icmp_ge (tgt := 101) dX11_sentenceOf_76 (by decide) (fun c => ?_) (fun c => ?_)
  · replace h := h.1 c
    refine ev_aload_n dX11_sentenceOf_101 rfl ?_
    refine ev_getA dX11_sentenceOf_102 fl_WithoutEModel_7 lm_0 rfl ?_
    refine ev_iconst (v := 1) dX11_sentenceOf_105 (by decide) ?_
    refine ev_dup2 dX11_sentenceOf_106 rfl rfl ?_
    refine ev_iaN (j := 1) dX11_sentenceOf_107 lm_1 (by decide) (by decide) ?_
    refine ev_iconst (v := 1) dX11_sentenceOf_108 (by decide) ?_
    refine ev_iadd dX11_sentenceOf_109 ?_
    refine ev_isN (j := 1) dX11_sentenceOf_110 lm_1 (by decide) (by decide) ?_
    generalize eM1 : ev_wr M 1 1 ((M.1 1 1) + 1) = M1
    replace h := h M1 eM1.symm
    refine ev_aload_n dX11_sentenceOf_111 rfl ?_
    refine ev_getA dX11_sentenceOf_112 fl_WithoutEModel_7 lm_0 rfl ?_
    refine ev_iconst (v := 1) dX11_sentenceOf_115 (by decide) ?_
    refine ev_iaN (j := 1) dX11_sentenceOf_116 lm_1 (by decide) (by decide) ?_
    refine ev_iconst (v := 1) dX11_sentenceOf_117 (by decide) ?_
    refine ev_isub dX11_sentenceOf_118 ?_
    exact ev_iret dX11_sentenceOf_119 rfl h
  · replace h := h.2 c
    refine ev_aload_n dX11_sentenceOf_79 rfl ?_
    refine ev_getA dX11_sentenceOf_80 fl_WithoutEModel_7 lm_0 rfl ?_
    refine ev_iload_n dX11_sentenceOf_83 rfl ?_
    refine ev_iconst (v := 1) dX11_sentenceOf_84 (by decide) ?_
    refine ev_iadd dX11_sentenceOf_85 ?_
    refine ev_iload_n dX11_sentenceOf_86 rfl ?_
    refine ev_iadd dX11_sentenceOf_87 ?_
    refine ev_aload_n dX11_sentenceOf_88 rfl ?_
    refine ev_getA dX11_sentenceOf_89 fl_WithoutEModel_46 lm_0 rfl ?_
    refine ev_iload_n dX11_sentenceOf_92 rfl ?_
    obtain ⟨c, h⟩ := h
    refine ev_iald dX11_sentenceOf_93 lm_10 c ?_
    obtain ⟨c, h⟩ := h
    refine ev_iast dX11_sentenceOf_94 lm_1 c ?_
    generalize eM2 : ev_wr M 1 ((x2 + 1) + x3).toNatClampNeg (M.1 10 x3.toNatClampNeg) = M2
    replace h := h M2 eM2.symm
    refine ev_iinc (v := x3 + 1) (ls2 := [some (.ref 0), some (.int x1), some (.int x2), some (.int (x3 + 1))]) dX11_sentenceOf_95 rfl rfl rfl ?_
    refine ev_goto (tgt := 74) dX11_sentenceOf_98 (by decide) ?_
    exact h
theorem dX11_sense_0 : decode cX11_sense 0 = .ok (.iload_n 1, 1) := by decide +kernel
theorem dX11_sense_1 : decode cX11_sense 1 = .ok (.iconst 1, 1) := by decide +kernel
theorem dX11_sense_2 : decode cX11_sense 2 = .ok (.iconst 5, 1) := by decide +kernel
theorem dX11_sense_3 : decode cX11_sense 3 = .ok (.invokestatic 80, 3) := by decide +kernel
theorem dX11_sense_6 : decode cX11_sense 6 = .ok (.ifCond .ne 9, 3) := by decide +kernel
theorem dX11_sense_9 : decode cX11_sense 9 = .ok (.aload_n 0, 1) := by decide +kernel
theorem dX11_sense_10 : decode cX11_sense 10 = .ok (.iconst 0, 1) := by decide +kernel
theorem dX11_sense_11 : decode cX11_sense 11 = .ok (.invokevirtual 331, 3) := by decide +kernel
theorem dX11_sense_14 : decode cX11_sense 14 = .ok (.ireturn, 1) := by decide +kernel
theorem dX11_sense_15 : decode cX11_sense 15 = .ok (.aload_n 0, 1) := by decide +kernel
theorem dX11_sense_16 : decode cX11_sense 16 = .ok (.getfield 46, 3) := by decide +kernel
theorem dX11_sense_19 : decode cX11_sense 19 = .ok (.iconst 0, 1) := by decide +kernel
theorem dX11_sense_20 : decode cX11_sense 20 = .ok (.iload_n 2, 1) := by decide +kernel
theorem dX11_sense_21 : decode cX11_sense 21 = .ok (.iastore, 1) := by decide +kernel
theorem dX11_sense_22 : decode cX11_sense 22 = .ok (.aload_n 0, 1) := by decide +kernel
theorem dX11_sense_23 : decode cX11_sense 23 = .ok (.getfield 46, 3) := by decide +kernel
theorem dX11_sense_26 : decode cX11_sense 26 = .ok (.iconst 1, 1) := by decide +kernel
theorem dX11_sense_27 : decode cX11_sense 27 = .ok (.iload_n 3, 1) := by decide +kernel
theorem dX11_sense_28 : decode cX11_sense 28 = .ok (.iastore, 1) := by decide +kernel
theorem dX11_sense_29 : decode cX11_sense 29 = .ok (.aload_n 0, 1) := by decide +kernel
theorem dX11_sense_30 : decode cX11_sense 30 = .ok (.getfield 46, 3) := by decide +kernel
theorem dX11_sense_33 : decode cX11_sense 33 = .ok (.iconst 2, 1) := by decide +kernel
theorem dX11_sense_34 : decode cX11_sense 34 = .ok (.iload 4, 2) := by decide +kernel
theorem dX11_sense_36 : decode cX11_sense 36 = .ok (.iastore, 1) := by decide +kernel
theorem dX11_sense_37 : decode cX11_sense 37 = .ok (.aload_n 0, 1) := by decide +kernel
theorem dX11_sense_38 : decode cX11_sense 38 = .ok (.getfield 46, 3) := by decide +kernel
theorem dX11_sense_41 : decode cX11_sense 41 = .ok (.iconst 3, 1) := by decide +kernel
theorem dX11_sense_42 : decode cX11_sense 42 = .ok (.iload 5, 2) := by decide +kernel
theorem dX11_sense_44 : decode cX11_sense 44 = .ok (.iastore, 1) := by decide +kernel
theorem dX11_sense_45 : decode cX11_sense 45 = .ok (.aload_n 0, 1) := by decide +kernel
theorem dX11_sense_46 : decode cX11_sense 46 = .ok (.getfield 46, 3) := by decide +kernel
theorem dX11_sense_49 : decode cX11_sense 49 = .ok (.iconst 4, 1) := by decide +kernel
theorem dX11_sense_50 : decode cX11_sense 50 = .ok (.iload 6, 2) := by decide +kernel
theorem dX11_sense_52 : decode cX11_sense 52 = .ok (.iastore, 1) := by decide +kernel
theorem dX11_sense_53 : decode cX11_sense 53 = .ok (.aload_n 0, 1) := by decide +kernel
theorem dX11_sense_54 : decode cX11_sense 54 = .ok (.iload_n 1, 1) := by decide +kernel
theorem dX11_sense_55 : decode cX11_sense 55 = .ok (.invokevirtual 340, 3) := by decide +kernel
theorem dX11_sense_58 : decode cX11_sense 58 = .ok (.ireturn, 1) := by decide +kernel
theorem gX11_sense_0 {d : Nat} {M : ev_Mem} {Q : Option Value → ev_Mem → Prop} {x1 x2 x3 x4 x5 x6 : Int32} (h : ((((iin x1 (1 : Int32) (5 : Int32)) = true) → (∀ M1 : ev_Mem, M1 = ev_wr M 10 0 x2 → (∀ M2 : ev_Mem, M2 = ev_wr M1 10 1 x3 → (∀ M3 : ev_Mem, M3 = ev_wr M2 10 2 x4 → (∀ M4 : ev_Mem, M4 = ev_wr M3 10 3 x5 → (∀ M5 : ev_Mem, M5 = ev_wr M4 10 4 x6 → (∃ Q2 : Option Value → ev_Mem → Prop, Cl LM d mX11_sentenceOf [.ref 0, .int x1] M5 Q2 ∧ ∀ (zr : Option Value) (zM : ev_Mem), Q2 zr zM → Ev LM (d + 1) mX11_sense 58 [none, none, none, none, none, none, none] (zr.toList ++ []) zM Q))))))) ∧ (((iin x1 (1 : Int32) (5 : Int32)) = false) → ((vp_in (0 : Int32) 3) ∧ (∀ M6 : ev_Mem, M6 = rfs M 3 (0 : Int32).toNatClampNeg → (Q (some (.int (-1))) M6)))))) : Ev LM (d + 1) mX11_sense 0 [some (.ref 0), some (.int x1), some (.int x2), some (.int x3), some (.int x4), some (.int x5), some (.int x6)] [] M Q := by
  refine ev_iload_n dX11_sense_0 rfl ?_
  refine ev_iconst (v := 1) dX11_sense_1 (by decide) ?_
  refine ev_iconst (v := 5) dX11_sense_2 (by decide) ?_
  refine ev_callS [.int x1, .int 1, .int 5] dX11_sense_3 ml_WithoutEModel_80 rfl (Nat.le_of_ble_eq_true rfl) (kX11_isIn) ?_
  rintro zr zM ⟨q1, q2⟩
  rw [q1, q2]
  show Ev LM (d + 1) mX11_sense 6 [some (.ref 0), some (.int x1), some (.int x2), some (.int x3), some (.int x4), some (.int x5), some (.int x6)] [(.int (bi (iin x1 (1 : Int32) (5 : Int32))))] M Q
  refine ev_if_ne (tgt := 15) dX11_sense_6 (by decide) (fun c => ?_) (fun c => ?_)
  · replace h := h.1 ((bi_n0 _).mp c)
    refine ev_aload_n dX11_sense_15 rfl ?_
    refine ev_getA dX11_sense_16 fl_WithoutEModel_46 lm_0 rfl ?_
    refine ev_iconst (v := 0) dX11_sense_19 (by decide) ?_
    refine ev_iload_n dX11_sense_20 rfl ?_
    refine ev_isN (j := 0) dX11_sense_21 lm_10 (by decide) (by decide) ?_
    generalize eM1 : ev_wr M 10 0 x2 = M1
    replace h := h M1 eM1.symm
    refine ev_aload_n dX11_sense_22 rfl ?_
    refine ev_getA dX11_sense_23 fl_WithoutEModel_46 lm_0 rfl ?_
    refine ev_iconst (v := 1) dX11_sense_26 (by decide) ?_
    refine ev_iload_n dX11_sense_27 rfl ?_
    refine ev_isN (j := 1) dX11_sense_28 lm_10 (by decide) (by decide) ?_
    generalize eM2 : ev_wr M1 10 1 x3 = M2
    replace h := h M2 eM2.symm
    refine ev_aload_n dX11_sense_29 rfl ?_
    refine ev_getA dX11_sense_30 fl_WithoutEModel_46 lm_0 rfl ?_
    refine ev_iconst (v := 2) dX11_sense_33 (by decide) ?_
    refine ev_iload dX11_sense_34 rfl ?_
    refine ev_isN (j := 2) dX11_sense_36 lm_10 (by decide) (by decide) ?_
    generalize eM3 : ev_wr M2 10 2 x4 = M3
    replace h := h M3 eM3.symm
    refine ev_aload_n dX11_sense_37 rfl ?_
    refine ev_getA dX11_sense_38 fl_WithoutEModel_46 lm_0 rfl ?_
    refine ev_iconst (v := 3) dX11_sense_41 (by decide) ?_
    refine ev_iload dX11_sense_42 rfl ?_
    refine ev_isN (j := 3) dX11_sense_44 lm_10 (by decide) (by decide) ?_
    generalize eM4 : ev_wr M3 10 3 x5 = M4
    replace h := h M4 eM4.symm
    refine ev_aload_n dX11_sense_45 rfl ?_
    refine ev_getA dX11_sense_46 fl_WithoutEModel_46 lm_0 rfl ?_
    refine ev_iconst (v := 4) dX11_sense_49 (by decide) ?_
    refine ev_iload dX11_sense_50 rfl ?_
    refine ev_isN (j := 4) dX11_sense_52 lm_10 (by decide) (by decide) ?_
    generalize eM5 : ev_wr M4 10 4 x6 = M5
    replace h := h M5 eM5.symm
    refine ev_aload_n dX11_sense_53 rfl ?_
    refine ev_iload_n dX11_sense_54 rfl ?_
    obtain ⟨Q2, hc, h⟩ := h
    refine ev_callV [.int x1] dX11_sense_55 ml_WithoutEModel_340 lm_0 rfl rfl (Nat.le_of_ble_eq_true rfl) hc (fun zr zM q => ?_)
    refine Ev.weak (ls := [none, none, none, none, none, none, none]) trivial ?_
    exact h zr zM q
  · replace h := h.2 ((bi_0 _).mp c)
    refine ev_aload_n dX11_sense_9 rfl ?_
    refine ev_iconst (v := 0) dX11_sense_10 (by decide) ?_
    obtain ⟨p1, h⟩ := h
    refine ev_callV [.int 0] dX11_sense_11 ml_WithoutEModel_331 lm_0 rfl rfl (Nat.le_of_ble_eq_true rfl) (qX11_refused p1) ?_
    rintro zr zM ⟨q1, q2⟩
    rw [q1, q2]
    generalize eM6 : rfs M 3 (0 : Int32).toNatClampNeg = M6
    replace h := h M6 eM6.symm
    show Ev LM (d + 1) mX11_sense 14 [some (.ref 0), some (.int x1), some (.int x2), some (.int x3), some (.int x4), some (.int x5), some (.int x6)] [(.int (-1))] M6 Q
    exact ev_iret dX11_sense_14 rfl h
theorem gX11_sense_58 {d : Nat} {M : ev_Mem} {Q : Option Value → ev_Mem → Prop} {s0 : Int32} (h : (Q (some (.int s0)) M)) : Ev LM d mX11_sense 58 [none, none, none, none, none, none, none] [(.int s0)] M Q := by
  exact ev_iret dX11_sense_58 rfl h
theorem dX11_keep_0 : decode cX11_keep 0 = .ok (.aload_n 0, 1) := by decide +kernel
theorem dX11_keep_1 : decode cX11_keep 1 = .ok (.getfield 7, 3) := by decide +kernel
theorem dX11_keep_4 : decode cX11_keep 4 = .ok (.iconst 4, 1) := by decide +kernel
theorem dX11_keep_5 : decode cX11_keep 5 = .ok (.iaload, 1) := by decide +kernel
theorem dX11_keep_6 : decode cX11_keep 6 = .ok (.bipush 30, 2) := by decide +kernel
theorem dX11_keep_8 : decode cX11_keep 8 = .ok (.if_icmp .ne 48, 3) := by decide +kernel
theorem dX11_keep_11 : decode cX11_keep 11 = .ok (.iconst 0, 1) := by decide +kernel
theorem dX11_keep_12 : decode cX11_keep 12 = .ok (.istore_n 1, 1) := by decide +kernel
theorem dX11_keep_13 : decode cX11_keep 13 = .ok (.iload_n 1, 1) := by decide +kernel
theorem dX11_keep_14 : decode cX11_keep 14 = .ok (.sipush 2639, 3) := by decide +kernel
theorem dX11_keep_17 : decode cX11_keep 17 = .ok (.if_icmp .ge 29, 3) := by decide +kernel
theorem dX11_keep_20 : decode cX11_keep 20 = .ok (.aload_n 0, 1) := by decide +kernel
theorem dX11_keep_21 : decode cX11_keep 21 = .ok (.getfield 7, 3) := by decide +kernel
theorem dX11_keep_24 : decode cX11_keep 24 = .ok (.sipush 525, 3) := by decide +kernel
theorem dX11_keep_27 : decode cX11_keep 27 = .ok (.iload_n 1, 1) := by decide +kernel
theorem dX11_keep_28 : decode cX11_keep 28 = .ok (.iadd, 1) := by decide +kernel
theorem dX11_keep_29 : decode cX11_keep 29 = .ok (.aload_n 0, 1) := by decide +kernel
theorem dX11_keep_30 : decode cX11_keep 30 = .ok (.getfield 7, 3) := by decide +kernel
theorem dX11_keep_33 : decode cX11_keep 33 = .ok (.sipush 616, 3) := by decide +kernel
theorem dX11_keep_36 : decode cX11_keep 36 = .ok (.iload_n 1, 1) := by decide +kernel
theorem dX11_keep_37 : decode cX11_keep 37 = .ok (.iadd, 1) := by decide +kernel
theorem dX11_keep_38 : decode cX11_keep 38 = .ok (.iaload, 1) := by decide +kernel
theorem dX11_keep_39 : decode cX11_keep 39 = .ok (.iastore, 1) := by decide +kernel
theorem dX11_keep_40 : decode cX11_keep 40 = .ok (.iinc 1 1, 3) := by decide +kernel
theorem dX11_keep_43 : decode cX11_keep 43 = .ok (.goto (-30), 3) := by decide +kernel
theorem dX11_keep_46 : decode cX11_keep 46 = .ok (.aload_n 0, 1) := by decide +kernel
theorem dX11_keep_47 : decode cX11_keep 47 = .ok (.getfield 7, 3) := by decide +kernel
theorem dX11_keep_50 : decode cX11_keep 50 = .ok (.iconst 4, 1) := by decide +kernel
theorem dX11_keep_51 : decode cX11_keep 51 = .ok (.dup2, 1) := by decide +kernel
theorem dX11_keep_52 : decode cX11_keep 52 = .ok (.iaload, 1) := by decide +kernel
theorem dX11_keep_53 : decode cX11_keep 53 = .ok (.iconst 1, 1) := by decide +kernel
theorem dX11_keep_54 : decode cX11_keep 54 = .ok (.isub, 1) := by decide +kernel
theorem dX11_keep_55 : decode cX11_keep 55 = .ok (.iastore, 1) := by decide +kernel
theorem dX11_keep_56 : decode cX11_keep 56 = .ok (.sipush 525, 3) := by decide +kernel
theorem dX11_keep_59 : decode cX11_keep 59 = .ok (.bipush 91, 2) := by decide +kernel
theorem dX11_keep_61 : decode cX11_keep 61 = .ok (.aload_n 0, 1) := by decide +kernel
theorem dX11_keep_62 : decode cX11_keep 62 = .ok (.getfield 7, 3) := by decide +kernel
theorem dX11_keep_65 : decode cX11_keep 65 = .ok (.iconst 4, 1) := by decide +kernel
theorem dX11_keep_66 : decode cX11_keep 66 = .ok (.iaload, 1) := by decide +kernel
theorem dX11_keep_67 : decode cX11_keep 67 = .ok (.imul, 1) := by decide +kernel
theorem dX11_keep_68 : decode cX11_keep 68 = .ok (.iadd, 1) := by decide +kernel
theorem dX11_keep_69 : decode cX11_keep 69 = .ok (.istore_n 1, 1) := by decide +kernel
theorem dX11_keep_70 : decode cX11_keep 70 = .ok (.iconst 0, 1) := by decide +kernel
theorem dX11_keep_71 : decode cX11_keep 71 = .ok (.istore_n 2, 1) := by decide +kernel
theorem dX11_keep_72 : decode cX11_keep 72 = .ok (.iload_n 2, 1) := by decide +kernel
theorem dX11_keep_73 : decode cX11_keep 73 = .ok (.bipush 31, 2) := by decide +kernel
theorem dX11_keep_75 : decode cX11_keep 75 = .ok (.if_icmp .ge 26, 3) := by decide +kernel
theorem dX11_keep_78 : decode cX11_keep 78 = .ok (.aload_n 0, 1) := by decide +kernel
theorem dX11_keep_79 : decode cX11_keep 79 = .ok (.getfield 7, 3) := by decide +kernel
theorem dX11_keep_82 : decode cX11_keep 82 = .ok (.iload_n 1, 1) := by decide +kernel
theorem dX11_keep_83 : decode cX11_keep 83 = .ok (.iload_n 2, 1) := by decide +kernel
theorem dX11_keep_84 : decode cX11_keep 84 = .ok (.iadd, 1) := by decide +kernel
theorem dX11_keep_85 : decode cX11_keep 85 = .ok (.aload_n 0, 1) := by decide +kernel
theorem dX11_keep_86 : decode cX11_keep 86 = .ok (.getfield 7, 3) := by decide +kernel
theorem dX11_keep_89 : decode cX11_keep 89 = .ok (.bipush 8, 2) := by decide +kernel
theorem dX11_keep_91 : decode cX11_keep 91 = .ok (.iload_n 2, 1) := by decide +kernel
theorem dX11_keep_92 : decode cX11_keep 92 = .ok (.iadd, 1) := by decide +kernel
theorem dX11_keep_93 : decode cX11_keep 93 = .ok (.iaload, 1) := by decide +kernel
theorem dX11_keep_94 : decode cX11_keep 94 = .ok (.iastore, 1) := by decide +kernel
theorem dX11_keep_95 : decode cX11_keep 95 = .ok (.iinc 2 1, 3) := by decide +kernel
theorem dX11_keep_98 : decode cX11_keep 98 = .ok (.goto (-26), 3) := by decide +kernel
theorem dX11_keep_101 : decode cX11_keep 101 = .ok (.iconst 0, 1) := by decide +kernel
theorem dX11_keep_102 : decode cX11_keep 102 = .ok (.istore_n 2, 1) := by decide +kernel
theorem dX11_keep_103 : decode cX11_keep 103 = .ok (.iload_n 2, 1) := by decide +kernel
theorem dX11_keep_104 : decode cX11_keep 104 = .ok (.bipush 60, 2) := by decide +kernel
theorem dX11_keep_106 : decode cX11_keep 106 = .ok (.if_icmp .ge 30, 3) := by decide +kernel
theorem dX11_keep_109 : decode cX11_keep 109 = .ok (.aload_n 0, 1) := by decide +kernel
theorem dX11_keep_110 : decode cX11_keep 110 = .ok (.getfield 7, 3) := by decide +kernel
theorem dX11_keep_113 : decode cX11_keep 113 = .ok (.iload_n 1, 1) := by decide +kernel
theorem dX11_keep_114 : decode cX11_keep 114 = .ok (.bipush 31, 2) := by decide +kernel
theorem dX11_keep_116 : decode cX11_keep 116 = .ok (.iadd, 1) := by decide +kernel
theorem dX11_keep_117 : decode cX11_keep 117 = .ok (.iload_n 2, 1) := by decide +kernel
theorem dX11_keep_118 : decode cX11_keep 118 = .ok (.iadd, 1) := by decide +kernel
theorem dX11_keep_119 : decode cX11_keep 119 = .ok (.aload_n 0, 1) := by decide +kernel
theorem dX11_keep_120 : decode cX11_keep 120 = .ok (.getfield 7, 3) := by decide +kernel
theorem dX11_keep_123 : decode cX11_keep 123 = .ok (.sipush 3255, 3) := by decide +kernel
theorem dX11_keep_126 : decode cX11_keep 126 = .ok (.iload_n 2, 1) := by decide +kernel
theorem dX11_keep_127 : decode cX11_keep 127 = .ok (.iadd, 1) := by decide +kernel
theorem dX11_keep_128 : decode cX11_keep 128 = .ok (.iaload, 1) := by decide +kernel
theorem dX11_keep_129 : decode cX11_keep 129 = .ok (.iastore, 1) := by decide +kernel
theorem dX11_keep_130 : decode cX11_keep 130 = .ok (.iinc 2 1, 3) := by decide +kernel
theorem dX11_keep_133 : decode cX11_keep 133 = .ok (.goto (-30), 3) := by decide +kernel
theorem dX11_keep_136 : decode cX11_keep 136 = .ok (.aload_n 0, 1) := by decide +kernel
theorem dX11_keep_137 : decode cX11_keep 137 = .ok (.getfield 7, 3) := by decide +kernel
theorem dX11_keep_140 : decode cX11_keep 140 = .ok (.iconst 4, 1) := by decide +kernel
theorem dX11_keep_141 : decode cX11_keep 141 = .ok (.dup2, 1) := by decide +kernel
theorem dX11_keep_142 : decode cX11_keep 142 = .ok (.iaload, 1) := by decide +kernel
theorem dX11_keep_143 : decode cX11_keep 143 = .ok (.iconst 1, 1) := by decide +kernel
theorem dX11_keep_144 : decode cX11_keep 144 = .ok (.iadd, 1) := by decide +kernel
theorem dX11_keep_145 : decode cX11_keep 145 = .ok (.iastore, 1) := by decide +kernel
theorem dX11_keep_146 : decode cX11_keep 146 = .ok (.return_, 1) := by decide +kernel
theorem gX11_keep_0 {d : Nat} {M : ev_Mem} {Q : Option Value → ev_Mem → Prop} (h : (((¬ (M.1 1 4) = 30) → (Ev LM d mX11_keep 72 [some (.ref 0), some (.int (525 + (91 * (M.1 1 4)))), some (.int 0)] [] M Q)) ∧ (((M.1 1 4) = 30) → (Ev LM d mX11_keep 13 [some (.ref 0), some (.int 0), none] [] M Q)))) : Ev LM d mX11_keep 0 [some (.ref 0), none, none] [] M Q := by
  refine ev_aload_n dX11_keep_0 rfl ?_
  refine ev_getA dX11_keep_1 fl_WithoutEModel_7 lm_0 rfl ?_
  refine ev_iconst (v := 4) dX11_keep_4 (by decide) ?_
  refine ev_iaN (j := 4) dX11_keep_5 lm_1 (by decide) (by decide) ?_
  refine ev_bipush (v := 30) dX11_keep_6 (by decide) ?_
  refine ev_icmp_ne (tgt := 56) dX11_keep_8 (by decide) (fun c => ?_) (fun c => ?_)
  · replace h := h.1 c
    refine ev_sipush (v := 525) dX11_keep_56 (by decide) ?_
    refine ev_bipush (v := 91) dX11_keep_59 (by decide) ?_
    refine ev_aload_n dX11_keep_61 rfl ?_
    refine ev_getA dX11_keep_62 fl_WithoutEModel_7 lm_0 rfl ?_
    refine ev_iconst (v := 4) dX11_keep_65 (by decide) ?_
    refine ev_iaN (j := 4) dX11_keep_66 lm_1 (by decide) (by decide) ?_
    refine ev_imul dX11_keep_67 ?_
    refine ev_iadd dX11_keep_68 ?_
    refine ev_istore_n (ls2 := [some (.ref 0), some (.int (525 + (91 * (M.1 1 4)))), none]) dX11_keep_69 (Nat.le_of_ble_eq_true rfl) rfl ?_
    refine ev_iconst (v := 0) dX11_keep_70 (by decide) ?_
    refine ev_istore_n (ls2 := [some (.ref 0), some (.int (525 + (91 * (M.1 1 4)))), some (.int 0)]) dX11_keep_71 (Nat.le_of_ble_eq_true rfl) rfl ?_
    exact h
  · replace h := h.2 c
    refine ev_iconst (v := 0) dX11_keep_11 (by decide) ?_
    refine ev_istore_n (ls2 := [some (.ref 0), some (.int 0), none]) dX11_keep_12 (Nat.le_of_ble_eq_true rfl) rfl ?_
    exact h
theorem gX11_keep_72 {d : Nat} {M : ev_Mem} {Q : Option Value → ev_Mem → Prop} {x1 x2 : Int32} (h : (((31 ≤ x2) → (Ev LM d mX11_keep 103 [some (.ref 0), some (.int x1), some (.int 0)] [] M Q)) ∧ ((¬ 31 ≤ x2) → (vp_in (8 + x2) 3315 ∧ (vp_in (x1 + x2) 3315 ∧ (∀ M1 : ev_Mem, M1 = ev_wr M 1 (x1 + x2).toNatClampNeg (M.1 1 (8 + x2).toNatClampNeg) → (Ev LM d mX11_keep 72 [some (.ref 0), some (.int x1), some (.int (x2 + 1))] [] M1 Q))))))) : Ev LM d mX11_keep 72 [some (.ref 0), some (.int x1), some (.int x2)] [] M Q := by
  refine ev_iload_n dX11_keep_72 rfl ?_
  refine ev_bipush (v := 31) dX11_keep_73 (by decide) ?_
  refine ev_icmp_ge (tgt := 101) dX11_keep_75 (by decide) (fun c => ?_) (fun c => ?_)
  · replace h := h.1 c
    refine ev_iconst (v := 0) dX11_keep_101 (by decide) ?_
    refine ev_istore_n (ls2 := [some (.ref 0), some (.int x1), some (.int 0)]) dX11_keep_102 (Nat.le_of_ble_eq_true rfl) rfl ?_
    exact h
  · replace h := h.2 c
    refine ev_aload_n dX11_keep_78 rfl ?_
    refine ev_getA dX11_keep_79 fl_WithoutEModel_7 lm_0 rfl ?_
    refine ev_iload_n dX11_keep_82 rfl ?_
    refine ev_iload_n dX11_keep_83 rfl ?_
    refine ev_iadd dX11_keep_84 ?_
    refine ev_aload_n dX11_keep_85 rfl ?_
    refine ev_getA dX11_keep_86 fl_WithoutEModel_7 lm_0 rfl ?_
    refine ev_bipush (v := 8) dX11_keep_89 (by decide) ?_
    refine ev_iload_n dX11_keep_91 rfl ?_
    refine ev_iadd dX11_keep_92 ?_
    obtain ⟨c, h⟩ := h
    refine ev_iald dX11_keep_93 lm_1 c ?_
    obtain ⟨c, h⟩ := h
    refine ev_iast dX11_keep_94 lm_1 c ?_
    generalize eM1 : ev_wr M 1 (x1 + x2).toNatClampNeg (M.1 1 (8 + x2).toNatClampNeg) = M1
    replace h := h M1 eM1.symm
    refine ev_iinc (v := x2 + 1) (ls2 := [some (.ref 0), some (.int x1), some (.int (x2 + 1))]) dX11_keep_95 rfl rfl rfl ?_
    refine ev_goto (tgt := 72) dX11_keep_98 (by decide) ?_
    exact h
theorem gX11_keep_13 {d : Nat} {M : ev_Mem} {Q : Option Value → ev_Mem → Prop} {x1 : Int32} (h : (((2639 ≤ x1) → (∀ M1 : ev_Mem, M1 = ev_wr M 1 4 ((M.1 1 4) - 1) → (Ev LM d mX11_keep 72 [some (.ref 0), some (.int (525 + (91 * (M1.1 1 4)))), some (.int 0)] [] M1 Q))) ∧ ((¬ 2639 ≤ x1) → (vp_in (616 + x1) 3315 ∧ (vp_in (525 + x1) 3315 ∧ (∀ M2 : ev_Mem, M2 = ev_wr M 1 (525 + x1).toNatClampNeg (M.1 1 (616 + x1).toNatClampNeg) → (Ev LM d mX11_keep 13 [some (.ref 0), some (.int (x1 + 1)), none] [] M2 Q))))))) : Ev LM d mX11_keep 13 [some (.ref 0), some (.int x1), none] [] M Q := by
  refine ev_iload_n dX11_keep_13 rfl ?_
  refine ev_sipush (v := 2639) dX11_keep_14 (by decide) ?_
  refine ev_icmp_ge (tgt := 46) dX11_keep_17 (by decide) (fun c => ?_) (fun c => ?_)
  · replace h := h.1 c
    refine ev_aload_n dX11_keep_46 rfl ?_
    refine ev_getA dX11_keep_47 fl_WithoutEModel_7 lm_0 rfl ?_
    refine ev_iconst (v := 4) dX11_keep_50 (by decide) ?_
    refine ev_dup2 dX11_keep_51 rfl rfl ?_
    refine ev_iaN (j := 4) dX11_keep_52 lm_1 (by decide) (by decide) ?_
    refine ev_iconst (v := 1) dX11_keep_53 (by decide) ?_
    refine ev_isub dX11_keep_54 ?_
    refine ev_isN (j := 4) dX11_keep_55 lm_1 (by decide) (by decide) ?_
    generalize eM1 : ev_wr M 1 4 ((M.1 1 4) - 1) = M1
    replace h := h M1 eM1.symm
    refine ev_sipush (v := 525) dX11_keep_56 (by decide) ?_
    refine ev_bipush (v := 91) dX11_keep_59 (by decide) ?_
    refine ev_aload_n dX11_keep_61 rfl ?_
    refine ev_getA dX11_keep_62 fl_WithoutEModel_7 lm_0 rfl ?_
    refine ev_iconst (v := 4) dX11_keep_65 (by decide) ?_
    refine ev_iaN (j := 4) dX11_keep_66 lm_1 (by decide) (by decide) ?_
    refine ev_imul dX11_keep_67 ?_
    refine ev_iadd dX11_keep_68 ?_
    refine ev_istore_n (ls2 := [some (.ref 0), some (.int (525 + (91 * (M1.1 1 4)))), none]) dX11_keep_69 (Nat.le_of_ble_eq_true rfl) rfl ?_
    refine ev_iconst (v := 0) dX11_keep_70 (by decide) ?_
    refine ev_istore_n (ls2 := [some (.ref 0), some (.int (525 + (91 * (M1.1 1 4)))), some (.int 0)]) dX11_keep_71 (Nat.le_of_ble_eq_true rfl) rfl ?_
    exact h
  · replace h := h.2 c
    refine ev_aload_n dX11_keep_20 rfl ?_
    refine ev_getA dX11_keep_21 fl_WithoutEModel_7 lm_0 rfl ?_
    refine ev_sipush (v := 525) dX11_keep_24 (by decide) ?_
    refine ev_iload_n dX11_keep_27 rfl ?_
    refine ev_iadd dX11_keep_28 ?_
    refine ev_aload_n dX11_keep_29 rfl ?_
    refine ev_getA dX11_keep_30 fl_WithoutEModel_7 lm_0 rfl ?_
    refine ev_sipush (v := 616) dX11_keep_33 (by decide) ?_
    refine ev_iload_n dX11_keep_36 rfl ?_
    refine ev_iadd dX11_keep_37 ?_
    obtain ⟨c, h⟩ := h
    refine ev_iald dX11_keep_38 lm_1 c ?_
    obtain ⟨c, h⟩ := h
    refine ev_iast dX11_keep_39 lm_1 c ?_
    generalize eM2 : ev_wr M 1 (525 + x1).toNatClampNeg (M.1 1 (616 + x1).toNatClampNeg) = M2
    replace h := h M2 eM2.symm
    refine ev_iinc (v := x1 + 1) (ls2 := [some (.ref 0), some (.int (x1 + 1)), none]) dX11_keep_40 rfl rfl rfl ?_
    refine ev_goto (tgt := 13) dX11_keep_43 (by decide) ?_
    exact h
theorem gX11_keep_103 {d : Nat} {M : ev_Mem} {Q : Option Value → ev_Mem → Prop} {x1 x2 : Int32} (h : (((60 ≤ x2) → (∀ M1 : ev_Mem, M1 = ev_wr M 1 4 ((M.1 1 4) + 1) → (Q none M1))) ∧ ((¬ 60 ≤ x2) → (vp_in (3255 + x2) 3315 ∧ (vp_in ((x1 + 31) + x2) 3315 ∧ (∀ M2 : ev_Mem, M2 = ev_wr M 1 ((x1 + 31) + x2).toNatClampNeg (M.1 1 (3255 + x2).toNatClampNeg) → (Ev LM d mX11_keep 103 [some (.ref 0), some (.int x1), some (.int (x2 + 1))] [] M2 Q))))))) : Ev LM d mX11_keep 103 [some (.ref 0), some (.int x1), some (.int x2)] [] M Q := by
  refine ev_iload_n dX11_keep_103 rfl ?_
  refine ev_bipush (v := 60) dX11_keep_104 (by decide) ?_
  refine ev_icmp_ge (tgt := 136) dX11_keep_106 (by decide) (fun c => ?_) (fun c => ?_)
  · replace h := h.1 c
    refine ev_aload_n dX11_keep_136 rfl ?_
    refine ev_getA dX11_keep_137 fl_WithoutEModel_7 lm_0 rfl ?_
    refine ev_iconst (v := 4) dX11_keep_140 (by decide) ?_
    refine ev_dup2 dX11_keep_141 rfl rfl ?_
    refine ev_iaN (j := 4) dX11_keep_142 lm_1 (by decide) (by decide) ?_
    refine ev_iconst (v := 1) dX11_keep_143 (by decide) ?_
    refine ev_iadd dX11_keep_144 ?_
    refine ev_isN (j := 4) dX11_keep_145 lm_1 (by decide) (by decide) ?_
    generalize eM1 : ev_wr M 1 4 ((M.1 1 4) + 1) = M1
    replace h := h M1 eM1.symm
    exact ev_vret dX11_keep_146 rfl h
  · replace h := h.2 c
    refine ev_aload_n dX11_keep_109 rfl ?_
    refine ev_getA dX11_keep_110 fl_WithoutEModel_7 lm_0 rfl ?_
    refine ev_iload_n dX11_keep_113 rfl ?_
    refine ev_bipush (v := 31) dX11_keep_114 (by decide) ?_
    refine ev_iadd dX11_keep_116 ?_
    refine ev_iload_n dX11_keep_117 rfl ?_
    refine ev_iadd dX11_keep_118 ?_
    refine ev_aload_n dX11_keep_119 rfl ?_
    refine ev_getA dX11_keep_120 fl_WithoutEModel_7 lm_0 rfl ?_
    refine ev_sipush (v := 3255) dX11_keep_123 (by decide) ?_
    refine ev_iload_n dX11_keep_126 rfl ?_
    refine ev_iadd dX11_keep_127 ?_
    obtain ⟨c, h⟩ := h
    refine ev_iald dX11_keep_128 lm_1 c ?_
    obtain ⟨c, h⟩ := h
    refine ev_iast dX11_keep_129 lm_1 c ?_
    generalize eM2 : ev_wr M 1 ((x1 + 31) + x2).toNatClampNeg (M.1 1 (3255 + x2).toNatClampNeg) = M2
    replace h := h M2 eM2.symm
    refine ev_iinc (v := x2 + 1) (ls2 := [some (.ref 0), some (.int x1), some (.int (x2 + 1))]) dX11_keep_130 rfl rfl rfl ?_
    refine ev_goto (tgt := 103) dX11_keep_133 (by decide) ?_
    exact h
theorem dX11_note_0 : decode cX11_note 0 = .ok (.aload_n 0, 1) := by decide +kernel
theorem dX11_note_1 : decode cX11_note 1 = .ok (.getfield 7, 3) := by decide +kernel
theorem dX11_note_4 : decode cX11_note 4 = .ok (.bipush 12, 2) := by decide +kernel
theorem dX11_note_6 : decode cX11_note 6 = .ok (.iaload, 1) := by decide +kernel
theorem dX11_note_7 : decode cX11_note 7 = .ok (.bipush 30, 2) := by decide +kernel
theorem dX11_note_9 : decode cX11_note 9 = .ok (.if_icmp .ne 54, 3) := by decide +kernel
theorem dX11_note_12 : decode cX11_note 12 = .ok (.iconst 2, 1) := by decide +kernel
theorem dX11_note_13 : decode cX11_note 13 = .ok (.istore 4, 2) := by decide +kernel
theorem dX11_note_15 : decode cX11_note 15 = .ok (.iload 4, 2) := by decide +kernel
theorem dX11_note_17 : decode cX11_note 17 = .ok (.bipush 60, 2) := by decide +kernel
theorem dX11_note_19 : decode cX11_note 19 = .ok (.if_icmp .ge 33, 3) := by decide +kernel
theorem dX11_note_22 : decode cX11_note 22 = .ok (.aload_n 0, 1) := by decide +kernel
theorem dX11_note_23 : decode cX11_note 23 = .ok (.getfield 7, 3) := by decide +kernel
theorem dX11_note_26 : decode cX11_note 26 = .ok (.sipush 3255, 3) := by decide +kernel
theorem dX11_note_29 : decode cX11_note 29 = .ok (.iload 4, 2) := by decide +kernel
theorem dX11_note_31 : decode cX11_note 31 = .ok (.iadd, 1) := by decide +kernel
theorem dX11_note_32 : decode cX11_note 32 = .ok (.iconst 2, 1) := by decide +kernel
theorem dX11_note_33 : decode cX11_note 33 = .ok (.isub, 1) := by decide +kernel
theorem dX11_note_34 : decode cX11_note 34 = .ok (.aload_n 0, 1) := by decide +kernel
theorem dX11_note_35 : decode cX11_note 35 = .ok (.getfield 7, 3) := by decide +kernel
theorem dX11_note_38 : decode cX11_note 38 = .ok (.sipush 3255, 3) := by decide +kernel
theorem dX11_note_41 : decode cX11_note 41 = .ok (.iload 4, 2) := by decide +kernel
theorem dX11_note_43 : decode cX11_note 43 = .ok (.iadd, 1) := by decide +kernel
theorem dX11_note_44 : decode cX11_note 44 = .ok (.iaload, 1) := by decide +kernel
theorem dX11_note_45 : decode cX11_note 45 = .ok (.iastore, 1) := by decide +kernel
theorem dX11_note_46 : decode cX11_note 46 = .ok (.iinc 4 1, 3) := by decide +kernel
theorem dX11_note_49 : decode cX11_note 49 = .ok (.goto (-34), 3) := by decide +kernel
theorem dX11_note_52 : decode cX11_note 52 = .ok (.aload_n 0, 1) := by decide +kernel
theorem dX11_note_53 : decode cX11_note 53 = .ok (.getfield 7, 3) := by decide +kernel
theorem dX11_note_56 : decode cX11_note 56 = .ok (.bipush 12, 2) := by decide +kernel
theorem dX11_note_58 : decode cX11_note 58 = .ok (.dup2, 1) := by decide +kernel
theorem dX11_note_59 : decode cX11_note 59 = .ok (.iaload, 1) := by decide +kernel
theorem dX11_note_60 : decode cX11_note 60 = .ok (.iconst 1, 1) := by decide +kernel
theorem dX11_note_61 : decode cX11_note 61 = .ok (.isub, 1) := by decide +kernel
theorem dX11_note_62 : decode cX11_note 62 = .ok (.iastore, 1) := by decide +kernel
theorem dX11_note_63 : decode cX11_note 63 = .ok (.aload_n 0, 1) := by decide +kernel
theorem dX11_note_64 : decode cX11_note 64 = .ok (.getfield 7, 3) := by decide +kernel
theorem dX11_note_67 : decode cX11_note 67 = .ok (.sipush 3255, 3) := by decide +kernel
theorem dX11_note_70 : decode cX11_note 70 = .ok (.iconst 2, 1) := by decide +kernel
theorem dX11_note_71 : decode cX11_note 71 = .ok (.aload_n 0, 1) := by decide +kernel
theorem dX11_note_72 : decode cX11_note 72 = .ok (.getfield 7, 3) := by decide +kernel
theorem dX11_note_75 : decode cX11_note 75 = .ok (.bipush 12, 2) := by decide +kernel
theorem dX11_note_77 : decode cX11_note 77 = .ok (.iaload, 1) := by decide +kernel
theorem dX11_note_78 : decode cX11_note 78 = .ok (.imul, 1) := by decide +kernel
theorem dX11_note_79 : decode cX11_note 79 = .ok (.iadd, 1) := by decide +kernel
theorem dX11_note_80 : decode cX11_note 80 = .ok (.aload_n 0, 1) := by decide +kernel
theorem dX11_note_81 : decode cX11_note 81 = .ok (.getfield 7, 3) := by decide +kernel
theorem dX11_note_84 : decode cX11_note 84 = .ok (.bipush 8, 2) := by decide +kernel
theorem dX11_note_86 : decode cX11_note 86 = .ok (.iaload, 1) := by decide +kernel
theorem dX11_note_87 : decode cX11_note 87 = .ok (.iastore, 1) := by decide +kernel
theorem dX11_note_88 : decode cX11_note 88 = .ok (.aload_n 0, 1) := by decide +kernel
theorem dX11_note_89 : decode cX11_note 89 = .ok (.getfield 7, 3) := by decide +kernel
theorem dX11_note_92 : decode cX11_note 92 = .ok (.sipush 3255, 3) := by decide +kernel
theorem dX11_note_95 : decode cX11_note 95 = .ok (.iconst 2, 1) := by decide +kernel
theorem dX11_note_96 : decode cX11_note 96 = .ok (.aload_n 0, 1) := by decide +kernel
theorem dX11_note_97 : decode cX11_note 97 = .ok (.getfield 7, 3) := by decide +kernel
theorem dX11_note_100 : decode cX11_note 100 = .ok (.bipush 12, 2) := by decide +kernel
theorem dX11_note_102 : decode cX11_note 102 = .ok (.iaload, 1) := by decide +kernel
theorem dX11_note_103 : decode cX11_note 103 = .ok (.imul, 1) := by decide +kernel
theorem dX11_note_104 : decode cX11_note 104 = .ok (.iadd, 1) := by decide +kernel
theorem dX11_note_105 : decode cX11_note 105 = .ok (.iconst 1, 1) := by decide +kernel
theorem dX11_note_106 : decode cX11_note 106 = .ok (.iadd, 1) := by decide +kernel
theorem dX11_note_107 : decode cX11_note 107 = .ok (.iload_n 1, 1) := by decide +kernel
theorem dX11_note_108 : decode cX11_note 108 = .ok (.iconst 4, 1) := by decide +kernel
theorem dX11_note_109 : decode cX11_note 109 = .ok (.imul, 1) := by decide +kernel
theorem dX11_note_110 : decode cX11_note 110 = .ok (.iload_n 2, 1) := by decide +kernel
theorem dX11_note_111 : decode cX11_note 111 = .ok (.iadd, 1) := by decide +kernel
theorem dX11_note_112 : decode cX11_note 112 = .ok (.sipush 10000, 3) := by decide +kernel
theorem dX11_note_115 : decode cX11_note 115 = .ok (.imul, 1) := by decide +kernel
theorem dX11_note_116 : decode cX11_note 116 = .ok (.iload_n 3, 1) := by decide +kernel
theorem dX11_note_117 : decode cX11_note 117 = .ok (.iadd, 1) := by decide +kernel
theorem dX11_note_118 : decode cX11_note 118 = .ok (.iastore, 1) := by decide +kernel
theorem dX11_note_119 : decode cX11_note 119 = .ok (.aload_n 0, 1) := by decide +kernel
theorem dX11_note_120 : decode cX11_note 120 = .ok (.getfield 7, 3) := by decide +kernel
theorem dX11_note_123 : decode cX11_note 123 = .ok (.bipush 12, 2) := by decide +kernel
theorem dX11_note_125 : decode cX11_note 125 = .ok (.dup2, 1) := by decide +kernel
theorem dX11_note_126 : decode cX11_note 126 = .ok (.iaload, 1) := by decide +kernel
theorem dX11_note_127 : decode cX11_note 127 = .ok (.iconst 1, 1) := by decide +kernel
theorem dX11_note_128 : decode cX11_note 128 = .ok (.iadd, 1) := by decide +kernel
theorem dX11_note_129 : decode cX11_note 129 = .ok (.iastore, 1) := by decide +kernel
theorem dX11_note_130 : decode cX11_note 130 = .ok (.return_, 1) := by decide +kernel
theorem gX11_note_0 {d : Nat} {M : ev_Mem} {Q : Option Value → ev_Mem → Prop} {x1 x2 x3 : Int32} (h : (((¬ (M.1 1 12) = 30) → (vp_in (3255 + (2 * (M.1 1 12))) 3315 ∧ (∀ M1 : ev_Mem, M1 = ev_wr M 1 (3255 + (2 * (M.1 1 12))).toNatClampNeg (M.1 1 8) → (vp_in ((3255 + (2 * (M1.1 1 12))) + 1) 3315 ∧ (∀ M2 : ev_Mem, M2 = ev_wr M1 1 ((3255 + (2 * (M1.1 1 12))) + 1).toNatClampNeg ((((x1 * 4) + x2) * 10000) + x3) → (∀ M3 : ev_Mem, M3 = ev_wr M2 1 12 ((M2.1 1 12) + 1) → (Q none M3))))))) ∧ (((M.1 1 12) = 30) → (Ev LM d mX11_note 15 [some (.ref 0), some (.int x1), some (.int x2), some (.int x3), some (.int 2)] [] M Q)))) : Ev LM d mX11_note 0 [some (.ref 0), some (.int x1), some (.int x2), some (.int x3), none] [] M Q := by
  refine ev_aload_n dX11_note_0 rfl ?_
  refine ev_getA dX11_note_1 fl_WithoutEModel_7 lm_0 rfl ?_
  refine ev_bipush (v := 12) dX11_note_4 (by decide) ?_
  refine ev_iaN (j := 12) dX11_note_6 lm_1 (by decide) (by decide) ?_
  refine ev_bipush (v := 30) dX11_note_7 (by decide) ?_
  refine ev_icmp_ne (tgt := 63) dX11_note_9 (by decide) (fun c => ?_) (fun c => ?_)
  · replace h := h.1 c
    refine ev_aload_n dX11_note_63 rfl ?_
    refine ev_getA dX11_note_64 fl_WithoutEModel_7 lm_0 rfl ?_
    refine ev_sipush (v := 3255) dX11_note_67 (by decide) ?_
    refine ev_iconst (v := 2) dX11_note_70 (by decide) ?_
    refine ev_aload_n dX11_note_71 rfl ?_
    refine ev_getA dX11_note_72 fl_WithoutEModel_7 lm_0 rfl ?_
    refine ev_bipush (v := 12) dX11_note_75 (by decide) ?_
    refine ev_iaN (j := 12) dX11_note_77 lm_1 (by decide) (by decide) ?_
    refine ev_imul dX11_note_78 ?_
    refine ev_iadd dX11_note_79 ?_
    refine ev_aload_n dX11_note_80 rfl ?_
    refine ev_getA dX11_note_81 fl_WithoutEModel_7 lm_0 rfl ?_
    refine ev_bipush (v := 8) dX11_note_84 (by decide) ?_
    refine ev_iaN (j := 8) dX11_note_86 lm_1 (by decide) (by decide) ?_
    obtain ⟨c, h⟩ := h
    refine ev_iast dX11_note_87 lm_1 c ?_
    generalize eM1 : ev_wr M 1 (3255 + (2 * (M.1 1 12))).toNatClampNeg (M.1 1 8) = M1
    replace h := h M1 eM1.symm
    refine ev_aload_n dX11_note_88 rfl ?_
    refine ev_getA dX11_note_89 fl_WithoutEModel_7 lm_0 rfl ?_
    refine ev_sipush (v := 3255) dX11_note_92 (by decide) ?_
    refine ev_iconst (v := 2) dX11_note_95 (by decide) ?_
    refine ev_aload_n dX11_note_96 rfl ?_
    refine ev_getA dX11_note_97 fl_WithoutEModel_7 lm_0 rfl ?_
    refine ev_bipush (v := 12) dX11_note_100 (by decide) ?_
    refine ev_iaN (j := 12) dX11_note_102 lm_1 (by decide) (by decide) ?_
    refine ev_imul dX11_note_103 ?_
    refine ev_iadd dX11_note_104 ?_
    refine ev_iconst (v := 1) dX11_note_105 (by decide) ?_
    refine ev_iadd dX11_note_106 ?_
    refine ev_iload_n dX11_note_107 rfl ?_
    refine ev_iconst (v := 4) dX11_note_108 (by decide) ?_
    refine ev_imul dX11_note_109 ?_
    refine ev_iload_n dX11_note_110 rfl ?_
    refine ev_iadd dX11_note_111 ?_
    refine ev_sipush (v := 10000) dX11_note_112 (by decide) ?_
    refine ev_imul dX11_note_115 ?_
    refine ev_iload_n dX11_note_116 rfl ?_
    refine ev_iadd dX11_note_117 ?_
    obtain ⟨c, h⟩ := h
    refine ev_iast dX11_note_118 lm_1 c ?_
    generalize eM2 : ev_wr M1 1 ((3255 + (2 * (M1.1 1 12))) + 1).toNatClampNeg ((((x1 * 4) + x2) * 10000) + x3) = M2
    replace h := h M2 eM2.symm
    refine ev_aload_n dX11_note_119 rfl ?_
    refine ev_getA dX11_note_120 fl_WithoutEModel_7 lm_0 rfl ?_
    refine ev_bipush (v := 12) dX11_note_123 (by decide) ?_
    refine ev_dup2 dX11_note_125 rfl rfl ?_
    refine ev_iaN (j := 12) dX11_note_126 lm_1 (by decide) (by decide) ?_
    refine ev_iconst (v := 1) dX11_note_127 (by decide) ?_
    refine ev_iadd dX11_note_128 ?_
    refine ev_isN (j := 12) dX11_note_129 lm_1 (by decide) (by decide) ?_
    generalize eM3 : ev_wr M2 1 12 ((M2.1 1 12) + 1) = M3
    replace h := h M3 eM3.symm
    exact ev_vret dX11_note_130 rfl h
  · replace h := h.2 c
    refine ev_iconst (v := 2) dX11_note_12 (by decide) ?_
    refine ev_istore (ls2 := [some (.ref 0), some (.int x1), some (.int x2), some (.int x3), some (.int 2)]) dX11_note_13 (Nat.le_of_ble_eq_true rfl) rfl ?_
    exact h
theorem gX11_note_15 {d : Nat} {M : ev_Mem} {Q : Option Value → ev_Mem → Prop} {x1 x2 x3 x4 : Int32} (h : (((60 ≤ x4) → (∀ M1 : ev_Mem, M1 = ev_wr M 1 12 ((M.1 1 12) - 1) → (vp_in (3255 + (2 * (M1.1 1 12))) 3315 ∧ (∀ M2 : ev_Mem, M2 = ev_wr M1 1 (3255 + (2 * (M1.1 1 12))).toNatClampNeg (M1.1 1 8) → (vp_in ((3255 + (2 * (M2.1 1 12))) + 1) 3315 ∧ (∀ M3 : ev_Mem, M3 = ev_wr M2 1 ((3255 + (2 * (M2.1 1 12))) + 1).toNatClampNeg ((((x1 * 4) + x2) * 10000) + x3) → (∀ M4 : ev_Mem, M4 = ev_wr M3 1 12 ((M3.1 1 12) + 1) → (Q none M4)))))))) ∧ ((¬ 60 ≤ x4) → (vp_in (3255 + x4) 3315 ∧ (vp_in ((3255 + x4) - 2) 3315 ∧ (∀ M5 : ev_Mem, M5 = ev_wr M 1 ((3255 + x4) - 2).toNatClampNeg (M.1 1 (3255 + x4).toNatClampNeg) → (Ev LM d mX11_note 15 [some (.ref 0), some (.int x1), some (.int x2), some (.int x3), some (.int (x4 + 1))] [] M5 Q))))))) : Ev LM d mX11_note 15 [some (.ref 0), some (.int x1), some (.int x2), some (.int x3), some (.int x4)] [] M Q := by
  refine ev_iload dX11_note_15 rfl ?_
  refine ev_bipush (v := 60) dX11_note_17 (by decide) ?_
  refine ev_icmp_ge (tgt := 52) dX11_note_19 (by decide) (fun c => ?_) (fun c => ?_)
  · replace h := h.1 c
    refine ev_aload_n dX11_note_52 rfl ?_
    refine ev_getA dX11_note_53 fl_WithoutEModel_7 lm_0 rfl ?_
    refine ev_bipush (v := 12) dX11_note_56 (by decide) ?_
    refine ev_dup2 dX11_note_58 rfl rfl ?_
    refine ev_iaN (j := 12) dX11_note_59 lm_1 (by decide) (by decide) ?_
    refine ev_iconst (v := 1) dX11_note_60 (by decide) ?_
    refine ev_isub dX11_note_61 ?_
    refine ev_isN (j := 12) dX11_note_62 lm_1 (by decide) (by decide) ?_
    generalize eM1 : ev_wr M 1 12 ((M.1 1 12) - 1) = M1
    replace h := h M1 eM1.symm
    refine ev_aload_n dX11_note_63 rfl ?_
    refine ev_getA dX11_note_64 fl_WithoutEModel_7 lm_0 rfl ?_
    refine ev_sipush (v := 3255) dX11_note_67 (by decide) ?_
    refine ev_iconst (v := 2) dX11_note_70 (by decide) ?_
    refine ev_aload_n dX11_note_71 rfl ?_
    refine ev_getA dX11_note_72 fl_WithoutEModel_7 lm_0 rfl ?_
    refine ev_bipush (v := 12) dX11_note_75 (by decide) ?_
    refine ev_iaN (j := 12) dX11_note_77 lm_1 (by decide) (by decide) ?_
    refine ev_imul dX11_note_78 ?_
    refine ev_iadd dX11_note_79 ?_
    refine ev_aload_n dX11_note_80 rfl ?_
    refine ev_getA dX11_note_81 fl_WithoutEModel_7 lm_0 rfl ?_
    refine ev_bipush (v := 8) dX11_note_84 (by decide) ?_
    refine ev_iaN (j := 8) dX11_note_86 lm_1 (by decide) (by decide) ?_
    obtain ⟨c, h⟩ := h
    refine ev_iast dX11_note_87 lm_1 c ?_
    generalize eM2 : ev_wr M1 1 (3255 + (2 * (M1.1 1 12))).toNatClampNeg (M1.1 1 8) = M2
    replace h := h M2 eM2.symm
    refine ev_aload_n dX11_note_88 rfl ?_
    refine ev_getA dX11_note_89 fl_WithoutEModel_7 lm_0 rfl ?_
    refine ev_sipush (v := 3255) dX11_note_92 (by decide) ?_
    refine ev_iconst (v := 2) dX11_note_95 (by decide) ?_
    refine ev_aload_n dX11_note_96 rfl ?_
    refine ev_getA dX11_note_97 fl_WithoutEModel_7 lm_0 rfl ?_
    refine ev_bipush (v := 12) dX11_note_100 (by decide) ?_
    refine ev_iaN (j := 12) dX11_note_102 lm_1 (by decide) (by decide) ?_
    refine ev_imul dX11_note_103 ?_
    refine ev_iadd dX11_note_104 ?_
    refine ev_iconst (v := 1) dX11_note_105 (by decide) ?_
    refine ev_iadd dX11_note_106 ?_
    refine ev_iload_n dX11_note_107 rfl ?_
    refine ev_iconst (v := 4) dX11_note_108 (by decide) ?_
    refine ev_imul dX11_note_109 ?_
    refine ev_iload_n dX11_note_110 rfl ?_
    refine ev_iadd dX11_note_111 ?_
    refine ev_sipush (v := 10000) dX11_note_112 (by decide) ?_
    refine ev_imul dX11_note_115 ?_
    refine ev_iload_n dX11_note_116 rfl ?_
    refine ev_iadd dX11_note_117 ?_
    obtain ⟨c, h⟩ := h
    refine ev_iast dX11_note_118 lm_1 c ?_
    generalize eM3 : ev_wr M2 1 ((3255 + (2 * (M2.1 1 12))) + 1).toNatClampNeg ((((x1 * 4) + x2) * 10000) + x3) = M3
    replace h := h M3 eM3.symm
    refine ev_aload_n dX11_note_119 rfl ?_
    refine ev_getA dX11_note_120 fl_WithoutEModel_7 lm_0 rfl ?_
    refine ev_bipush (v := 12) dX11_note_123 (by decide) ?_
    refine ev_dup2 dX11_note_125 rfl rfl ?_
    refine ev_iaN (j := 12) dX11_note_126 lm_1 (by decide) (by decide) ?_
    refine ev_iconst (v := 1) dX11_note_127 (by decide) ?_
    refine ev_iadd dX11_note_128 ?_
    refine ev_isN (j := 12) dX11_note_129 lm_1 (by decide) (by decide) ?_
    generalize eM4 : ev_wr M3 1 12 ((M3.1 1 12) + 1) = M4
    replace h := h M4 eM4.symm
    exact ev_vret dX11_note_130 rfl h
  · replace h := h.2 c
    refine ev_aload_n dX11_note_22 rfl ?_
    refine ev_getA dX11_note_23 fl_WithoutEModel_7 lm_0 rfl ?_
    refine ev_sipush (v := 3255) dX11_note_26 (by decide) ?_
    refine ev_iload dX11_note_29 rfl ?_
    refine ev_iadd dX11_note_31 ?_
    refine ev_iconst (v := 2) dX11_note_32 (by decide) ?_
    refine ev_isub dX11_note_33 ?_
    refine ev_aload_n dX11_note_34 rfl ?_
    refine ev_getA dX11_note_35 fl_WithoutEModel_7 lm_0 rfl ?_
    refine ev_sipush (v := 3255) dX11_note_38 (by decide) ?_
    refine ev_iload dX11_note_41 rfl ?_
    refine ev_iadd dX11_note_43 ?_
    obtain ⟨c, h⟩ := h
    refine ev_iald dX11_note_44 lm_1 c ?_
    obtain ⟨c, h⟩ := h
    refine ev_iast dX11_note_45 lm_1 c ?_
    generalize eM5 : ev_wr M 1 ((3255 + x4) - 2).toNatClampNeg (M.1 1 (3255 + x4).toNatClampNeg) = M5
    replace h := h M5 eM5.symm
    refine ev_iinc (v := x4 + 1) (ls2 := [some (.ref 0), some (.int x1), some (.int x2), some (.int x3), some (.int (x4 + 1))]) dX11_note_46 rfl rfl rfl ?_
    refine ev_goto (tgt := 15) dX11_note_49 (by decide) ?_
    exact h
theorem dX11_undo_0 : decode cX11_undo 0 = .ok (.aload_n 0, 1) := by decide +kernel
theorem dX11_undo_1 : decode cX11_undo 1 = .ok (.getfield 7, 3) := by decide +kernel
theorem dX11_undo_4 : decode cX11_undo 4 = .ok (.iconst 4, 1) := by decide +kernel
theorem dX11_undo_5 : decode cX11_undo 5 = .ok (.iaload, 1) := by decide +kernel
theorem dX11_undo_6 : decode cX11_undo 6 = .ok (.ifCond .ne 5, 3) := by decide +kernel
theorem dX11_undo_9 : decode cX11_undo 9 = .ok (.iconst (-1), 1) := by decide +kernel
theorem dX11_undo_10 : decode cX11_undo 10 = .ok (.ireturn, 1) := by decide +kernel
theorem dX11_undo_11 : decode cX11_undo 11 = .ok (.aload_n 0, 1) := by decide +kernel
theorem dX11_undo_12 : decode cX11_undo 12 = .ok (.getfield 7, 3) := by decide +kernel
theorem dX11_undo_15 : decode cX11_undo 15 = .ok (.iconst 4, 1) := by decide +kernel
theorem dX11_undo_16 : decode cX11_undo 16 = .ok (.dup2, 1) := by decide +kernel
theorem dX11_undo_17 : decode cX11_undo 17 = .ok (.iaload, 1) := by decide +kernel
theorem dX11_undo_18 : decode cX11_undo 18 = .ok (.iconst 1, 1) := by decide +kernel
theorem dX11_undo_19 : decode cX11_undo 19 = .ok (.isub, 1) := by decide +kernel
theorem dX11_undo_20 : decode cX11_undo 20 = .ok (.iastore, 1) := by decide +kernel
theorem dX11_undo_21 : decode cX11_undo 21 = .ok (.sipush 525, 3) := by decide +kernel
theorem dX11_undo_24 : decode cX11_undo 24 = .ok (.bipush 91, 2) := by decide +kernel
theorem dX11_undo_26 : decode cX11_undo 26 = .ok (.aload_n 0, 1) := by decide +kernel
theorem dX11_undo_27 : decode cX11_undo 27 = .ok (.getfield 7, 3) := by decide +kernel
theorem dX11_undo_30 : decode cX11_undo 30 = .ok (.iconst 4, 1) := by decide +kernel
theorem dX11_undo_31 : decode cX11_undo 31 = .ok (.iaload, 1) := by decide +kernel
theorem dX11_undo_32 : decode cX11_undo 32 = .ok (.imul, 1) := by decide +kernel
theorem dX11_undo_33 : decode cX11_undo 33 = .ok (.iadd, 1) := by decide +kernel
theorem dX11_undo_34 : decode cX11_undo 34 = .ok (.istore_n 1, 1) := by decide +kernel
theorem dX11_undo_35 : decode cX11_undo 35 = .ok (.iconst 0, 1) := by decide +kernel
theorem dX11_undo_36 : decode cX11_undo 36 = .ok (.istore_n 2, 1) := by decide +kernel
theorem dX11_undo_37 : decode cX11_undo 37 = .ok (.iload_n 2, 1) := by decide +kernel
theorem dX11_undo_38 : decode cX11_undo 38 = .ok (.bipush 31, 2) := by decide +kernel
theorem dX11_undo_40 : decode cX11_undo 40 = .ok (.if_icmp .ge 26, 3) := by decide +kernel
theorem dX11_undo_43 : decode cX11_undo 43 = .ok (.aload_n 0, 1) := by decide +kernel
theorem dX11_undo_44 : decode cX11_undo 44 = .ok (.getfield 7, 3) := by decide +kernel
theorem dX11_undo_47 : decode cX11_undo 47 = .ok (.bipush 8, 2) := by decide +kernel
theorem dX11_undo_49 : decode cX11_undo 49 = .ok (.iload_n 2, 1) := by decide +kernel
theorem dX11_undo_50 : decode cX11_undo 50 = .ok (.iadd, 1) := by decide +kernel
theorem dX11_undo_51 : decode cX11_undo 51 = .ok (.aload_n 0, 1) := by decide +kernel
theorem dX11_undo_52 : decode cX11_undo 52 = .ok (.getfield 7, 3) := by decide +kernel
theorem dX11_undo_55 : decode cX11_undo 55 = .ok (.iload_n 1, 1) := by decide +kernel
theorem dX11_undo_56 : decode cX11_undo 56 = .ok (.iload_n 2, 1) := by decide +kernel
theorem dX11_undo_57 : decode cX11_undo 57 = .ok (.iadd, 1) := by decide +kernel
theorem dX11_undo_58 : decode cX11_undo 58 = .ok (.iaload, 1) := by decide +kernel
theorem dX11_undo_59 : decode cX11_undo 59 = .ok (.iastore, 1) := by decide +kernel
theorem dX11_undo_60 : decode cX11_undo 60 = .ok (.iinc 2 1, 3) := by decide +kernel
theorem dX11_undo_63 : decode cX11_undo 63 = .ok (.goto (-26), 3) := by decide +kernel
theorem dX11_undo_66 : decode cX11_undo 66 = .ok (.iconst 0, 1) := by decide +kernel
theorem dX11_undo_67 : decode cX11_undo 67 = .ok (.istore_n 2, 1) := by decide +kernel
theorem dX11_undo_68 : decode cX11_undo 68 = .ok (.iload_n 2, 1) := by decide +kernel
theorem dX11_undo_69 : decode cX11_undo 69 = .ok (.bipush 60, 2) := by decide +kernel
theorem dX11_undo_71 : decode cX11_undo 71 = .ok (.if_icmp .ge 30, 3) := by decide +kernel
theorem dX11_undo_74 : decode cX11_undo 74 = .ok (.aload_n 0, 1) := by decide +kernel
theorem dX11_undo_75 : decode cX11_undo 75 = .ok (.getfield 7, 3) := by decide +kernel
theorem dX11_undo_78 : decode cX11_undo 78 = .ok (.sipush 3255, 3) := by decide +kernel
theorem dX11_undo_81 : decode cX11_undo 81 = .ok (.iload_n 2, 1) := by decide +kernel
theorem dX11_undo_82 : decode cX11_undo 82 = .ok (.iadd, 1) := by decide +kernel
theorem dX11_undo_83 : decode cX11_undo 83 = .ok (.aload_n 0, 1) := by decide +kernel
theorem dX11_undo_84 : decode cX11_undo 84 = .ok (.getfield 7, 3) := by decide +kernel
theorem dX11_undo_87 : decode cX11_undo 87 = .ok (.iload_n 1, 1) := by decide +kernel
theorem dX11_undo_88 : decode cX11_undo 88 = .ok (.bipush 31, 2) := by decide +kernel
theorem dX11_undo_90 : decode cX11_undo 90 = .ok (.iadd, 1) := by decide +kernel
theorem dX11_undo_91 : decode cX11_undo 91 = .ok (.iload_n 2, 1) := by decide +kernel
theorem dX11_undo_92 : decode cX11_undo 92 = .ok (.iadd, 1) := by decide +kernel
theorem dX11_undo_93 : decode cX11_undo 93 = .ok (.iaload, 1) := by decide +kernel
theorem dX11_undo_94 : decode cX11_undo 94 = .ok (.iastore, 1) := by decide +kernel
theorem dX11_undo_95 : decode cX11_undo 95 = .ok (.iinc 2 1, 3) := by decide +kernel
theorem dX11_undo_98 : decode cX11_undo 98 = .ok (.goto (-30), 3) := by decide +kernel
theorem dX11_undo_101 : decode cX11_undo 101 = .ok (.aload_n 0, 1) := by decide +kernel
theorem dX11_undo_102 : decode cX11_undo 102 = .ok (.getfield 7, 3) := by decide +kernel
theorem dX11_undo_105 : decode cX11_undo 105 = .ok (.iconst 4, 1) := by decide +kernel
theorem dX11_undo_106 : decode cX11_undo 106 = .ok (.iaload, 1) := by decide +kernel
theorem dX11_undo_107 : decode cX11_undo 107 = .ok (.ireturn, 1) := by decide +kernel
theorem gX11_undo_0 {d : Nat} {M : ev_Mem} {Q : Option Value → ev_Mem → Prop} (h : (((¬ (M.1 1 4) = 0) → (∀ M1 : ev_Mem, M1 = ev_wr M 1 4 ((M.1 1 4) - 1) → (Ev LM d mX11_undo 37 [some (.ref 0), some (.int (525 + (91 * (M1.1 1 4)))), some (.int 0)] [] M1 Q))) ∧ (((M.1 1 4) = 0) → (Q (some (.int (-1))) M)))) : Ev LM d mX11_undo 0 [some (.ref 0), none, none] [] M Q := by
  refine ev_aload_n dX11_undo_0 rfl ?_
  refine ev_getA dX11_undo_1 fl_WithoutEModel_7 lm_0 rfl ?_
  refine ev_iconst (v := 4) dX11_undo_4 (by decide) ?_
  refine ev_iaN (j := 4) dX11_undo_5 lm_1 (by decide) (by decide) ?_
  refine ev_if_ne (tgt := 11) dX11_undo_6 (by decide) (fun c => ?_) (fun c => ?_)
  · replace h := h.1 c
    refine ev_aload_n dX11_undo_11 rfl ?_
    refine ev_getA dX11_undo_12 fl_WithoutEModel_7 lm_0 rfl ?_
    refine ev_iconst (v := 4) dX11_undo_15 (by decide) ?_
    refine ev_dup2 dX11_undo_16 rfl rfl ?_
    refine ev_iaN (j := 4) dX11_undo_17 lm_1 (by decide) (by decide) ?_
    refine ev_iconst (v := 1) dX11_undo_18 (by decide) ?_
    refine ev_isub dX11_undo_19 ?_
    refine ev_isN (j := 4) dX11_undo_20 lm_1 (by decide) (by decide) ?_
    generalize eM1 : ev_wr M 1 4 ((M.1 1 4) - 1) = M1
    replace h := h M1 eM1.symm
    refine ev_sipush (v := 525) dX11_undo_21 (by decide) ?_
    refine ev_bipush (v := 91) dX11_undo_24 (by decide) ?_
    refine ev_aload_n dX11_undo_26 rfl ?_
    refine ev_getA dX11_undo_27 fl_WithoutEModel_7 lm_0 rfl ?_
    refine ev_iconst (v := 4) dX11_undo_30 (by decide) ?_
    refine ev_iaN (j := 4) dX11_undo_31 lm_1 (by decide) (by decide) ?_
    refine ev_imul dX11_undo_32 ?_
    refine ev_iadd dX11_undo_33 ?_
    refine ev_istore_n (ls2 := [some (.ref 0), some (.int (525 + (91 * (M1.1 1 4)))), none]) dX11_undo_34 (Nat.le_of_ble_eq_true rfl) rfl ?_
    refine ev_iconst (v := 0) dX11_undo_35 (by decide) ?_
    refine ev_istore_n (ls2 := [some (.ref 0), some (.int (525 + (91 * (M1.1 1 4)))), some (.int 0)]) dX11_undo_36 (Nat.le_of_ble_eq_true rfl) rfl ?_
    exact h
  · replace h := h.2 c
    refine ev_iconst (v := -1) dX11_undo_9 (by decide) ?_
    exact ev_iret dX11_undo_10 rfl h
theorem gX11_undo_37 {d : Nat} {M : ev_Mem} {Q : Option Value → ev_Mem → Prop} {x1 x2 : Int32} (h : (((31 ≤ x2) → (Ev LM d mX11_undo 68 [some (.ref 0), some (.int x1), some (.int 0)] [] M Q)) ∧ ((¬ 31 ≤ x2) → (vp_in (x1 + x2) 3315 ∧ (vp_in (8 + x2) 3315 ∧ (∀ M1 : ev_Mem, M1 = ev_wr M 1 (8 + x2).toNatClampNeg (M.1 1 (x1 + x2).toNatClampNeg) → (Ev LM d mX11_undo 37 [some (.ref 0), some (.int x1), some (.int (x2 + 1))] [] M1 Q))))))) : Ev LM d mX11_undo 37 [some (.ref 0), some (.int x1), some (.int x2)] [] M Q := by
  refine ev_iload_n dX11_undo_37 rfl ?_
  refine ev_bipush (v := 31) dX11_undo_38 (by decide) ?_
  refine ev_icmp_ge (tgt := 66) dX11_undo_40 (by decide) (fun c => ?_) (fun c => ?_)
  · replace h := h.1 c
    refine ev_iconst (v := 0) dX11_undo_66 (by decide) ?_
    refine ev_istore_n (ls2 := [some (.ref 0), some (.int x1), some (.int 0)]) dX11_undo_67 (Nat.le_of_ble_eq_true rfl) rfl ?_
    exact h
  · replace h := h.2 c
    refine ev_aload_n dX11_undo_43 rfl ?_
    refine ev_getA dX11_undo_44 fl_WithoutEModel_7 lm_0 rfl ?_
    refine ev_bipush (v := 8) dX11_undo_47 (by decide) ?_
    refine ev_iload_n dX11_undo_49 rfl ?_
    refine ev_iadd dX11_undo_50 ?_
    refine ev_aload_n dX11_undo_51 rfl ?_
    refine ev_getA dX11_undo_52 fl_WithoutEModel_7 lm_0 rfl ?_
    refine ev_iload_n dX11_undo_55 rfl ?_
    refine ev_iload_n dX11_undo_56 rfl ?_
    refine ev_iadd dX11_undo_57 ?_
    obtain ⟨c, h⟩ := h
    refine ev_iald dX11_undo_58 lm_1 c ?_
    obtain ⟨c, h⟩ := h
    refine ev_iast dX11_undo_59 lm_1 c ?_
    generalize eM1 : ev_wr M 1 (8 + x2).toNatClampNeg (M.1 1 (x1 + x2).toNatClampNeg) = M1
    replace h := h M1 eM1.symm
    refine ev_iinc (v := x2 + 1) (ls2 := [some (.ref 0), some (.int x1), some (.int (x2 + 1))]) dX11_undo_60 rfl rfl rfl ?_
    refine ev_goto (tgt := 37) dX11_undo_63 (by decide) ?_
    exact h
theorem gX11_undo_68 {d : Nat} {M : ev_Mem} {Q : Option Value → ev_Mem → Prop} {x1 x2 : Int32} (h : (((60 ≤ x2) → (Q (some (.int (M.1 1 4))) M)) ∧ ((¬ 60 ≤ x2) → (vp_in ((x1 + 31) + x2) 3315 ∧ (vp_in (3255 + x2) 3315 ∧ (∀ M1 : ev_Mem, M1 = ev_wr M 1 (3255 + x2).toNatClampNeg (M.1 1 ((x1 + 31) + x2).toNatClampNeg) → (Ev LM d mX11_undo 68 [some (.ref 0), some (.int x1), some (.int (x2 + 1))] [] M1 Q))))))) : Ev LM d mX11_undo 68 [some (.ref 0), some (.int x1), some (.int x2)] [] M Q := by
  refine ev_iload_n dX11_undo_68 rfl ?_
  refine ev_bipush (v := 60) dX11_undo_69 (by decide) ?_
  refine ev_icmp_ge (tgt := 101) dX11_undo_71 (by decide) (fun c => ?_) (fun c => ?_)
  · replace h := h.1 c
    refine ev_aload_n dX11_undo_101 rfl ?_
    refine ev_getA dX11_undo_102 fl_WithoutEModel_7 lm_0 rfl ?_
    refine ev_iconst (v := 4) dX11_undo_105 (by decide) ?_
    refine ev_iaN (j := 4) dX11_undo_106 lm_1 (by decide) (by decide) ?_
    exact ev_iret dX11_undo_107 rfl h
  · replace h := h.2 c
    refine ev_aload_n dX11_undo_74 rfl ?_
    refine ev_getA dX11_undo_75 fl_WithoutEModel_7 lm_0 rfl ?_
    refine ev_sipush (v := 3255) dX11_undo_78 (by decide) ?_
    refine ev_iload_n dX11_undo_81 rfl ?_
    refine ev_iadd dX11_undo_82 ?_
    refine ev_aload_n dX11_undo_83 rfl ?_
    refine ev_getA dX11_undo_84 fl_WithoutEModel_7 lm_0 rfl ?_
    refine ev_iload_n dX11_undo_87 rfl ?_
    refine ev_bipush (v := 31) dX11_undo_88 (by decide) ?_
    refine ev_iadd dX11_undo_90 ?_
    refine ev_iload_n dX11_undo_91 rfl ?_
    refine ev_iadd dX11_undo_92 ?_
    obtain ⟨c, h⟩ := h
    refine ev_iald dX11_undo_93 lm_1 c ?_
    obtain ⟨c, h⟩ := h
    refine ev_iast dX11_undo_94 lm_1 c ?_
    generalize eM1 : ev_wr M 1 (3255 + x2).toNatClampNeg (M.1 1 ((x1 + 31) + x2).toNatClampNeg) = M1
    replace h := h M1 eM1.symm
    refine ev_iinc (v := x2 + 1) (ls2 := [some (.ref 0), some (.int x1), some (.int (x2 + 1))]) dX11_undo_95 rfl rfl rfl ?_
    refine ev_goto (tgt := 68) dX11_undo_98 (by decide) ?_
    exact h
theorem dX11_key_0 : decode cX11_key 0 = .ok (.iload_n 1, 1) := by decide +kernel
theorem dX11_key_1 : decode cX11_key 1 = .ok (.invokestatic 343, 3) := by decide +kernel
theorem dX11_key_4 : decode cX11_key 4 = .ok (.ifCond .eq 11, 3) := by decide +kernel
theorem dX11_key_7 : decode cX11_key 7 = .ok (.aload_n 0, 1) := by decide +kernel
theorem dX11_key_8 : decode cX11_key 8 = .ok (.iload_n 1, 1) := by decide +kernel
theorem dX11_key_9 : decode cX11_key 9 = .ok (.invokevirtual 88, 3) := by decide +kernel
theorem dX11_key_12 : decode cX11_key 12 = .ok (.ifCond .eq 22, 3) := by decide +kernel
theorem dX11_key_15 : decode cX11_key 15 = .ok (.aload_n 0, 1) := by decide +kernel
theorem dX11_key_16 : decode cX11_key 16 = .ok (.iload_n 1, 1) := by decide +kernel
theorem dX11_key_17 : decode cX11_key 17 = .ok (.invokestatic 343, 3) := by decide +kernel
theorem dX11_key_20 : decode cX11_key 20 = .ok (.ifCond .eq 7, 3) := by decide +kernel
theorem dX11_key_23 : decode cX11_key 23 = .ok (.iconst 2, 1) := by decide +kernel
theorem dX11_key_24 : decode cX11_key 24 = .ok (.goto 4, 3) := by decide +kernel
theorem dX11_key_27 : decode cX11_key 27 = .ok (.iconst 0, 1) := by decide +kernel
theorem dX11_key_28 : decode cX11_key 28 = .ok (.invokevirtual 331, 3) := by decide +kernel
theorem dX11_key_31 : decode cX11_key 31 = .ok (.pop, 1) := by decide +kernel
theorem dX11_key_32 : decode cX11_key 32 = .ok (.iconst 0, 1) := by decide +kernel
theorem dX11_key_33 : decode cX11_key 33 = .ok (.ireturn, 1) := by decide +kernel
theorem dX11_key_34 : decode cX11_key 34 = .ok (.aload_n 0, 1) := by decide +kernel
theorem dX11_key_35 : decode cX11_key 35 = .ok (.invokevirtual 408, 3) := by decide +kernel
theorem dX11_key_38 : decode cX11_key 38 = .ok (.aload_n 0, 1) := by decide +kernel
theorem dX11_key_39 : decode cX11_key 39 = .ok (.getfield 7, 3) := by decide +kernel
theorem dX11_key_42 : decode cX11_key 42 = .ok (.bipush 9, 2) := by decide +kernel
theorem dX11_key_44 : decode cX11_key 44 = .ok (.dup2, 1) := by decide +kernel
theorem dX11_key_45 : decode cX11_key 45 = .ok (.iaload, 1) := by decide +kernel
theorem dX11_key_46 : decode cX11_key 46 = .ok (.iconst 1, 1) := by decide +kernel
theorem dX11_key_47 : decode cX11_key 47 = .ok (.iload_n 1, 1) := by decide +kernel
theorem dX11_key_48 : decode cX11_key 48 = .ok (.ishl, 1) := by decide +kernel
theorem dX11_key_49 : decode cX11_key 49 = .ok (.ior, 1) := by decide +kernel
theorem dX11_key_50 : decode cX11_key 50 = .ok (.iastore, 1) := by decide +kernel
theorem dX11_key_51 : decode cX11_key 51 = .ok (.iconst 1, 1) := by decide +kernel
theorem dX11_key_52 : decode cX11_key 52 = .ok (.ireturn, 1) := by decide +kernel
theorem gX11_key_0 {d : Nat} {M : ev_Mem} {Q : Option Value → ev_Mem → Prop} {x1 : Int32} (h : ((((iin x1 0 25) = false) → ((((iin x1 0 25) = false) → ((vp_in (0 : Int32) 3) ∧ (∀ M1 : ev_Mem, M1 = rfs M 3 (0 : Int32).toNatClampNeg → (Q (some (.int 0)) M1)))) ∧ (((iin x1 0 25) = true) → ((vp_in (2 : Int32) 3) ∧ (∀ M2 : ev_Mem, M2 = rfs M 3 (2 : Int32).toNatClampNeg → (Q (some (.int 0)) M2)))))) ∧ (((iin x1 0 25) = true) → ((((hs (M.1 1 9) x1) = false) → (∃ Q2 : Option Value → ev_Mem → Prop, Cl LM (d + 1) mX11_keep [.ref 0] M Q2 ∧ ∀ (zr : Option Value) (zM : ev_Mem), Q2 zr zM → Ev LM (d + 2) mX11_key 38 [some (.ref 0), some (.int x1)] (zr.toList ++ []) zM Q)) ∧ (((hs (M.1 1 9) x1) = true) → ((((iin x1 0 25) = false) → ((vp_in (0 : Int32) 3) ∧ (∀ M3 : ev_Mem, M3 = rfs M 3 (0 : Int32).toNatClampNeg → (Q (some (.int 0)) M3)))) ∧ (((iin x1 0 25) = true) → ((vp_in (2 : Int32) 3) ∧ (∀ M4 : ev_Mem, M4 = rfs M 3 (2 : Int32).toNatClampNeg → (Q (some (.int 0)) M4)))))))))) : Ev LM (d + 2) mX11_key 0 [some (.ref 0), some (.int x1)] [] M Q := by
  refine ev_iload_n dX11_key_0 rfl ?_
  refine ev_callS [.int x1] dX11_key_1 ml_WithoutEModel_343 rfl (Nat.le_of_ble_eq_true rfl) (kX11_isLetter) ?_
  rintro zr zM ⟨q1, q2⟩
  rw [q1, q2]
  show Ev LM (d + 2) mX11_key 4 [some (.ref 0), some (.int x1)] [(.int (bi (iin x1 0 25)))] M Q
  refine ev_if_eq (tgt := 15) dX11_key_4 (by decide) (fun c => ?_) (fun c => ?_)
  · replace h := h.1 ((bi_0 _).mp c)
    refine ev_aload_n dX11_key_15 rfl ?_
    refine ev_iload_n dX11_key_16 rfl ?_
    refine ev_callS [.int x1] dX11_key_17 ml_WithoutEModel_343 rfl (Nat.le_of_ble_eq_true rfl) (kX11_isLetter) ?_
    rintro zr zM ⟨q1, q2⟩
    rw [q1, q2]
    show Ev LM (d + 2) mX11_key 20 [some (.ref 0), some (.int x1)] [(.int (bi (iin x1 0 25))), (.ref 0)] M Q
    refine ev_if_eq (tgt := 27) dX11_key_20 (by decide) (fun c => ?_) (fun c => ?_)
    · replace h := h.1 ((bi_0 _).mp c)
      refine ev_iconst (v := 0) dX11_key_27 (by decide) ?_
      obtain ⟨p1, h⟩ := h
      refine ev_callV [.int 0] dX11_key_28 ml_WithoutEModel_331 lm_0 rfl rfl (Nat.le_of_ble_eq_true rfl) (qX11_refused p1) ?_
      rintro zr zM ⟨q1, q2⟩
      rw [q1, q2]
      generalize eM1 : rfs M 3 (0 : Int32).toNatClampNeg = M1
      replace h := h M1 eM1.symm
      show Ev LM (d + 2) mX11_key 31 [some (.ref 0), some (.int x1)] [(.int (-1))] M1 Q
      refine ev_pop dX11_key_31 rfl ?_
      refine ev_iconst (v := 0) dX11_key_32 (by decide) ?_
      exact ev_zret dX11_key_33 rfl (by decide) h
    · replace h := h.2 ((bi_n0 _).mp c)
      refine ev_iconst (v := 2) dX11_key_23 (by decide) ?_
      refine ev_goto (tgt := 28) dX11_key_24 (by decide) ?_
      obtain ⟨p1, h⟩ := h
      refine ev_callV [.int 2] dX11_key_28 ml_WithoutEModel_331 lm_0 rfl rfl (Nat.le_of_ble_eq_true rfl) (qX11_refused p1) ?_
      rintro zr zM ⟨q1, q2⟩
      rw [q1, q2]
      generalize eM2 : rfs M 3 (2 : Int32).toNatClampNeg = M2
      replace h := h M2 eM2.symm
      show Ev LM (d + 2) mX11_key 31 [some (.ref 0), some (.int x1)] [(.int (-1))] M2 Q
      refine ev_pop dX11_key_31 rfl ?_
      refine ev_iconst (v := 0) dX11_key_32 (by decide) ?_
      exact ev_zret dX11_key_33 rfl (by decide) h
  · replace h := h.2 ((bi_n0 _).mp c)
    refine ev_aload_n dX11_key_7 rfl ?_
    refine ev_iload_n dX11_key_8 rfl ?_
    refine ev_callV [.int x1] dX11_key_9 ml_WithoutEModel_88 lm_0 rfl rfl (Nat.le_of_ble_eq_true rfl) (kX11_isLost) ?_
    rintro zr zM ⟨q1, q2⟩
    rw [q1, q2]
    show Ev LM (d + 2) mX11_key 12 [some (.ref 0), some (.int x1)] [(.int (bi (hs (M.1 1 9) x1)))] M Q
    refine ev_if_eq (tgt := 34) dX11_key_12 (by decide) (fun c => ?_) (fun c => ?_)
    · replace h := h.1 ((bi_0 _).mp c)
      refine ev_aload_n dX11_key_34 rfl ?_
      obtain ⟨Q2, hc, h⟩ := h
      refine ev_callV [] dX11_key_35 ml_WithoutEModel_408 lm_0 rfl rfl (Nat.le_of_ble_eq_true rfl) hc (fun zr zM q => ?_)
      exact h zr zM q
    · replace h := h.2 ((bi_n0 _).mp c)
      refine ev_aload_n dX11_key_15 rfl ?_
      refine ev_iload_n dX11_key_16 rfl ?_
      refine ev_callS [.int x1] dX11_key_17 ml_WithoutEModel_343 rfl (Nat.le_of_ble_eq_true rfl) (kX11_isLetter) ?_
      rintro zr zM ⟨q1, q2⟩
      rw [q1, q2]
      show Ev LM (d + 2) mX11_key 20 [some (.ref 0), some (.int x1)] [(.int (bi (iin x1 0 25))), (.ref 0)] M Q
      refine ev_if_eq (tgt := 27) dX11_key_20 (by decide) (fun c => ?_) (fun c => ?_)
      · replace h := h.1 ((bi_0 _).mp c)
        refine ev_iconst (v := 0) dX11_key_27 (by decide) ?_
        obtain ⟨p1, h⟩ := h
        refine ev_callV [.int 0] dX11_key_28 ml_WithoutEModel_331 lm_0 rfl rfl (Nat.le_of_ble_eq_true rfl) (qX11_refused p1) ?_
        rintro zr zM ⟨q1, q2⟩
        rw [q1, q2]
        generalize eM3 : rfs M 3 (0 : Int32).toNatClampNeg = M3
        replace h := h M3 eM3.symm
        show Ev LM (d + 2) mX11_key 31 [some (.ref 0), some (.int x1)] [(.int (-1))] M3 Q
        refine ev_pop dX11_key_31 rfl ?_
        refine ev_iconst (v := 0) dX11_key_32 (by decide) ?_
        exact ev_zret dX11_key_33 rfl (by decide) h
      · replace h := h.2 ((bi_n0 _).mp c)
        refine ev_iconst (v := 2) dX11_key_23 (by decide) ?_
        refine ev_goto (tgt := 28) dX11_key_24 (by decide) ?_
        obtain ⟨p1, h⟩ := h
        refine ev_callV [.int 2] dX11_key_28 ml_WithoutEModel_331 lm_0 rfl rfl (Nat.le_of_ble_eq_true rfl) (qX11_refused p1) ?_
        rintro zr zM ⟨q1, q2⟩
        rw [q1, q2]
        generalize eM4 : rfs M 3 (2 : Int32).toNatClampNeg = M4
        replace h := h M4 eM4.symm
        show Ev LM (d + 2) mX11_key 31 [some (.ref 0), some (.int x1)] [(.int (-1))] M4 Q
        refine ev_pop dX11_key_31 rfl ?_
        refine ev_iconst (v := 0) dX11_key_32 (by decide) ?_
        exact ev_zret dX11_key_33 rfl (by decide) h
theorem gX11_key_38 {d : Nat} {M : ev_Mem} {Q : Option Value → ev_Mem → Prop} {x1 : Int32} (h : (∀ M1 : ev_Mem, M1 = ev_wr M 1 9 ((M.1 1 9) ||| (1 <<< (x1 &&& 31))) → (Q (some (.int 1)) M1))) : Ev LM d mX11_key 38 [some (.ref 0), some (.int x1)] [] M Q := by
  refine ev_aload_n dX11_key_38 rfl ?_
  refine ev_getA dX11_key_39 fl_WithoutEModel_7 lm_0 rfl ?_
  refine ev_bipush (v := 9) dX11_key_42 (by decide) ?_
  refine ev_dup2 dX11_key_44 rfl rfl ?_
  refine ev_iaN (j := 9) dX11_key_45 lm_1 (by decide) (by decide) ?_
  refine ev_iconst (v := 1) dX11_key_46 (by decide) ?_
  refine ev_iload_n dX11_key_47 rfl ?_
  refine ev_ishl dX11_key_48 ?_
  refine ev_ior dX11_key_49 ?_
  refine ev_isN (j := 9) dX11_key_50 lm_1 (by decide) (by decide) ?_
  generalize eM1 : ev_wr M 1 9 ((M.1 1 9) ||| (1 <<< (x1 &&& 31))) = M1
  replace h := h M1 eM1.symm
  refine ev_iconst (v := 1) dX11_key_51 (by decide) ?_
  exact ev_zret dX11_key_52 rfl (by decide) h
