theorem dX10_none_0 : decode cX10_none 0 = .ok (.aload_n 0, 1) := by decide +kernel
theorem dX10_none_1 : decode cX10_none 1 = .ok (.invokevirtual 236, 3) := by decide +kernel
theorem dX10_none_4 : decode cX10_none 4 = .ok (.iconst 0, 1) := by decide +kernel
theorem dX10_none_5 : decode cX10_none 5 = .ok (.istore_n 1, 1) := by decide +kernel
theorem dX10_none_6 : decode cX10_none 6 = .ok (.iconst 0, 1) := by decide +kernel
theorem dX10_none_7 : decode cX10_none 7 = .ok (.istore_n 2, 1) := by decide +kernel
theorem dX10_none_8 : decode cX10_none 8 = .ok (.iload_n 2, 1) := by decide +kernel
theorem dX10_none_9 : decode cX10_none 9 = .ok (.aload_n 0, 1) := by decide +kernel
theorem dX10_none_10 : decode cX10_none 10 = .ok (.getfield 19, 3) := by decide +kernel
theorem dX10_none_13 : decode cX10_none 13 = .ok (.getfield 262, 3) := by decide +kernel
theorem dX10_none_16 : decode cX10_none 16 = .ok (.if_icmp .ge 29, 3) := by decide +kernel
theorem dX10_none_19 : decode cX10_none 19 = .ok (.aload_n 0, 1) := by decide +kernel
theorem dX10_none_20 : decode cX10_none 20 = .ok (.getfield 98, 3) := by decide +kernel
theorem dX10_none_23 : decode cX10_none 23 = .ok (.iload_n 2, 1) := by decide +kernel
theorem dX10_none_24 : decode cX10_none 24 = .ok (.invokevirtual 335, 3) := by decide +kernel
theorem dX10_none_27 : decode cX10_none 27 = .ok (.ldc_w 334, 3) := by decide +kernel
theorem dX10_none_30 : decode cX10_none 30 = .ok (.if_icmp .lt 9, 3) := by decide +kernel
theorem dX10_none_33 : decode cX10_none 33 = .ok (.iload_n 1, 1) := by decide +kernel
theorem dX10_none_34 : decode cX10_none 34 = .ok (.iconst 1, 1) := by decide +kernel
theorem dX10_none_35 : decode cX10_none 35 = .ok (.iload_n 2, 1) := by decide +kernel
theorem dX10_none_36 : decode cX10_none 36 = .ok (.ishl, 1) := by decide +kernel
theorem dX10_none_37 : decode cX10_none 37 = .ok (.ior, 1) := by decide +kernel
theorem dX10_none_38 : decode cX10_none 38 = .ok (.istore_n 1, 1) := by decide +kernel
theorem dX10_none_39 : decode cX10_none 39 = .ok (.iinc 2 1, 3) := by decide +kernel
theorem dX10_none_42 : decode cX10_none 42 = .ok (.goto (-34), 3) := by decide +kernel
theorem dX10_none_45 : decode cX10_none 45 = .ok (.iload_n 1, 1) := by decide +kernel
theorem dX10_none_46 : decode cX10_none 46 = .ok (.ireturn, 1) := by decide +kernel
theorem gX10_none_0 {d : Nat} {M : ev_Mem} {Q : Option Value → ev_Mem → Prop} (h : (∃ Q2 : Option Value → ev_Mem → Prop, Cl LX d mX10_hearNow [.ref 0] M Q2 ∧ ∀ (zr : Option Value) (zM : ev_Mem), Q2 zr zM → Ev LX (d + 1) mX10_none 4 [some (.ref 0), none, none] (zr.toList ++ []) zM Q)) : Ev LX (d + 1) mX10_none 0 [some (.ref 0), none, none] [] M Q := by
  refine ev_aload_n dX10_none_0 rfl ?_
  obtain ⟨Q2, hc, h⟩ := h
  refine ev_callV [] dX10_none_1 ml_WithoutE_236 lx_0 rfl rfl (Nat.le_of_ble_eq_true rfl) hc (fun zr zM q => ?_)
  exact h zr zM q
theorem gX10_none_4 {d : Nat} {M : ev_Mem} {Q : Option Value → ev_Mem → Prop} (h : (Ev LX d mX10_none 8 [some (.ref 0), some (.int 0), some (.int 0)] [] M Q)) : Ev LX d mX10_none 4 [some (.ref 0), none, none] [] M Q := by
  refine ev_iconst (v := 0) dX10_none_4 (by decide) ?_
  refine ev_istore_n (ls2 := [some (.ref 0), some (.int 0), none]) dX10_none_5 (Nat.le_of_ble_eq_true rfl) rfl ?_
  refine ev_iconst (v := 0) dX10_none_6 (by decide) ?_
  refine ev_istore_n (ls2 := [some (.ref 0), some (.int 0), some (.int 0)]) dX10_none_7 (Nat.le_of_ble_eq_true rfl) rfl ?_
  exact h
theorem gX10_none_8 {d : Nat} {M : ev_Mem} {Q : Option Value → ev_Mem → Prop} {x1 x2 : Int32} (h : ((((M.1 3 8) ≤ x2) → (Q (some (.int x1)) M)) ∧ ((¬ (M.1 3 8) ≤ x2) → (∃ Q2 : Option Value → ev_Mem → Prop, Cl LX d mX6_costOf [.ref 86, .int x2] M Q2 ∧ ∀ (zr : Option Value) (zM : ev_Mem), Q2 zr zM → Ev LX (d + 1) mX10_none 27 [some (.ref 0), some (.int x1), some (.int x2)] (zr.toList ++ []) zM Q)))) : Ev LX (d + 1) mX10_none 8 [some (.ref 0), some (.int x1), some (.int x2)] [] M Q := by
  refine ev_iload_n dX10_none_8 rfl ?_
  refine ev_aload_n dX10_none_9 rfl ?_
  refine ev_getA dX10_none_10 fl_WithoutE_19 lx_0 rfl ?_
  refine ev_getI dX10_none_13 fl_WithoutE_262 lx_3 rfl ?_
  refine ev_icmp_ge (tgt := 45) dX10_none_16 (by decide) (fun c => ?_) (fun c => ?_)
  · replace h := h.1 c
    refine ev_iload_n dX10_none_45 rfl ?_
    exact ev_iret dX10_none_46 rfl h
  · replace h := h.2 c
    refine ev_aload_n dX10_none_19 rfl ?_
    refine ev_getA dX10_none_20 fl_WithoutE_98 lx_0 rfl ?_
    refine ev_iload_n dX10_none_23 rfl ?_
    obtain ⟨Q2, hc, h⟩ := h
    refine ev_callV [.int x2] dX10_none_24 ml_WithoutE_335 lx_86 rfl rfl (Nat.le_of_ble_eq_true rfl) hc (fun zr zM q => ?_)
    exact h zr zM q
theorem gX10_none_27 {d : Nat} {M : ev_Mem} {Q : Option Value → ev_Mem → Prop} {x1 x2 s0 : Int32} (h : (((s0 < 1000000) → (Ev LX d mX10_none 8 [some (.ref 0), some (.int x1), some (.int (x2 + 1))] [] M Q)) ∧ ((¬ s0 < 1000000) → (∀ v1 : Int32, v1 = x1 ||| (1 <<< (x2 &&& 31)) → (Ev LX d mX10_none 8 [some (.ref 0), some (.int v1), some (.int (x2 + 1))] [] M Q))))) : Ev LX d mX10_none 27 [some (.ref 0), some (.int x1), some (.int x2)] [(.int s0)] M Q := by
  refine ev_ldcw (v := 1000000) dX10_none_27 cw_WithoutE_334 ?_
  refine ev_icmp_lt (tgt := 39) dX10_none_30 (by decide) (fun c => ?_) (fun c => ?_)
  · replace h := h.1 c
    refine ev_iinc (v := x2 + 1) (ls2 := [some (.ref 0), some (.int x1), some (.int (x2 + 1))]) dX10_none_39 rfl rfl rfl ?_
    refine ev_goto (tgt := 8) dX10_none_42 (by decide) ?_
    exact h
  · replace h := h.2 c
    refine ev_iload_n dX10_none_33 rfl ?_
    refine ev_iconst (v := 1) dX10_none_34 (by decide) ?_
    refine ev_iload_n dX10_none_35 rfl ?_
    refine ev_ishl dX10_none_36 ?_
    refine ev_ior dX10_none_37 ?_
    refine ev_istore_n (ls2 := [some (.ref 0), some (.int (x1 ||| (1 <<< (x2 &&& 31)))), some (.int x2)]) dX10_none_38 (Nat.le_of_ble_eq_true rfl) rfl ?_
    generalize ev1 : x1 ||| (1 <<< (x2 &&& 31)) = v1
    replace h := h v1 ev1.symm
    refine ev_iinc (v := x2 + 1) (ls2 := [some (.ref 0), some (.int v1), some (.int (x2 + 1))]) dX10_none_39 rfl rfl rfl ?_
    refine ev_goto (tgt := 8) dX10_none_42 (by decide) ?_
    exact h
theorem dX10_totalWith_0 : decode cX10_totalWith 0 = .ok (.aload_n 0, 1) := by decide +kernel
theorem dX10_totalWith_1 : decode cX10_totalWith 1 = .ok (.getfield 98, 3) := by decide +kernel
theorem dX10_totalWith_4 : decode cX10_totalWith 4 = .ok (.aload_n 0, 1) := by decide +kernel
theorem dX10_totalWith_5 : decode cX10_totalWith 5 = .ok (.invokevirtual 294, 3) := by decide +kernel
theorem dX10_totalWith_8 : decode cX10_totalWith 8 = .ok (.iload_n 1, 1) := by decide +kernel
theorem dX10_totalWith_9 : decode cX10_totalWith 9 = .ok (.invokevirtual 345, 3) := by decide +kernel
theorem dX10_totalWith_12 : decode cX10_totalWith 12 = .ok (.iconst 0, 1) := by decide +kernel
theorem dX10_totalWith_13 : decode cX10_totalWith 13 = .ok (.istore_n 2, 1) := by decide +kernel
theorem dX10_totalWith_14 : decode cX10_totalWith 14 = .ok (.iconst 0, 1) := by decide +kernel
theorem dX10_totalWith_15 : decode cX10_totalWith 15 = .ok (.istore_n 3, 1) := by decide +kernel
theorem dX10_totalWith_16 : decode cX10_totalWith 16 = .ok (.iload_n 3, 1) := by decide +kernel
theorem dX10_totalWith_17 : decode cX10_totalWith 17 = .ok (.aload_n 0, 1) := by decide +kernel
theorem dX10_totalWith_18 : decode cX10_totalWith 18 = .ok (.getfield 19, 3) := by decide +kernel
theorem dX10_totalWith_21 : decode cX10_totalWith 21 = .ok (.getfield 262, 3) := by decide +kernel
theorem dX10_totalWith_24 : decode cX10_totalWith 24 = .ok (.if_icmp .ge 37, 3) := by decide +kernel
theorem dX10_totalWith_27 : decode cX10_totalWith 27 = .ok (.aload_n 0, 1) := by decide +kernel
theorem dX10_totalWith_28 : decode cX10_totalWith 28 = .ok (.getfield 98, 3) := by decide +kernel
theorem dX10_totalWith_31 : decode cX10_totalWith 31 = .ok (.iload_n 3, 1) := by decide +kernel
theorem dX10_totalWith_32 : decode cX10_totalWith 32 = .ok (.invokevirtual 335, 3) := by decide +kernel
theorem dX10_totalWith_35 : decode cX10_totalWith 35 = .ok (.istore 4, 2) := by decide +kernel
theorem dX10_totalWith_37 : decode cX10_totalWith 37 = .ok (.iload_n 2, 1) := by decide +kernel
theorem dX10_totalWith_38 : decode cX10_totalWith 38 = .ok (.iload 4, 2) := by decide +kernel
theorem dX10_totalWith_40 : decode cX10_totalWith 40 = .ok (.ldc_w 334, 3) := by decide +kernel
theorem dX10_totalWith_43 : decode cX10_totalWith 43 = .ok (.if_icmp .ge 8, 3) := by decide +kernel
theorem dX10_totalWith_46 : decode cX10_totalWith 46 = .ok (.iload 4, 2) := by decide +kernel
theorem dX10_totalWith_48 : decode cX10_totalWith 48 = .ok (.goto 5, 3) := by decide +kernel
theorem dX10_totalWith_51 : decode cX10_totalWith 51 = .ok (.bipush 50, 2) := by decide +kernel
theorem dX10_totalWith_53 : decode cX10_totalWith 53 = .ok (.iadd, 1) := by decide +kernel
theorem dX10_totalWith_54 : decode cX10_totalWith 54 = .ok (.istore_n 2, 1) := by decide +kernel
theorem dX10_totalWith_55 : decode cX10_totalWith 55 = .ok (.iinc 3 1, 3) := by decide +kernel
theorem dX10_totalWith_58 : decode cX10_totalWith 58 = .ok (.goto (-42), 3) := by decide +kernel
theorem dX10_totalWith_61 : decode cX10_totalWith 61 = .ok (.iload_n 2, 1) := by decide +kernel
theorem dX10_totalWith_62 : decode cX10_totalWith 62 = .ok (.ireturn, 1) := by decide +kernel
theorem gX10_totalWith_0 {d : Nat} {M : ev_Mem} {Q : Option Value → ev_Mem → Prop} {x1 : Int32} (h : ((okT M) ∧ (∃ Q2 : Option Value → ev_Mem → Prop, Cl LX (d + 1) mX6_suppose [.ref 86, tv (M.1 47 3), .int x1] M Q2 ∧ ∀ (zr : Option Value) (zM : ev_Mem), Q2 zr zM → Ev LX (d + 2) mX10_totalWith 12 [some (.ref 0), none, none, none, none] (zr.toList ++ []) zM Q))) : Ev LX (d + 2) mX10_totalWith 0 [some (.ref 0), some (.int x1), none, none, none] [] M Q := by
  refine ev_aload_n dX10_totalWith_0 rfl ?_
  refine ev_getA dX10_totalWith_1 fl_WithoutE_98 lx_0 rfl ?_
  refine ev_aload_n dX10_totalWith_4 rfl ?_
  obtain ⟨p1, h⟩ := h
  refine ev_callV [] dX10_totalWith_5 ml_WithoutE_294 lx_0 rfl rfl (Nat.le_of_ble_eq_true rfl) (kX10_ruling p1) ?_
  rintro zr zM ⟨q1, q2⟩
  rw [q1, q2]
  show Ev LX (d + 2) mX10_totalWith 8 [some (.ref 0), some (.int x1), none, none, none] [(tv (M.1 47 3)), (.ref 86)] M Q
  refine ev_iload_n dX10_totalWith_8 rfl ?_
  obtain ⟨Q2, hc, h⟩ := h
  refine ev_callV [tv (M.1 47 3), .int x1] dX10_totalWith_9 ml_WithoutE_345 lx_86 rfl rfl (Nat.le_of_ble_eq_true rfl) hc (fun zr zM q => ?_)
  refine Ev.weak (ls := [some (.ref 0), none, none, none, none]) ⟨rfl, trivial⟩ ?_
  exact h zr zM q
theorem gX10_totalWith_12 {d : Nat} {M : ev_Mem} {Q : Option Value → ev_Mem → Prop} (h : (Ev LX d mX10_totalWith 16 [some (.ref 0), none, some (.int 0), some (.int 0), none] [] M Q)) : Ev LX d mX10_totalWith 12 [some (.ref 0), none, none, none, none] [] M Q := by
  refine ev_iconst (v := 0) dX10_totalWith_12 (by decide) ?_
  refine ev_istore_n (ls2 := [some (.ref 0), none, some (.int 0), none, none]) dX10_totalWith_13 (Nat.le_of_ble_eq_true rfl) rfl ?_
  refine ev_iconst (v := 0) dX10_totalWith_14 (by decide) ?_
  refine ev_istore_n (ls2 := [some (.ref 0), none, some (.int 0), some (.int 0), none]) dX10_totalWith_15 (Nat.le_of_ble_eq_true rfl) rfl ?_
  exact h
theorem gX10_totalWith_16 {d : Nat} {M : ev_Mem} {Q : Option Value → ev_Mem → Prop} {x2 x3 : Int32} (h : ((((M.1 3 8) ≤ x3) → (Q (some (.int x2)) M)) ∧ ((¬ (M.1 3 8) ≤ x3) → (∃ Q2 : Option Value → ev_Mem → Prop, Cl LX d mX6_costOf [.ref 86, .int x3] M Q2 ∧ ∀ (zr : Option Value) (zM : ev_Mem), Q2 zr zM → Ev LX (d + 1) mX10_totalWith 35 [some (.ref 0), none, some (.int x2), some (.int x3), none] (zr.toList ++ []) zM Q)))) : Ev LX (d + 1) mX10_totalWith 16 [some (.ref 0), none, some (.int x2), some (.int x3), none] [] M Q := by
  refine ev_iload_n dX10_totalWith_16 rfl ?_
  refine ev_aload_n dX10_totalWith_17 rfl ?_
  refine ev_getA dX10_totalWith_18 fl_WithoutE_19 lx_0 rfl ?_
  refine ev_getI dX10_totalWith_21 fl_WithoutE_262 lx_3 rfl ?_
  refine ev_icmp_ge (tgt := 61) dX10_totalWith_24 (by decide) (fun c => ?_) (fun c => ?_)
  · replace h := h.1 c
    refine ev_iload_n dX10_totalWith_61 rfl ?_
    exact ev_iret dX10_totalWith_62 rfl h
  · replace h := h.2 c
    refine ev_aload_n dX10_totalWith_27 rfl ?_
    refine ev_getA dX10_totalWith_28 fl_WithoutE_98 lx_0 rfl ?_
    refine ev_iload_n dX10_totalWith_31 rfl ?_
    obtain ⟨Q2, hc, h⟩ := h
    refine ev_callV [.int x3] dX10_totalWith_32 ml_WithoutE_335 lx_86 rfl rfl (Nat.le_of_ble_eq_true rfl) hc (fun zr zM q => ?_)
    exact h zr zM q
theorem gX10_totalWith_35 {d : Nat} {M : ev_Mem} {Q : Option Value → ev_Mem → Prop} {x2 x3 s0 : Int32} (h : (((1000000 ≤ s0) → (Ev LX d mX10_totalWith 16 [some (.ref 0), none, some (.int (x2 + 50)), some (.int (x3 + 1)), none] [] M Q)) ∧ ((¬ 1000000 ≤ s0) → (Ev LX d mX10_totalWith 16 [some (.ref 0), none, some (.int (x2 + s0)), some (.int (x3 + 1)), none] [] M Q)))) : Ev LX d mX10_totalWith 35 [some (.ref 0), none, some (.int x2), some (.int x3), none] [(.int s0)] M Q := by
  refine ev_istore (ls2 := [some (.ref 0), none, some (.int x2), some (.int x3), some (.int s0)]) dX10_totalWith_35 (Nat.le_of_ble_eq_true rfl) rfl ?_
  refine ev_iload_n dX10_totalWith_37 rfl ?_
  refine ev_iload dX10_totalWith_38 rfl ?_
  refine ev_ldcw (v := 1000000) dX10_totalWith_40 cw_WithoutE_334 ?_
  refine ev_icmp_ge (tgt := 51) dX10_totalWith_43 (by decide) (fun c => ?_) (fun c => ?_)
  · replace h := h.1 c
    refine ev_bipush (v := 50) dX10_totalWith_51 (by decide) ?_
    refine ev_iadd dX10_totalWith_53 ?_
    refine ev_istore_n (ls2 := [some (.ref 0), none, some (.int (x2 + 50)), some (.int x3), some (.int s0)]) dX10_totalWith_54 (Nat.le_of_ble_eq_true rfl) rfl ?_
    refine ev_iinc (v := x3 + 1) (ls2 := [some (.ref 0), none, some (.int (x2 + 50)), some (.int (x3 + 1)), some (.int s0)]) dX10_totalWith_55 rfl rfl rfl ?_
    refine ev_goto (tgt := 16) dX10_totalWith_58 (by decide) ?_
    refine Ev.weak (ls := [some (.ref 0), none, some (.int (x2 + 50)), some (.int (x3 + 1)), none]) ⟨rfl, rfl, rfl, trivial⟩ ?_
    exact h
  · replace h := h.2 c
    refine ev_iload dX10_totalWith_46 rfl ?_
    refine ev_goto (tgt := 53) dX10_totalWith_48 (by decide) ?_
    refine ev_iadd dX10_totalWith_53 ?_
    refine ev_istore_n (ls2 := [some (.ref 0), none, some (.int (x2 + s0)), some (.int x3), some (.int s0)]) dX10_totalWith_54 (Nat.le_of_ble_eq_true rfl) rfl ?_
    refine ev_iinc (v := x3 + 1) (ls2 := [some (.ref 0), none, some (.int (x2 + s0)), some (.int (x3 + 1)), some (.int s0)]) dX10_totalWith_55 rfl rfl rfl ?_
    refine ev_goto (tgt := 16) dX10_totalWith_58 (by decide) ?_
    refine Ev.weak (ls := [some (.ref 0), none, some (.int (x2 + s0)), some (.int (x3 + 1)), none]) ⟨rfl, rfl, rfl, trivial⟩ ?_
    exact h
theorem dX10_worst_0 : decode cX10_worst 0 = .ok (.aload_n 0, 1) := by decide +kernel
theorem dX10_worst_1 : decode cX10_worst 1 = .ok (.getfield 98, 3) := by decide +kernel
theorem dX10_worst_4 : decode cX10_worst 4 = .ok (.invokevirtual 342, 3) := by decide +kernel
theorem dX10_worst_7 : decode cX10_worst 7 = .ok (.iconst (-1), 1) := by decide +kernel
theorem dX10_worst_8 : decode cX10_worst 8 = .ok (.istore_n 1, 1) := by decide +kernel
theorem dX10_worst_9 : decode cX10_worst 9 = .ok (.iconst (-1), 1) := by decide +kernel
theorem dX10_worst_10 : decode cX10_worst 10 = .ok (.istore_n 2, 1) := by decide +kernel
theorem dX10_worst_11 : decode cX10_worst 11 = .ok (.iconst 0, 1) := by decide +kernel
theorem dX10_worst_12 : decode cX10_worst 12 = .ok (.istore_n 3, 1) := by decide +kernel
theorem dX10_worst_13 : decode cX10_worst 13 = .ok (.iload_n 3, 1) := by decide +kernel
theorem dX10_worst_14 : decode cX10_worst 14 = .ok (.bipush 26, 2) := by decide +kernel
theorem dX10_worst_16 : decode cX10_worst 16 = .ok (.if_icmp .ge 51, 3) := by decide +kernel
theorem dX10_worst_19 : decode cX10_worst 19 = .ok (.aload_n 0, 1) := by decide +kernel
theorem dX10_worst_20 : decode cX10_worst 20 = .ok (.getfield 26, 3) := by decide +kernel
theorem dX10_worst_23 : decode cX10_worst 23 = .ok (.getfield 223, 3) := by decide +kernel
theorem dX10_worst_26 : decode cX10_worst 26 = .ok (.iload_n 3, 1) := by decide +kernel
theorem dX10_worst_27 : decode cX10_worst 27 = .ok (.invokestatic 226, 3) := by decide +kernel
theorem dX10_worst_30 : decode cX10_worst 30 = .ok (.ifCond .ne 31, 3) := by decide +kernel
theorem dX10_worst_33 : decode cX10_worst 33 = .ok (.aload_n 0, 1) := by decide +kernel
theorem dX10_worst_34 : decode cX10_worst 34 = .ok (.aload_n 0, 1) := by decide +kernel
theorem dX10_worst_35 : decode cX10_worst 35 = .ok (.getfield 26, 3) := by decide +kernel
theorem dX10_worst_38 : decode cX10_worst 38 = .ok (.getfield 223, 3) := by decide +kernel
theorem dX10_worst_41 : decode cX10_worst 41 = .ok (.iconst 1, 1) := by decide +kernel
theorem dX10_worst_42 : decode cX10_worst 42 = .ok (.iload_n 3, 1) := by decide +kernel
theorem dX10_worst_43 : decode cX10_worst 43 = .ok (.ishl, 1) := by decide +kernel
theorem dX10_worst_44 : decode cX10_worst 44 = .ok (.ior, 1) := by decide +kernel
theorem dX10_worst_45 : decode cX10_worst 45 = .ok (.invokevirtual 349, 3) := by decide +kernel
theorem dX10_worst_48 : decode cX10_worst 48 = .ok (.istore 4, 2) := by decide +kernel
theorem dX10_worst_50 : decode cX10_worst 50 = .ok (.iload 4, 2) := by decide +kernel
theorem dX10_worst_52 : decode cX10_worst 52 = .ok (.iload_n 2, 1) := by decide +kernel
theorem dX10_worst_53 : decode cX10_worst 53 = .ok (.if_icmp .le 8, 3) := by decide +kernel
theorem dX10_worst_56 : decode cX10_worst 56 = .ok (.iload 4, 2) := by decide +kernel
theorem dX10_worst_58 : decode cX10_worst 58 = .ok (.istore_n 2, 1) := by decide +kernel
theorem dX10_worst_59 : decode cX10_worst 59 = .ok (.iload_n 3, 1) := by decide +kernel
theorem dX10_worst_60 : decode cX10_worst 60 = .ok (.istore_n 1, 1) := by decide +kernel
theorem dX10_worst_61 : decode cX10_worst 61 = .ok (.iinc 3 1, 3) := by decide +kernel
theorem dX10_worst_64 : decode cX10_worst 64 = .ok (.goto (-51), 3) := by decide +kernel
theorem dX10_worst_67 : decode cX10_worst 67 = .ok (.iload_n 1, 1) := by decide +kernel
theorem dX10_worst_68 : decode cX10_worst 68 = .ok (.ireturn, 1) := by decide +kernel
theorem gX10_worst_0 {d : Nat} {M : ev_Mem} {Q : Option Value → ev_Mem → Prop} (h : (∀ M1 : ev_Mem, M1 = ev_wr M 86 8 (-1) → (Ev LX (d + 1) mX10_worst 13 [some (.ref 0), some (.int (-1)), some (.int (-1)), some (.int 0), none] [] M1 Q))) : Ev LX (d + 1) mX10_worst 0 [some (.ref 0), none, none, none, none] [] M Q := by
  refine ev_aload_n dX10_worst_0 rfl ?_
  refine ev_getA dX10_worst_1 fl_WithoutE_98 lx_0 rfl ?_
  refine ev_callV [] dX10_worst_4 ml_WithoutE_342 lx_86 rfl rfl (Nat.le_of_ble_eq_true rfl) (kX6_forget) ?_
  rintro zr zM ⟨q1, q2⟩
  rw [q1, q2]
  generalize eM1 : ev_wr M 86 8 (-1) = M1
  replace h := h M1 eM1.symm
  show Ev LX (d + 1) mX10_worst 7 [some (.ref 0), none, none, none, none] [] M1 Q
  refine ev_iconst (v := -1) dX10_worst_7 (by decide) ?_
  refine ev_istore_n (ls2 := [some (.ref 0), some (.int (-1)), none, none, none]) dX10_worst_8 (Nat.le_of_ble_eq_true rfl) rfl ?_
  refine ev_iconst (v := -1) dX10_worst_9 (by decide) ?_
  refine ev_istore_n (ls2 := [some (.ref 0), some (.int (-1)), some (.int (-1)), none, none]) dX10_worst_10 (Nat.le_of_ble_eq_true rfl) rfl ?_
  refine ev_iconst (v := 0) dX10_worst_11 (by decide) ?_
  refine ev_istore_n (ls2 := [some (.ref 0), some (.int (-1)), some (.int (-1)), some (.int 0), none]) dX10_worst_12 (Nat.le_of_ble_eq_true rfl) rfl ?_
  exact h
theorem gX10_worst_13 {d : Nat} {M : ev_Mem} {Q : Option Value → ev_Mem → Prop} {x1 x2 x3 : Int32} (h : (((26 ≤ x3) → (Q (some (.int x1)) M)) ∧ ((¬ 26 ≤ x3) → ((((hs (M.1 43 0) x3) = true) → (Ev LX (d + 1) mX10_worst 13 [some (.ref 0), some (.int x1), some (.int x2), some (.int (x3 + 1)), none] [] M Q)) ∧ (((hs (M.1 43 0) x3) = false) → (∃ Q2 : Option Value → ev_Mem → Prop, Cl LX d mX10_totalWith [.ref 0, .int ((M.1 43 0) ||| (1 <<< (x3 &&& 31)))] M Q2 ∧ ∀ (zr : Option Value) (zM : ev_Mem), Q2 zr zM → Ev LX (d + 1) mX10_worst 48 [some (.ref 0), some (.int x1), some (.int x2), some (.int x3), none] (zr.toList ++ []) zM Q)))))) : Ev LX (d + 1) mX10_worst 13 [some (.ref 0), some (.int x1), some (.int x2), some (.int x3), none] [] M Q := by
  refine ev_iload_n dX10_worst_13 rfl ?_
  refine ev_bipush (v := 26) dX10_worst_14 (by decide) ?_
  refine ev_icmp_ge (tgt := 67) dX10_worst_16 (by decide) (fun c => ?_) (fun c => ?_)
  · replace h := h.1 c
    refine ev_iload_n dX10_worst_67 rfl ?_
    exact ev_iret dX10_worst_68 rfl h
  · replace h := h.2 c
    refine ev_aload_n dX10_worst_19 rfl ?_
    refine ev_getA dX10_worst_20 fl_WithoutE_26 lx_0 rfl ?_
    refine ev_getI dX10_worst_23 fl_WithoutE_223 lx_43 rfl ?_
    refine ev_iload_n dX10_worst_26 rfl ?_
    refine ev_callS [.int (M.1 43 0), .int x3] dX10_worst_27 ml_WithoutE_226 rfl (Nat.le_of_ble_eq_true rfl) (kX10_has) ?_
    rintro zr zM ⟨q1, q2⟩
    rw [q1, q2]
    show Ev LX (d + 1) mX10_worst 30 [some (.ref 0), some (.int x1), some (.int x2), some (.int x3), none] [(.int (bi (hs (M.1 43 0) x3)))] M Q
    refine ev_if_ne (tgt := 61) dX10_worst_30 (by decide) (fun c => ?_) (fun c => ?_)
    · replace h := h.1 ((bi_n0 _).mp c)
      refine ev_iinc (v := x3 + 1) (ls2 := [some (.ref 0), some (.int x1), some (.int x2), some (.int (x3 + 1)), none]) dX10_worst_61 rfl rfl rfl ?_
      refine ev_goto (tgt := 13) dX10_worst_64 (by decide) ?_
      exact h
    · replace h := h.2 ((bi_0 _).mp c)
      refine ev_aload_n dX10_worst_33 rfl ?_
      refine ev_aload_n dX10_worst_34 rfl ?_
      refine ev_getA dX10_worst_35 fl_WithoutE_26 lx_0 rfl ?_
      refine ev_getI dX10_worst_38 fl_WithoutE_223 lx_43 rfl ?_
      refine ev_iconst (v := 1) dX10_worst_41 (by decide) ?_
      refine ev_iload_n dX10_worst_42 rfl ?_
      refine ev_ishl dX10_worst_43 ?_
      refine ev_ior dX10_worst_44 ?_
      obtain ⟨Q2, hc, h⟩ := h
      refine ev_callV [.int ((M.1 43 0) ||| (1 <<< (x3 &&& 31)))] dX10_worst_45 ml_WithoutE_349 lx_0 rfl rfl (Nat.le_of_ble_eq_true rfl) hc (fun zr zM q => ?_)
      exact h zr zM q
theorem gX10_worst_48 {d : Nat} {M : ev_Mem} {Q : Option Value → ev_Mem → Prop} {x1 x2 x3 s0 : Int32} (h : (((s0 ≤ x2) → (Ev LX d mX10_worst 13 [some (.ref 0), some (.int x1), some (.int x2), some (.int (x3 + 1)), none] [] M Q)) ∧ ((¬ s0 ≤ x2) → (Ev LX d mX10_worst 13 [some (.ref 0), some (.int x3), some (.int s0), some (.int (x3 + 1)), none] [] M Q)))) : Ev LX d mX10_worst 48 [some (.ref 0), some (.int x1), some (.int x2), some (.int x3), none] [(.int s0)] M Q := by
  refine ev_istore (ls2 := [some (.ref 0), some (.int x1), some (.int x2), some (.int x3), some (.int s0)]) dX10_worst_48 (Nat.le_of_ble_eq_true rfl) rfl ?_
  refine ev_iload dX10_worst_50 rfl ?_
  refine ev_iload_n dX10_worst_52 rfl ?_
  refine ev_icmp_le (tgt := 61) dX10_worst_53 (by decide) (fun c => ?_) (fun c => ?_)
  · replace h := h.1 c
    refine ev_iinc (v := x3 + 1) (ls2 := [some (.ref 0), some (.int x1), some (.int x2), some (.int (x3 + 1)), some (.int s0)]) dX10_worst_61 rfl rfl rfl ?_
    refine ev_goto (tgt := 13) dX10_worst_64 (by decide) ?_
    refine Ev.weak (ls := [some (.ref 0), some (.int x1), some (.int x2), some (.int (x3 + 1)), none]) ⟨rfl, rfl, rfl, rfl, trivial⟩ ?_
    exact h
  · replace h := h.2 c
    refine ev_iload dX10_worst_56 rfl ?_
    refine ev_istore_n (ls2 := [some (.ref 0), some (.int x1), some (.int s0), some (.int x3), some (.int s0)]) dX10_worst_58 (Nat.le_of_ble_eq_true rfl) rfl ?_
    refine ev_iload_n dX10_worst_59 rfl ?_
    refine ev_istore_n (ls2 := [some (.ref 0), some (.int x3), some (.int s0), some (.int x3), some (.int s0)]) dX10_worst_60 (Nat.le_of_ble_eq_true rfl) rfl ?_
    refine ev_iinc (v := x3 + 1) (ls2 := [some (.ref 0), some (.int x3), some (.int s0), some (.int (x3 + 1)), some (.int s0)]) dX10_worst_61 rfl rfl rfl ?_
    refine ev_goto (tgt := 13) dX10_worst_64 (by decide) ?_
    refine Ev.weak (ls := [some (.ref 0), some (.int x3), some (.int s0), some (.int (x3 + 1)), none]) ⟨rfl, rfl, rfl, rfl, trivial⟩ ?_
    exact h
theorem dX10_few_0 : decode cX10_few 0 = .ok (.aload_n 0, 1) := by decide +kernel
theorem dX10_few_1 : decode cX10_few 1 = .ok (.getfield 98, 3) := by decide +kernel
theorem dX10_few_4 : decode cX10_few 4 = .ok (.invokevirtual 342, 3) := by decide +kernel
theorem dX10_few_7 : decode cX10_few 7 = .ok (.iconst (-1), 1) := by decide +kernel
theorem dX10_few_8 : decode cX10_few 8 = .ok (.istore_n 2, 1) := by decide +kernel
theorem dX10_few_9 : decode cX10_few 9 = .ok (.iconst (-1), 1) := by decide +kernel
theorem dX10_few_10 : decode cX10_few 10 = .ok (.istore_n 3, 1) := by decide +kernel
theorem dX10_few_11 : decode cX10_few 11 = .ok (.iconst (-1), 1) := by decide +kernel
theorem dX10_few_12 : decode cX10_few 12 = .ok (.istore 4, 2) := by decide +kernel
theorem dX10_few_14 : decode cX10_few 14 = .ok (.iconst 0, 1) := by decide +kernel
theorem dX10_few_15 : decode cX10_few 15 = .ok (.istore 5, 2) := by decide +kernel
theorem dX10_few_17 : decode cX10_few 17 = .ok (.iload 5, 2) := by decide +kernel
theorem dX10_few_19 : decode cX10_few 19 = .ok (.bipush 26, 2) := by decide +kernel
theorem dX10_few_21 : decode cX10_few 21 = .ok (.if_icmp .ge 88, 3) := by decide +kernel
theorem dX10_few_24 : decode cX10_few 24 = .ok (.iload 5, 2) := by decide +kernel
theorem dX10_few_26 : decode cX10_few 26 = .ok (.iconst 1, 1) := by decide +kernel
theorem dX10_few_27 : decode cX10_few 27 = .ok (.iadd, 1) := by decide +kernel
theorem dX10_few_28 : decode cX10_few 28 = .ok (.istore 6, 2) := by decide +kernel
theorem dX10_few_30 : decode cX10_few 30 = .ok (.iload 6, 2) := by decide +kernel
theorem dX10_few_32 : decode cX10_few 32 = .ok (.bipush 26, 2) := by decide +kernel
theorem dX10_few_34 : decode cX10_few 34 = .ok (.if_icmp .ge 69, 3) := by decide +kernel
theorem dX10_few_37 : decode cX10_few 37 = .ok (.iconst 1, 1) := by decide +kernel
theorem dX10_few_38 : decode cX10_few 38 = .ok (.iload 5, 2) := by decide +kernel
theorem dX10_few_40 : decode cX10_few 40 = .ok (.ishl, 1) := by decide +kernel
theorem dX10_few_41 : decode cX10_few 41 = .ok (.iconst 1, 1) := by decide +kernel
theorem dX10_few_42 : decode cX10_few 42 = .ok (.iload 6, 2) := by decide +kernel
theorem dX10_few_44 : decode cX10_few 44 = .ok (.ishl, 1) := by decide +kernel
theorem dX10_few_45 : decode cX10_few 45 = .ok (.ior, 1) := by decide +kernel
theorem dX10_few_46 : decode cX10_few 46 = .ok (.istore 7, 2) := by decide +kernel
theorem dX10_few_48 : decode cX10_few 48 = .ok (.aload_n 0, 1) := by decide +kernel
theorem dX10_few_49 : decode cX10_few 49 = .ok (.getfield 26, 3) := by decide +kernel
theorem dX10_few_52 : decode cX10_few 52 = .ok (.getfield 223, 3) := by decide +kernel
theorem dX10_few_55 : decode cX10_few 55 = .ok (.iload 7, 2) := by decide +kernel
theorem dX10_few_57 : decode cX10_few 57 = .ok (.iand, 1) := by decide +kernel
theorem dX10_few_58 : decode cX10_few 58 = .ok (.ifCond .eq 6, 3) := by decide +kernel
theorem dX10_few_61 : decode cX10_few 61 = .ok (.goto 36, 3) := by decide +kernel
theorem dX10_few_64 : decode cX10_few 64 = .ok (.aload_n 0, 1) := by decide +kernel
theorem dX10_few_65 : decode cX10_few 65 = .ok (.aload_n 0, 1) := by decide +kernel
theorem dX10_few_66 : decode cX10_few 66 = .ok (.getfield 26, 3) := by decide +kernel
theorem dX10_few_69 : decode cX10_few 69 = .ok (.getfield 223, 3) := by decide +kernel
theorem dX10_few_72 : decode cX10_few 72 = .ok (.iload 7, 2) := by decide +kernel
theorem dX10_few_74 : decode cX10_few 74 = .ok (.ior, 1) := by decide +kernel
theorem dX10_few_75 : decode cX10_few 75 = .ok (.invokevirtual 349, 3) := by decide +kernel
theorem dX10_few_78 : decode cX10_few 78 = .ok (.istore 8, 2) := by decide +kernel
theorem dX10_few_80 : decode cX10_few 80 = .ok (.iload 8, 2) := by decide +kernel
theorem dX10_few_82 : decode cX10_few 82 = .ok (.iload 4, 2) := by decide +kernel
theorem dX10_few_84 : decode cX10_few 84 = .ok (.if_icmp .le 13, 3) := by decide +kernel
theorem dX10_few_87 : decode cX10_few 87 = .ok (.iload 8, 2) := by decide +kernel
theorem dX10_few_89 : decode cX10_few 89 = .ok (.istore 4, 2) := by decide +kernel
theorem dX10_few_91 : decode cX10_few 91 = .ok (.iload 5, 2) := by decide +kernel
theorem dX10_few_93 : decode cX10_few 93 = .ok (.istore_n 2, 1) := by decide +kernel
theorem dX10_few_94 : decode cX10_few 94 = .ok (.iload 6, 2) := by decide +kernel
theorem dX10_few_96 : decode cX10_few 96 = .ok (.istore_n 3, 1) := by decide +kernel
theorem dX10_few_97 : decode cX10_few 97 = .ok (.iinc 6 1, 3) := by decide +kernel
theorem dX10_few_100 : decode cX10_few 100 = .ok (.goto (-70), 3) := by decide +kernel
theorem dX10_few_103 : decode cX10_few 103 = .ok (.iinc 5 1, 3) := by decide +kernel
theorem dX10_few_106 : decode cX10_few 106 = .ok (.goto (-89), 3) := by decide +kernel
theorem dX10_few_109 : decode cX10_few 109 = .ok (.iload_n 1, 1) := by decide +kernel
theorem dX10_few_110 : decode cX10_few 110 = .ok (.ifCond .eq 7, 3) := by decide +kernel
theorem dX10_few_113 : decode cX10_few 113 = .ok (.iload_n 3, 1) := by decide +kernel
theorem dX10_few_114 : decode cX10_few 114 = .ok (.goto 4, 3) := by decide +kernel
theorem dX10_few_117 : decode cX10_few 117 = .ok (.iload_n 2, 1) := by decide +kernel
theorem dX10_few_118 : decode cX10_few 118 = .ok (.ireturn, 1) := by decide +kernel
theorem gX10_few_0 {d : Nat} {M : ev_Mem} {Q : Option Value → ev_Mem → Prop} {x1 : Int32} (h : (∀ M1 : ev_Mem, M1 = ev_wr M 86 8 (-1) → (Ev LX (d + 1) mX10_few 17 [some (.ref 0), some (.int x1), some (.int (-1)), some (.int (-1)), some (.int (-1)), some (.int 0), none, none, none] [] M1 Q))) : Ev LX (d + 1) mX10_few 0 [some (.ref 0), some (.int x1), none, none, none, none, none, none, none] [] M Q := by
  refine ev_aload_n dX10_few_0 rfl ?_
  refine ev_getA dX10_few_1 fl_WithoutE_98 lx_0 rfl ?_
  refine ev_callV [] dX10_few_4 ml_WithoutE_342 lx_86 rfl rfl (Nat.le_of_ble_eq_true rfl) (kX6_forget) ?_
  rintro zr zM ⟨q1, q2⟩
  rw [q1, q2]
  generalize eM1 : ev_wr M 86 8 (-1) = M1
  replace h := h M1 eM1.symm
  show Ev LX (d + 1) mX10_few 7 [some (.ref 0), some (.int x1), none, none, none, none, none, none, none] [] M1 Q
  refine ev_iconst (v := -1) dX10_few_7 (by decide) ?_
  refine ev_istore_n (ls2 := [some (.ref 0), some (.int x1), some (.int (-1)), none, none, none, none, none, none]) dX10_few_8 (Nat.le_of_ble_eq_true rfl) rfl ?_
  refine ev_iconst (v := -1) dX10_few_9 (by decide) ?_
  refine ev_istore_n (ls2 := [some (.ref 0), some (.int x1), some (.int (-1)), some (.int (-1)), none, none, none, none, none]) dX10_few_10 (Nat.le_of_ble_eq_true rfl) rfl ?_
  refine ev_iconst (v := -1) dX10_few_11 (by decide) ?_
  refine ev_istore (ls2 := [some (.ref 0), some (.int x1), some (.int (-1)), some (.int (-1)), some (.int (-1)), none, none, none, none]) dX10_few_12 (Nat.le_of_ble_eq_true rfl) rfl ?_
  refine ev_iconst (v := 0) dX10_few_14 (by decide) ?_
  refine ev_istore (ls2 := [some (.ref 0), some (.int x1), some (.int (-1)), some (.int (-1)), some (.int (-1)), some (.int 0), none, none, none]) dX10_few_15 (Nat.le_of_ble_eq_true rfl) rfl ?_
  exact h
theorem gX10_few_17 {d : Nat} {M : ev_Mem} {Q : Option Value → ev_Mem → Prop} {x1 x2 x3 x4 x5 : Int32} (h : (((26 ≤ x5) → (((x1 = 0) → (Q (some (.int x2)) M)) ∧ ((¬ x1 = 0) → (Q (some (.int x3)) M)))) ∧ ((¬ 26 ≤ x5) → (Ev LX d mX10_few 30 [some (.ref 0), some (.int x1), some (.int x2), some (.int x3), some (.int x4), some (.int x5), some (.int (x5 + 1)), none, none] [] M Q)))) : Ev LX d mX10_few 17 [some (.ref 0), some (.int x1), some (.int x2), some (.int x3), some (.int x4), some (.int x5), none, none, none] [] M Q := by
  refine ev_iload dX10_few_17 rfl ?_
  refine ev_bipush (v := 26) dX10_few_19 (by decide) ?_
  refine ev_icmp_ge (tgt := 109) dX10_few_21 (by decide) (fun c => ?_) (fun c => ?_)
  · replace h := h.1 c
    refine ev_iload_n dX10_few_109 rfl ?_
    refine ev_if_eq (tgt := 117) dX10_few_110 (by decide) (fun c => ?_) (fun c => ?_)
    · replace h := h.1 c
      refine ev_iload_n dX10_few_117 rfl ?_
      exact ev_iret dX10_few_118 rfl h
    · replace h := h.2 c
      refine ev_iload_n dX10_few_113 rfl ?_
      refine ev_goto (tgt := 118) dX10_few_114 (by decide) ?_
      exact ev_iret dX10_few_118 rfl h
  · replace h := h.2 c
    refine ev_iload dX10_few_24 rfl ?_
    refine ev_iconst (v := 1) dX10_few_26 (by decide) ?_
    refine ev_iadd dX10_few_27 ?_
    refine ev_istore (ls2 := [some (.ref 0), some (.int x1), some (.int x2), some (.int x3), some (.int x4), some (.int x5), some (.int (x5 + 1)), none, none]) dX10_few_28 (Nat.le_of_ble_eq_true rfl) rfl ?_
    exact h
theorem gX10_few_30 {d : Nat} {M : ev_Mem} {Q : Option Value → ev_Mem → Prop} {x1 x2 x3 x4 x5 x6 : Int32} (h : (((26 ≤ x6) → (Ev LX (d + 1) mX10_few 17 [some (.ref 0), some (.int x1), some (.int x2), some (.int x3), some (.int x4), some (.int (x5 + 1)), none, none, none] [] M Q)) ∧ ((¬ 26 ≤ x6) → (∀ v1 : Int32, v1 = (1 <<< (x5 &&& 31)) ||| (1 <<< (x6 &&& 31)) → (((((M.1 43 0) &&& v1) = 0) → (∃ Q2 : Option Value → ev_Mem → Prop, Cl LX d mX10_totalWith [.ref 0, .int ((M.1 43 0) ||| v1)] M Q2 ∧ ∀ (zr : Option Value) (zM : ev_Mem), Q2 zr zM → Ev LX (d + 1) mX10_few 78 [some (.ref 0), some (.int x1), some (.int x2), some (.int x3), some (.int x4), some (.int x5), some (.int x6), none, none] (zr.toList ++ []) zM Q)) ∧ ((¬ ((M.1 43 0) &&& v1) = 0) → (Ev LX (d + 1) mX10_few 30 [some (.ref 0), some (.int x1), some (.int x2), some (.int x3), some (.int x4), some (.int x5), some (.int (x6 + 1)), none, none] [] M Q))))))) : Ev LX (d + 1) mX10_few 30 [some (.ref 0), some (.int x1), some (.int x2), some (.int x3), some (.int x4), some (.int x5), some (.int x6), none, none] [] M Q := by
  refine ev_iload dX10_few_30 rfl ?_
  refine ev_bipush (v := 26) dX10_few_32 (by decide) ?_
  refine ev_icmp_ge (tgt := 103) dX10_few_34 (by decide) (fun c => ?_) (fun c => ?_)
  · replace h := h.1 c
    refine ev_iinc (v := x5 + 1) (ls2 := [some (.ref 0), some (.int x1), some (.int x2), some (.int x3), some (.int x4), some (.int (x5 + 1)), some (.int x6), none, none]) dX10_few_103 rfl rfl rfl ?_
    refine ev_goto (tgt := 17) dX10_few_106 (by decide) ?_
    refine Ev.weak (ls := [some (.ref 0), some (.int x1), some (.int x2), some (.int x3), some (.int x4), some (.int (x5 + 1)), none, none, none]) ⟨rfl, rfl, rfl, rfl, rfl, rfl, trivial⟩ ?_
    exact h
  · replace h := h.2 c
    refine ev_iconst (v := 1) dX10_few_37 (by decide) ?_
    refine ev_iload dX10_few_38 rfl ?_
    refine ev_ishl dX10_few_40 ?_
    refine ev_iconst (v := 1) dX10_few_41 (by decide) ?_
    refine ev_iload dX10_few_42 rfl ?_
    refine ev_ishl dX10_few_44 ?_
    refine ev_ior dX10_few_45 ?_
    refine ev_istore (ls2 := [some (.ref 0), some (.int x1), some (.int x2), some (.int x3), some (.int x4), some (.int x5), some (.int x6), some (.int ((1 <<< (x5 &&& 31)) ||| (1 <<< (x6 &&& 31)))), none]) dX10_few_46 (Nat.le_of_ble_eq_true rfl) rfl ?_
    generalize ev1 : (1 <<< (x5 &&& 31)) ||| (1 <<< (x6 &&& 31)) = v1
    replace h := h v1 ev1.symm
    refine ev_aload_n dX10_few_48 rfl ?_
    refine ev_getA dX10_few_49 fl_WithoutE_26 lx_0 rfl ?_
    refine ev_getI dX10_few_52 fl_WithoutE_223 lx_43 rfl ?_
    refine ev_iload dX10_few_55 rfl ?_
    refine ev_iand dX10_few_57 ?_
    refine ev_if_eq (tgt := 64) dX10_few_58 (by decide) (fun c => ?_) (fun c => ?_)
    · replace h := h.1 c
      refine ev_aload_n dX10_few_64 rfl ?_
      refine ev_aload_n dX10_few_65 rfl ?_
      refine ev_getA dX10_few_66 fl_WithoutE_26 lx_0 rfl ?_
      refine ev_getI dX10_few_69 fl_WithoutE_223 lx_43 rfl ?_
      refine ev_iload dX10_few_72 rfl ?_
      refine ev_ior dX10_few_74 ?_
      obtain ⟨Q2, hc, h⟩ := h
      refine ev_callV [.int ((M.1 43 0) ||| v1)] dX10_few_75 ml_WithoutE_349 lx_0 rfl rfl (Nat.le_of_ble_eq_true rfl) hc (fun zr zM q => ?_)
      refine Ev.weak (ls := [some (.ref 0), some (.int x1), some (.int x2), some (.int x3), some (.int x4), some (.int x5), some (.int x6), none, none]) ⟨rfl, rfl, rfl, rfl, rfl, rfl, rfl, trivial⟩ ?_
      exact h zr zM q
    · replace h := h.2 c
      refine ev_goto (tgt := 97) dX10_few_61 (by decide) ?_
      refine ev_iinc (v := x6 + 1) (ls2 := [some (.ref 0), some (.int x1), some (.int x2), some (.int x3), some (.int x4), some (.int x5), some (.int (x6 + 1)), some (.int v1), none]) dX10_few_97 rfl rfl rfl ?_
      refine ev_goto (tgt := 30) dX10_few_100 (by decide) ?_
      refine Ev.weak (ls := [some (.ref 0), some (.int x1), some (.int x2), some (.int x3), some (.int x4), some (.int x5), some (.int (x6 + 1)), none, none]) ⟨rfl, rfl, rfl, rfl, rfl, rfl, rfl, trivial⟩ ?_
      exact h
theorem gX10_few_78 {d : Nat} {M : ev_Mem} {Q : Option Value → ev_Mem → Prop} {x1 x2 x3 x4 x5 x6 s0 : Int32} (h : (((s0 ≤ x4) → (Ev LX d mX10_few 30 [some (.ref 0), some (.int x1), some (.int x2), some (.int x3), some (.int x4), some (.int x5), some (.int (x6 + 1)), none, none] [] M Q)) ∧ ((¬ s0 ≤ x4) → (Ev LX d mX10_few 30 [some (.ref 0), some (.int x1), some (.int x5), some (.int x6), some (.int s0), some (.int x5), some (.int (x6 + 1)), none, none] [] M Q)))) : Ev LX d mX10_few 78 [some (.ref 0), some (.int x1), some (.int x2), some (.int x3), some (.int x4), some (.int x5), some (.int x6), none, none] [(.int s0)] M Q := by
  refine ev_istore (ls2 := [some (.ref 0), some (.int x1), some (.int x2), some (.int x3), some (.int x4), some (.int x5), some (.int x6), none, some (.int s0)]) dX10_few_78 (Nat.le_of_ble_eq_true rfl) rfl ?_
  refine ev_iload dX10_few_80 rfl ?_
  refine ev_iload dX10_few_82 rfl ?_
  refine ev_icmp_le (tgt := 97) dX10_few_84 (by decide) (fun c => ?_) (fun c => ?_)
  · replace h := h.1 c
    refine ev_iinc (v := x6 + 1) (ls2 := [some (.ref 0), some (.int x1), some (.int x2), some (.int x3), some (.int x4), some (.int x5), some (.int (x6 + 1)), none, some (.int s0)]) dX10_few_97 rfl rfl rfl ?_
    refine ev_goto (tgt := 30) dX10_few_100 (by decide) ?_
    refine Ev.weak (ls := [some (.ref 0), some (.int x1), some (.int x2), some (.int x3), some (.int x4), some (.int x5), some (.int (x6 + 1)), none, none]) ⟨rfl, rfl, rfl, rfl, rfl, rfl, rfl, trivial⟩ ?_
    exact h
  · replace h := h.2 c
    refine ev_iload dX10_few_87 rfl ?_
    refine ev_istore (ls2 := [some (.ref 0), some (.int x1), some (.int x2), some (.int x3), some (.int s0), some (.int x5), some (.int x6), none, some (.int s0)]) dX10_few_89 (Nat.le_of_ble_eq_true rfl) rfl ?_
    refine ev_iload dX10_few_91 rfl ?_
    refine ev_istore_n (ls2 := [some (.ref 0), some (.int x1), some (.int x5), some (.int x3), some (.int s0), some (.int x5), some (.int x6), none, some (.int s0)]) dX10_few_93 (Nat.le_of_ble_eq_true rfl) rfl ?_
    refine ev_iload dX10_few_94 rfl ?_
    refine ev_istore_n (ls2 := [some (.ref 0), some (.int x1), some (.int x5), some (.int x6), some (.int s0), some (.int x5), some (.int x6), none, some (.int s0)]) dX10_few_96 (Nat.le_of_ble_eq_true rfl) rfl ?_
    refine ev_iinc (v := x6 + 1) (ls2 := [some (.ref 0), some (.int x1), some (.int x5), some (.int x6), some (.int s0), some (.int x5), some (.int (x6 + 1)), none, some (.int s0)]) dX10_few_97 rfl rfl rfl ?_
    refine ev_goto (tgt := 30) dX10_few_100 (by decide) ?_
    refine Ev.weak (ls := [some (.ref 0), some (.int x1), some (.int x5), some (.int x6), some (.int s0), some (.int x5), some (.int (x6 + 1)), none, none]) ⟨rfl, rfl, rfl, rfl, rfl, rfl, rfl, trivial⟩ ?_
    exact h
theorem dX10_longer_0 : decode cX10_longer 0 = .ok (.aload_n 0, 1) := by decide +kernel
theorem dX10_longer_1 : decode cX10_longer 1 = .ok (.invokevirtual 236, 3) := by decide +kernel
theorem dX10_longer_4 : decode cX10_longer 4 = .ok (.iconst 0, 1) := by decide +kernel
theorem dX10_longer_5 : decode cX10_longer 5 = .ok (.istore_n 1, 1) := by decide +kernel
theorem dX10_longer_6 : decode cX10_longer 6 = .ok (.iconst 0, 1) := by decide +kernel
theorem dX10_longer_7 : decode cX10_longer 7 = .ok (.istore_n 2, 1) := by decide +kernel
theorem dX10_longer_8 : decode cX10_longer 8 = .ok (.iconst 0, 1) := by decide +kernel
theorem dX10_longer_9 : decode cX10_longer 9 = .ok (.istore_n 3, 1) := by decide +kernel
theorem dX10_longer_10 : decode cX10_longer 10 = .ok (.iload_n 3, 1) := by decide +kernel
theorem dX10_longer_11 : decode cX10_longer 11 = .ok (.aload_n 0, 1) := by decide +kernel
theorem dX10_longer_12 : decode cX10_longer 12 = .ok (.getfield 19, 3) := by decide +kernel
theorem dX10_longer_15 : decode cX10_longer 15 = .ok (.getfield 262, 3) := by decide +kernel
theorem dX10_longer_18 : decode cX10_longer 18 = .ok (.if_icmp .ge 36, 3) := by decide +kernel
theorem dX10_longer_21 : decode cX10_longer 21 = .ok (.aload_n 0, 1) := by decide +kernel
theorem dX10_longer_22 : decode cX10_longer 22 = .ok (.getfield 98, 3) := by decide +kernel
theorem dX10_longer_25 : decode cX10_longer 25 = .ok (.iload_n 3, 1) := by decide +kernel
theorem dX10_longer_26 : decode cX10_longer 26 = .ok (.invokevirtual 239, 3) := by decide +kernel
theorem dX10_longer_29 : decode cX10_longer 29 = .ok (.ifCond .eq 19, 3) := by decide +kernel
theorem dX10_longer_32 : decode cX10_longer 32 = .ok (.iload_n 1, 1) := by decide +kernel
theorem dX10_longer_33 : decode cX10_longer 33 = .ok (.iconst 1, 1) := by decide +kernel
theorem dX10_longer_34 : decode cX10_longer 34 = .ok (.iload_n 3, 1) := by decide +kernel
theorem dX10_longer_35 : decode cX10_longer 35 = .ok (.ishl, 1) := by decide +kernel
theorem dX10_longer_36 : decode cX10_longer 36 = .ok (.ior, 1) := by decide +kernel
theorem dX10_longer_37 : decode cX10_longer 37 = .ok (.istore_n 1, 1) := by decide +kernel
theorem dX10_longer_38 : decode cX10_longer 38 = .ok (.iload_n 2, 1) := by decide +kernel
theorem dX10_longer_39 : decode cX10_longer 39 = .ok (.aload_n 0, 1) := by decide +kernel
theorem dX10_longer_40 : decode cX10_longer 40 = .ok (.getfield 98, 3) := by decide +kernel
theorem dX10_longer_43 : decode cX10_longer 43 = .ok (.getfield 321, 3) := by decide +kernel
theorem dX10_longer_46 : decode cX10_longer 46 = .ok (.iadd, 1) := by decide +kernel
theorem dX10_longer_47 : decode cX10_longer 47 = .ok (.istore_n 2, 1) := by decide +kernel
theorem dX10_longer_48 : decode cX10_longer 48 = .ok (.iinc 3 1, 3) := by decide +kernel
theorem dX10_longer_51 : decode cX10_longer 51 = .ok (.goto (-41), 3) := by decide +kernel
theorem dX10_longer_54 : decode cX10_longer 54 = .ok (.aload_n 0, 1) := by decide +kernel
theorem dX10_longer_55 : decode cX10_longer 55 = .ok (.getfield 98, 3) := by decide +kernel
theorem dX10_longer_58 : decode cX10_longer 58 = .ok (.aload_n 0, 1) := by decide +kernel
theorem dX10_longer_59 : decode cX10_longer 59 = .ok (.invokevirtual 294, 3) := by decide +kernel
theorem dX10_longer_62 : decode cX10_longer 62 = .ok (.iconst 0, 1) := by decide +kernel
theorem dX10_longer_63 : decode cX10_longer 63 = .ok (.invokevirtual 345, 3) := by decide +kernel
theorem dX10_longer_66 : decode cX10_longer 66 = .ok (.iconst 0, 1) := by decide +kernel
theorem dX10_longer_67 : decode cX10_longer 67 = .ok (.istore_n 3, 1) := by decide +kernel
theorem dX10_longer_68 : decode cX10_longer 68 = .ok (.iconst 0, 1) := by decide +kernel
theorem dX10_longer_69 : decode cX10_longer 69 = .ok (.istore 4, 2) := by decide +kernel
theorem dX10_longer_71 : decode cX10_longer 71 = .ok (.iload 4, 2) := by decide +kernel
theorem dX10_longer_73 : decode cX10_longer 73 = .ok (.aload_n 0, 1) := by decide +kernel
theorem dX10_longer_74 : decode cX10_longer 74 = .ok (.getfield 19, 3) := by decide +kernel
theorem dX10_longer_77 : decode cX10_longer 77 = .ok (.getfield 262, 3) := by decide +kernel
theorem dX10_longer_80 : decode cX10_longer 80 = .ok (.if_icmp .ge 40, 3) := by decide +kernel
theorem dX10_longer_83 : decode cX10_longer 83 = .ok (.iload_n 1, 1) := by decide +kernel
theorem dX10_longer_84 : decode cX10_longer 84 = .ok (.iload 4, 2) := by decide +kernel
theorem dX10_longer_86 : decode cX10_longer 86 = .ok (.invokestatic 226, 3) := by decide +kernel
theorem dX10_longer_89 : decode cX10_longer 89 = .ok (.ifCond .eq 25, 3) := by decide +kernel
theorem dX10_longer_92 : decode cX10_longer 92 = .ok (.aload_n 0, 1) := by decide +kernel
theorem dX10_longer_93 : decode cX10_longer 93 = .ok (.getfield 98, 3) := by decide +kernel
theorem dX10_longer_96 : decode cX10_longer 96 = .ok (.iload 4, 2) := by decide +kernel
theorem dX10_longer_98 : decode cX10_longer 98 = .ok (.invokevirtual 239, 3) := by decide +kernel
theorem dX10_longer_101 : decode cX10_longer 101 = .ok (.ifCond .eq 13, 3) := by decide +kernel
theorem dX10_longer_104 : decode cX10_longer 104 = .ok (.iload_n 3, 1) := by decide +kernel
theorem dX10_longer_105 : decode cX10_longer 105 = .ok (.aload_n 0, 1) := by decide +kernel
theorem dX10_longer_106 : decode cX10_longer 106 = .ok (.getfield 98, 3) := by decide +kernel
theorem dX10_longer_109 : decode cX10_longer 109 = .ok (.getfield 321, 3) := by decide +kernel
theorem dX10_longer_112 : decode cX10_longer 112 = .ok (.iadd, 1) := by decide +kernel
theorem dX10_longer_113 : decode cX10_longer 113 = .ok (.istore_n 3, 1) := by decide +kernel
theorem dX10_longer_114 : decode cX10_longer 114 = .ok (.iinc 4 1, 3) := by decide +kernel
theorem dX10_longer_117 : decode cX10_longer 117 = .ok (.goto (-46), 3) := by decide +kernel
theorem dX10_longer_120 : decode cX10_longer 120 = .ok (.iload_n 2, 1) := by decide +kernel
theorem dX10_longer_121 : decode cX10_longer 121 = .ok (.iload_n 3, 1) := by decide +kernel
theorem dX10_longer_122 : decode cX10_longer 122 = .ok (.isub, 1) := by decide +kernel
theorem dX10_longer_123 : decode cX10_longer 123 = .ok (.ireturn, 1) := by decide +kernel
theorem gX10_longer_0 {d : Nat} {M : ev_Mem} {Q : Option Value → ev_Mem → Prop} (h : (∃ Q2 : Option Value → ev_Mem → Prop, Cl LX d mX10_hearNow [.ref 0] M Q2 ∧ ∀ (zr : Option Value) (zM : ev_Mem), Q2 zr zM → Ev LX (d + 1) mX10_longer 4 [some (.ref 0), none, none, none, none] (zr.toList ++ []) zM Q)) : Ev LX (d + 1) mX10_longer 0 [some (.ref 0), none, none, none, none] [] M Q := by
  refine ev_aload_n dX10_longer_0 rfl ?_
  obtain ⟨Q2, hc, h⟩ := h
  refine ev_callV [] dX10_longer_1 ml_WithoutE_236 lx_0 rfl rfl (Nat.le_of_ble_eq_true rfl) hc (fun zr zM q => ?_)
  exact h zr zM q
theorem gX10_longer_4 {d : Nat} {M : ev_Mem} {Q : Option Value → ev_Mem → Prop} (h : (Ev LX d mX10_longer 10 [some (.ref 0), some (.int 0), some (.int 0), some (.int 0), none] [] M Q)) : Ev LX d mX10_longer 4 [some (.ref 0), none, none, none, none] [] M Q := by
  refine ev_iconst (v := 0) dX10_longer_4 (by decide) ?_
  refine ev_istore_n (ls2 := [some (.ref 0), some (.int 0), none, none, none]) dX10_longer_5 (Nat.le_of_ble_eq_true rfl) rfl ?_
  refine ev_iconst (v := 0) dX10_longer_6 (by decide) ?_
  refine ev_istore_n (ls2 := [some (.ref 0), some (.int 0), some (.int 0), none, none]) dX10_longer_7 (Nat.le_of_ble_eq_true rfl) rfl ?_
  refine ev_iconst (v := 0) dX10_longer_8 (by decide) ?_
  refine ev_istore_n (ls2 := [some (.ref 0), some (.int 0), some (.int 0), some (.int 0), none]) dX10_longer_9 (Nat.le_of_ble_eq_true rfl) rfl ?_
  exact h
theorem gX10_longer_10 {d : Nat} {M : ev_Mem} {Q : Option Value → ev_Mem → Prop} {x1 x2 x3 : Int32} (h : ((((M.1 3 8) ≤ x3) → ((okT M) ∧ (∃ Q2 : Option Value → ev_Mem → Prop, Cl LX (d + 1) mX6_suppose [.ref 86, tv (M.1 47 3), .int 0] M Q2 ∧ ∀ (zr : Option Value) (zM : ev_Mem), Q2 zr zM → Ev LX (d + 2) mX10_longer 66 [some (.ref 0), some (.int x1), some (.int x2), none, none] (zr.toList ++ []) zM Q))) ∧ ((¬ (M.1 3 8) ≤ x3) → (∃ Q2 : Option Value → ev_Mem → Prop, Cl LX (d + 1) mX6_speak [.ref 86, .int x3] M Q2 ∧ ∀ (zr : Option Value) (zM : ev_Mem), Q2 zr zM → Ev LX (d + 2) mX10_longer 29 [some (.ref 0), some (.int x1), some (.int x2), some (.int x3), none] (zr.toList ++ []) zM Q)))) : Ev LX (d + 2) mX10_longer 10 [some (.ref 0), some (.int x1), some (.int x2), some (.int x3), none] [] M Q := by
  refine ev_iload_n dX10_longer_10 rfl ?_
  refine ev_aload_n dX10_longer_11 rfl ?_
  refine ev_getA dX10_longer_12 fl_WithoutE_19 lx_0 rfl ?_
  refine ev_getI dX10_longer_15 fl_WithoutE_262 lx_3 rfl ?_
  refine ev_icmp_ge (tgt := 54) dX10_longer_18 (by decide) (fun c => ?_) (fun c => ?_)
  · replace h := h.1 c
    refine ev_aload_n dX10_longer_54 rfl ?_
    refine ev_getA dX10_longer_55 fl_WithoutE_98 lx_0 rfl ?_
    refine ev_aload_n dX10_longer_58 rfl ?_
    obtain ⟨p1, h⟩ := h
    refine ev_callV [] dX10_longer_59 ml_WithoutE_294 lx_0 rfl rfl (Nat.le_of_ble_eq_true rfl) (kX10_ruling p1) ?_
    rintro zr zM ⟨q1, q2⟩
    rw [q1, q2]
    show Ev LX (d + 2) mX10_longer 62 [some (.ref 0), some (.int x1), some (.int x2), some (.int x3), none] [(tv (M.1 47 3)), (.ref 86)] M Q
    refine ev_iconst (v := 0) dX10_longer_62 (by decide) ?_
    obtain ⟨Q2, hc, h⟩ := h
    refine ev_callV [tv (M.1 47 3), .int 0] dX10_longer_63 ml_WithoutE_345 lx_86 rfl rfl (Nat.le_of_ble_eq_true rfl) hc (fun zr zM q => ?_)
    refine Ev.weak (ls := [some (.ref 0), some (.int x1), some (.int x2), none, none]) ⟨rfl, rfl, rfl, trivial⟩ ?_
    exact h zr zM q
  · replace h := h.2 c
    refine ev_aload_n dX10_longer_21 rfl ?_
    refine ev_getA dX10_longer_22 fl_WithoutE_98 lx_0 rfl ?_
    refine ev_iload_n dX10_longer_25 rfl ?_
    obtain ⟨Q2, hc, h⟩ := h
    refine ev_callV [.int x3] dX10_longer_26 ml_WithoutE_239 lx_86 rfl rfl (Nat.le_of_ble_eq_true rfl) hc (fun zr zM q => ?_)
    exact h zr zM q
theorem gX10_longer_66 {d : Nat} {M : ev_Mem} {Q : Option Value → ev_Mem → Prop} {x1 x2 : Int32} (h : (Ev LX d mX10_longer 71 [some (.ref 0), some (.int x1), some (.int x2), some (.int 0), some (.int 0)] [] M Q)) : Ev LX d mX10_longer 66 [some (.ref 0), some (.int x1), some (.int x2), none, none] [] M Q := by
  refine ev_iconst (v := 0) dX10_longer_66 (by decide) ?_
  refine ev_istore_n (ls2 := [some (.ref 0), some (.int x1), some (.int x2), some (.int 0), none]) dX10_longer_67 (Nat.le_of_ble_eq_true rfl) rfl ?_
  refine ev_iconst (v := 0) dX10_longer_68 (by decide) ?_
  refine ev_istore (ls2 := [some (.ref 0), some (.int x1), some (.int x2), some (.int 0), some (.int 0)]) dX10_longer_69 (Nat.le_of_ble_eq_true rfl) rfl ?_
  exact h
theorem gX10_longer_29 {d : Nat} {M : ev_Mem} {Q : Option Value → ev_Mem → Prop} {x1 x2 x3 s0 : Int32} (h : (((s0 = 0) → (Ev LX d mX10_longer 10 [some (.ref 0), some (.int x1), some (.int x2), some (.int (x3 + 1)), none] [] M Q)) ∧ ((¬ s0 = 0) → (∀ v1 : Int32, v1 = x1 ||| (1 <<< (x3 &&& 31)) → (Ev LX d mX10_longer 10 [some (.ref 0), some (.int v1), some (.int (x2 + (M.1 86 16))), some (.int (x3 + 1)), none] [] M Q))))) : Ev LX d mX10_longer 29 [some (.ref 0), some (.int x1), some (.int x2), some (.int x3), none] [(.int s0)] M Q := by
  refine ev_if_eq (tgt := 48) dX10_longer_29 (by decide) (fun c => ?_) (fun c => ?_)
  · replace h := h.1 c
    refine ev_iinc (v := x3 + 1) (ls2 := [some (.ref 0), some (.int x1), some (.int x2), some (.int (x3 + 1)), none]) dX10_longer_48 rfl rfl rfl ?_
    refine ev_goto (tgt := 10) dX10_longer_51 (by decide) ?_
    exact h
  · replace h := h.2 c
    refine ev_iload_n dX10_longer_32 rfl ?_
    refine ev_iconst (v := 1) dX10_longer_33 (by decide) ?_
    refine ev_iload_n dX10_longer_34 rfl ?_
    refine ev_ishl dX10_longer_35 ?_
    refine ev_ior dX10_longer_36 ?_
    refine ev_istore_n (ls2 := [some (.ref 0), some (.int (x1 ||| (1 <<< (x3 &&& 31)))), some (.int x2), some (.int x3), none]) dX10_longer_37 (Nat.le_of_ble_eq_true rfl) rfl ?_
    generalize ev1 : x1 ||| (1 <<< (x3 &&& 31)) = v1
    replace h := h v1 ev1.symm
    refine ev_iload_n dX10_longer_38 rfl ?_
    refine ev_aload_n dX10_longer_39 rfl ?_
    refine ev_getA dX10_longer_40 fl_WithoutE_98 lx_0 rfl ?_
    refine ev_getI dX10_longer_43 fl_WithoutE_321 lx_86 rfl ?_
    refine ev_iadd dX10_longer_46 ?_
    refine ev_istore_n (ls2 := [some (.ref 0), some (.int v1), some (.int (x2 + (M.1 86 16))), some (.int x3), none]) dX10_longer_47 (Nat.le_of_ble_eq_true rfl) rfl ?_
    refine ev_iinc (v := x3 + 1) (ls2 := [some (.ref 0), some (.int v1), some (.int (x2 + (M.1 86 16))), some (.int (x3 + 1)), none]) dX10_longer_48 rfl rfl rfl ?_
    refine ev_goto (tgt := 10) dX10_longer_51 (by decide) ?_
    exact h
theorem gX10_longer_71 {d : Nat} {M : ev_Mem} {Q : Option Value → ev_Mem → Prop} {x1 x2 x3 x4 : Int32} (h : ((((M.1 3 8) ≤ x4) → (Q (some (.int (x2 - x3))) M)) ∧ ((¬ (M.1 3 8) ≤ x4) → ((((hs x1 x4) = false) → (Ev LX (d + 1) mX10_longer 71 [some (.ref 0), some (.int x1), some (.int x2), some (.int x3), some (.int (x4 + 1))] [] M Q)) ∧ (((hs x1 x4) = true) → (∃ Q2 : Option Value → ev_Mem → Prop, Cl LX d mX6_speak [.ref 86, .int x4] M Q2 ∧ ∀ (zr : Option Value) (zM : ev_Mem), Q2 zr zM → Ev LX (d + 1) mX10_longer 101 [some (.ref 0), some (.int x1), some (.int x2), some (.int x3), some (.int x4)] (zr.toList ++ []) zM Q)))))) : Ev LX (d + 1) mX10_longer 71 [some (.ref 0), some (.int x1), some (.int x2), some (.int x3), some (.int x4)] [] M Q := by
  refine ev_iload dX10_longer_71 rfl ?_
  refine ev_aload_n dX10_longer_73 rfl ?_
  refine ev_getA dX10_longer_74 fl_WithoutE_19 lx_0 rfl ?_
  refine ev_getI dX10_longer_77 fl_WithoutE_262 lx_3 rfl ?_
  refine ev_icmp_ge (tgt := 120) dX10_longer_80 (by decide) (fun c => ?_) (fun c => ?_)
  · replace h := h.1 c
    refine ev_iload_n dX10_longer_120 rfl ?_
    refine ev_iload_n dX10_longer_121 rfl ?_
    refine ev_isub dX10_longer_122 ?_
    exact ev_iret dX10_longer_123 rfl h
  · replace h := h.2 c
    refine ev_iload_n dX10_longer_83 rfl ?_
    refine ev_iload dX10_longer_84 rfl ?_
    refine ev_callS [.int x1, .int x4] dX10_longer_86 ml_WithoutE_226 rfl (Nat.le_of_ble_eq_true rfl) (kX10_has) ?_
    rintro zr zM ⟨q1, q2⟩
    rw [q1, q2]
    show Ev LX (d + 1) mX10_longer 89 [some (.ref 0), some (.int x1), some (.int x2), some (.int x3), some (.int x4)] [(.int (bi (hs x1 x4)))] M Q
    refine ev_if_eq (tgt := 114) dX10_longer_89 (by decide) (fun c => ?_) (fun c => ?_)
    · replace h := h.1 ((bi_0 _).mp c)
      refine ev_iinc (v := x4 + 1) (ls2 := [some (.ref 0), some (.int x1), some (.int x2), some (.int x3), some (.int (x4 + 1))]) dX10_longer_114 rfl rfl rfl ?_
      refine ev_goto (tgt := 71) dX10_longer_117 (by decide) ?_
      exact h
    · replace h := h.2 ((bi_n0 _).mp c)
      refine ev_aload_n dX10_longer_92 rfl ?_
      refine ev_getA dX10_longer_93 fl_WithoutE_98 lx_0 rfl ?_
      refine ev_iload dX10_longer_96 rfl ?_
      obtain ⟨Q2, hc, h⟩ := h
      refine ev_callV [.int x4] dX10_longer_98 ml_WithoutE_239 lx_86 rfl rfl (Nat.le_of_ble_eq_true rfl) hc (fun zr zM q => ?_)
      exact h zr zM q
theorem gX10_longer_101 {d : Nat} {M : ev_Mem} {Q : Option Value → ev_Mem → Prop} {x1 x2 x3 x4 s0 : Int32} (h : (((s0 = 0) → (Ev LX d mX10_longer 71 [some (.ref 0), some (.int x1), some (.int x2), some (.int x3), some (.int (x4 + 1))] [] M Q)) ∧ ((¬ s0 = 0) → (Ev LX d mX10_longer 71 [some (.ref 0), some (.int x1), some (.int x2), some (.int (x3 + (M.1 86 16))), some (.int (x4 + 1))] [] M Q)))) : Ev LX d mX10_longer 101 [some (.ref 0), some (.int x1), some (.int x2), some (.int x3), some (.int x4)] [(.int s0)] M Q := by
  refine ev_if_eq (tgt := 114) dX10_longer_101 (by decide) (fun c => ?_) (fun c => ?_)
  · replace h := h.1 c
    refine ev_iinc (v := x4 + 1) (ls2 := [some (.ref 0), some (.int x1), some (.int x2), some (.int x3), some (.int (x4 + 1))]) dX10_longer_114 rfl rfl rfl ?_
    refine ev_goto (tgt := 71) dX10_longer_117 (by decide) ?_
    exact h
  · replace h := h.2 c
    refine ev_iload_n dX10_longer_104 rfl ?_
    refine ev_aload_n dX10_longer_105 rfl ?_
    refine ev_getA dX10_longer_106 fl_WithoutE_98 lx_0 rfl ?_
    refine ev_getI dX10_longer_109 fl_WithoutE_321 lx_86 rfl ?_
    refine ev_iadd dX10_longer_112 ?_
    refine ev_istore_n (ls2 := [some (.ref 0), some (.int x1), some (.int x2), some (.int (x3 + (M.1 86 16))), some (.int x4)]) dX10_longer_113 (Nat.le_of_ble_eq_true rfl) rfl ?_
    refine ev_iinc (v := x4 + 1) (ls2 := [some (.ref 0), some (.int x1), some (.int x2), some (.int (x3 + (M.1 86 16))), some (.int (x4 + 1))]) dX10_longer_114 rfl rfl rfl ?_
    refine ev_goto (tgt := 71) dX10_longer_117 (by decide) ?_
    exact h
theorem dX10_held_0 : decode cX10_held 0 = .ok (.aload_n 0, 1) := by decide +kernel
theorem dX10_held_1 : decode cX10_held 1 = .ok (.invokevirtual 236, 3) := by decide +kernel
theorem dX10_held_4 : decode cX10_held 4 = .ok (.iconst (-1), 1) := by decide +kernel
theorem dX10_held_5 : decode cX10_held 5 = .ok (.istore_n 1, 1) := by decide +kernel
theorem dX10_held_6 : decode cX10_held 6 = .ok (.ldc_w 334, 3) := by decide +kernel
theorem dX10_held_9 : decode cX10_held 9 = .ok (.istore_n 2, 1) := by decide +kernel
theorem dX10_held_10 : decode cX10_held 10 = .ok (.iconst 0, 1) := by decide +kernel
theorem dX10_held_11 : decode cX10_held 11 = .ok (.istore_n 3, 1) := by decide +kernel
theorem dX10_held_12 : decode cX10_held 12 = .ok (.iload_n 3, 1) := by decide +kernel
theorem dX10_held_13 : decode cX10_held 13 = .ok (.aload_n 0, 1) := by decide +kernel
theorem dX10_held_14 : decode cX10_held 14 = .ok (.getfield 19, 3) := by decide +kernel
theorem dX10_held_17 : decode cX10_held 17 = .ok (.getfield 262, 3) := by decide +kernel
theorem dX10_held_20 : decode cX10_held 20 = .ok (.if_icmp .ge 38, 3) := by decide +kernel
theorem dX10_held_23 : decode cX10_held 23 = .ok (.aload_n 0, 1) := by decide +kernel
theorem dX10_held_24 : decode cX10_held 24 = .ok (.getfield 98, 3) := by decide +kernel
theorem dX10_held_27 : decode cX10_held 27 = .ok (.iload_n 3, 1) := by decide +kernel
theorem dX10_held_28 : decode cX10_held 28 = .ok (.invokevirtual 239, 3) := by decide +kernel
theorem dX10_held_31 : decode cX10_held 31 = .ok (.ifCond .eq 21, 3) := by decide +kernel
theorem dX10_held_34 : decode cX10_held 34 = .ok (.aload_n 0, 1) := by decide +kernel
theorem dX10_held_35 : decode cX10_held 35 = .ok (.iconst 0, 1) := by decide +kernel
theorem dX10_held_36 : decode cX10_held 36 = .ok (.invokevirtual 397, 3) := by decide +kernel
theorem dX10_held_39 : decode cX10_held 39 = .ok (.istore 4, 2) := by decide +kernel
theorem dX10_held_41 : decode cX10_held 41 = .ok (.iload 4, 2) := by decide +kernel
theorem dX10_held_43 : decode cX10_held 43 = .ok (.iload_n 2, 1) := by decide +kernel
theorem dX10_held_44 : decode cX10_held 44 = .ok (.if_icmp .ge 8, 3) := by decide +kernel
theorem dX10_held_47 : decode cX10_held 47 = .ok (.iload 4, 2) := by decide +kernel
theorem dX10_held_49 : decode cX10_held 49 = .ok (.istore_n 2, 1) := by decide +kernel
theorem dX10_held_50 : decode cX10_held 50 = .ok (.iload_n 3, 1) := by decide +kernel
theorem dX10_held_51 : decode cX10_held 51 = .ok (.istore_n 1, 1) := by decide +kernel
theorem dX10_held_52 : decode cX10_held 52 = .ok (.iinc 3 1, 3) := by decide +kernel
theorem dX10_held_55 : decode cX10_held 55 = .ok (.goto (-43), 3) := by decide +kernel
theorem dX10_held_58 : decode cX10_held 58 = .ok (.iload_n 1, 1) := by decide +kernel
theorem dX10_held_59 : decode cX10_held 59 = .ok (.ireturn, 1) := by decide +kernel
theorem gX10_held_0 {d : Nat} {M : ev_Mem} {Q : Option Value → ev_Mem → Prop} (h : (∃ Q2 : Option Value → ev_Mem → Prop, Cl LX d mX10_hearNow [.ref 0] M Q2 ∧ ∀ (zr : Option Value) (zM : ev_Mem), Q2 zr zM → Ev LX (d + 1) mX10_held 4 [some (.ref 0), none, none, none, none] (zr.toList ++ []) zM Q)) : Ev LX (d + 1) mX10_held 0 [some (.ref 0), none, none, none, none] [] M Q := by
  refine ev_aload_n dX10_held_0 rfl ?_
  obtain ⟨Q2, hc, h⟩ := h
  refine ev_callV [] dX10_held_1 ml_WithoutE_236 lx_0 rfl rfl (Nat.le_of_ble_eq_true rfl) hc (fun zr zM q => ?_)
  exact h zr zM q
theorem gX10_held_4 {d : Nat} {M : ev_Mem} {Q : Option Value → ev_Mem → Prop} (h : (Ev LX d mX10_held 12 [some (.ref 0), some (.int (-1)), some (.int 1000000), some (.int 0), none] [] M Q)) : Ev LX d mX10_held 4 [some (.ref 0), none, none, none, none] [] M Q := by
  refine ev_iconst (v := -1) dX10_held_4 (by decide) ?_
  refine ev_istore_n (ls2 := [some (.ref 0), some (.int (-1)), none, none, none]) dX10_held_5 (Nat.le_of_ble_eq_true rfl) rfl ?_
  refine ev_ldcw (v := 1000000) dX10_held_6 cw_WithoutE_334 ?_
  refine ev_istore_n (ls2 := [some (.ref 0), some (.int (-1)), some (.int 1000000), none, none]) dX10_held_9 (Nat.le_of_ble_eq_true rfl) rfl ?_
  refine ev_iconst (v := 0) dX10_held_10 (by decide) ?_
  refine ev_istore_n (ls2 := [some (.ref 0), some (.int (-1)), some (.int 1000000), some (.int 0), none]) dX10_held_11 (Nat.le_of_ble_eq_true rfl) rfl ?_
  exact h
theorem gX10_held_12 {d : Nat} {M : ev_Mem} {Q : Option Value → ev_Mem → Prop} {x1 x2 x3 : Int32} (h : ((((M.1 3 8) ≤ x3) → (Q (some (.int x1)) M)) ∧ ((¬ (M.1 3 8) ≤ x3) → (∃ Q2 : Option Value → ev_Mem → Prop, Cl LX d mX6_speak [.ref 86, .int x3] M Q2 ∧ ∀ (zr : Option Value) (zM : ev_Mem), Q2 zr zM → Ev LX (d + 1) mX10_held 31 [some (.ref 0), some (.int x1), some (.int x2), some (.int x3), none] (zr.toList ++ []) zM Q)))) : Ev LX (d + 1) mX10_held 12 [some (.ref 0), some (.int x1), some (.int x2), some (.int x3), none] [] M Q := by
  refine ev_iload_n dX10_held_12 rfl ?_
  refine ev_aload_n dX10_held_13 rfl ?_
  refine ev_getA dX10_held_14 fl_WithoutE_19 lx_0 rfl ?_
  refine ev_getI dX10_held_17 fl_WithoutE_262 lx_3 rfl ?_
  refine ev_icmp_ge (tgt := 58) dX10_held_20 (by decide) (fun c => ?_) (fun c => ?_)
  · replace h := h.1 c
    refine ev_iload_n dX10_held_58 rfl ?_
    exact ev_iret dX10_held_59 rfl h
  · replace h := h.2 c
    refine ev_aload_n dX10_held_23 rfl ?_
    refine ev_getA dX10_held_24 fl_WithoutE_98 lx_0 rfl ?_
    refine ev_iload_n dX10_held_27 rfl ?_
    obtain ⟨Q2, hc, h⟩ := h
    refine ev_callV [.int x3] dX10_held_28 ml_WithoutE_239 lx_86 rfl rfl (Nat.le_of_ble_eq_true rfl) hc (fun zr zM q => ?_)
    exact h zr zM q
theorem gX10_held_31 {d : Nat} {M : ev_Mem} {Q : Option Value → ev_Mem → Prop} {x1 x2 x3 s0 : Int32} (h : (((s0 = 0) → (Ev LX (d + 1) mX10_held 12 [some (.ref 0), some (.int x1), some (.int x2), some (.int (x3 + 1)), none] [] M Q)) ∧ ((¬ s0 = 0) → (∃ Q2 : Option Value → ev_Mem → Prop, Cl LX d mX10_noticeOdds [.ref 0, .int 0] M Q2 ∧ ∀ (zr : Option Value) (zM : ev_Mem), Q2 zr zM → Ev LX (d + 1) mX10_held 39 [some (.ref 0), some (.int x1), some (.int x2), some (.int x3), none] (zr.toList ++ []) zM Q)))) : Ev LX (d + 1) mX10_held 31 [some (.ref 0), some (.int x1), some (.int x2), some (.int x3), none] [(.int s0)] M Q := by
  refine ev_if_eq (tgt := 52) dX10_held_31 (by decide) (fun c => ?_) (fun c => ?_)
  · replace h := h.1 c
    refine ev_iinc (v := x3 + 1) (ls2 := [some (.ref 0), some (.int x1), some (.int x2), some (.int (x3 + 1)), none]) dX10_held_52 rfl rfl rfl ?_
    refine ev_goto (tgt := 12) dX10_held_55 (by decide) ?_
    exact h
  · replace h := h.2 c
    refine ev_aload_n dX10_held_34 rfl ?_
    refine ev_iconst (v := 0) dX10_held_35 (by decide) ?_
    obtain ⟨Q2, hc, h⟩ := h
    refine ev_callV [.int 0] dX10_held_36 ml_WithoutE_397 lx_0 rfl rfl (Nat.le_of_ble_eq_true rfl) hc (fun zr zM q => ?_)
    exact h zr zM q
theorem gX10_held_39 {d : Nat} {M : ev_Mem} {Q : Option Value → ev_Mem → Prop} {x1 x2 x3 s0 : Int32} (h : (((x2 ≤ s0) → (Ev LX d mX10_held 12 [some (.ref 0), some (.int x1), some (.int x2), some (.int (x3 + 1)), none] [] M Q)) ∧ ((¬ x2 ≤ s0) → (Ev LX d mX10_held 12 [some (.ref 0), some (.int x3), some (.int s0), some (.int (x3 + 1)), none] [] M Q)))) : Ev LX d mX10_held 39 [some (.ref 0), some (.int x1), some (.int x2), some (.int x3), none] [(.int s0)] M Q := by
  refine ev_istore (ls2 := [some (.ref 0), some (.int x1), some (.int x2), some (.int x3), some (.int s0)]) dX10_held_39 (Nat.le_of_ble_eq_true rfl) rfl ?_
  refine ev_iload dX10_held_41 rfl ?_
  refine ev_iload_n dX10_held_43 rfl ?_
  refine ev_icmp_ge (tgt := 52) dX10_held_44 (by decide) (fun c => ?_) (fun c => ?_)
  · replace h := h.1 c
    refine ev_iinc (v := x3 + 1) (ls2 := [some (.ref 0), some (.int x1), some (.int x2), some (.int (x3 + 1)), some (.int s0)]) dX10_held_52 rfl rfl rfl ?_
    refine ev_goto (tgt := 12) dX10_held_55 (by decide) ?_
    refine Ev.weak (ls := [some (.ref 0), some (.int x1), some (.int x2), some (.int (x3 + 1)), none]) ⟨rfl, rfl, rfl, rfl, trivial⟩ ?_
    exact h
  · replace h := h.2 c
    refine ev_iload dX10_held_47 rfl ?_
    refine ev_istore_n (ls2 := [some (.ref 0), some (.int x1), some (.int s0), some (.int x3), some (.int s0)]) dX10_held_49 (Nat.le_of_ble_eq_true rfl) rfl ?_
    refine ev_iload_n dX10_held_50 rfl ?_
    refine ev_istore_n (ls2 := [some (.ref 0), some (.int x3), some (.int s0), some (.int x3), some (.int s0)]) dX10_held_51 (Nat.le_of_ble_eq_true rfl) rfl ?_
    refine ev_iinc (v := x3 + 1) (ls2 := [some (.ref 0), some (.int x3), some (.int s0), some (.int (x3 + 1)), some (.int s0)]) dX10_held_52 rfl rfl rfl ?_
    refine ev_goto (tgt := 12) dX10_held_55 (by decide) ?_
    refine Ev.weak (ls := [some (.ref 0), some (.int x3), some (.int s0), some (.int (x3 + 1)), none]) ⟨rfl, rfl, rfl, rfl, trivial⟩ ?_
    exact h
theorem dX10_states_0 : decode cX10_states 0 = .ok (.aload_n 0, 1) := by decide +kernel
theorem dX10_states_1 : decode cX10_states 1 = .ok (.getfield 19, 3) := by decide +kernel
theorem dX10_states_4 : decode cX10_states 4 = .ok (.iload_n 1, 1) := by decide +kernel
theorem dX10_states_5 : decode cX10_states 5 = .ok (.invokevirtual 233, 3) := by decide +kernel
theorem dX10_states_8 : decode cX10_states 8 = .ok (.ifCond .eq 31, 3) := by decide +kernel
theorem dX10_states_11 : decode cX10_states 11 = .ok (.aload_n 0, 1) := by decide +kernel
theorem dX10_states_12 : decode cX10_states 12 = .ok (.getfield 19, 3) := by decide +kernel
theorem dX10_states_15 : decode cX10_states 15 = .ok (.iload_n 3, 1) := by decide +kernel
theorem dX10_states_16 : decode cX10_states 16 = .ok (.invokevirtual 191, 3) := by decide +kernel
theorem dX10_states_19 : decode cX10_states 19 = .ok (.ifCond .eq 20, 3) := by decide +kernel
theorem dX10_states_22 : decode cX10_states 22 = .ok (.iload_n 2, 1) := by decide +kernel
theorem dX10_states_23 : decode cX10_states 23 = .ok (.ifCond .lt 16, 3) := by decide +kernel
theorem dX10_states_26 : decode cX10_states 26 = .ok (.iload_n 2, 1) := by decide +kernel
theorem dX10_states_27 : decode cX10_states 27 = .ok (.aload_n 0, 1) := by decide +kernel
theorem dX10_states_28 : decode cX10_states 28 = .ok (.getfield 19, 3) := by decide +kernel
theorem dX10_states_31 : decode cX10_states 31 = .ok (.getfield 328, 3) := by decide +kernel
theorem dX10_states_34 : decode cX10_states 34 = .ok (.iload_n 1, 1) := by decide +kernel
theorem dX10_states_35 : decode cX10_states 35 = .ok (.iaload, 1) := by decide +kernel
theorem dX10_states_36 : decode cX10_states 36 = .ok (.if_icmp .lt 5, 3) := by decide +kernel
theorem dX10_states_39 : decode cX10_states 39 = .ok (.iconst (-1), 1) := by decide +kernel
theorem dX10_states_40 : decode cX10_states 40 = .ok (.ireturn, 1) := by decide +kernel
theorem dX10_states_41 : decode cX10_states 41 = .ok (.aload_n 0, 1) := by decide +kernel
theorem dX10_states_42 : decode cX10_states 42 = .ok (.invokevirtual 236, 3) := by decide +kernel
theorem dX10_states_45 : decode cX10_states 45 = .ok (.aload_n 0, 1) := by decide +kernel
theorem dX10_states_46 : decode cX10_states 46 = .ok (.getfield 98, 3) := by decide +kernel
theorem dX10_states_49 : decode cX10_states 49 = .ok (.iload_n 1, 1) := by decide +kernel
theorem dX10_states_50 : decode cX10_states 50 = .ok (.iload_n 2, 1) := by decide +kernel
theorem dX10_states_51 : decode cX10_states 51 = .ok (.iload_n 3, 1) := by decide +kernel
theorem dX10_states_52 : decode cX10_states 52 = .ok (.invokevirtual 330, 3) := by decide +kernel
theorem dX10_states_55 : decode cX10_states 55 = .ok (.istore 4, 2) := by decide +kernel
theorem dX10_states_57 : decode cX10_states 57 = .ok (.iload 4, 2) := by decide +kernel
theorem dX10_states_59 : decode cX10_states 59 = .ok (.ldc_w 334, 3) := by decide +kernel
theorem dX10_states_62 : decode cX10_states 62 = .ok (.if_icmp .ge 8, 3) := by decide +kernel
theorem dX10_states_65 : decode cX10_states 65 = .ok (.iload 4, 2) := by decide +kernel
theorem dX10_states_67 : decode cX10_states 67 = .ok (.goto 4, 3) := by decide +kernel
theorem dX10_states_70 : decode cX10_states 70 = .ok (.iconst (-1), 1) := by decide +kernel
theorem dX10_states_71 : decode cX10_states 71 = .ok (.ireturn, 1) := by decide +kernel
theorem gX10_states_0 {d : Nat} {M : ev_Mem} {Q : Option Value → ev_Mem → Prop} {x1 x2 x3 : Int32} (h : ((okS M) ∧ ((((iin x1 0 (M.1 3 8 - 1)) = false) → (Q (some (.int (-1))) M)) ∧ (((iin x1 0 (M.1 3 8 - 1)) = true) → ((okW M) ∧ ((((iin x3 0 (M.1 3 5 - 1)) = false) → (Q (some (.int (-1))) M)) ∧ (((iin x3 0 (M.1 3 5 - 1)) = true) → (((x2 < 0) → (Q (some (.int (-1))) M)) ∧ ((¬ x2 < 0) → (vp_in x1 8 ∧ (((x2 < (M.1 42 x1.toNatClampNeg)) → (∃ Q2 : Option Value → ev_Mem → Prop, Cl LX d mX10_hearNow [.ref 0] M Q2 ∧ ∀ (zr : Option Value) (zM : ev_Mem), Q2 zr zM → Ev LX (d + 1) mX10_states 45 [some (.ref 0), some (.int x1), some (.int x2), some (.int x3), none] (zr.toList ++ []) zM Q)) ∧ ((¬ x2 < (M.1 42 x1.toNatClampNeg)) → (Q (some (.int (-1))) M))))))))))))) : Ev LX (d + 1) mX10_states 0 [some (.ref 0), some (.int x1), some (.int x2), some (.int x3), none] [] M Q := by
  refine ev_aload_n dX10_states_0 rfl ?_
  refine ev_getA dX10_states_1 fl_WithoutE_19 lx_0 rfl ?_
  refine ev_iload_n dX10_states_4 rfl ?_
  obtain ⟨p1, h⟩ := h
  refine ev_callV [.int x1] dX10_states_5 ml_WithoutE_233 lx_3 rfl rfl (Nat.le_of_ble_eq_true rfl) (kX0_hasSentence p1) ?_
  rintro zr zM ⟨q1, q2⟩
  rw [q1, q2]
  show Ev LX (d + 1) mX10_states 8 [some (.ref 0), some (.int x1), some (.int x2), some (.int x3), none] [(.int (bi (iin x1 0 (M.1 3 8 - 1))))] M Q
  refine ev_if_eq (tgt := 39) dX10_states_8 (by decide) (fun c => ?_) (fun c => ?_)
  · replace h := h.1 ((bi_0 _).mp c)
    refine ev_iconst (v := -1) dX10_states_39 (by decide) ?_
    exact ev_iret dX10_states_40 rfl h
  · replace h := h.2 ((bi_n0 _).mp c)
    refine ev_aload_n dX10_states_11 rfl ?_
    refine ev_getA dX10_states_12 fl_WithoutE_19 lx_0 rfl ?_
    refine ev_iload_n dX10_states_15 rfl ?_
    obtain ⟨p1, h⟩ := h
    refine ev_callV [.int x3] dX10_states_16 ml_WithoutE_191 lx_3 rfl rfl (Nat.le_of_ble_eq_true rfl) (kX0_hasWord p1) ?_
    rintro zr zM ⟨q1, q2⟩
    rw [q1, q2]
    show Ev LX (d + 1) mX10_states 19 [some (.ref 0), some (.int x1), some (.int x2), some (.int x3), none] [(.int (bi (iin x3 0 (M.1 3 5 - 1))))] M Q
    refine ev_if_eq (tgt := 39) dX10_states_19 (by decide) (fun c => ?_) (fun c => ?_)
    · replace h := h.1 ((bi_0 _).mp c)
      refine ev_iconst (v := -1) dX10_states_39 (by decide) ?_
      exact ev_iret dX10_states_40 rfl h
    · replace h := h.2 ((bi_n0 _).mp c)
      refine ev_iload_n dX10_states_22 rfl ?_
      refine ev_if_lt (tgt := 39) dX10_states_23 (by decide) (fun c => ?_) (fun c => ?_)
      · replace h := h.1 c
        refine ev_iconst (v := -1) dX10_states_39 (by decide) ?_
        exact ev_iret dX10_states_40 rfl h
      · replace h := h.2 c
        refine ev_iload_n dX10_states_26 rfl ?_
        refine ev_aload_n dX10_states_27 rfl ?_
        refine ev_getA dX10_states_28 fl_WithoutE_19 lx_0 rfl ?_
        refine ev_getA dX10_states_31 fl_WithoutE_328 lx_3 rfl ?_
        refine ev_iload_n dX10_states_34 rfl ?_
        obtain ⟨c, h⟩ := h
        refine ev_iald dX10_states_35 lx_42 c ?_
        refine ev_icmp_lt (tgt := 41) dX10_states_36 (by decide) (fun c => ?_) (fun c => ?_)
        · replace h := h.1 c
          refine ev_aload_n dX10_states_41 rfl ?_
          obtain ⟨Q2, hc, h⟩ := h
          refine ev_callV [] dX10_states_42 ml_WithoutE_236 lx_0 rfl rfl (Nat.le_of_ble_eq_true rfl) hc (fun zr zM q => ?_)
          exact h zr zM q
        · replace h := h.2 c
          refine ev_iconst (v := -1) dX10_states_39 (by decide) ?_
          exact ev_iret dX10_states_40 rfl h
theorem gX10_states_45 {d : Nat} {M : ev_Mem} {Q : Option Value → ev_Mem → Prop} {x1 x2 x3 : Int32} (h : (∃ Q2 : Option Value → ev_Mem → Prop, Cl LX d mX6_costUpTo [.ref 86, .int x1, .int x2, .int x3] M Q2 ∧ ∀ (zr : Option Value) (zM : ev_Mem), Q2 zr zM → Ev LX (d + 1) mX10_states 55 [none, none, none, none, none] (zr.toList ++ []) zM Q)) : Ev LX (d + 1) mX10_states 45 [some (.ref 0), some (.int x1), some (.int x2), some (.int x3), none] [] M Q := by
  refine ev_aload_n dX10_states_45 rfl ?_
  refine ev_getA dX10_states_46 fl_WithoutE_98 lx_0 rfl ?_
  refine ev_iload_n dX10_states_49 rfl ?_
  refine ev_iload_n dX10_states_50 rfl ?_
  refine ev_iload_n dX10_states_51 rfl ?_
  obtain ⟨Q2, hc, h⟩ := h
  refine ev_callV [.int x1, .int x2, .int x3] dX10_states_52 ml_WithoutE_330 lx_86 rfl rfl (Nat.le_of_ble_eq_true rfl) hc (fun zr zM q => ?_)
  refine Ev.weak (ls := [none, none, none, none, none]) trivial ?_
  exact h zr zM q
theorem gX10_states_55 {d : Nat} {M : ev_Mem} {Q : Option Value → ev_Mem → Prop} {s0 : Int32} (h : (((1000000 ≤ s0) → (Q (some (.int (-1))) M)) ∧ ((¬ 1000000 ≤ s0) → (Q (some (.int s0)) M)))) : Ev LX d mX10_states 55 [none, none, none, none, none] [(.int s0)] M Q := by
  refine ev_istore (ls2 := [none, none, none, none, some (.int s0)]) dX10_states_55 (Nat.le_of_ble_eq_true rfl) rfl ?_
  refine ev_iload dX10_states_57 rfl ?_
  refine ev_ldcw (v := 1000000) dX10_states_59 cw_WithoutE_334 ?_
  refine ev_icmp_ge (tgt := 70) dX10_states_62 (by decide) (fun c => ?_) (fun c => ?_)
  · replace h := h.1 c
    refine ev_iconst (v := -1) dX10_states_70 (by decide) ?_
    exact ev_iret dX10_states_71 rfl h
  · replace h := h.2 c
    refine ev_iload dX10_states_65 rfl ?_
    refine ev_goto (tgt := 71) dX10_states_67 (by decide) ?_
    exact ev_iret dX10_states_71 rfl h
theorem dX10_agreesWithHeard_0 : decode cX10_agreesWithHeard 0 = .ok (.iconst 0, 1) := by decide +kernel
theorem dX10_agreesWithHeard_1 : decode cX10_agreesWithHeard 1 = .ok (.istore_n 2, 1) := by decide +kernel
theorem dX10_agreesWithHeard_2 : decode cX10_agreesWithHeard 2 = .ok (.iload_n 2, 1) := by decide +kernel
theorem dX10_agreesWithHeard_3 : decode cX10_agreesWithHeard 3 = .ok (.aload_n 0, 1) := by decide +kernel
theorem dX10_agreesWithHeard_4 : decode cX10_agreesWithHeard 4 = .ok (.getfield 33, 3) := by decide +kernel
theorem dX10_agreesWithHeard_7 : decode cX10_agreesWithHeard 7 = .ok (.getfield 370, 3) := by decide +kernel
theorem dX10_agreesWithHeard_10 : decode cX10_agreesWithHeard 10 = .ok (.if_icmp .ge 37, 3) := by decide +kernel
theorem dX10_agreesWithHeard_13 : decode cX10_agreesWithHeard 13 = .ok (.aload_n 0, 1) := by decide +kernel
theorem dX10_agreesWithHeard_14 : decode cX10_agreesWithHeard 14 = .ok (.aload_n 1, 1) := by decide +kernel
theorem dX10_agreesWithHeard_15 : decode cX10_agreesWithHeard 15 = .ok (.aload_n 0, 1) := by decide +kernel
theorem dX10_agreesWithHeard_16 : decode cX10_agreesWithHeard 16 = .ok (.getfield 33, 3) := by decide +kernel
theorem dX10_agreesWithHeard_19 : decode cX10_agreesWithHeard 19 = .ok (.getfield 373, 3) := by decide +kernel
theorem dX10_agreesWithHeard_22 : decode cX10_agreesWithHeard 22 = .ok (.iload_n 2, 1) := by decide +kernel
theorem dX10_agreesWithHeard_23 : decode cX10_agreesWithHeard 23 = .ok (.iaload, 1) := by decide +kernel
theorem dX10_agreesWithHeard_24 : decode cX10_agreesWithHeard 24 = .ok (.invokevirtual 314, 3) := by decide +kernel
theorem dX10_agreesWithHeard_27 : decode cX10_agreesWithHeard 27 = .ok (.aload_n 0, 1) := by decide +kernel
theorem dX10_agreesWithHeard_28 : decode cX10_agreesWithHeard 28 = .ok (.getfield 33, 3) := by decide +kernel
theorem dX10_agreesWithHeard_31 : decode cX10_agreesWithHeard 31 = .ok (.getfield 376, 3) := by decide +kernel
theorem dX10_agreesWithHeard_34 : decode cX10_agreesWithHeard 34 = .ok (.iload_n 2, 1) := by decide +kernel
theorem dX10_agreesWithHeard_35 : decode cX10_agreesWithHeard 35 = .ok (.iaload, 1) := by decide +kernel
theorem dX10_agreesWithHeard_36 : decode cX10_agreesWithHeard 36 = .ok (.if_icmp .eq 5, 3) := by decide +kernel
theorem dX10_agreesWithHeard_39 : decode cX10_agreesWithHeard 39 = .ok (.iconst 0, 1) := by decide +kernel
theorem dX10_agreesWithHeard_40 : decode cX10_agreesWithHeard 40 = .ok (.ireturn, 1) := by decide +kernel
theorem dX10_agreesWithHeard_41 : decode cX10_agreesWithHeard 41 = .ok (.iinc 2 1, 3) := by decide +kernel
theorem dX10_agreesWithHeard_44 : decode cX10_agreesWithHeard 44 = .ok (.goto (-42), 3) := by decide +kernel
theorem dX10_agreesWithHeard_47 : decode cX10_agreesWithHeard 47 = .ok (.iconst 1, 1) := by decide +kernel
theorem dX10_agreesWithHeard_48 : decode cX10_agreesWithHeard 48 = .ok (.ireturn, 1) := by decide +kernel
theorem gX10_agreesWithHeard_0 {d : Nat} {M : ev_Mem} {Q : Option Value → ev_Mem → Prop} {k : Nat} (hk : ev_isT k) (h : (Ev LX d mX10_agreesWithHeard 2 [some (.ref 0), some (.ref k), some (.int 0)] [] M Q)) : Ev LX d mX10_agreesWithHeard 0 [some (.ref 0), some (.ref k), none] [] M Q := by
  refine ev_iconst (v := 0) dX10_agreesWithHeard_0 (by decide) ?_
  refine ev_istore_n (ls2 := [some (.ref 0), some (.ref k), some (.int 0)]) dX10_agreesWithHeard_1 (Nat.le_of_ble_eq_true rfl) rfl ?_
  exact h
theorem gX10_agreesWithHeard_2 {d : Nat} {M : ev_Mem} {Q : Option Value → ev_Mem → Prop} {x2 : Int32} {k : Nat} (hk : ev_isT k) (h : ((((M.1 47 11) ≤ x2) → (Q (some (.int 1)) M)) ∧ ((¬ (M.1 47 11) ≤ x2) → (vp_in x2 8 ∧ (∃ Q2 : Option Value → ev_Mem → Prop, Cl LX d mX10_stiffnessBy [.ref 0, .ref k, .int (M.1 58 x2.toNatClampNeg)] M Q2 ∧ ∀ (zr : Option Value) (zM : ev_Mem), Q2 zr zM → Ev LX (d + 1) mX10_agreesWithHeard 27 [some (.ref 0), some (.ref k), some (.int x2)] (zr.toList ++ []) zM Q))))) : Ev LX (d + 1) mX10_agreesWithHeard 2 [some (.ref 0), some (.ref k), some (.int x2)] [] M Q := by
  refine ev_iload_n dX10_agreesWithHeard_2 rfl ?_
  refine ev_aload_n dX10_agreesWithHeard_3 rfl ?_
  refine ev_getA dX10_agreesWithHeard_4 fl_WithoutE_33 lx_0 rfl ?_
  refine ev_getI dX10_agreesWithHeard_7 fl_WithoutE_370 lx_47 rfl ?_
  refine ev_icmp_ge (tgt := 47) dX10_agreesWithHeard_10 (by decide) (fun c => ?_) (fun c => ?_)
  · replace h := h.1 c
    refine ev_iconst (v := 1) dX10_agreesWithHeard_47 (by decide) ?_
    exact ev_zret dX10_agreesWithHeard_48 rfl (by decide) h
  · replace h := h.2 c
    refine ev_aload_n dX10_agreesWithHeard_13 rfl ?_
    refine ev_aload_n dX10_agreesWithHeard_14 rfl ?_
    refine ev_aload_n dX10_agreesWithHeard_15 rfl ?_
    refine ev_getA dX10_agreesWithHeard_16 fl_WithoutE_33 lx_0 rfl ?_
    refine ev_getA dX10_agreesWithHeard_19 fl_WithoutE_373 lx_47 rfl ?_
    refine ev_iload_n dX10_agreesWithHeard_22 rfl ?_
    obtain ⟨c, h⟩ := h
    refine ev_iald dX10_agreesWithHeard_23 lx_58 c ?_
    obtain ⟨Q2, hc, h⟩ := h
    refine ev_callV [.ref k, .int (M.1 58 x2.toNatClampNeg)] dX10_agreesWithHeard_24 ml_WithoutE_314 lx_0 rfl rfl (Nat.le_of_ble_eq_true rfl) hc (fun zr zM q => ?_)
    exact h zr zM q
theorem gX10_agreesWithHeard_27 {d : Nat} {M : ev_Mem} {Q : Option Value → ev_Mem → Prop} {x2 s0 : Int32} {k : Nat} (hk : ev_isT k) (h : (vp_in x2 8 ∧ (((s0 = (M.1 59 x2.toNatClampNeg)) → (Ev LX d mX10_agreesWithHeard 2 [some (.ref 0), some (.ref k), some (.int (x2 + 1))] [] M Q)) ∧ ((¬ s0 = (M.1 59 x2.toNatClampNeg)) → (Q (some (.int 0)) M))))) : Ev LX d mX10_agreesWithHeard 27 [some (.ref 0), some (.ref k), some (.int x2)] [(.int s0)] M Q := by
  refine ev_aload_n dX10_agreesWithHeard_27 rfl ?_
  refine ev_getA dX10_agreesWithHeard_28 fl_WithoutE_33 lx_0 rfl ?_
  refine ev_getA dX10_agreesWithHeard_31 fl_WithoutE_376 lx_47 rfl ?_
  refine ev_iload_n dX10_agreesWithHeard_34 rfl ?_
  obtain ⟨c, h⟩ := h
  refine ev_iald dX10_agreesWithHeard_35 lx_59 c ?_
  refine ev_icmp_eq (tgt := 41) dX10_agreesWithHeard_36 (by decide) (fun c => ?_) (fun c => ?_)
  · replace h := h.1 c
    refine ev_iinc (v := x2 + 1) (ls2 := [some (.ref 0), some (.ref k), some (.int (x2 + 1))]) dX10_agreesWithHeard_41 rfl rfl rfl ?_
    refine ev_goto (tgt := 2) dX10_agreesWithHeard_44 (by decide) ?_
    exact h
  · replace h := h.2 c
    refine ev_iconst (v := 0) dX10_agreesWithHeard_39 (by decide) ?_
    exact ev_zret dX10_agreesWithHeard_40 rfl (by decide) h
theorem dX10_law_0 : decode cX10_law 0 = .ok (.iconst 0, 1) := by decide +kernel
theorem dX10_law_1 : decode cX10_law 1 = .ok (.istore_n 1, 1) := by decide +kernel
theorem dX10_law_2 : decode cX10_law 2 = .ok (.iconst 0, 1) := by decide +kernel
theorem dX10_law_3 : decode cX10_law 3 = .ok (.istore_n 2, 1) := by decide +kernel
theorem dX10_law_4 : decode cX10_law 4 = .ok (.iload_n 2, 1) := by decide +kernel
theorem dX10_law_5 : decode cX10_law 5 = .ok (.aload_n 0, 1) := by decide +kernel
theorem dX10_law_6 : decode cX10_law 6 = .ok (.getfield 33, 3) := by decide +kernel
theorem dX10_law_9 : decode cX10_law 9 = .ok (.getfield 110, 3) := by decide +kernel
theorem dX10_law_12 : decode cX10_law 12 = .ok (.if_icmp .ge 33, 3) := by decide +kernel
theorem dX10_law_15 : decode cX10_law 15 = .ok (.iload_n 2, 1) := by decide +kernel
theorem dX10_law_16 : decode cX10_law 16 = .ok (.iconst 4, 1) := by decide +kernel
theorem dX10_law_17 : decode cX10_law 17 = .ok (.if_icmp .ge 28, 3) := by decide +kernel
theorem dX10_law_20 : decode cX10_law 20 = .ok (.aload_n 0, 1) := by decide +kernel
theorem dX10_law_21 : decode cX10_law 21 = .ok (.aload_n 0, 1) := by decide +kernel
theorem dX10_law_22 : decode cX10_law 22 = .ok (.getfield 39, 3) := by decide +kernel
theorem dX10_law_25 : decode cX10_law 25 = .ok (.iload_n 2, 1) := by decide +kernel
theorem dX10_law_26 : decode cX10_law 26 = .ok (.aaload, 1) := by decide +kernel
theorem dX10_law_27 : decode cX10_law 27 = .ok (.invokevirtual 367, 3) := by decide +kernel
theorem dX10_law_30 : decode cX10_law 30 = .ok (.ifCond .eq 9, 3) := by decide +kernel
theorem dX10_law_33 : decode cX10_law 33 = .ok (.iload_n 1, 1) := by decide +kernel
theorem dX10_law_34 : decode cX10_law 34 = .ok (.iconst 1, 1) := by decide +kernel
theorem dX10_law_35 : decode cX10_law 35 = .ok (.iload_n 2, 1) := by decide +kernel
theorem dX10_law_36 : decode cX10_law 36 = .ok (.ishl, 1) := by decide +kernel
theorem dX10_law_37 : decode cX10_law 37 = .ok (.ior, 1) := by decide +kernel
theorem dX10_law_38 : decode cX10_law 38 = .ok (.istore_n 1, 1) := by decide +kernel
theorem dX10_law_39 : decode cX10_law 39 = .ok (.iinc 2 1, 3) := by decide +kernel
theorem dX10_law_42 : decode cX10_law 42 = .ok (.goto (-38), 3) := by decide +kernel
theorem dX10_law_45 : decode cX10_law 45 = .ok (.iload_n 1, 1) := by decide +kernel
theorem dX10_law_46 : decode cX10_law 46 = .ok (.ireturn, 1) := by decide +kernel
theorem gX10_law_0 {d : Nat} {M : ev_Mem} {Q : Option Value → ev_Mem → Prop} (h : (Ev LX d mX10_law 4 [some (.ref 0), some (.int 0), some (.int 0)] [] M Q)) : Ev LX d mX10_law 0 [some (.ref 0), none, none] [] M Q := by
  refine ev_iconst (v := 0) dX10_law_0 (by decide) ?_
  refine ev_istore_n (ls2 := [some (.ref 0), some (.int 0), none]) dX10_law_1 (Nat.le_of_ble_eq_true rfl) rfl ?_
  refine ev_iconst (v := 0) dX10_law_2 (by decide) ?_
  refine ev_istore_n (ls2 := [some (.ref 0), some (.int 0), some (.int 0)]) dX10_law_3 (Nat.le_of_ble_eq_true rfl) rfl ?_
  exact h
theorem gX10_law_4 {d : Nat} {M : ev_Mem} {Q : Option Value → ev_Mem → Prop} {x1 x2 : Int32} (h : ((((M.1 47 2) ≤ x2) → (Q (some (.int x1)) M)) ∧ ((¬ (M.1 47 2) ≤ x2) → (((4 ≤ x2) → (Q (some (.int x1)) M)) ∧ ((¬ 4 ≤ x2) → (vp_in x2 4 ∧ (∃ Q2 : Option Value → ev_Mem → Prop, Cl LX d mX10_agreesWithHeard [.ref 0, .ref (61 + 5 * x2.toNatClampNeg)] M Q2 ∧ ∀ (zr : Option Value) (zM : ev_Mem), Q2 zr zM → Ev LX (d + 1) mX10_law 30 [some (.ref 0), some (.int x1), some (.int x2)] (zr.toList ++ []) zM Q))))))) : Ev LX (d + 1) mX10_law 4 [some (.ref 0), some (.int x1), some (.int x2)] [] M Q := by
  refine ev_iload_n dX10_law_4 rfl ?_
  refine ev_aload_n dX10_law_5 rfl ?_
  refine ev_getA dX10_law_6 fl_WithoutE_33 lx_0 rfl ?_
  refine ev_getI dX10_law_9 fl_WithoutE_110 lx_47 rfl ?_
  refine ev_icmp_ge (tgt := 45) dX10_law_12 (by decide) (fun c => ?_) (fun c => ?_)
  · replace h := h.1 c
    refine ev_iload_n dX10_law_45 rfl ?_
    exact ev_iret dX10_law_46 rfl h
  · replace h := h.2 c
    refine ev_iload_n dX10_law_15 rfl ?_
    refine ev_iconst (v := 4) dX10_law_16 (by decide) ?_
    refine ev_icmp_ge (tgt := 45) dX10_law_17 (by decide) (fun c => ?_) (fun c => ?_)
    · replace h := h.1 c
      refine ev_iload_n dX10_law_45 rfl ?_
      exact ev_iret dX10_law_46 rfl h
    · replace h := h.2 c
      refine ev_aload_n dX10_law_20 rfl ?_
      refine ev_aload_n dX10_law_21 rfl ?_
      refine ev_getA dX10_law_22 fl_WithoutE_39 lx_0 rfl ?_
      refine ev_iload_n dX10_law_25 rfl ?_
      obtain ⟨b1, h⟩ := h
      refine ev_aald dX10_law_26 lx_60 (fun _ => rfl) rfl b1 ?_
      obtain ⟨Q2, hc, h⟩ := h
      refine ev_callV [.ref (61 + 5 * x2.toNatClampNeg)] dX10_law_27 ml_WithoutE_367 lx_0 rfl rfl (Nat.le_of_ble_eq_true rfl) hc (fun zr zM q => ?_)
      exact h zr zM q
theorem gX10_law_30 {d : Nat} {M : ev_Mem} {Q : Option Value → ev_Mem → Prop} {x1 x2 s0 : Int32} (h : (((s0 = 0) → (Ev LX d mX10_law 4 [some (.ref 0), some (.int x1), some (.int (x2 + 1))] [] M Q)) ∧ ((¬ s0 = 0) → (∀ v1 : Int32, v1 = x1 ||| (1 <<< (x2 &&& 31)) → (Ev LX d mX10_law 4 [some (.ref 0), some (.int v1), some (.int (x2 + 1))] [] M Q))))) : Ev LX d mX10_law 30 [some (.ref 0), some (.int x1), some (.int x2)] [(.int s0)] M Q := by
  refine ev_if_eq (tgt := 39) dX10_law_30 (by decide) (fun c => ?_) (fun c => ?_)
  · replace h := h.1 c
    refine ev_iinc (v := x2 + 1) (ls2 := [some (.ref 0), some (.int x1), some (.int (x2 + 1))]) dX10_law_39 rfl rfl rfl ?_
    refine ev_goto (tgt := 4) dX10_law_42 (by decide) ?_
    exact h
  · replace h := h.2 c
    refine ev_iload_n dX10_law_33 rfl ?_
    refine ev_iconst (v := 1) dX10_law_34 (by decide) ?_
    refine ev_iload_n dX10_law_35 rfl ?_
    refine ev_ishl dX10_law_36 ?_
    refine ev_ior dX10_law_37 ?_
    refine ev_istore_n (ls2 := [some (.ref 0), some (.int (x1 ||| (1 <<< (x2 &&& 31)))), some (.int x2)]) dX10_law_38 (Nat.le_of_ble_eq_true rfl) rfl ?_
    generalize ev1 : x1 ||| (1 <<< (x2 &&& 31)) = v1
    replace h := h v1 ev1.symm
    refine ev_iinc (v := x2 + 1) (ls2 := [some (.ref 0), some (.int v1), some (.int (x2 + 1))]) dX10_law_39 rfl rfl rfl ?_
    refine ev_goto (tgt := 4) dX10_law_42 (by decide) ?_
    exact h
theorem dX11_none_0 : decode cX11_none 0 = .ok (.aload_n 0, 1) := by decide +kernel
theorem dX11_none_1 : decode cX11_none 1 = .ok (.invokevirtual 368, 3) := by decide +kernel
theorem dX11_none_4 : decode cX11_none 4 = .ok (.iconst 0, 1) := by decide +kernel
theorem dX11_none_5 : decode cX11_none 5 = .ok (.istore_n 1, 1) := by decide +kernel
theorem dX11_none_6 : decode cX11_none 6 = .ok (.iconst 0, 1) := by decide +kernel
theorem dX11_none_7 : decode cX11_none 7 = .ok (.istore_n 2, 1) := by decide +kernel
theorem dX11_none_8 : decode cX11_none 8 = .ok (.iload_n 2, 1) := by decide +kernel
theorem dX11_none_9 : decode cX11_none 9 = .ok (.aload_n 0, 1) := by decide +kernel
theorem dX11_none_10 : decode cX11_none 10 = .ok (.getfield 7, 3) := by decide +kernel
theorem dX11_none_13 : decode cX11_none 13 = .ok (.iconst 1, 1) := by decide +kernel
theorem dX11_none_14 : decode cX11_none 14 = .ok (.iaload, 1) := by decide +kernel
theorem dX11_none_15 : decode cX11_none 15 = .ok (.if_icmp .ge 28, 3) := by decide +kernel
theorem dX11_none_18 : decode cX11_none 18 = .ok (.iload_n 1, 1) := by decide +kernel
theorem dX11_none_19 : decode cX11_none 19 = .ok (.aload_n 0, 1) := by decide +kernel
theorem dX11_none_20 : decode cX11_none 20 = .ok (.iload_n 2, 1) := by decide +kernel
theorem dX11_none_21 : decode cX11_none 21 = .ok (.invokevirtual 371, 3) := by decide +kernel
theorem dX11_none_24 : decode cX11_none 24 = .ok (.iconst (-1), 1) := by decide +kernel
theorem dX11_none_25 : decode cX11_none 25 = .ok (.if_icmp .ne 9, 3) := by decide +kernel
theorem dX11_none_28 : decode cX11_none 28 = .ok (.iconst 1, 1) := by decide +kernel
theorem dX11_none_29 : decode cX11_none 29 = .ok (.iload_n 2, 1) := by decide +kernel
theorem dX11_none_30 : decode cX11_none 30 = .ok (.ishl, 1) := by decide +kernel
theorem dX11_none_31 : decode cX11_none 31 = .ok (.goto 4, 3) := by decide +kernel
theorem dX11_none_34 : decode cX11_none 34 = .ok (.iconst 0, 1) := by decide +kernel
theorem dX11_none_35 : decode cX11_none 35 = .ok (.ior, 1) := by decide +kernel
theorem dX11_none_36 : decode cX11_none 36 = .ok (.istore_n 1, 1) := by decide +kernel
theorem dX11_none_37 : decode cX11_none 37 = .ok (.iinc 2 1, 3) := by decide +kernel
theorem dX11_none_40 : decode cX11_none 40 = .ok (.goto (-32), 3) := by decide +kernel
theorem dX11_none_43 : decode cX11_none 43 = .ok (.iload_n 1, 1) := by decide +kernel
theorem dX11_none_44 : decode cX11_none 44 = .ok (.ireturn, 1) := by decide +kernel
theorem gX11_none_0 {d : Nat} {M : ev_Mem} {Q : Option Value → ev_Mem → Prop} (h : (∃ Q2 : Option Value → ev_Mem → Prop, Cl LM d mX11_layStiffs [.ref 0] M Q2 ∧ ∀ (zr : Option Value) (zM : ev_Mem), Q2 zr zM → Ev LM (d + 1) mX11_none 4 [some (.ref 0), none, none] (zr.toList ++ []) zM Q)) : Ev LM (d + 1) mX11_none 0 [some (.ref 0), none, none] [] M Q := by
  refine ev_aload_n dX11_none_0 rfl ?_
  obtain ⟨Q2, hc, h⟩ := h
  refine ev_callV [] dX11_none_1 ml_WithoutEModel_368 lm_0 rfl rfl (Nat.le_of_ble_eq_true rfl) hc (fun zr zM q => ?_)
  exact h zr zM q
theorem gX11_none_4 {d : Nat} {M : ev_Mem} {Q : Option Value → ev_Mem → Prop} (h : (Ev LM d mX11_none 8 [some (.ref 0), some (.int 0), some (.int 0)] [] M Q)) : Ev LM d mX11_none 4 [some (.ref 0), none, none] [] M Q := by
  refine ev_iconst (v := 0) dX11_none_4 (by decide) ?_
  refine ev_istore_n (ls2 := [some (.ref 0), some (.int 0), none]) dX11_none_5 (Nat.le_of_ble_eq_true rfl) rfl ?_
  refine ev_iconst (v := 0) dX11_none_6 (by decide) ?_
  refine ev_istore_n (ls2 := [some (.ref 0), some (.int 0), some (.int 0)]) dX11_none_7 (Nat.le_of_ble_eq_true rfl) rfl ?_
  exact h
theorem gX11_none_8 {d : Nat} {M : ev_Mem} {Q : Option Value → ev_Mem → Prop} {x1 x2 : Int32} (h : ((((M.1 1 1) ≤ x2) → (Q (some (.int x1)) M)) ∧ ((¬ (M.1 1 1) ≤ x2) → (∃ Q2 : Option Value → ev_Mem → Prop, Cl LM d mX11_leastOf [.ref 0, .int x2] M Q2 ∧ ∀ (zr : Option Value) (zM : ev_Mem), Q2 zr zM → Ev LM (d + 1) mX11_none 24 [some (.ref 0), none, some (.int x2)] (zr.toList ++ [(.int x1)]) zM Q)))) : Ev LM (d + 1) mX11_none 8 [some (.ref 0), some (.int x1), some (.int x2)] [] M Q := by
  refine ev_iload_n dX11_none_8 rfl ?_
  refine ev_aload_n dX11_none_9 rfl ?_
  refine ev_getA dX11_none_10 fl_WithoutEModel_7 lm_0 rfl ?_
  refine ev_iconst (v := 1) dX11_none_13 (by decide) ?_
  refine ev_iaN (j := 1) dX11_none_14 lm_1 (by decide) (by decide) ?_
  refine ev_icmp_ge (tgt := 43) dX11_none_15 (by decide) (fun c => ?_) (fun c => ?_)
  · replace h := h.1 c
    refine ev_iload_n dX11_none_43 rfl ?_
    exact ev_iret dX11_none_44 rfl h
  · replace h := h.2 c
    refine ev_iload_n dX11_none_18 rfl ?_
    refine ev_aload_n dX11_none_19 rfl ?_
    refine ev_iload_n dX11_none_20 rfl ?_
    obtain ⟨Q2, hc, h⟩ := h
    refine ev_callV [.int x2] dX11_none_21 ml_WithoutEModel_371 lm_0 rfl rfl (Nat.le_of_ble_eq_true rfl) hc (fun zr zM q => ?_)
    refine Ev.weak (ls := [some (.ref 0), none, some (.int x2)]) ⟨rfl, rfl, trivial⟩ ?_
    exact h zr zM q
theorem gX11_none_24 {d : Nat} {M : ev_Mem} {Q : Option Value → ev_Mem → Prop} {x2 s0 s1 : Int32} (h : (((¬ s0 = (-1)) → (Ev LM d mX11_none 8 [some (.ref 0), some (.int (s1 ||| 0)), some (.int (x2 + 1))] [] M Q)) ∧ ((s0 = (-1)) → (∀ v1 : Int32, v1 = s1 ||| (1 <<< (x2 &&& 31)) → (Ev LM d mX11_none 8 [some (.ref 0), some (.int v1), some (.int (x2 + 1))] [] M Q))))) : Ev LM d mX11_none 24 [some (.ref 0), none, some (.int x2)] [(.int s0), (.int s1)] M Q := by
  refine ev_iconst (v := -1) dX11_none_24 (by decide) ?_
  refine ev_icmp_ne (tgt := 34) dX11_none_25 (by decide) (fun c => ?_) (fun c => ?_)
  · replace h := h.1 c
    refine ev_iconst (v := 0) dX11_none_34 (by decide) ?_
    refine ev_ior dX11_none_35 ?_
    refine ev_istore_n (ls2 := [some (.ref 0), some (.int (s1 ||| 0)), some (.int x2)]) dX11_none_36 (Nat.le_of_ble_eq_true rfl) rfl ?_
    refine ev_iinc (v := x2 + 1) (ls2 := [some (.ref 0), some (.int (s1 ||| 0)), some (.int (x2 + 1))]) dX11_none_37 rfl rfl rfl ?_
    refine ev_goto (tgt := 8) dX11_none_40 (by decide) ?_
    exact h
  · replace h := h.2 c
    refine ev_iconst (v := 1) dX11_none_28 (by decide) ?_
    refine ev_iload_n dX11_none_29 rfl ?_
    refine ev_ishl dX11_none_30 ?_
    refine ev_goto (tgt := 35) dX11_none_31 (by decide) ?_
    refine ev_ior dX11_none_35 ?_
    refine ev_istore_n (ls2 := [some (.ref 0), some (.int (s1 ||| (1 <<< (x2 &&& 31)))), some (.int x2)]) dX11_none_36 (Nat.le_of_ble_eq_true rfl) rfl ?_
    generalize ev1 : s1 ||| (1 <<< (x2 &&& 31)) = v1
    replace h := h v1 ev1.symm
    refine ev_iinc (v := x2 + 1) (ls2 := [some (.ref 0), some (.int v1), some (.int (x2 + 1))]) dX11_none_37 rfl rfl rfl ?_
    refine ev_goto (tgt := 8) dX11_none_40 (by decide) ?_
    exact h
theorem dX11_totalWith_0 : decode cX11_totalWith 0 = .ok (.aload_n 0, 1) := by decide +kernel
theorem dX11_totalWith_1 : decode cX11_totalWith 1 = .ok (.getfield 7, 3) := by decide +kernel
theorem dX11_totalWith_4 : decode cX11_totalWith 4 = .ok (.bipush 9, 2) := by decide +kernel
theorem dX11_totalWith_6 : decode cX11_totalWith 6 = .ok (.iaload, 1) := by decide +kernel
theorem dX11_totalWith_7 : decode cX11_totalWith 7 = .ok (.istore_n 2, 1) := by decide +kernel
theorem dX11_totalWith_8 : decode cX11_totalWith 8 = .ok (.aload_n 0, 1) := by decide +kernel
theorem dX11_totalWith_9 : decode cX11_totalWith 9 = .ok (.getfield 7, 3) := by decide +kernel
theorem dX11_totalWith_12 : decode cX11_totalWith 12 = .ok (.bipush 9, 2) := by decide +kernel
theorem dX11_totalWith_14 : decode cX11_totalWith 14 = .ok (.dup2, 1) := by decide +kernel
theorem dX11_totalWith_15 : decode cX11_totalWith 15 = .ok (.iaload, 1) := by decide +kernel
theorem dX11_totalWith_16 : decode cX11_totalWith 16 = .ok (.iload_n 1, 1) := by decide +kernel
theorem dX11_totalWith_17 : decode cX11_totalWith 17 = .ok (.ior, 1) := by decide +kernel
theorem dX11_totalWith_18 : decode cX11_totalWith 18 = .ok (.iastore, 1) := by decide +kernel
theorem dX11_totalWith_19 : decode cX11_totalWith 19 = .ok (.aload_n 0, 1) := by decide +kernel
theorem dX11_totalWith_20 : decode cX11_totalWith 20 = .ok (.invokevirtual 368, 3) := by decide +kernel
theorem dX11_totalWith_23 : decode cX11_totalWith 23 = .ok (.iconst 0, 1) := by decide +kernel
theorem dX11_totalWith_24 : decode cX11_totalWith 24 = .ok (.istore_n 3, 1) := by decide +kernel
theorem dX11_totalWith_25 : decode cX11_totalWith 25 = .ok (.iconst 0, 1) := by decide +kernel
theorem dX11_totalWith_26 : decode cX11_totalWith 26 = .ok (.istore 4, 2) := by decide +kernel
theorem dX11_totalWith_28 : decode cX11_totalWith 28 = .ok (.iload 4, 2) := by decide +kernel
theorem dX11_totalWith_30 : decode cX11_totalWith 30 = .ok (.aload_n 0, 1) := by decide +kernel
theorem dX11_totalWith_31 : decode cX11_totalWith 31 = .ok (.getfield 7, 3) := by decide +kernel
theorem dX11_totalWith_34 : decode cX11_totalWith 34 = .ok (.iconst 1, 1) := by decide +kernel
theorem dX11_totalWith_35 : decode cX11_totalWith 35 = .ok (.iaload, 1) := by decide +kernel
theorem dX11_totalWith_36 : decode cX11_totalWith 36 = .ok (.if_icmp .ge 33, 3) := by decide +kernel
theorem dX11_totalWith_39 : decode cX11_totalWith 39 = .ok (.aload_n 0, 1) := by decide +kernel
theorem dX11_totalWith_40 : decode cX11_totalWith 40 = .ok (.iload 4, 2) := by decide +kernel
theorem dX11_totalWith_42 : decode cX11_totalWith 42 = .ok (.invokevirtual 371, 3) := by decide +kernel
theorem dX11_totalWith_45 : decode cX11_totalWith 45 = .ok (.istore 5, 2) := by decide +kernel
theorem dX11_totalWith_47 : decode cX11_totalWith 47 = .ok (.iload_n 3, 1) := by decide +kernel
theorem dX11_totalWith_48 : decode cX11_totalWith 48 = .ok (.iload 5, 2) := by decide +kernel
theorem dX11_totalWith_50 : decode cX11_totalWith 50 = .ok (.iconst (-1), 1) := by decide +kernel
theorem dX11_totalWith_51 : decode cX11_totalWith 51 = .ok (.if_icmp .ne 8, 3) := by decide +kernel
theorem dX11_totalWith_54 : decode cX11_totalWith 54 = .ok (.bipush 50, 2) := by decide +kernel
theorem dX11_totalWith_56 : decode cX11_totalWith 56 = .ok (.goto 5, 3) := by decide +kernel
theorem dX11_totalWith_59 : decode cX11_totalWith 59 = .ok (.iload 5, 2) := by decide +kernel
theorem dX11_totalWith_61 : decode cX11_totalWith 61 = .ok (.iadd, 1) := by decide +kernel
theorem dX11_totalWith_62 : decode cX11_totalWith 62 = .ok (.istore_n 3, 1) := by decide +kernel
theorem dX11_totalWith_63 : decode cX11_totalWith 63 = .ok (.iinc 4 1, 3) := by decide +kernel
theorem dX11_totalWith_66 : decode cX11_totalWith 66 = .ok (.goto (-38), 3) := by decide +kernel
theorem dX11_totalWith_69 : decode cX11_totalWith 69 = .ok (.aload_n 0, 1) := by decide +kernel
theorem dX11_totalWith_70 : decode cX11_totalWith 70 = .ok (.getfield 7, 3) := by decide +kernel
theorem dX11_totalWith_73 : decode cX11_totalWith 73 = .ok (.bipush 9, 2) := by decide +kernel
theorem dX11_totalWith_75 : decode cX11_totalWith 75 = .ok (.iload_n 2, 1) := by decide +kernel
theorem dX11_totalWith_76 : decode cX11_totalWith 76 = .ok (.iastore, 1) := by decide +kernel
theorem dX11_totalWith_77 : decode cX11_totalWith 77 = .ok (.iload_n 3, 1) := by decide +kernel
theorem dX11_totalWith_78 : decode cX11_totalWith 78 = .ok (.ireturn, 1) := by decide +kernel
theorem gX11_totalWith_0 {d : Nat} {M : ev_Mem} {Q : Option Value → ev_Mem → Prop} {x1 : Int32} (h : (∀ M1 : ev_Mem, M1 = ev_wr M 1 9 ((M.1 1 9) ||| x1) → (∃ Q2 : Option Value → ev_Mem → Prop, Cl LM d mX11_layStiffs [.ref 0] M1 Q2 ∧ ∀ (zr : Option Value) (zM : ev_Mem), Q2 zr zM → Ev LM (d + 1) mX11_totalWith 23 [some (.ref 0), none, some (.int (M.1 1 9)), none, none, none] (zr.toList ++ []) zM Q))) : Ev LM (d + 1) mX11_totalWith 0 [some (.ref 0), some (.int x1), none, none, none, none] [] M Q := by
  refine ev_aload_n dX11_totalWith_0 rfl ?_
  refine ev_getA dX11_totalWith_1 fl_WithoutEModel_7 lm_0 rfl ?_
  refine ev_bipush (v := 9) dX11_totalWith_4 (by decide) ?_
  refine ev_iaN (j := 9) dX11_totalWith_6 lm_1 (by decide) (by decide) ?_
  refine ev_istore_n (ls2 := [some (.ref 0), some (.int x1), some (.int (M.1 1 9)), none, none, none]) dX11_totalWith_7 (Nat.le_of_ble_eq_true rfl) rfl ?_
  refine ev_aload_n dX11_totalWith_8 rfl ?_
  refine ev_getA dX11_totalWith_9 fl_WithoutEModel_7 lm_0 rfl ?_
  refine ev_bipush (v := 9) dX11_totalWith_12 (by decide) ?_
  refine ev_dup2 dX11_totalWith_14 rfl rfl ?_
  refine ev_iaN (j := 9) dX11_totalWith_15 lm_1 (by decide) (by decide) ?_
  refine ev_iload_n dX11_totalWith_16 rfl ?_
  refine ev_ior dX11_totalWith_17 ?_
  refine ev_isN (j := 9) dX11_totalWith_18 lm_1 (by decide) (by decide) ?_
  generalize eM1 : ev_wr M 1 9 ((M.1 1 9) ||| x1) = M1
  replace h := h M1 eM1.symm
  refine ev_aload_n dX11_totalWith_19 rfl ?_
  obtain ⟨Q2, hc, h⟩ := h
  refine ev_callV [] dX11_totalWith_20 ml_WithoutEModel_368 lm_0 rfl rfl (Nat.le_of_ble_eq_true rfl) hc (fun zr zM q => ?_)
  refine Ev.weak (ls := [some (.ref 0), none, some (.int (M.1 1 9)), none, none, none]) ⟨rfl, rfl, trivial⟩ ?_
  exact h zr zM q
theorem gX11_totalWith_23 {d : Nat} {M : ev_Mem} {Q : Option Value → ev_Mem → Prop} {x2 : Int32} (h : (Ev LM d mX11_totalWith 28 [some (.ref 0), none, some (.int x2), some (.int 0), some (.int 0), none] [] M Q)) : Ev LM d mX11_totalWith 23 [some (.ref 0), none, some (.int x2), none, none, none] [] M Q := by
  refine ev_iconst (v := 0) dX11_totalWith_23 (by decide) ?_
  refine ev_istore_n (ls2 := [some (.ref 0), none, some (.int x2), some (.int 0), none, none]) dX11_totalWith_24 (Nat.le_of_ble_eq_true rfl) rfl ?_
  refine ev_iconst (v := 0) dX11_totalWith_25 (by decide) ?_
  refine ev_istore (ls2 := [some (.ref 0), none, some (.int x2), some (.int 0), some (.int 0), none]) dX11_totalWith_26 (Nat.le_of_ble_eq_true rfl) rfl ?_
  exact h
theorem gX11_totalWith_28 {d : Nat} {M : ev_Mem} {Q : Option Value → ev_Mem → Prop} {x2 x3 x4 : Int32} (h : ((((M.1 1 1) ≤ x4) → (∀ M1 : ev_Mem, M1 = ev_wr M 1 9 x2 → (Q (some (.int x3)) M1))) ∧ ((¬ (M.1 1 1) ≤ x4) → (∃ Q2 : Option Value → ev_Mem → Prop, Cl LM d mX11_leastOf [.ref 0, .int x4] M Q2 ∧ ∀ (zr : Option Value) (zM : ev_Mem), Q2 zr zM → Ev LM (d + 1) mX11_totalWith 45 [some (.ref 0), none, some (.int x2), some (.int x3), some (.int x4), none] (zr.toList ++ []) zM Q)))) : Ev LM (d + 1) mX11_totalWith 28 [some (.ref 0), none, some (.int x2), some (.int x3), some (.int x4), none] [] M Q := by
  refine ev_iload dX11_totalWith_28 rfl ?_
  refine ev_aload_n dX11_totalWith_30 rfl ?_
  refine ev_getA dX11_totalWith_31 fl_WithoutEModel_7 lm_0 rfl ?_
  refine ev_iconst (v := 1) dX11_totalWith_34 (by decide) ?_
  refine ev_iaN (j := 1) dX11_totalWith_35 lm_1 (by decide) (by decide) ?_
  refine ev_icmp_ge (tgt := 69) dX11_totalWith_36 (by decide) (fun c => ?_) (fun c => ?_)
  · replace h := h.1 c
    refine ev_aload_n dX11_totalWith_69 rfl ?_
    refine ev_getA dX11_totalWith_70 fl_WithoutEModel_7 lm_0 rfl ?_
    refine ev_bipush (v := 9) dX11_totalWith_73 (by decide) ?_
    refine ev_iload_n dX11_totalWith_75 rfl ?_
    refine ev_isN (j := 9) dX11_totalWith_76 lm_1 (by decide) (by decide) ?_
    generalize eM1 : ev_wr M 1 9 x2 = M1
    replace h := h M1 eM1.symm
    refine ev_iload_n dX11_totalWith_77 rfl ?_
    exact ev_iret dX11_totalWith_78 rfl h
  · replace h := h.2 c
    refine ev_aload_n dX11_totalWith_39 rfl ?_
    refine ev_iload dX11_totalWith_40 rfl ?_
    obtain ⟨Q2, hc, h⟩ := h
    refine ev_callV [.int x4] dX11_totalWith_42 ml_WithoutEModel_371 lm_0 rfl rfl (Nat.le_of_ble_eq_true rfl) hc (fun zr zM q => ?_)
    exact h zr zM q
theorem gX11_totalWith_45 {d : Nat} {M : ev_Mem} {Q : Option Value → ev_Mem → Prop} {x2 x3 x4 s0 : Int32} (h : (((¬ s0 = (-1)) → (Ev LM d mX11_totalWith 28 [some (.ref 0), none, some (.int x2), some (.int (x3 + s0)), some (.int (x4 + 1)), none] [] M Q)) ∧ ((s0 = (-1)) → (Ev LM d mX11_totalWith 28 [some (.ref 0), none, some (.int x2), some (.int (x3 + 50)), some (.int (x4 + 1)), none] [] M Q)))) : Ev LM d mX11_totalWith 45 [some (.ref 0), none, some (.int x2), some (.int x3), some (.int x4), none] [(.int s0)] M Q := by
  refine ev_istore (ls2 := [some (.ref 0), none, some (.int x2), some (.int x3), some (.int x4), some (.int s0)]) dX11_totalWith_45 (Nat.le_of_ble_eq_true rfl) rfl ?_
  refine ev_iload_n dX11_totalWith_47 rfl ?_
  refine ev_iload dX11_totalWith_48 rfl ?_
  refine ev_iconst (v := -1) dX11_totalWith_50 (by decide) ?_
  refine ev_icmp_ne (tgt := 59) dX11_totalWith_51 (by decide) (fun c => ?_) (fun c => ?_)
  · replace h := h.1 c
    refine ev_iload dX11_totalWith_59 rfl ?_
    refine ev_iadd dX11_totalWith_61 ?_
    refine ev_istore_n (ls2 := [some (.ref 0), none, some (.int x2), some (.int (x3 + s0)), some (.int x4), some (.int s0)]) dX11_totalWith_62 (Nat.le_of_ble_eq_true rfl) rfl ?_
    refine ev_iinc (v := x4 + 1) (ls2 := [some (.ref 0), none, some (.int x2), some (.int (x3 + s0)), some (.int (x4 + 1)), some (.int s0)]) dX11_totalWith_63 rfl rfl rfl ?_
    refine ev_goto (tgt := 28) dX11_totalWith_66 (by decide) ?_
    refine Ev.weak (ls := [some (.ref 0), none, some (.int x2), some (.int (x3 + s0)), some (.int (x4 + 1)), none]) ⟨rfl, rfl, rfl, rfl, trivial⟩ ?_
    exact h
  · replace h := h.2 c
    refine ev_bipush (v := 50) dX11_totalWith_54 (by decide) ?_
    refine ev_goto (tgt := 61) dX11_totalWith_56 (by decide) ?_
    refine ev_iadd dX11_totalWith_61 ?_
    refine ev_istore_n (ls2 := [some (.ref 0), none, some (.int x2), some (.int (x3 + 50)), some (.int x4), some (.int s0)]) dX11_totalWith_62 (Nat.le_of_ble_eq_true rfl) rfl ?_
    refine ev_iinc (v := x4 + 1) (ls2 := [some (.ref 0), none, some (.int x2), some (.int (x3 + 50)), some (.int (x4 + 1)), some (.int s0)]) dX11_totalWith_63 rfl rfl rfl ?_
    refine ev_goto (tgt := 28) dX11_totalWith_66 (by decide) ?_
    refine Ev.weak (ls := [some (.ref 0), none, some (.int x2), some (.int (x3 + 50)), some (.int (x4 + 1)), none]) ⟨rfl, rfl, rfl, rfl, trivial⟩ ?_
    exact h
theorem dX11_worst_0 : decode cX11_worst 0 = .ok (.iconst (-1), 1) := by decide +kernel
theorem dX11_worst_1 : decode cX11_worst 1 = .ok (.istore_n 1, 1) := by decide +kernel
theorem dX11_worst_2 : decode cX11_worst 2 = .ok (.iconst (-1), 1) := by decide +kernel
theorem dX11_worst_3 : decode cX11_worst 3 = .ok (.istore_n 2, 1) := by decide +kernel
theorem dX11_worst_4 : decode cX11_worst 4 = .ok (.iconst 0, 1) := by decide +kernel
theorem dX11_worst_5 : decode cX11_worst 5 = .ok (.istore_n 3, 1) := by decide +kernel
theorem dX11_worst_6 : decode cX11_worst 6 = .ok (.iload_n 3, 1) := by decide +kernel
theorem dX11_worst_7 : decode cX11_worst 7 = .ok (.bipush 26, 2) := by decide +kernel
theorem dX11_worst_9 : decode cX11_worst 9 = .ok (.if_icmp .ge 44, 3) := by decide +kernel
theorem dX11_worst_12 : decode cX11_worst 12 = .ok (.aload_n 0, 1) := by decide +kernel
theorem dX11_worst_13 : decode cX11_worst 13 = .ok (.iload_n 3, 1) := by decide +kernel
theorem dX11_worst_14 : decode cX11_worst 14 = .ok (.invokevirtual 88, 3) := by decide +kernel
theorem dX11_worst_17 : decode cX11_worst 17 = .ok (.ifCond .eq 7, 3) := by decide +kernel
theorem dX11_worst_20 : decode cX11_worst 20 = .ok (.iconst (-1), 1) := by decide +kernel
theorem dX11_worst_21 : decode cX11_worst 21 = .ok (.goto 10, 3) := by decide +kernel
theorem dX11_worst_24 : decode cX11_worst 24 = .ok (.aload_n 0, 1) := by decide +kernel
theorem dX11_worst_25 : decode cX11_worst 25 = .ok (.iconst 1, 1) := by decide +kernel
theorem dX11_worst_26 : decode cX11_worst 26 = .ok (.iload_n 3, 1) := by decide +kernel
theorem dX11_worst_27 : decode cX11_worst 27 = .ok (.ishl, 1) := by decide +kernel
theorem dX11_worst_28 : decode cX11_worst 28 = .ok (.invokevirtual 451, 3) := by decide +kernel
theorem dX11_worst_31 : decode cX11_worst 31 = .ok (.istore 4, 2) := by decide +kernel
theorem dX11_worst_33 : decode cX11_worst 33 = .ok (.iload 4, 2) := by decide +kernel
theorem dX11_worst_35 : decode cX11_worst 35 = .ok (.iload_n 2, 1) := by decide +kernel
theorem dX11_worst_36 : decode cX11_worst 36 = .ok (.if_icmp .gt 6, 3) := by decide +kernel
theorem dX11_worst_39 : decode cX11_worst 39 = .ok (.goto 8, 3) := by decide +kernel
theorem dX11_worst_42 : decode cX11_worst 42 = .ok (.iload 4, 2) := by decide +kernel
theorem dX11_worst_44 : decode cX11_worst 44 = .ok (.istore_n 2, 1) := by decide +kernel
theorem dX11_worst_45 : decode cX11_worst 45 = .ok (.iload_n 3, 1) := by decide +kernel
theorem dX11_worst_46 : decode cX11_worst 46 = .ok (.istore_n 1, 1) := by decide +kernel
theorem dX11_worst_47 : decode cX11_worst 47 = .ok (.iinc 3 1, 3) := by decide +kernel
theorem dX11_worst_50 : decode cX11_worst 50 = .ok (.goto (-44), 3) := by decide +kernel
theorem dX11_worst_53 : decode cX11_worst 53 = .ok (.iload_n 1, 1) := by decide +kernel
theorem dX11_worst_54 : decode cX11_worst 54 = .ok (.ireturn, 1) := by decide +kernel
theorem gX11_worst_0 {d : Nat} {M : ev_Mem} {Q : Option Value → ev_Mem → Prop} (h : (Ev LM d mX11_worst 6 [some (.ref 0), some (.int (-1)), some (.int (-1)), some (.int 0), none] [] M Q)) : Ev LM d mX11_worst 0 [some (.ref 0), none, none, none, none] [] M Q := by
  refine ev_iconst (v := -1) dX11_worst_0 (by decide) ?_
  refine ev_istore_n (ls2 := [some (.ref 0), some (.int (-1)), none, none, none]) dX11_worst_1 (Nat.le_of_ble_eq_true rfl) rfl ?_
  refine ev_iconst (v := -1) dX11_worst_2 (by decide) ?_
  refine ev_istore_n (ls2 := [some (.ref 0), some (.int (-1)), some (.int (-1)), none, none]) dX11_worst_3 (Nat.le_of_ble_eq_true rfl) rfl ?_
  refine ev_iconst (v := 0) dX11_worst_4 (by decide) ?_
  refine ev_istore_n (ls2 := [some (.ref 0), some (.int (-1)), some (.int (-1)), some (.int 0), none]) dX11_worst_5 (Nat.le_of_ble_eq_true rfl) rfl ?_
  exact h
theorem gX11_worst_6 {d : Nat} {M : ev_Mem} {Q : Option Value → ev_Mem → Prop} {x1 x2 x3 : Int32} (h : (((26 ≤ x3) → (Q (some (.int x1)) M)) ∧ ((¬ 26 ≤ x3) → ((((hs (M.1 1 9) x3) = false) → (∃ Q2 : Option Value → ev_Mem → Prop, Cl LM (d + 1) mX11_totalWith [.ref 0, .int (1 <<< (x3 &&& 31))] M Q2 ∧ ∀ (zr : Option Value) (zM : ev_Mem), Q2 zr zM → Ev LM (d + 2) mX11_worst 31 [some (.ref 0), some (.int x1), some (.int x2), some (.int x3), none] (zr.toList ++ []) zM Q)) ∧ (((hs (M.1 1 9) x3) = true) → (Ev LM (d + 2) mX11_worst 31 [some (.ref 0), some (.int x1), some (.int x2), some (.int x3), none] [(.int (-1))] M Q)))))) : Ev LM (d + 2) mX11_worst 6 [some (.ref 0), some (.int x1), some (.int x2), some (.int x3), none] [] M Q := by
  refine ev_iload_n dX11_worst_6 rfl ?_
  refine ev_bipush (v := 26) dX11_worst_7 (by decide) ?_
  refine ev_icmp_ge (tgt := 53) dX11_worst_9 (by decide) (fun c => ?_) (fun c => ?_)
  · replace h := h.1 c
    refine ev_iload_n dX11_worst_53 rfl ?_
    exact ev_iret dX11_worst_54 rfl h
  · replace h := h.2 c
    refine ev_aload_n dX11_worst_12 rfl ?_
    refine ev_iload_n dX11_worst_13 rfl ?_
    refine ev_callV [.int x3] dX11_worst_14 ml_WithoutEModel_88 lm_0 rfl rfl (Nat.le_of_ble_eq_true rfl) (kX11_isLost) ?_
    rintro zr zM ⟨q1, q2⟩
    rw [q1, q2]
    show Ev LM (d + 2) mX11_worst 17 [some (.ref 0), some (.int x1), some (.int x2), some (.int x3), none] [(.int (bi (hs (M.1 1 9) x3)))] M Q
    refine ev_if_eq (tgt := 24) dX11_worst_17 (by decide) (fun c => ?_) (fun c => ?_)
    · replace h := h.1 ((bi_0 _).mp c)
      refine ev_aload_n dX11_worst_24 rfl ?_
      refine ev_iconst (v := 1) dX11_worst_25 (by decide) ?_
      refine ev_iload_n dX11_worst_26 rfl ?_
      refine ev_ishl dX11_worst_27 ?_
      obtain ⟨Q2, hc, h⟩ := h
      refine ev_callV [.int (1 <<< (x3 &&& 31))] dX11_worst_28 ml_WithoutEModel_451 lm_0 rfl rfl (Nat.le_of_ble_eq_true rfl) hc (fun zr zM q => ?_)
      exact h zr zM q
    · replace h := h.2 ((bi_n0 _).mp c)
      refine ev_iconst (v := -1) dX11_worst_20 (by decide) ?_
      refine ev_goto (tgt := 31) dX11_worst_21 (by decide) ?_
      exact h
theorem gX11_worst_31 {d : Nat} {M : ev_Mem} {Q : Option Value → ev_Mem → Prop} {x1 x2 x3 s0 : Int32} (h : (((x2 < s0) → (Ev LM d mX11_worst 6 [some (.ref 0), some (.int x3), some (.int s0), some (.int (x3 + 1)), none] [] M Q)) ∧ ((¬ x2 < s0) → (Ev LM d mX11_worst 6 [some (.ref 0), some (.int x1), some (.int x2), some (.int (x3 + 1)), none] [] M Q)))) : Ev LM d mX11_worst 31 [some (.ref 0), some (.int x1), some (.int x2), some (.int x3), none] [(.int s0)] M Q := by
  refine ev_istore (ls2 := [some (.ref 0), some (.int x1), some (.int x2), some (.int x3), some (.int s0)]) dX11_worst_31 (Nat.le_of_ble_eq_true rfl) rfl ?_
  refine ev_iload dX11_worst_33 rfl ?_
  refine ev_iload_n dX11_worst_35 rfl ?_
  refine ev_icmp_gt (tgt := 42) dX11_worst_36 (by decide) (fun c => ?_) (fun c => ?_)
  · replace h := h.1 c
    refine ev_iload dX11_worst_42 rfl ?_
    refine ev_istore_n (ls2 := [some (.ref 0), some (.int x1), some (.int s0), some (.int x3), some (.int s0)]) dX11_worst_44 (Nat.le_of_ble_eq_true rfl) rfl ?_
    refine ev_iload_n dX11_worst_45 rfl ?_
    refine ev_istore_n (ls2 := [some (.ref 0), some (.int x3), some (.int s0), some (.int x3), some (.int s0)]) dX11_worst_46 (Nat.le_of_ble_eq_true rfl) rfl ?_
    refine ev_iinc (v := x3 + 1) (ls2 := [some (.ref 0), some (.int x3), some (.int s0), some (.int (x3 + 1)), some (.int s0)]) dX11_worst_47 rfl rfl rfl ?_
    refine ev_goto (tgt := 6) dX11_worst_50 (by decide) ?_
    refine Ev.weak (ls := [some (.ref 0), some (.int x3), some (.int s0), some (.int (x3 + 1)), none]) ⟨rfl, rfl, rfl, rfl, trivial⟩ ?_
    exact h
  · replace h := h.2 c
    refine ev_goto (tgt := 47) dX11_worst_39 (by decide) ?_
    refine ev_iinc (v := x3 + 1) (ls2 := [some (.ref 0), some (.int x1), some (.int x2), some (.int (x3 + 1)), some (.int s0)]) dX11_worst_47 rfl rfl rfl ?_
    refine ev_goto (tgt := 6) dX11_worst_50 (by decide) ?_
    refine Ev.weak (ls := [some (.ref 0), some (.int x1), some (.int x2), some (.int (x3 + 1)), none]) ⟨rfl, rfl, rfl, rfl, trivial⟩ ?_
    exact h
theorem dX11_few_0 : decode cX11_few 0 = .ok (.iconst (-1), 1) := by decide +kernel
theorem dX11_few_1 : decode cX11_few 1 = .ok (.istore_n 2, 1) := by decide +kernel
theorem dX11_few_2 : decode cX11_few 2 = .ok (.iconst (-1), 1) := by decide +kernel
theorem dX11_few_3 : decode cX11_few 3 = .ok (.istore_n 3, 1) := by decide +kernel
theorem dX11_few_4 : decode cX11_few 4 = .ok (.iconst (-1), 1) := by decide +kernel
theorem dX11_few_5 : decode cX11_few 5 = .ok (.istore 4, 2) := by decide +kernel
theorem dX11_few_7 : decode cX11_few 7 = .ok (.iconst 0, 1) := by decide +kernel
theorem dX11_few_8 : decode cX11_few 8 = .ok (.istore 5, 2) := by decide +kernel
theorem dX11_few_10 : decode cX11_few 10 = .ok (.iload 5, 2) := by decide +kernel
theorem dX11_few_12 : decode cX11_few 12 = .ok (.bipush 26, 2) := by decide +kernel
theorem dX11_few_14 : decode cX11_few 14 = .ok (.if_icmp .ge 85, 3) := by decide +kernel
theorem dX11_few_17 : decode cX11_few 17 = .ok (.iload 5, 2) := by decide +kernel
theorem dX11_few_19 : decode cX11_few 19 = .ok (.iconst 1, 1) := by decide +kernel
theorem dX11_few_20 : decode cX11_few 20 = .ok (.iadd, 1) := by decide +kernel
theorem dX11_few_21 : decode cX11_few 21 = .ok (.istore 6, 2) := by decide +kernel
theorem dX11_few_23 : decode cX11_few 23 = .ok (.iload 6, 2) := by decide +kernel
theorem dX11_few_25 : decode cX11_few 25 = .ok (.bipush 26, 2) := by decide +kernel
theorem dX11_few_27 : decode cX11_few 27 = .ok (.if_icmp .ge 66, 3) := by decide +kernel
theorem dX11_few_30 : decode cX11_few 30 = .ok (.aload_n 0, 1) := by decide +kernel
theorem dX11_few_31 : decode cX11_few 31 = .ok (.iload 5, 2) := by decide +kernel
theorem dX11_few_33 : decode cX11_few 33 = .ok (.invokevirtual 88, 3) := by decide +kernel
theorem dX11_few_36 : decode cX11_few 36 = .ok (.ifCond .ne 12, 3) := by decide +kernel
theorem dX11_few_39 : decode cX11_few 39 = .ok (.aload_n 0, 1) := by decide +kernel
theorem dX11_few_40 : decode cX11_few 40 = .ok (.iload 6, 2) := by decide +kernel
theorem dX11_few_42 : decode cX11_few 42 = .ok (.invokevirtual 88, 3) := by decide +kernel
theorem dX11_few_45 : decode cX11_few 45 = .ok (.ifCond .eq 7, 3) := by decide +kernel
theorem dX11_few_48 : decode cX11_few 48 = .ok (.iconst (-1), 1) := by decide +kernel
theorem dX11_few_49 : decode cX11_few 49 = .ok (.goto 16, 3) := by decide +kernel
theorem dX11_few_52 : decode cX11_few 52 = .ok (.aload_n 0, 1) := by decide +kernel
theorem dX11_few_53 : decode cX11_few 53 = .ok (.iconst 1, 1) := by decide +kernel
theorem dX11_few_54 : decode cX11_few 54 = .ok (.iload 5, 2) := by decide +kernel
theorem dX11_few_56 : decode cX11_few 56 = .ok (.ishl, 1) := by decide +kernel
theorem dX11_few_57 : decode cX11_few 57 = .ok (.iconst 1, 1) := by decide +kernel
theorem dX11_few_58 : decode cX11_few 58 = .ok (.iload 6, 2) := by decide +kernel
theorem dX11_few_60 : decode cX11_few 60 = .ok (.ishl, 1) := by decide +kernel
theorem dX11_few_61 : decode cX11_few 61 = .ok (.ior, 1) := by decide +kernel
theorem dX11_few_62 : decode cX11_few 62 = .ok (.invokevirtual 451, 3) := by decide +kernel
theorem dX11_few_65 : decode cX11_few 65 = .ok (.istore 7, 2) := by decide +kernel
theorem dX11_few_67 : decode cX11_few 67 = .ok (.iload 7, 2) := by decide +kernel
theorem dX11_few_69 : decode cX11_few 69 = .ok (.iload 4, 2) := by decide +kernel
theorem dX11_few_71 : decode cX11_few 71 = .ok (.if_icmp .gt 6, 3) := by decide +kernel
theorem dX11_few_74 : decode cX11_few 74 = .ok (.goto 13, 3) := by decide +kernel
theorem dX11_few_77 : decode cX11_few 77 = .ok (.iload 7, 2) := by decide +kernel
theorem dX11_few_79 : decode cX11_few 79 = .ok (.istore 4, 2) := by decide +kernel
theorem dX11_few_81 : decode cX11_few 81 = .ok (.iload 5, 2) := by decide +kernel
theorem dX11_few_83 : decode cX11_few 83 = .ok (.istore_n 2, 1) := by decide +kernel
theorem dX11_few_84 : decode cX11_few 84 = .ok (.iload 6, 2) := by decide +kernel
theorem dX11_few_86 : decode cX11_few 86 = .ok (.istore_n 3, 1) := by decide +kernel
theorem dX11_few_87 : decode cX11_few 87 = .ok (.iinc 6 1, 3) := by decide +kernel
theorem dX11_few_90 : decode cX11_few 90 = .ok (.goto (-67), 3) := by decide +kernel
theorem dX11_few_93 : decode cX11_few 93 = .ok (.iinc 5 1, 3) := by decide +kernel
theorem dX11_few_96 : decode cX11_few 96 = .ok (.goto (-86), 3) := by decide +kernel
theorem dX11_few_99 : decode cX11_few 99 = .ok (.iload_n 1, 1) := by decide +kernel
theorem dX11_few_100 : decode cX11_few 100 = .ok (.ifCond .eq 7, 3) := by decide +kernel
theorem dX11_few_103 : decode cX11_few 103 = .ok (.iload_n 3, 1) := by decide +kernel
theorem dX11_few_104 : decode cX11_few 104 = .ok (.goto 4, 3) := by decide +kernel
theorem dX11_few_107 : decode cX11_few 107 = .ok (.iload_n 2, 1) := by decide +kernel
theorem dX11_few_108 : decode cX11_few 108 = .ok (.ireturn, 1) := by decide +kernel
theorem gX11_few_0 {d : Nat} {M : ev_Mem} {Q : Option Value → ev_Mem → Prop} {x1 : Int32} (h : (Ev LM d mX11_few 10 [some (.ref 0), some (.int x1), some (.int (-1)), some (.int (-1)), some (.int (-1)), some (.int 0), none, none] [] M Q)) : Ev LM d mX11_few 0 [some (.ref 0), some (.int x1), none, none, none, none, none, none] [] M Q := by
  refine ev_iconst (v := -1) dX11_few_0 (by decide) ?_
  refine ev_istore_n (ls2 := [some (.ref 0), some (.int x1), some (.int (-1)), none, none, none, none, none]) dX11_few_1 (Nat.le_of_ble_eq_true rfl) rfl ?_
  refine ev_iconst (v := -1) dX11_few_2 (by decide) ?_
  refine ev_istore_n (ls2 := [some (.ref 0), some (.int x1), some (.int (-1)), some (.int (-1)), none, none, none, none]) dX11_few_3 (Nat.le_of_ble_eq_true rfl) rfl ?_
  refine ev_iconst (v := -1) dX11_few_4 (by decide) ?_
  refine ev_istore (ls2 := [some (.ref 0), some (.int x1), some (.int (-1)), some (.int (-1)), some (.int (-1)), none, none, none]) dX11_few_5 (Nat.le_of_ble_eq_true rfl) rfl ?_
  refine ev_iconst (v := 0) dX11_few_7 (by decide) ?_
  refine ev_istore (ls2 := [some (.ref 0), some (.int x1), some (.int (-1)), some (.int (-1)), some (.int (-1)), some (.int 0), none, none]) dX11_few_8 (Nat.le_of_ble_eq_true rfl) rfl ?_
  exact h
theorem gX11_few_10 {d : Nat} {M : ev_Mem} {Q : Option Value → ev_Mem → Prop} {x1 x2 x3 x4 x5 : Int32} (h : (((26 ≤ x5) → (((x1 = 0) → (Q (some (.int x2)) M)) ∧ ((¬ x1 = 0) → (Q (some (.int x3)) M)))) ∧ ((¬ 26 ≤ x5) → (Ev LM d mX11_few 23 [some (.ref 0), some (.int x1), some (.int x2), some (.int x3), some (.int x4), some (.int x5), some (.int (x5 + 1)), none] [] M Q)))) : Ev LM d mX11_few 10 [some (.ref 0), some (.int x1), some (.int x2), some (.int x3), some (.int x4), some (.int x5), none, none] [] M Q := by
  refine ev_iload dX11_few_10 rfl ?_
  refine ev_bipush (v := 26) dX11_few_12 (by decide) ?_
  refine ev_icmp_ge (tgt := 99) dX11_few_14 (by decide) (fun c => ?_) (fun c => ?_)
  · replace h := h.1 c
    refine ev_iload_n dX11_few_99 rfl ?_
    refine ev_if_eq (tgt := 107) dX11_few_100 (by decide) (fun c => ?_) (fun c => ?_)
    · replace h := h.1 c
      refine ev_iload_n dX11_few_107 rfl ?_
      exact ev_iret dX11_few_108 rfl h
    · replace h := h.2 c
      refine ev_iload_n dX11_few_103 rfl ?_
      refine ev_goto (tgt := 108) dX11_few_104 (by decide) ?_
      exact ev_iret dX11_few_108 rfl h
  · replace h := h.2 c
    refine ev_iload dX11_few_17 rfl ?_
    refine ev_iconst (v := 1) dX11_few_19 (by decide) ?_
    refine ev_iadd dX11_few_20 ?_
    refine ev_istore (ls2 := [some (.ref 0), some (.int x1), some (.int x2), some (.int x3), some (.int x4), some (.int x5), some (.int (x5 + 1)), none]) dX11_few_21 (Nat.le_of_ble_eq_true rfl) rfl ?_
    exact h
theorem gX11_few_23 {d : Nat} {M : ev_Mem} {Q : Option Value → ev_Mem → Prop} {x1 x2 x3 x4 x5 x6 : Int32} (h : (((26 ≤ x6) → (Ev LM (d + 2) mX11_few 10 [some (.ref 0), some (.int x1), some (.int x2), some (.int x3), some (.int x4), some (.int (x5 + 1)), none, none] [] M Q)) ∧ ((¬ 26 ≤ x6) → ((((hs (M.1 1 9) x5) = true) → (((x4 < (-1 : Int32)) → (Ev LM (d + 2) mX11_few 23 [some (.ref 0), some (.int x1), some (.int x5), some (.int x6), some (.int (-1)), some (.int x5), some (.int (x6 + 1)), none] [] M Q)) ∧ ((¬ x4 < (-1 : Int32)) → (Ev LM (d + 2) mX11_few 23 [some (.ref 0), some (.int x1), some (.int x2), some (.int x3), some (.int x4), some (.int x5), some (.int (x6 + 1)), none] [] M Q)))) ∧ (((hs (M.1 1 9) x5) = false) → ((((hs (M.1 1 9) x6) = false) → (∃ Q2 : Option Value → ev_Mem → Prop, Cl LM (d + 1) mX11_totalWith [.ref 0, .int ((1 <<< (x5 &&& 31)) ||| (1 <<< (x6 &&& 31)))] M Q2 ∧ ∀ (zr : Option Value) (zM : ev_Mem), Q2 zr zM → Ev LM (d + 2) mX11_few 65 [some (.ref 0), some (.int x1), some (.int x2), some (.int x3), some (.int x4), some (.int x5), some (.int x6), none] (zr.toList ++ []) zM Q)) ∧ (((hs (M.1 1 9) x6) = true) → (Ev LM (d + 2) mX11_few 65 [some (.ref 0), some (.int x1), some (.int x2), some (.int x3), some (.int x4), some (.int x5), some (.int x6), none] [(.int (-1))] M Q)))))))) : Ev LM (d + 2) mX11_few 23 [some (.ref 0), some (.int x1), some (.int x2), some (.int x3), some (.int x4), some (.int x5), some (.int x6), none] [] M Q := by
  refine ev_iload dX11_few_23 rfl ?_
  refine ev_bipush (v := 26) dX11_few_25 (by decide) ?_
  refine ev_icmp_ge (tgt := 93) dX11_few_27 (by decide) (fun c => ?_) (fun c => ?_)
  · replace h := h.1 c
    refine ev_iinc (v := x5 + 1) (ls2 := [some (.ref 0), some (.int x1), some (.int x2), some (.int x3), some (.int x4), some (.int (x5 + 1)), some (.int x6), none]) dX11_few_93 rfl rfl rfl ?_
    refine ev_goto (tgt := 10) dX11_few_96 (by decide) ?_
    refine Ev.weak (ls := [some (.ref 0), some (.int x1), some (.int x2), some (.int x3), some (.int x4), some (.int (x5 + 1)), none, none]) ⟨rfl, rfl, rfl, rfl, rfl, rfl, trivial⟩ ?_
    exact h
  · replace h := h.2 c
    refine ev_aload_n dX11_few_30 rfl ?_
    refine ev_iload dX11_few_31 rfl ?_
    refine ev_callV [.int x5] dX11_few_33 ml_WithoutEModel_88 lm_0 rfl rfl (Nat.le_of_ble_eq_true rfl) (kX11_isLost) ?_
    rintro zr zM ⟨q1, q2⟩
    rw [q1, q2]
    show Ev LM (d + 2) mX11_few 36 [some (.ref 0), some (.int x1), some (.int x2), some (.int x3), some (.int x4), some (.int x5), some (.int x6), none] [(.int (bi (hs (M.1 1 9) x5)))] M Q
    refine ev_if_ne (tgt := 48) dX11_few_36 (by decide) (fun c => ?_) (fun c => ?_)
    · replace h := h.1 ((bi_n0 _).mp c)
      refine ev_iconst (v := -1) dX11_few_48 (by decide) ?_
      refine ev_goto (tgt := 65) dX11_few_49 (by decide) ?_
      refine ev_istore (ls2 := [some (.ref 0), some (.int x1), some (.int x2), some (.int x3), some (.int x4), some (.int x5), some (.int x6), some (.int (-1))]) dX11_few_65 (Nat.le_of_ble_eq_true rfl) rfl ?_
      refine ev_iload dX11_few_67 rfl ?_
      refine ev_iload dX11_few_69 rfl ?_
      refine ev_icmp_gt (tgt := 77) dX11_few_71 (by decide) (fun c => ?_) (fun c => ?_)
      · replace h := h.1 c
        refine ev_iload dX11_few_77 rfl ?_
        refine ev_istore (ls2 := [some (.ref 0), some (.int x1), some (.int x2), some (.int x3), some (.int (-1)), some (.int x5), some (.int x6), some (.int (-1))]) dX11_few_79 (Nat.le_of_ble_eq_true rfl) rfl ?_
        refine ev_iload dX11_few_81 rfl ?_
        refine ev_istore_n (ls2 := [some (.ref 0), some (.int x1), some (.int x5), some (.int x3), some (.int (-1)), some (.int x5), some (.int x6), some (.int (-1))]) dX11_few_83 (Nat.le_of_ble_eq_true rfl) rfl ?_
        refine ev_iload dX11_few_84 rfl ?_
        refine ev_istore_n (ls2 := [some (.ref 0), some (.int x1), some (.int x5), some (.int x6), some (.int (-1)), some (.int x5), some (.int x6), some (.int (-1))]) dX11_few_86 (Nat.le_of_ble_eq_true rfl) rfl ?_
        refine ev_iinc (v := x6 + 1) (ls2 := [some (.ref 0), some (.int x1), some (.int x5), some (.int x6), some (.int (-1)), some (.int x5), some (.int (x6 + 1)), some (.int (-1))]) dX11_few_87 rfl rfl rfl ?_
        refine ev_goto (tgt := 23) dX11_few_90 (by decide) ?_
        refine Ev.weak (ls := [some (.ref 0), some (.int x1), some (.int x5), some (.int x6), some (.int (-1)), some (.int x5), some (.int (x6 + 1)), none]) ⟨rfl, rfl, rfl, rfl, rfl, rfl, rfl, trivial⟩ ?_
        exact h
      · replace h := h.2 c
        refine ev_goto (tgt := 87) dX11_few_74 (by decide) ?_
        refine ev_iinc (v := x6 + 1) (ls2 := [some (.ref 0), some (.int x1), some (.int x2), some (.int x3), some (.int x4), some (.int x5), some (.int (x6 + 1)), some (.int (-1))]) dX11_few_87 rfl rfl rfl ?_
        refine ev_goto (tgt := 23) dX11_few_90 (by decide) ?_
        refine Ev.weak (ls := [some (.ref 0), some (.int x1), some (.int x2), some (.int x3), some (.int x4), some (.int x5), some (.int (x6 + 1)), none]) ⟨rfl, rfl, rfl, rfl, rfl, rfl, rfl, trivial⟩ ?_
        exact h
    · replace h := h.2 ((bi_0 _).mp c)
      refine ev_aload_n dX11_few_39 rfl ?_
      refine ev_iload dX11_few_40 rfl ?_
      refine ev_callV [.int x6] dX11_few_42 ml_WithoutEModel_88 lm_0 rfl rfl (Nat.le_of_ble_eq_true rfl) (kX11_isLost) ?_
      rintro zr zM ⟨q1, q2⟩
      rw [q1, q2]
      show Ev LM (d + 2) mX11_few 45 [some (.ref 0), some (.int x1), some (.int x2), some (.int x3), some (.int x4), some (.int x5), some (.int x6), none] [(.int (bi (hs (M.1 1 9) x6)))] M Q
      refine ev_if_eq (tgt := 52) dX11_few_45 (by decide) (fun c => ?_) (fun c => ?_)
      · replace h := h.1 ((bi_0 _).mp c)
        refine ev_aload_n dX11_few_52 rfl ?_
        refine ev_iconst (v := 1) dX11_few_53 (by decide) ?_
        refine ev_iload dX11_few_54 rfl ?_
        refine ev_ishl dX11_few_56 ?_
        refine ev_iconst (v := 1) dX11_few_57 (by decide) ?_
        refine ev_iload dX11_few_58 rfl ?_
        refine ev_ishl dX11_few_60 ?_
        refine ev_ior dX11_few_61 ?_
        obtain ⟨Q2, hc, h⟩ := h
        refine ev_callV [.int ((1 <<< (x5 &&& 31)) ||| (1 <<< (x6 &&& 31)))] dX11_few_62 ml_WithoutEModel_451 lm_0 rfl rfl (Nat.le_of_ble_eq_true rfl) hc (fun zr zM q => ?_)
        exact h zr zM q
      · replace h := h.2 ((bi_n0 _).mp c)
        refine ev_iconst (v := -1) dX11_few_48 (by decide) ?_
        refine ev_goto (tgt := 65) dX11_few_49 (by decide) ?_
        exact h
theorem gX11_few_65 {d : Nat} {M : ev_Mem} {Q : Option Value → ev_Mem → Prop} {x1 x2 x3 x4 x5 x6 s0 : Int32} (h : (((x4 < s0) → (Ev LM d mX11_few 23 [some (.ref 0), some (.int x1), some (.int x5), some (.int x6), some (.int s0), some (.int x5), some (.int (x6 + 1)), none] [] M Q)) ∧ ((¬ x4 < s0) → (Ev LM d mX11_few 23 [some (.ref 0), some (.int x1), some (.int x2), some (.int x3), some (.int x4), some (.int x5), some (.int (x6 + 1)), none] [] M Q)))) : Ev LM d mX11_few 65 [some (.ref 0), some (.int x1), some (.int x2), some (.int x3), some (.int x4), some (.int x5), some (.int x6), none] [(.int s0)] M Q := by
  refine ev_istore (ls2 := [some (.ref 0), some (.int x1), some (.int x2), some (.int x3), some (.int x4), some (.int x5), some (.int x6), some (.int s0)]) dX11_few_65 (Nat.le_of_ble_eq_true rfl) rfl ?_
  refine ev_iload dX11_few_67 rfl ?_
  refine ev_iload dX11_few_69 rfl ?_
  refine ev_icmp_gt (tgt := 77) dX11_few_71 (by decide) (fun c => ?_) (fun c => ?_)
  · replace h := h.1 c
    refine ev_iload dX11_few_77 rfl ?_
    refine ev_istore (ls2 := [some (.ref 0), some (.int x1), some (.int x2), some (.int x3), some (.int s0), some (.int x5), some (.int x6), some (.int s0)]) dX11_few_79 (Nat.le_of_ble_eq_true rfl) rfl ?_
    refine ev_iload dX11_few_81 rfl ?_
    refine ev_istore_n (ls2 := [some (.ref 0), some (.int x1), some (.int x5), some (.int x3), some (.int s0), some (.int x5), some (.int x6), some (.int s0)]) dX11_few_83 (Nat.le_of_ble_eq_true rfl) rfl ?_
    refine ev_iload dX11_few_84 rfl ?_
    refine ev_istore_n (ls2 := [some (.ref 0), some (.int x1), some (.int x5), some (.int x6), some (.int s0), some (.int x5), some (.int x6), some (.int s0)]) dX11_few_86 (Nat.le_of_ble_eq_true rfl) rfl ?_
    refine ev_iinc (v := x6 + 1) (ls2 := [some (.ref 0), some (.int x1), some (.int x5), some (.int x6), some (.int s0), some (.int x5), some (.int (x6 + 1)), some (.int s0)]) dX11_few_87 rfl rfl rfl ?_
    refine ev_goto (tgt := 23) dX11_few_90 (by decide) ?_
    refine Ev.weak (ls := [some (.ref 0), some (.int x1), some (.int x5), some (.int x6), some (.int s0), some (.int x5), some (.int (x6 + 1)), none]) ⟨rfl, rfl, rfl, rfl, rfl, rfl, rfl, trivial⟩ ?_
    exact h
  · replace h := h.2 c
    refine ev_goto (tgt := 87) dX11_few_74 (by decide) ?_
    refine ev_iinc (v := x6 + 1) (ls2 := [some (.ref 0), some (.int x1), some (.int x2), some (.int x3), some (.int x4), some (.int x5), some (.int (x6 + 1)), some (.int s0)]) dX11_few_87 rfl rfl rfl ?_
    refine ev_goto (tgt := 23) dX11_few_90 (by decide) ?_
    refine Ev.weak (ls := [some (.ref 0), some (.int x1), some (.int x2), some (.int x3), some (.int x4), some (.int x5), some (.int (x6 + 1)), none]) ⟨rfl, rfl, rfl, rfl, rfl, rfl, rfl, trivial⟩ ?_
    exact h
theorem dX11_longer_0 : decode cX11_longer 0 = .ok (.iconst 0, 1) := by decide +kernel
theorem dX11_longer_1 : decode cX11_longer 1 = .ok (.istore_n 1, 1) := by decide +kernel
theorem dX11_longer_2 : decode cX11_longer 2 = .ok (.iconst 0, 1) := by decide +kernel
theorem dX11_longer_3 : decode cX11_longer 3 = .ok (.istore_n 2, 1) := by decide +kernel
theorem dX11_longer_4 : decode cX11_longer 4 = .ok (.aload_n 0, 1) := by decide +kernel
theorem dX11_longer_5 : decode cX11_longer 5 = .ok (.invokevirtual 368, 3) := by decide +kernel
theorem dX11_longer_8 : decode cX11_longer 8 = .ok (.iconst 0, 1) := by decide +kernel
theorem dX11_longer_9 : decode cX11_longer 9 = .ok (.istore_n 3, 1) := by decide +kernel
theorem dX11_longer_10 : decode cX11_longer 10 = .ok (.iload_n 3, 1) := by decide +kernel
theorem dX11_longer_11 : decode cX11_longer 11 = .ok (.aload_n 0, 1) := by decide +kernel
theorem dX11_longer_12 : decode cX11_longer 12 = .ok (.getfield 7, 3) := by decide +kernel
theorem dX11_longer_15 : decode cX11_longer 15 = .ok (.iconst 1, 1) := by decide +kernel
theorem dX11_longer_16 : decode cX11_longer 16 = .ok (.iaload, 1) := by decide +kernel
theorem dX11_longer_17 : decode cX11_longer 17 = .ok (.if_icmp .ge 35, 3) := by decide +kernel
theorem dX11_longer_20 : decode cX11_longer 20 = .ok (.aload_n 0, 1) := by decide +kernel
theorem dX11_longer_21 : decode cX11_longer 21 = .ok (.iload_n 3, 1) := by decide +kernel
theorem dX11_longer_22 : decode cX11_longer 22 = .ok (.invokevirtual 371, 3) := by decide +kernel
theorem dX11_longer_25 : decode cX11_longer 25 = .ok (.iconst (-1), 1) := by decide +kernel
theorem dX11_longer_26 : decode cX11_longer 26 = .ok (.if_icmp .ne 6, 3) := by decide +kernel
theorem dX11_longer_29 : decode cX11_longer 29 = .ok (.goto 17, 3) := by decide +kernel
theorem dX11_longer_32 : decode cX11_longer 32 = .ok (.iload_n 1, 1) := by decide +kernel
theorem dX11_longer_33 : decode cX11_longer 33 = .ok (.iconst 1, 1) := by decide +kernel
theorem dX11_longer_34 : decode cX11_longer 34 = .ok (.iload_n 3, 1) := by decide +kernel
theorem dX11_longer_35 : decode cX11_longer 35 = .ok (.ishl, 1) := by decide +kernel
theorem dX11_longer_36 : decode cX11_longer 36 = .ok (.ior, 1) := by decide +kernel
theorem dX11_longer_37 : decode cX11_longer 37 = .ok (.istore_n 1, 1) := by decide +kernel
theorem dX11_longer_38 : decode cX11_longer 38 = .ok (.iload_n 2, 1) := by decide +kernel
theorem dX11_longer_39 : decode cX11_longer 39 = .ok (.aload_n 0, 1) := by decide +kernel
theorem dX11_longer_40 : decode cX11_longer 40 = .ok (.iload_n 3, 1) := by decide +kernel
theorem dX11_longer_41 : decode cX11_longer 41 = .ok (.invokevirtual 445, 3) := by decide +kernel
theorem dX11_longer_44 : decode cX11_longer 44 = .ok (.iadd, 1) := by decide +kernel
theorem dX11_longer_45 : decode cX11_longer 45 = .ok (.istore_n 2, 1) := by decide +kernel
theorem dX11_longer_46 : decode cX11_longer 46 = .ok (.iinc 3 1, 3) := by decide +kernel
theorem dX11_longer_49 : decode cX11_longer 49 = .ok (.goto (-39), 3) := by decide +kernel
theorem dX11_longer_52 : decode cX11_longer 52 = .ok (.aload_n 0, 1) := by decide +kernel
theorem dX11_longer_53 : decode cX11_longer 53 = .ok (.getfield 7, 3) := by decide +kernel
theorem dX11_longer_56 : decode cX11_longer 56 = .ok (.bipush 9, 2) := by decide +kernel
theorem dX11_longer_58 : decode cX11_longer 58 = .ok (.iaload, 1) := by decide +kernel
theorem dX11_longer_59 : decode cX11_longer 59 = .ok (.istore_n 3, 1) := by decide +kernel
theorem dX11_longer_60 : decode cX11_longer 60 = .ok (.aload_n 0, 1) := by decide +kernel
theorem dX11_longer_61 : decode cX11_longer 61 = .ok (.getfield 7, 3) := by decide +kernel
theorem dX11_longer_64 : decode cX11_longer 64 = .ok (.bipush 9, 2) := by decide +kernel
theorem dX11_longer_66 : decode cX11_longer 66 = .ok (.iconst 0, 1) := by decide +kernel
theorem dX11_longer_67 : decode cX11_longer 67 = .ok (.iastore, 1) := by decide +kernel
theorem dX11_longer_68 : decode cX11_longer 68 = .ok (.aload_n 0, 1) := by decide +kernel
theorem dX11_longer_69 : decode cX11_longer 69 = .ok (.invokevirtual 368, 3) := by decide +kernel
theorem dX11_longer_72 : decode cX11_longer 72 = .ok (.iconst 0, 1) := by decide +kernel
theorem dX11_longer_73 : decode cX11_longer 73 = .ok (.istore 4, 2) := by decide +kernel
theorem dX11_longer_75 : decode cX11_longer 75 = .ok (.iload 4, 2) := by decide +kernel
theorem dX11_longer_77 : decode cX11_longer 77 = .ok (.aload_n 0, 1) := by decide +kernel
theorem dX11_longer_78 : decode cX11_longer 78 = .ok (.getfield 7, 3) := by decide +kernel
theorem dX11_longer_81 : decode cX11_longer 81 = .ok (.iconst 1, 1) := by decide +kernel
theorem dX11_longer_82 : decode cX11_longer 82 = .ok (.iaload, 1) := by decide +kernel
theorem dX11_longer_83 : decode cX11_longer 83 = .ok (.if_icmp .ge 37, 3) := by decide +kernel
theorem dX11_longer_86 : decode cX11_longer 86 = .ok (.iload_n 1, 1) := by decide +kernel
theorem dX11_longer_87 : decode cX11_longer 87 = .ok (.iload 4, 2) := by decide +kernel
theorem dX11_longer_89 : decode cX11_longer 89 = .ok (.invokestatic 84, 3) := by decide +kernel
theorem dX11_longer_92 : decode cX11_longer 92 = .ok (.ifCond .eq 22, 3) := by decide +kernel
theorem dX11_longer_95 : decode cX11_longer 95 = .ok (.aload_n 0, 1) := by decide +kernel
theorem dX11_longer_96 : decode cX11_longer 96 = .ok (.iload 4, 2) := by decide +kernel
theorem dX11_longer_98 : decode cX11_longer 98 = .ok (.invokevirtual 371, 3) := by decide +kernel
theorem dX11_longer_101 : decode cX11_longer 101 = .ok (.iconst (-1), 1) := by decide +kernel
theorem dX11_longer_102 : decode cX11_longer 102 = .ok (.if_icmp .eq 12, 3) := by decide +kernel
theorem dX11_longer_105 : decode cX11_longer 105 = .ok (.iload_n 2, 1) := by decide +kernel
theorem dX11_longer_106 : decode cX11_longer 106 = .ok (.aload_n 0, 1) := by decide +kernel
theorem dX11_longer_107 : decode cX11_longer 107 = .ok (.iload 4, 2) := by decide +kernel
theorem dX11_longer_109 : decode cX11_longer 109 = .ok (.invokevirtual 445, 3) := by decide +kernel
theorem dX11_longer_112 : decode cX11_longer 112 = .ok (.isub, 1) := by decide +kernel
theorem dX11_longer_113 : decode cX11_longer 113 = .ok (.istore_n 2, 1) := by decide +kernel
theorem dX11_longer_114 : decode cX11_longer 114 = .ok (.iinc 4 1, 3) := by decide +kernel
theorem dX11_longer_117 : decode cX11_longer 117 = .ok (.goto (-42), 3) := by decide +kernel
theorem dX11_longer_120 : decode cX11_longer 120 = .ok (.aload_n 0, 1) := by decide +kernel
theorem dX11_longer_121 : decode cX11_longer 121 = .ok (.getfield 7, 3) := by decide +kernel
theorem dX11_longer_124 : decode cX11_longer 124 = .ok (.bipush 9, 2) := by decide +kernel
theorem dX11_longer_126 : decode cX11_longer 126 = .ok (.iload_n 3, 1) := by decide +kernel
theorem dX11_longer_127 : decode cX11_longer 127 = .ok (.iastore, 1) := by decide +kernel
theorem dX11_longer_128 : decode cX11_longer 128 = .ok (.iload_n 2, 1) := by decide +kernel
theorem dX11_longer_129 : decode cX11_longer 129 = .ok (.ireturn, 1) := by decide +kernel
theorem gX11_longer_0 {d : Nat} {M : ev_Mem} {Q : Option Value → ev_Mem → Prop} (h : (∃ Q2 : Option Value → ev_Mem → Prop, Cl LM d mX11_layStiffs [.ref 0] M Q2 ∧ ∀ (zr : Option Value) (zM : ev_Mem), Q2 zr zM → Ev LM (d + 1) mX11_longer 8 [some (.ref 0), some (.int 0), some (.int 0), none, none] (zr.toList ++ []) zM Q)) : Ev LM (d + 1) mX11_longer 0 [some (.ref 0), none, none, none, none] [] M Q := by
  refine ev_iconst (v := 0) dX11_longer_0 (by decide) ?_
  refine ev_istore_n (ls2 := [some (.ref 0), some (.int 0), none, none, none]) dX11_longer_1 (Nat.le_of_ble_eq_true rfl) rfl ?_
  refine ev_iconst (v := 0) dX11_longer_2 (by decide) ?_
  refine ev_istore_n (ls2 := [some (.ref 0), some (.int 0), some (.int 0), none, none]) dX11_longer_3 (Nat.le_of_ble_eq_true rfl) rfl ?_
  refine ev_aload_n dX11_longer_4 rfl ?_
  obtain ⟨Q2, hc, h⟩ := h
  refine ev_callV [] dX11_longer_5 ml_WithoutEModel_368 lm_0 rfl rfl (Nat.le_of_ble_eq_true rfl) hc (fun zr zM q => ?_)
  exact h zr zM q
theorem gX11_longer_8 {d : Nat} {M : ev_Mem} {Q : Option Value → ev_Mem → Prop} {x1 x2 : Int32} (h : (Ev LM d mX11_longer 10 [some (.ref 0), some (.int x1), some (.int x2), some (.int 0), none] [] M Q)) : Ev LM d mX11_longer 8 [some (.ref 0), some (.int x1), some (.int x2), none, none] [] M Q := by
  refine ev_iconst (v := 0) dX11_longer_8 (by decide) ?_
  refine ev_istore_n (ls2 := [some (.ref 0), some (.int x1), some (.int x2), some (.int 0), none]) dX11_longer_9 (Nat.le_of_ble_eq_true rfl) rfl ?_
  exact h
theorem gX11_longer_10 {d : Nat} {M : ev_Mem} {Q : Option Value → ev_Mem → Prop} {x1 x2 x3 : Int32} (h : ((((M.1 1 1) ≤ x3) → (∀ M1 : ev_Mem, M1 = ev_wr M 1 9 0 → (∃ Q2 : Option Value → ev_Mem → Prop, Cl LM d mX11_layStiffs [.ref 0] M1 Q2 ∧ ∀ (zr : Option Value) (zM : ev_Mem), Q2 zr zM → Ev LM (d + 1) mX11_longer 72 [some (.ref 0), some (.int x1), some (.int x2), some (.int (M.1 1 9)), none] (zr.toList ++ []) zM Q))) ∧ ((¬ (M.1 1 1) ≤ x3) → (∃ Q2 : Option Value → ev_Mem → Prop, Cl LM d mX11_leastOf [.ref 0, .int x3] M Q2 ∧ ∀ (zr : Option Value) (zM : ev_Mem), Q2 zr zM → Ev LM (d + 1) mX11_longer 25 [some (.ref 0), some (.int x1), some (.int x2), some (.int x3), none] (zr.toList ++ []) zM Q)))) : Ev LM (d + 1) mX11_longer 10 [some (.ref 0), some (.int x1), some (.int x2), some (.int x3), none] [] M Q := by
  refine ev_iload_n dX11_longer_10 rfl ?_
  refine ev_aload_n dX11_longer_11 rfl ?_
  refine ev_getA dX11_longer_12 fl_WithoutEModel_7 lm_0 rfl ?_
  refine ev_iconst (v := 1) dX11_longer_15 (by decide) ?_
  refine ev_iaN (j := 1) dX11_longer_16 lm_1 (by decide) (by decide) ?_
  refine ev_icmp_ge (tgt := 52) dX11_longer_17 (by decide) (fun c => ?_) (fun c => ?_)
  · replace h := h.1 c
    refine ev_aload_n dX11_longer_52 rfl ?_
    refine ev_getA dX11_longer_53 fl_WithoutEModel_7 lm_0 rfl ?_
    refine ev_bipush (v := 9) dX11_longer_56 (by decide) ?_
    refine ev_iaN (j := 9) dX11_longer_58 lm_1 (by decide) (by decide) ?_
    refine ev_istore_n (ls2 := [some (.ref 0), some (.int x1), some (.int x2), some (.int (M.1 1 9)), none]) dX11_longer_59 (Nat.le_of_ble_eq_true rfl) rfl ?_
    refine ev_aload_n dX11_longer_60 rfl ?_
    refine ev_getA dX11_longer_61 fl_WithoutEModel_7 lm_0 rfl ?_
    refine ev_bipush (v := 9) dX11_longer_64 (by decide) ?_
    refine ev_iconst (v := 0) dX11_longer_66 (by decide) ?_
    refine ev_isN (j := 9) dX11_longer_67 lm_1 (by decide) (by decide) ?_
    generalize eM1 : ev_wr M 1 9 0 = M1
    replace h := h M1 eM1.symm
    refine ev_aload_n dX11_longer_68 rfl ?_
    obtain ⟨Q2, hc, h⟩ := h
    refine ev_callV [] dX11_longer_69 ml_WithoutEModel_368 lm_0 rfl rfl (Nat.le_of_ble_eq_true rfl) hc (fun zr zM q => ?_)
    exact h zr zM q
  · replace h := h.2 c
    refine ev_aload_n dX11_longer_20 rfl ?_
    refine ev_iload_n dX11_longer_21 rfl ?_
    obtain ⟨Q2, hc, h⟩ := h
    refine ev_callV [.int x3] dX11_longer_22 ml_WithoutEModel_371 lm_0 rfl rfl (Nat.le_of_ble_eq_true rfl) hc (fun zr zM q => ?_)
    exact h zr zM q
theorem gX11_longer_72 {d : Nat} {M : ev_Mem} {Q : Option Value → ev_Mem → Prop} {x1 x2 x3 : Int32} (h : (Ev LM d mX11_longer 75 [some (.ref 0), some (.int x1), some (.int x2), some (.int x3), some (.int 0)] [] M Q)) : Ev LM d mX11_longer 72 [some (.ref 0), some (.int x1), some (.int x2), some (.int x3), none] [] M Q := by
  refine ev_iconst (v := 0) dX11_longer_72 (by decide) ?_
  refine ev_istore (ls2 := [some (.ref 0), some (.int x1), some (.int x2), some (.int x3), some (.int 0)]) dX11_longer_73 (Nat.le_of_ble_eq_true rfl) rfl ?_
  exact h
theorem gX11_longer_25 {d : Nat} {M : ev_Mem} {Q : Option Value → ev_Mem → Prop} {x1 x2 x3 s0 : Int32} (h : (((¬ s0 = (-1)) → (∀ v1 : Int32, v1 = x1 ||| (1 <<< (x3 &&& 31)) → (∃ Q2 : Option Value → ev_Mem → Prop, Cl LM d mX11_lettersIn [.ref 0, .int x3] M Q2 ∧ ∀ (zr : Option Value) (zM : ev_Mem), Q2 zr zM → Ev LM (d + 1) mX11_longer 44 [some (.ref 0), some (.int v1), none, some (.int x3), none] (zr.toList ++ [(.int x2)]) zM Q))) ∧ ((s0 = (-1)) → (Ev LM (d + 1) mX11_longer 10 [some (.ref 0), some (.int x1), some (.int x2), some (.int (x3 + 1)), none] [] M Q)))) : Ev LM (d + 1) mX11_longer 25 [some (.ref 0), some (.int x1), some (.int x2), some (.int x3), none] [(.int s0)] M Q := by
  refine ev_iconst (v := -1) dX11_longer_25 (by decide) ?_
  refine ev_icmp_ne (tgt := 32) dX11_longer_26 (by decide) (fun c => ?_) (fun c => ?_)
  · replace h := h.1 c
    refine ev_iload_n dX11_longer_32 rfl ?_
    refine ev_iconst (v := 1) dX11_longer_33 (by decide) ?_
    refine ev_iload_n dX11_longer_34 rfl ?_
    refine ev_ishl dX11_longer_35 ?_
    refine ev_ior dX11_longer_36 ?_
    refine ev_istore_n (ls2 := [some (.ref 0), some (.int (x1 ||| (1 <<< (x3 &&& 31)))), some (.int x2), some (.int x3), none]) dX11_longer_37 (Nat.le_of_ble_eq_true rfl) rfl ?_
    generalize ev1 : x1 ||| (1 <<< (x3 &&& 31)) = v1
    replace h := h v1 ev1.symm
    refine ev_iload_n dX11_longer_38 rfl ?_
    refine ev_aload_n dX11_longer_39 rfl ?_
    refine ev_iload_n dX11_longer_40 rfl ?_
    obtain ⟨Q2, hc, h⟩ := h
    refine ev_callV [.int x3] dX11_longer_41 ml_WithoutEModel_445 lm_0 rfl rfl (Nat.le_of_ble_eq_true rfl) hc (fun zr zM q => ?_)
    refine Ev.weak (ls := [some (.ref 0), some (.int v1), none, some (.int x3), none]) ⟨rfl, rfl, rfl, trivial⟩ ?_
    exact h zr zM q
  · replace h := h.2 c
    refine ev_goto (tgt := 46) dX11_longer_29 (by decide) ?_
    refine ev_iinc (v := x3 + 1) (ls2 := [some (.ref 0), some (.int x1), some (.int x2), some (.int (x3 + 1)), none]) dX11_longer_46 rfl rfl rfl ?_
    refine ev_goto (tgt := 10) dX11_longer_49 (by decide) ?_
    exact h
theorem gX11_longer_75 {d : Nat} {M : ev_Mem} {Q : Option Value → ev_Mem → Prop} {x1 x2 x3 x4 : Int32} (h : ((((M.1 1 1) ≤ x4) → (∀ M1 : ev_Mem, M1 = ev_wr M 1 9 x3 → (Q (some (.int x2)) M1))) ∧ ((¬ (M.1 1 1) ≤ x4) → ((((hs x1 x4) = false) → (Ev LM (d + 1) mX11_longer 75 [some (.ref 0), some (.int x1), some (.int x2), some (.int x3), some (.int (x4 + 1))] [] M Q)) ∧ (((hs x1 x4) = true) → (∃ Q2 : Option Value → ev_Mem → Prop, Cl LM d mX11_leastOf [.ref 0, .int x4] M Q2 ∧ ∀ (zr : Option Value) (zM : ev_Mem), Q2 zr zM → Ev LM (d + 1) mX11_longer 101 [some (.ref 0), some (.int x1), some (.int x2), some (.int x3), some (.int x4)] (zr.toList ++ []) zM Q)))))) : Ev LM (d + 1) mX11_longer 75 [some (.ref 0), some (.int x1), some (.int x2), some (.int x3), some (.int x4)] [] M Q := by
  refine ev_iload dX11_longer_75 rfl ?_
  refine ev_aload_n dX11_longer_77 rfl ?_
  refine ev_getA dX11_longer_78 fl_WithoutEModel_7 lm_0 rfl ?_
  refine ev_iconst (v := 1) dX11_longer_81 (by decide) ?_
  refine ev_iaN (j := 1) dX11_longer_82 lm_1 (by decide) (by decide) ?_
  refine ev_icmp_ge (tgt := 120) dX11_longer_83 (by decide) (fun c => ?_) (fun c => ?_)
  · replace h := h.1 c
    refine ev_aload_n dX11_longer_120 rfl ?_
    refine ev_getA dX11_longer_121 fl_WithoutEModel_7 lm_0 rfl ?_
    refine ev_bipush (v := 9) dX11_longer_124 (by decide) ?_
    refine ev_iload_n dX11_longer_126 rfl ?_
    refine ev_isN (j := 9) dX11_longer_127 lm_1 (by decide) (by decide) ?_
    generalize eM1 : ev_wr M 1 9 x3 = M1
    replace h := h M1 eM1.symm
    refine ev_iload_n dX11_longer_128 rfl ?_
    exact ev_iret dX11_longer_129 rfl h
  · replace h := h.2 c
    refine ev_iload_n dX11_longer_86 rfl ?_
    refine ev_iload dX11_longer_87 rfl ?_
    refine ev_callS [.int x1, .int x4] dX11_longer_89 ml_WithoutEModel_84 rfl (Nat.le_of_ble_eq_true rfl) (kX11_has) ?_
    rintro zr zM ⟨q1, q2⟩
    rw [q1, q2]
    show Ev LM (d + 1) mX11_longer 92 [some (.ref 0), some (.int x1), some (.int x2), some (.int x3), some (.int x4)] [(.int (bi (hs x1 x4)))] M Q
    refine ev_if_eq (tgt := 114) dX11_longer_92 (by decide) (fun c => ?_) (fun c => ?_)
    · replace h := h.1 ((bi_0 _).mp c)
      refine ev_iinc (v := x4 + 1) (ls2 := [some (.ref 0), some (.int x1), some (.int x2), some (.int x3), some (.int (x4 + 1))]) dX11_longer_114 rfl rfl rfl ?_
      refine ev_goto (tgt := 75) dX11_longer_117 (by decide) ?_
      exact h
    · replace h := h.2 ((bi_n0 _).mp c)
      refine ev_aload_n dX11_longer_95 rfl ?_
      refine ev_iload dX11_longer_96 rfl ?_
      obtain ⟨Q2, hc, h⟩ := h
      refine ev_callV [.int x4] dX11_longer_98 ml_WithoutEModel_371 lm_0 rfl rfl (Nat.le_of_ble_eq_true rfl) hc (fun zr zM q => ?_)
      exact h zr zM q
theorem gX11_longer_44 {d : Nat} {M : ev_Mem} {Q : Option Value → ev_Mem → Prop} {x1 x3 s0 s1 : Int32} (h : (Ev LM d mX11_longer 10 [some (.ref 0), some (.int x1), some (.int (s1 + s0)), some (.int (x3 + 1)), none] [] M Q)) : Ev LM d mX11_longer 44 [some (.ref 0), some (.int x1), none, some (.int x3), none] [(.int s0), (.int s1)] M Q := by
  refine ev_iadd dX11_longer_44 ?_
  refine ev_istore_n (ls2 := [some (.ref 0), some (.int x1), some (.int (s1 + s0)), some (.int x3), none]) dX11_longer_45 (Nat.le_of_ble_eq_true rfl) rfl ?_
  refine ev_iinc (v := x3 + 1) (ls2 := [some (.ref 0), some (.int x1), some (.int (s1 + s0)), some (.int (x3 + 1)), none]) dX11_longer_46 rfl rfl rfl ?_
  refine ev_goto (tgt := 10) dX11_longer_49 (by decide) ?_
  exact h
theorem gX11_longer_101 {d : Nat} {M : ev_Mem} {Q : Option Value → ev_Mem → Prop} {x1 x2 x3 x4 s0 : Int32} (h : (((s0 = (-1)) → (Ev LM (d + 1) mX11_longer 75 [some (.ref 0), some (.int x1), some (.int x2), some (.int x3), some (.int (x4 + 1))] [] M Q)) ∧ ((¬ s0 = (-1)) → (∃ Q2 : Option Value → ev_Mem → Prop, Cl LM d mX11_lettersIn [.ref 0, .int x4] M Q2 ∧ ∀ (zr : Option Value) (zM : ev_Mem), Q2 zr zM → Ev LM (d + 1) mX11_longer 112 [some (.ref 0), some (.int x1), none, some (.int x3), some (.int x4)] (zr.toList ++ [(.int x2)]) zM Q)))) : Ev LM (d + 1) mX11_longer 101 [some (.ref 0), some (.int x1), some (.int x2), some (.int x3), some (.int x4)] [(.int s0)] M Q := by
  refine ev_iconst (v := -1) dX11_longer_101 (by decide) ?_
  refine ev_icmp_eq (tgt := 114) dX11_longer_102 (by decide) (fun c => ?_) (fun c => ?_)
  · replace h := h.1 c
    refine ev_iinc (v := x4 + 1) (ls2 := [some (.ref 0), some (.int x1), some (.int x2), some (.int x3), some (.int (x4 + 1))]) dX11_longer_114 rfl rfl rfl ?_
    refine ev_goto (tgt := 75) dX11_longer_117 (by decide) ?_
    exact h
  · replace h := h.2 c
    refine ev_iload_n dX11_longer_105 rfl ?_
    refine ev_aload_n dX11_longer_106 rfl ?_
    refine ev_iload dX11_longer_107 rfl ?_
    obtain ⟨Q2, hc, h⟩ := h
    refine ev_callV [.int x4] dX11_longer_109 ml_WithoutEModel_445 lm_0 rfl rfl (Nat.le_of_ble_eq_true rfl) hc (fun zr zM q => ?_)
    refine Ev.weak (ls := [some (.ref 0), some (.int x1), none, some (.int x3), some (.int x4)]) ⟨rfl, rfl, rfl, rfl, trivial⟩ ?_
    exact h zr zM q
theorem gX11_longer_112 {d : Nat} {M : ev_Mem} {Q : Option Value → ev_Mem → Prop} {x1 x3 x4 s0 s1 : Int32} (h : (Ev LM d mX11_longer 75 [some (.ref 0), some (.int x1), some (.int (s1 - s0)), some (.int x3), some (.int (x4 + 1))] [] M Q)) : Ev LM d mX11_longer 112 [some (.ref 0), some (.int x1), none, some (.int x3), some (.int x4)] [(.int s0), (.int s1)] M Q := by
  refine ev_isub dX11_longer_112 ?_
  refine ev_istore_n (ls2 := [some (.ref 0), some (.int x1), some (.int (s1 - s0)), some (.int x3), some (.int x4)]) dX11_longer_113 (Nat.le_of_ble_eq_true rfl) rfl ?_
  refine ev_iinc (v := x4 + 1) (ls2 := [some (.ref 0), some (.int x1), some (.int (s1 - s0)), some (.int x3), some (.int (x4 + 1))]) dX11_longer_114 rfl rfl rfl ?_
  refine ev_goto (tgt := 75) dX11_longer_117 (by decide) ?_
  exact h
theorem dX11_held_0 : decode cX11_held 0 = .ok (.aload_n 0, 1) := by decide +kernel
theorem dX11_held_1 : decode cX11_held 1 = .ok (.invokevirtual 368, 3) := by decide +kernel
theorem dX11_held_4 : decode cX11_held 4 = .ok (.iconst (-1), 1) := by decide +kernel
theorem dX11_held_5 : decode cX11_held 5 = .ok (.istore_n 1, 1) := by decide +kernel
theorem dX11_held_6 : decode cX11_held 6 = .ok (.ldc_w 352, 3) := by decide +kernel
theorem dX11_held_9 : decode cX11_held 9 = .ok (.istore_n 2, 1) := by decide +kernel
theorem dX11_held_10 : decode cX11_held 10 = .ok (.iconst 0, 1) := by decide +kernel
theorem dX11_held_11 : decode cX11_held 11 = .ok (.istore_n 3, 1) := by decide +kernel
theorem dX11_held_12 : decode cX11_held 12 = .ok (.iload_n 3, 1) := by decide +kernel
theorem dX11_held_13 : decode cX11_held 13 = .ok (.aload_n 0, 1) := by decide +kernel
theorem dX11_held_14 : decode cX11_held 14 = .ok (.getfield 7, 3) := by decide +kernel
theorem dX11_held_17 : decode cX11_held 17 = .ok (.iconst 1, 1) := by decide +kernel
theorem dX11_held_18 : decode cX11_held 18 = .ok (.iaload, 1) := by decide +kernel
theorem dX11_held_19 : decode cX11_held 19 = .ok (.if_icmp .ge 56, 3) := by decide +kernel
theorem dX11_held_22 : decode cX11_held 22 = .ok (.aload_n 0, 1) := by decide +kernel
theorem dX11_held_23 : decode cX11_held 23 = .ok (.iload_n 3, 1) := by decide +kernel
theorem dX11_held_24 : decode cX11_held 24 = .ok (.invokevirtual 371, 3) := by decide +kernel
theorem dX11_held_27 : decode cX11_held 27 = .ok (.istore 4, 2) := by decide +kernel
theorem dX11_held_29 : decode cX11_held 29 = .ok (.iload 4, 2) := by decide +kernel
theorem dX11_held_31 : decode cX11_held 31 = .ok (.iconst (-1), 1) := by decide +kernel
theorem dX11_held_32 : decode cX11_held 32 = .ok (.if_icmp .ne 9, 3) := by decide +kernel
theorem dX11_held_35 : decode cX11_held 35 = .ok (.ldc_w 352, 3) := by decide +kernel
theorem dX11_held_38 : decode cX11_held 38 = .ok (.goto 15, 3) := by decide +kernel
theorem dX11_held_41 : decode cX11_held 41 = .ok (.aload_n 0, 1) := by decide +kernel
theorem dX11_held_42 : decode cX11_held 42 = .ok (.iconst 0, 1) := by decide +kernel
theorem dX11_held_43 : decode cX11_held 43 = .ok (.iload 4, 2) := by decide +kernel
theorem dX11_held_45 : decode cX11_held 45 = .ok (.aload_n 0, 1) := by decide +kernel
theorem dX11_held_46 : decode cX11_held 46 = .ok (.iload_n 3, 1) := by decide +kernel
theorem dX11_held_47 : decode cX11_held 47 = .ok (.invokevirtual 380, 3) := by decide +kernel
theorem dX11_held_50 : decode cX11_held 50 = .ok (.invokevirtual 460, 3) := by decide +kernel
theorem dX11_held_53 : decode cX11_held 53 = .ok (.istore 5, 2) := by decide +kernel
theorem dX11_held_55 : decode cX11_held 55 = .ok (.iload 5, 2) := by decide +kernel
theorem dX11_held_57 : decode cX11_held 57 = .ok (.iload_n 2, 1) := by decide +kernel
theorem dX11_held_58 : decode cX11_held 58 = .ok (.if_icmp .lt 6, 3) := by decide +kernel
theorem dX11_held_61 : decode cX11_held 61 = .ok (.goto 8, 3) := by decide +kernel
theorem dX11_held_64 : decode cX11_held 64 = .ok (.iload 5, 2) := by decide +kernel
theorem dX11_held_66 : decode cX11_held 66 = .ok (.istore_n 2, 1) := by decide +kernel
theorem dX11_held_67 : decode cX11_held 67 = .ok (.iload_n 3, 1) := by decide +kernel
theorem dX11_held_68 : decode cX11_held 68 = .ok (.istore_n 1, 1) := by decide +kernel
theorem dX11_held_69 : decode cX11_held 69 = .ok (.iinc 3 1, 3) := by decide +kernel
theorem dX11_held_72 : decode cX11_held 72 = .ok (.goto (-60), 3) := by decide +kernel
theorem dX11_held_75 : decode cX11_held 75 = .ok (.iload_n 1, 1) := by decide +kernel
theorem dX11_held_76 : decode cX11_held 76 = .ok (.ireturn, 1) := by decide +kernel
theorem gX11_held_0 {d : Nat} {M : ev_Mem} {Q : Option Value → ev_Mem → Prop} (h : (∃ Q2 : Option Value → ev_Mem → Prop, Cl LM d mX11_layStiffs [.ref 0] M Q2 ∧ ∀ (zr : Option Value) (zM : ev_Mem), Q2 zr zM → Ev LM (d + 1) mX11_held 4 [some (.ref 0), none, none, none, none, none] (zr.toList ++ []) zM Q)) : Ev LM (d + 1) mX11_held 0 [some (.ref 0), none, none, none, none, none] [] M Q := by
  refine ev_aload_n dX11_held_0 rfl ?_
  obtain ⟨Q2, hc, h⟩ := h
  refine ev_callV [] dX11_held_1 ml_WithoutEModel_368 lm_0 rfl rfl (Nat.le_of_ble_eq_true rfl) hc (fun zr zM q => ?_)
  exact h zr zM q
theorem gX11_held_4 {d : Nat} {M : ev_Mem} {Q : Option Value → ev_Mem → Prop} (h : (Ev LM d mX11_held 12 [some (.ref 0), some (.int (-1)), some (.int 1000000), some (.int 0), none, none] [] M Q)) : Ev LM d mX11_held 4 [some (.ref 0), none, none, none, none, none] [] M Q := by
  refine ev_iconst (v := -1) dX11_held_4 (by decide) ?_
  refine ev_istore_n (ls2 := [some (.ref 0), some (.int (-1)), none, none, none, none]) dX11_held_5 (Nat.le_of_ble_eq_true rfl) rfl ?_
  refine ev_ldcw (v := 1000000) dX11_held_6 cw_WithoutEModel_352 ?_
  refine ev_istore_n (ls2 := [some (.ref 0), some (.int (-1)), some (.int 1000000), none, none, none]) dX11_held_9 (Nat.le_of_ble_eq_true rfl) rfl ?_
  refine ev_iconst (v := 0) dX11_held_10 (by decide) ?_
  refine ev_istore_n (ls2 := [some (.ref 0), some (.int (-1)), some (.int 1000000), some (.int 0), none, none]) dX11_held_11 (Nat.le_of_ble_eq_true rfl) rfl ?_
  exact h
theorem gX11_held_12 {d : Nat} {M : ev_Mem} {Q : Option Value → ev_Mem → Prop} {x1 x2 x3 : Int32} (h : ((((M.1 1 1) ≤ x3) → (Q (some (.int x1)) M)) ∧ ((¬ (M.1 1 1) ≤ x3) → (∃ Q2 : Option Value → ev_Mem → Prop, Cl LM d mX11_leastOf [.ref 0, .int x3] M Q2 ∧ ∀ (zr : Option Value) (zM : ev_Mem), Q2 zr zM → Ev LM (d + 1) mX11_held 27 [some (.ref 0), some (.int x1), some (.int x2), some (.int x3), none, none] (zr.toList ++ []) zM Q)))) : Ev LM (d + 1) mX11_held 12 [some (.ref 0), some (.int x1), some (.int x2), some (.int x3), none, none] [] M Q := by
  refine ev_iload_n dX11_held_12 rfl ?_
  refine ev_aload_n dX11_held_13 rfl ?_
  refine ev_getA dX11_held_14 fl_WithoutEModel_7 lm_0 rfl ?_
  refine ev_iconst (v := 1) dX11_held_17 (by decide) ?_
  refine ev_iaN (j := 1) dX11_held_18 lm_1 (by decide) (by decide) ?_
  refine ev_icmp_ge (tgt := 75) dX11_held_19 (by decide) (fun c => ?_) (fun c => ?_)
  · replace h := h.1 c
    refine ev_iload_n dX11_held_75 rfl ?_
    exact ev_iret dX11_held_76 rfl h
  · replace h := h.2 c
    refine ev_aload_n dX11_held_22 rfl ?_
    refine ev_iload_n dX11_held_23 rfl ?_
    obtain ⟨Q2, hc, h⟩ := h
    refine ev_callV [.int x3] dX11_held_24 ml_WithoutEModel_371 lm_0 rfl rfl (Nat.le_of_ble_eq_true rfl) hc (fun zr zM q => ?_)
    exact h zr zM q
theorem gX11_held_27 {d : Nat} {M : ev_Mem} {Q : Option Value → ev_Mem → Prop} {x1 x2 x3 s0 : Int32} (h : (((¬ s0 = (-1)) → (∃ Q2 : Option Value → ev_Mem → Prop, Cl LM d mX11_secondsIn [.ref 0, .int x3] M Q2 ∧ ∀ (zr : Option Value) (zM : ev_Mem), Q2 zr zM → Ev LM (d + 1) mX11_held 50 [some (.ref 0), some (.int x1), some (.int x2), some (.int x3), none, none] (zr.toList ++ [(.int s0), (.int 0), (.ref 0)]) zM Q)) ∧ ((s0 = (-1)) → ((((1000000 : Int32) < x2) → (Ev LM (d + 1) mX11_held 12 [some (.ref 0), some (.int x3), some (.int 1000000), some (.int (x3 + 1)), none, none] [] M Q)) ∧ ((¬ (1000000 : Int32) < x2) → (Ev LM (d + 1) mX11_held 12 [some (.ref 0), some (.int x1), some (.int x2), some (.int (x3 + 1)), none, none] [] M Q)))))) : Ev LM (d + 1) mX11_held 27 [some (.ref 0), some (.int x1), some (.int x2), some (.int x3), none, none] [(.int s0)] M Q := by
  refine ev_istore (ls2 := [some (.ref 0), some (.int x1), some (.int x2), some (.int x3), some (.int s0), none]) dX11_held_27 (Nat.le_of_ble_eq_true rfl) rfl ?_
  refine ev_iload dX11_held_29 rfl ?_
  refine ev_iconst (v := -1) dX11_held_31 (by decide) ?_
  refine ev_icmp_ne (tgt := 41) dX11_held_32 (by decide) (fun c => ?_) (fun c => ?_)
  · replace h := h.1 c
    refine ev_aload_n dX11_held_41 rfl ?_
    refine ev_iconst (v := 0) dX11_held_42 (by decide) ?_
    refine ev_iload dX11_held_43 rfl ?_
    refine ev_aload_n dX11_held_45 rfl ?_
    refine ev_iload_n dX11_held_46 rfl ?_
    obtain ⟨Q2, hc, h⟩ := h
    refine ev_callV [.int x3] dX11_held_47 ml_WithoutEModel_380 lm_0 rfl rfl (Nat.le_of_ble_eq_true rfl) hc (fun zr zM q => ?_)
    refine Ev.weak (ls := [some (.ref 0), some (.int x1), some (.int x2), some (.int x3), none, none]) ⟨rfl, rfl, rfl, rfl, trivial⟩ ?_
    exact h zr zM q
  · replace h := h.2 c
    refine ev_ldcw (v := 1000000) dX11_held_35 cw_WithoutEModel_352 ?_
    refine ev_goto (tgt := 53) dX11_held_38 (by decide) ?_
    refine ev_istore (ls2 := [some (.ref 0), some (.int x1), some (.int x2), some (.int x3), some (.int s0), some (.int 1000000)]) dX11_held_53 (Nat.le_of_ble_eq_true rfl) rfl ?_
    refine ev_iload dX11_held_55 rfl ?_
    refine ev_iload_n dX11_held_57 rfl ?_
    refine ev_icmp_lt (tgt := 64) dX11_held_58 (by decide) (fun c => ?_) (fun c => ?_)
    · replace h := h.1 c
      refine ev_iload dX11_held_64 rfl ?_
      refine ev_istore_n (ls2 := [some (.ref 0), some (.int x1), some (.int 1000000), some (.int x3), some (.int s0), some (.int 1000000)]) dX11_held_66 (Nat.le_of_ble_eq_true rfl) rfl ?_
      refine ev_iload_n dX11_held_67 rfl ?_
      refine ev_istore_n (ls2 := [some (.ref 0), some (.int x3), some (.int 1000000), some (.int x3), some (.int s0), some (.int 1000000)]) dX11_held_68 (Nat.le_of_ble_eq_true rfl) rfl ?_
      refine ev_iinc (v := x3 + 1) (ls2 := [some (.ref 0), some (.int x3), some (.int 1000000), some (.int (x3 + 1)), some (.int s0), some (.int 1000000)]) dX11_held_69 rfl rfl rfl ?_
      refine ev_goto (tgt := 12) dX11_held_72 (by decide) ?_
      refine Ev.weak (ls := [some (.ref 0), some (.int x3), some (.int 1000000), some (.int (x3 + 1)), none, none]) ⟨rfl, rfl, rfl, rfl, trivial⟩ ?_
      exact h
    · replace h := h.2 c
      refine ev_goto (tgt := 69) dX11_held_61 (by decide) ?_
      refine ev_iinc (v := x3 + 1) (ls2 := [some (.ref 0), some (.int x1), some (.int x2), some (.int (x3 + 1)), some (.int s0), some (.int 1000000)]) dX11_held_69 rfl rfl rfl ?_
      refine ev_goto (tgt := 12) dX11_held_72 (by decide) ?_
      refine Ev.weak (ls := [some (.ref 0), some (.int x1), some (.int x2), some (.int (x3 + 1)), none, none]) ⟨rfl, rfl, rfl, rfl, trivial⟩ ?_
      exact h
theorem gX11_held_50 {d : Nat} {M : ev_Mem} {Q : Option Value → ev_Mem → Prop} {x1 x2 x3 s0 s1 s2 : Int32} (h : (∃ Q2 : Option Value → ev_Mem → Prop, Cl LM d mX11_noticesOf [.ref 0, .int s2, .int s1, .int s0] M Q2 ∧ ∀ (zr : Option Value) (zM : ev_Mem), Q2 zr zM → Ev LM (d + 1) mX11_held 53 [some (.ref 0), some (.int x1), some (.int x2), some (.int x3), none, none] (zr.toList ++ []) zM Q)) : Ev LM (d + 1) mX11_held 50 [some (.ref 0), some (.int x1), some (.int x2), some (.int x3), none, none] [(.int s0), (.int s1), (.int s2), (.ref 0)] M Q := by
  obtain ⟨Q2, hc, h⟩ := h
  refine ev_callV [.int s2, .int s1, .int s0] dX11_held_50 ml_WithoutEModel_460 lm_0 rfl rfl (Nat.le_of_ble_eq_true rfl) hc (fun zr zM q => ?_)
  exact h zr zM q
theorem gX11_held_53 {d : Nat} {M : ev_Mem} {Q : Option Value → ev_Mem → Prop} {x1 x2 x3 s0 : Int32} (h : (((s0 < x2) → (Ev LM d mX11_held 12 [some (.ref 0), some (.int x3), some (.int s0), some (.int (x3 + 1)), none, none] [] M Q)) ∧ ((¬ s0 < x2) → (Ev LM d mX11_held 12 [some (.ref 0), some (.int x1), some (.int x2), some (.int (x3 + 1)), none, none] [] M Q)))) : Ev LM d mX11_held 53 [some (.ref 0), some (.int x1), some (.int x2), some (.int x3), none, none] [(.int s0)] M Q := by
  refine ev_istore (ls2 := [some (.ref 0), some (.int x1), some (.int x2), some (.int x3), none, some (.int s0)]) dX11_held_53 (Nat.le_of_ble_eq_true rfl) rfl ?_
  refine ev_iload dX11_held_55 rfl ?_
  refine ev_iload_n dX11_held_57 rfl ?_
  refine ev_icmp_lt (tgt := 64) dX11_held_58 (by decide) (fun c => ?_) (fun c => ?_)
  · replace h := h.1 c
    refine ev_iload dX11_held_64 rfl ?_
    refine ev_istore_n (ls2 := [some (.ref 0), some (.int x1), some (.int s0), some (.int x3), none, some (.int s0)]) dX11_held_66 (Nat.le_of_ble_eq_true rfl) rfl ?_
    refine ev_iload_n dX11_held_67 rfl ?_
    refine ev_istore_n (ls2 := [some (.ref 0), some (.int x3), some (.int s0), some (.int x3), none, some (.int s0)]) dX11_held_68 (Nat.le_of_ble_eq_true rfl) rfl ?_
    refine ev_iinc (v := x3 + 1) (ls2 := [some (.ref 0), some (.int x3), some (.int s0), some (.int (x3 + 1)), none, some (.int s0)]) dX11_held_69 rfl rfl rfl ?_
    refine ev_goto (tgt := 12) dX11_held_72 (by decide) ?_
    refine Ev.weak (ls := [some (.ref 0), some (.int x3), some (.int s0), some (.int (x3 + 1)), none, none]) ⟨rfl, rfl, rfl, rfl, trivial⟩ ?_
    exact h
  · replace h := h.2 c
    refine ev_goto (tgt := 69) dX11_held_61 (by decide) ?_
    refine ev_iinc (v := x3 + 1) (ls2 := [some (.ref 0), some (.int x1), some (.int x2), some (.int (x3 + 1)), none, some (.int s0)]) dX11_held_69 rfl rfl rfl ?_
    refine ev_goto (tgt := 12) dX11_held_72 (by decide) ?_
    refine Ev.weak (ls := [some (.ref 0), some (.int x1), some (.int x2), some (.int (x3 + 1)), none, none]) ⟨rfl, rfl, rfl, rfl, trivial⟩ ?_
    exact h
theorem dX11_layUpTo_0 : decode cX11_layUpTo 0 = .ok (.iconst 0, 1) := by decide +kernel
theorem dX11_layUpTo_1 : decode cX11_layUpTo 1 = .ok (.istore_n 3, 1) := by decide +kernel
theorem dX11_layUpTo_2 : decode cX11_layUpTo 2 = .ok (.iload_n 3, 1) := by decide +kernel
theorem dX11_layUpTo_3 : decode cX11_layUpTo 3 = .ok (.aload_n 0, 1) := by decide +kernel
theorem dX11_layUpTo_4 : decode cX11_layUpTo 4 = .ok (.getfield 7, 3) := by decide +kernel
theorem dX11_layUpTo_7 : decode cX11_layUpTo 7 = .ok (.iconst 0, 1) := by decide +kernel
theorem dX11_layUpTo_8 : decode cX11_layUpTo 8 = .ok (.iaload, 1) := by decide +kernel
theorem dX11_layUpTo_9 : decode cX11_layUpTo 9 = .ok (.if_icmp .ge 135, 3) := by decide +kernel
theorem dX11_layUpTo_12 : decode cX11_layUpTo 12 = .ok (.iload_n 2, 1) := by decide +kernel
theorem dX11_layUpTo_13 : decode cX11_layUpTo 13 = .ok (.ifCond .ne 7, 3) := by decide +kernel
theorem dX11_layUpTo_16 : decode cX11_layUpTo 16 = .ok (.iconst 0, 1) := by decide +kernel
theorem dX11_layUpTo_17 : decode cX11_layUpTo 17 = .ok (.goto 6, 3) := by decide +kernel
theorem dX11_layUpTo_20 : decode cX11_layUpTo 20 = .ok (.ldc_w 352, 3) := by decide +kernel
theorem dX11_layUpTo_23 : decode cX11_layUpTo 23 = .ok (.istore 4, 2) := by decide +kernel
theorem dX11_layUpTo_25 : decode cX11_layUpTo 25 = .ok (.iconst 0, 1) := by decide +kernel
theorem dX11_layUpTo_26 : decode cX11_layUpTo 26 = .ok (.istore 5, 2) := by decide +kernel
theorem dX11_layUpTo_28 : decode cX11_layUpTo 28 = .ok (.iload 5, 2) := by decide +kernel
theorem dX11_layUpTo_30 : decode cX11_layUpTo 30 = .ok (.aload_n 0, 1) := by decide +kernel
theorem dX11_layUpTo_31 : decode cX11_layUpTo 31 = .ok (.getfield 7, 3) := by decide +kernel
theorem dX11_layUpTo_34 : decode cX11_layUpTo 34 = .ok (.iconst 0, 1) := by decide +kernel
theorem dX11_layUpTo_35 : decode cX11_layUpTo 35 = .ok (.iaload, 1) := by decide +kernel
theorem dX11_layUpTo_36 : decode cX11_layUpTo 36 = .ok (.if_icmp .ge 63, 3) := by decide +kernel
theorem dX11_layUpTo_39 : decode cX11_layUpTo 39 = .ok (.iload_n 2, 1) := by decide +kernel
theorem dX11_layUpTo_40 : decode cX11_layUpTo 40 = .ok (.ifCond .le 59, 3) := by decide +kernel
theorem dX11_layUpTo_43 : decode cX11_layUpTo 43 = .ok (.aload_n 0, 1) := by decide +kernel
theorem dX11_layUpTo_44 : decode cX11_layUpTo 44 = .ok (.getfield 61, 3) := by decide +kernel
theorem dX11_layUpTo_47 : decode cX11_layUpTo 47 = .ok (.iload 5, 2) := by decide +kernel
theorem dX11_layUpTo_49 : decode cX11_layUpTo 49 = .ok (.iaload, 1) := by decide +kernel
theorem dX11_layUpTo_50 : decode cX11_layUpTo 50 = .ok (.ldc_w 352, 3) := by decide +kernel
theorem dX11_layUpTo_53 : decode cX11_layUpTo 53 = .ok (.if_icmp .ge 40, 3) := by decide +kernel
theorem dX11_layUpTo_56 : decode cX11_layUpTo 56 = .ok (.aload_n 0, 1) := by decide +kernel
theorem dX11_layUpTo_57 : decode cX11_layUpTo 57 = .ok (.getfield 61, 3) := by decide +kernel
theorem dX11_layUpTo_60 : decode cX11_layUpTo 60 = .ok (.iload 5, 2) := by decide +kernel
theorem dX11_layUpTo_62 : decode cX11_layUpTo 62 = .ok (.iaload, 1) := by decide +kernel
theorem dX11_layUpTo_63 : decode cX11_layUpTo 63 = .ok (.aload_n 0, 1) := by decide +kernel
theorem dX11_layUpTo_64 : decode cX11_layUpTo 64 = .ok (.iload 5, 2) := by decide +kernel
theorem dX11_layUpTo_66 : decode cX11_layUpTo 66 = .ok (.iload_n 3, 1) := by decide +kernel
theorem dX11_layUpTo_67 : decode cX11_layUpTo 67 = .ok (.invokevirtual 356, 3) := by decide +kernel
theorem dX11_layUpTo_70 : decode cX11_layUpTo 70 = .ok (.iadd, 1) := by decide +kernel
theorem dX11_layUpTo_71 : decode cX11_layUpTo 71 = .ok (.iload 4, 2) := by decide +kernel
theorem dX11_layUpTo_73 : decode cX11_layUpTo 73 = .ok (.if_icmp .ge 20, 3) := by decide +kernel
theorem dX11_layUpTo_76 : decode cX11_layUpTo 76 = .ok (.aload_n 0, 1) := by decide +kernel
theorem dX11_layUpTo_77 : decode cX11_layUpTo 77 = .ok (.getfield 61, 3) := by decide +kernel
theorem dX11_layUpTo_80 : decode cX11_layUpTo 80 = .ok (.iload 5, 2) := by decide +kernel
theorem dX11_layUpTo_82 : decode cX11_layUpTo 82 = .ok (.iaload, 1) := by decide +kernel
theorem dX11_layUpTo_83 : decode cX11_layUpTo 83 = .ok (.aload_n 0, 1) := by decide +kernel
theorem dX11_layUpTo_84 : decode cX11_layUpTo 84 = .ok (.iload 5, 2) := by decide +kernel
theorem dX11_layUpTo_86 : decode cX11_layUpTo 86 = .ok (.iload_n 3, 1) := by decide +kernel
theorem dX11_layUpTo_87 : decode cX11_layUpTo 87 = .ok (.invokevirtual 356, 3) := by decide +kernel
theorem dX11_layUpTo_90 : decode cX11_layUpTo 90 = .ok (.iadd, 1) := by decide +kernel
theorem dX11_layUpTo_91 : decode cX11_layUpTo 91 = .ok (.istore 4, 2) := by decide +kernel
theorem dX11_layUpTo_93 : decode cX11_layUpTo 93 = .ok (.iinc 5 1, 3) := by decide +kernel
theorem dX11_layUpTo_96 : decode cX11_layUpTo 96 = .ok (.goto (-68), 3) := by decide +kernel
theorem dX11_layUpTo_99 : decode cX11_layUpTo 99 = .ok (.aload_n 0, 1) := by decide +kernel
theorem dX11_layUpTo_100 : decode cX11_layUpTo 100 = .ok (.getfield 58, 3) := by decide +kernel
theorem dX11_layUpTo_103 : decode cX11_layUpTo 103 = .ok (.iload_n 3, 1) := by decide +kernel
theorem dX11_layUpTo_104 : decode cX11_layUpTo 104 = .ok (.aload_n 0, 1) := by decide +kernel
theorem dX11_layUpTo_105 : decode cX11_layUpTo 105 = .ok (.iload_n 1, 1) := by decide +kernel
theorem dX11_layUpTo_106 : decode cX11_layUpTo 106 = .ok (.iload_n 2, 1) := by decide +kernel
theorem dX11_layUpTo_107 : decode cX11_layUpTo 107 = .ok (.iload_n 3, 1) := by decide +kernel
theorem dX11_layUpTo_108 : decode cX11_layUpTo 108 = .ok (.invokevirtual 353, 3) := by decide +kernel
theorem dX11_layUpTo_111 : decode cX11_layUpTo 111 = .ok (.ifCond .eq 23, 3) := by decide +kernel
theorem dX11_layUpTo_114 : decode cX11_layUpTo 114 = .ok (.iload 4, 2) := by decide +kernel
theorem dX11_layUpTo_116 : decode cX11_layUpTo 116 = .ok (.ldc_w 352, 3) := by decide +kernel
theorem dX11_layUpTo_119 : decode cX11_layUpTo 119 = .ok (.if_icmp .ge 15, 3) := by decide +kernel
theorem dX11_layUpTo_122 : decode cX11_layUpTo 122 = .ok (.aload_n 0, 1) := by decide +kernel
theorem dX11_layUpTo_123 : decode cX11_layUpTo 123 = .ok (.getfield 49, 3) := by decide +kernel
theorem dX11_layUpTo_126 : decode cX11_layUpTo 126 = .ok (.iload_n 3, 1) := by decide +kernel
theorem dX11_layUpTo_127 : decode cX11_layUpTo 127 = .ok (.iaload, 1) := by decide +kernel
theorem dX11_layUpTo_128 : decode cX11_layUpTo 128 = .ok (.iload 4, 2) := by decide +kernel
theorem dX11_layUpTo_130 : decode cX11_layUpTo 130 = .ok (.iadd, 1) := by decide +kernel
theorem dX11_layUpTo_131 : decode cX11_layUpTo 131 = .ok (.goto 6, 3) := by decide +kernel
theorem dX11_layUpTo_134 : decode cX11_layUpTo 134 = .ok (.ldc_w 352, 3) := by decide +kernel
theorem dX11_layUpTo_137 : decode cX11_layUpTo 137 = .ok (.iastore, 1) := by decide +kernel
theorem dX11_layUpTo_138 : decode cX11_layUpTo 138 = .ok (.iinc 3 1, 3) := by decide +kernel
theorem dX11_layUpTo_141 : decode cX11_layUpTo 141 = .ok (.goto (-139), 3) := by decide +kernel
theorem dX11_layUpTo_144 : decode cX11_layUpTo 144 = .ok (.iconst 0, 1) := by decide +kernel
theorem dX11_layUpTo_145 : decode cX11_layUpTo 145 = .ok (.istore_n 3, 1) := by decide +kernel
theorem dX11_layUpTo_146 : decode cX11_layUpTo 146 = .ok (.iload_n 3, 1) := by decide +kernel
theorem dX11_layUpTo_147 : decode cX11_layUpTo 147 = .ok (.aload_n 0, 1) := by decide +kernel
theorem dX11_layUpTo_148 : decode cX11_layUpTo 148 = .ok (.getfield 7, 3) := by decide +kernel
theorem dX11_layUpTo_151 : decode cX11_layUpTo 151 = .ok (.iconst 0, 1) := by decide +kernel
theorem dX11_layUpTo_152 : decode cX11_layUpTo 152 = .ok (.iaload, 1) := by decide +kernel
theorem dX11_layUpTo_153 : decode cX11_layUpTo 153 = .ok (.if_icmp .ge 21, 3) := by decide +kernel
theorem dX11_layUpTo_156 : decode cX11_layUpTo 156 = .ok (.aload_n 0, 1) := by decide +kernel
theorem dX11_layUpTo_157 : decode cX11_layUpTo 157 = .ok (.getfield 61, 3) := by decide +kernel
theorem dX11_layUpTo_160 : decode cX11_layUpTo 160 = .ok (.iload_n 3, 1) := by decide +kernel
theorem dX11_layUpTo_161 : decode cX11_layUpTo 161 = .ok (.aload_n 0, 1) := by decide +kernel
theorem dX11_layUpTo_162 : decode cX11_layUpTo 162 = .ok (.getfield 58, 3) := by decide +kernel
theorem dX11_layUpTo_165 : decode cX11_layUpTo 165 = .ok (.iload_n 3, 1) := by decide +kernel
theorem dX11_layUpTo_166 : decode cX11_layUpTo 166 = .ok (.iaload, 1) := by decide +kernel
theorem dX11_layUpTo_167 : decode cX11_layUpTo 167 = .ok (.iastore, 1) := by decide +kernel
theorem dX11_layUpTo_168 : decode cX11_layUpTo 168 = .ok (.iinc 3 1, 3) := by decide +kernel
theorem dX11_layUpTo_171 : decode cX11_layUpTo 171 = .ok (.goto (-25), 3) := by decide +kernel
theorem dX11_layUpTo_174 : decode cX11_layUpTo 174 = .ok (.return_, 1) := by decide +kernel
theorem gX11_layUpTo_0 {d : Nat} {M : ev_Mem} {Q : Option Value → ev_Mem → Prop} {x1 x2 : Int32} (h : (Ev LM d mX11_layUpTo 2 [some (.ref 0), some (.int x1), some (.int x2), some (.int 0), none, none] [] M Q)) : Ev LM d mX11_layUpTo 0 [some (.ref 0), some (.int x1), some (.int x2), none, none, none] [] M Q := by
  refine ev_iconst (v := 0) dX11_layUpTo_0 (by decide) ?_
  refine ev_istore_n (ls2 := [some (.ref 0), some (.int x1), some (.int x2), some (.int 0), none, none]) dX11_layUpTo_1 (Nat.le_of_ble_eq_true rfl) rfl ?_
  exact h
theorem gX11_layUpTo_2 {d : Nat} {M : ev_Mem} {Q : Option Value → ev_Mem → Prop} {x1 x2 x3 : Int32} (h : ((((M.1 1 0) ≤ x3) → (Ev LM d mX11_layUpTo 146 [some (.ref 0), none, none, some (.int 0), none, none] [] M Q)) ∧ ((¬ (M.1 1 0) ≤ x3) → (((¬ x2 = 0) → (Ev LM d mX11_layUpTo 28 [some (.ref 0), some (.int x1), some (.int x2), some (.int x3), some (.int 1000000), some (.int 0)] [] M Q)) ∧ ((x2 = 0) → (Ev LM d mX11_layUpTo 28 [some (.ref 0), some (.int x1), some (.int x2), some (.int x3), some (.int 0), some (.int 0)] [] M Q)))))) : Ev LM d mX11_layUpTo 2 [some (.ref 0), some (.int x1), some (.int x2), some (.int x3), none, none] [] M Q := by
  refine ev_iload_n dX11_layUpTo_2 rfl ?_
  refine ev_aload_n dX11_layUpTo_3 rfl ?_
  refine ev_getA dX11_layUpTo_4 fl_WithoutEModel_7 lm_0 rfl ?_
  refine ev_iconst (v := 0) dX11_layUpTo_7 (by decide) ?_
  refine ev_iaN (j := 0) dX11_layUpTo_8 lm_1 (by decide) (by decide) ?_
  refine ev_icmp_ge (tgt := 144) dX11_layUpTo_9 (by decide) (fun c => ?_) (fun c => ?_)
  · replace h := h.1 c
    refine ev_iconst (v := 0) dX11_layUpTo_144 (by decide) ?_
    refine ev_istore_n (ls2 := [some (.ref 0), some (.int x1), some (.int x2), some (.int 0), none, none]) dX11_layUpTo_145 (Nat.le_of_ble_eq_true rfl) rfl ?_
    refine Ev.weak (ls := [some (.ref 0), none, none, some (.int 0), none, none]) ⟨rfl, rfl, trivial⟩ ?_
    exact h
  · replace h := h.2 c
    refine ev_iload_n dX11_layUpTo_12 rfl ?_
    refine ev_if_ne (tgt := 20) dX11_layUpTo_13 (by decide) (fun c => ?_) (fun c => ?_)
    · replace h := h.1 c
      refine ev_ldcw (v := 1000000) dX11_layUpTo_20 cw_WithoutEModel_352 ?_
      refine ev_istore (ls2 := [some (.ref 0), some (.int x1), some (.int x2), some (.int x3), some (.int 1000000), none]) dX11_layUpTo_23 (Nat.le_of_ble_eq_true rfl) rfl ?_
      refine ev_iconst (v := 0) dX11_layUpTo_25 (by decide) ?_
      refine ev_istore (ls2 := [some (.ref 0), some (.int x1), some (.int x2), some (.int x3), some (.int 1000000), some (.int 0)]) dX11_layUpTo_26 (Nat.le_of_ble_eq_true rfl) rfl ?_
      exact h
    · replace h := h.2 c
      refine ev_iconst (v := 0) dX11_layUpTo_16 (by decide) ?_
      refine ev_goto (tgt := 23) dX11_layUpTo_17 (by decide) ?_
      refine ev_istore (ls2 := [some (.ref 0), some (.int x1), some (.int x2), some (.int x3), some (.int 0), none]) dX11_layUpTo_23 (Nat.le_of_ble_eq_true rfl) rfl ?_
      refine ev_iconst (v := 0) dX11_layUpTo_25 (by decide) ?_
      refine ev_istore (ls2 := [some (.ref 0), some (.int x1), some (.int x2), some (.int x3), some (.int 0), some (.int 0)]) dX11_layUpTo_26 (Nat.le_of_ble_eq_true rfl) rfl ?_
      exact h
theorem gX11_layUpTo_146 {d : Nat} {M : ev_Mem} {Q : Option Value → ev_Mem → Prop} {x3 : Int32} (h : ((((M.1 1 0) ≤ x3) → (Q none M)) ∧ ((¬ (M.1 1 0) ≤ x3) → (vp_in x3 24 ∧ (vp_in x3 24 ∧ (∀ M1 : ev_Mem, M1 = ev_wr M 15 x3.toNatClampNeg (M.1 14 x3.toNatClampNeg) → (Ev LM d mX11_layUpTo 146 [some (.ref 0), none, none, some (.int (x3 + 1)), none, none] [] M1 Q))))))) : Ev LM d mX11_layUpTo 146 [some (.ref 0), none, none, some (.int x3), none, none] [] M Q := by
  refine ev_iload_n dX11_layUpTo_146 rfl ?_
  refine ev_aload_n dX11_layUpTo_147 rfl ?_
  refine ev_getA dX11_layUpTo_148 fl_WithoutEModel_7 lm_0 rfl ?_
  refine ev_iconst (v := 0) dX11_layUpTo_151 (by decide) ?_
  refine ev_iaN (j := 0) dX11_layUpTo_152 lm_1 (by decide) (by decide) ?_
  refine ev_icmp_ge (tgt := 174) dX11_layUpTo_153 (by decide) (fun c => ?_) (fun c => ?_)
  · replace h := h.1 c
    exact ev_vret dX11_layUpTo_174 rfl h
  · replace h := h.2 c
    refine ev_aload_n dX11_layUpTo_156 rfl ?_
    refine ev_getA dX11_layUpTo_157 fl_WithoutEModel_61 lm_0 rfl ?_
    refine ev_iload_n dX11_layUpTo_160 rfl ?_
    refine ev_aload_n dX11_layUpTo_161 rfl ?_
    refine ev_getA dX11_layUpTo_162 fl_WithoutEModel_58 lm_0 rfl ?_
    refine ev_iload_n dX11_layUpTo_165 rfl ?_
    obtain ⟨c, h⟩ := h
    refine ev_iald dX11_layUpTo_166 lm_14 c ?_
    obtain ⟨c, h⟩ := h
    refine ev_iast dX11_layUpTo_167 lm_15 c ?_
    generalize eM1 : ev_wr M 15 x3.toNatClampNeg (M.1 14 x3.toNatClampNeg) = M1
    replace h := h M1 eM1.symm
    refine ev_iinc (v := x3 + 1) (ls2 := [some (.ref 0), none, none, some (.int (x3 + 1)), none, none]) dX11_layUpTo_168 rfl rfl rfl ?_
    refine ev_goto (tgt := 146) dX11_layUpTo_171 (by decide) ?_
    exact h
theorem gX11_layUpTo_28 {d : Nat} {M : ev_Mem} {Q : Option Value → ev_Mem → Prop} {x1 x2 x3 x4 x5 : Int32} (h : ((((M.1 1 0) ≤ x5) → ((vp_in x1 8 ∧ vp_in x2 5 ∧ vp_in x3 24) ∧ ((((atQ M x1 x2 x3) = false) → (vp_in x3 24 ∧ (∀ M1 : ev_Mem, M1 = ev_wr M 14 x3.toNatClampNeg 1000000 → (Ev LM (d + 2) mX11_layUpTo 2 [some (.ref 0), some (.int x1), some (.int x2), some (.int (x3 + 1)), none, none] [] M1 Q)))) ∧ (((atQ M x1 x2 x3) = true) → (((1000000 ≤ x4) → (vp_in x3 24 ∧ (∀ M2 : ev_Mem, M2 = ev_wr M 14 x3.toNatClampNeg 1000000 → (Ev LM (d + 2) mX11_layUpTo 2 [some (.ref 0), some (.int x1), some (.int x2), some (.int (x3 + 1)), none, none] [] M2 Q)))) ∧ ((¬ 1000000 ≤ x4) → (vp_in x3 24 ∧ (vp_in x3 24 ∧ (∀ M3 : ev_Mem, M3 = ev_wr M 14 x3.toNatClampNeg ((M.1 11 x3.toNatClampNeg) + x4) → (Ev LM (d + 2) mX11_layUpTo 2 [some (.ref 0), some (.int x1), some (.int x2), some (.int (x3 + 1)), none, none] [] M3 Q)))))))))) ∧ ((¬ (M.1 1 0) ≤ x5) → (((x2 ≤ 0) → ((vp_in x1 8 ∧ vp_in x2 5 ∧ vp_in x3 24) ∧ ((((atQ M x1 x2 x3) = false) → (vp_in x3 24 ∧ (∀ M4 : ev_Mem, M4 = ev_wr M 14 x3.toNatClampNeg 1000000 → (Ev LM (d + 2) mX11_layUpTo 2 [some (.ref 0), some (.int x1), some (.int x2), some (.int (x3 + 1)), none, none] [] M4 Q)))) ∧ (((atQ M x1 x2 x3) = true) → (((1000000 ≤ x4) → (vp_in x3 24 ∧ (∀ M5 : ev_Mem, M5 = ev_wr M 14 x3.toNatClampNeg 1000000 → (Ev LM (d + 2) mX11_layUpTo 2 [some (.ref 0), some (.int x1), some (.int x2), some (.int (x3 + 1)), none, none] [] M5 Q)))) ∧ ((¬ 1000000 ≤ x4) → (vp_in x3 24 ∧ (vp_in x3 24 ∧ (∀ M6 : ev_Mem, M6 = ev_wr M 14 x3.toNatClampNeg ((M.1 11 x3.toNatClampNeg) + x4) → (Ev LM (d + 2) mX11_layUpTo 2 [some (.ref 0), some (.int x1), some (.int x2), some (.int (x3 + 1)), none, none] [] M6 Q)))))))))) ∧ ((¬ x2 ≤ 0) → (vp_in x5 24 ∧ (((1000000 ≤ (M.1 15 x5.toNatClampNeg)) → (Ev LM (d + 2) mX11_layUpTo 28 [some (.ref 0), some (.int x1), some (.int x2), some (.int x3), some (.int x4), some (.int (x5 + 1))] [] M Q)) ∧ ((¬ 1000000 ≤ (M.1 15 x5.toNatClampNeg)) → (vp_in x5 24 ∧ ((vp_in x5 24 ∧ vp_in x3 24) ∧ (((x4 ≤ ((M.1 15 x5.toNatClampNeg) + (bhd (M.1 1 (39 + 13 * x5 + 0).toNatClampNeg) (M.1 1 (39 + 13 * x3 + 0).toNatClampNeg) x5 x3))) → (Ev LM (d + 2) mX11_layUpTo 28 [some (.ref 0), some (.int x1), some (.int x2), some (.int x3), some (.int x4), some (.int (x5 + 1))] [] M Q)) ∧ ((¬ x4 ≤ ((M.1 15 x5.toNatClampNeg) + (bhd (M.1 1 (39 + 13 * x5 + 0).toNatClampNeg) (M.1 1 (39 + 13 * x3 + 0).toNatClampNeg) x5 x3))) → (vp_in x5 24 ∧ ((vp_in x5 24 ∧ vp_in x3 24) ∧ (∀ v1 : Int32, v1 = (M.1 15 x5.toNatClampNeg) + (bhd (M.1 1 (39 + 13 * x5 + 0).toNatClampNeg) (M.1 1 (39 + 13 * x3 + 0).toNatClampNeg) x5 x3) → (Ev LM (d + 2) mX11_layUpTo 28 [some (.ref 0), some (.int x1), some (.int x2), some (.int x3), some (.int v1), some (.int (x5 + 1))] [] M Q)))))))))))))))) : Ev LM (d + 2) mX11_layUpTo 28 [some (.ref 0), some (.int x1), some (.int x2), some (.int x3), some (.int x4), some (.int x5)] [] M Q := by
  refine ev_iload dX11_layUpTo_28 rfl ?_
  refine ev_aload_n dX11_layUpTo_30 rfl ?_
  refine ev_getA dX11_layUpTo_31 fl_WithoutEModel_7 lm_0 rfl ?_
  refine ev_iconst (v := 0) dX11_layUpTo_34 (by decide) ?_
  refine ev_iaN (j := 0) dX11_layUpTo_35 lm_1 (by decide) (by decide) ?_
  refine ev_icmp_ge (tgt := 99) dX11_layUpTo_36 (by decide) (fun c => ?_) (fun c => ?_)
  · replace h := h.1 c
    refine ev_aload_n dX11_layUpTo_99 rfl ?_
    refine ev_getA dX11_layUpTo_100 fl_WithoutEModel_58 lm_0 rfl ?_
    refine ev_iload_n dX11_layUpTo_103 rfl ?_
    refine ev_aload_n dX11_layUpTo_104 rfl ?_
    refine ev_iload_n dX11_layUpTo_105 rfl ?_
    refine ev_iload_n dX11_layUpTo_106 rfl ?_
    refine ev_iload_n dX11_layUpTo_107 rfl ?_
    obtain ⟨p1, h⟩ := h
    refine ev_callV [.int x1, .int x2, .int x3] dX11_layUpTo_108 ml_WithoutEModel_353 lm_0 rfl rfl (Nat.le_of_ble_eq_true rfl) (qX11_isAt p1) ?_
    rintro zr zM ⟨q1, q2⟩
    rw [q1, q2]
    show Ev LM (d + 2) mX11_layUpTo 111 [some (.ref 0), some (.int x1), some (.int x2), some (.int x3), some (.int x4), some (.int x5)] [(.int (bi (atQ M x1 x2 x3))), (.int x3), (.ref 14)] M Q
    refine ev_if_eq (tgt := 134) dX11_layUpTo_111 (by decide) (fun c => ?_) (fun c => ?_)
    · replace h := h.1 ((bi_0 _).mp c)
      refine ev_ldcw (v := 1000000) dX11_layUpTo_134 cw_WithoutEModel_352 ?_
      obtain ⟨c, h⟩ := h
      refine ev_iast dX11_layUpTo_137 lm_14 c ?_
      generalize eM1 : ev_wr M 14 x3.toNatClampNeg 1000000 = M1
      replace h := h M1 eM1.symm
      refine ev_iinc (v := x3 + 1) (ls2 := [some (.ref 0), some (.int x1), some (.int x2), some (.int (x3 + 1)), some (.int x4), some (.int x5)]) dX11_layUpTo_138 rfl rfl rfl ?_
      refine ev_goto (tgt := 2) dX11_layUpTo_141 (by decide) ?_
      refine Ev.weak (ls := [some (.ref 0), some (.int x1), some (.int x2), some (.int (x3 + 1)), none, none]) ⟨rfl, rfl, rfl, rfl, trivial⟩ ?_
      exact h
    · replace h := h.2 ((bi_n0 _).mp c)
      refine ev_iload dX11_layUpTo_114 rfl ?_
      refine ev_ldcw (v := 1000000) dX11_layUpTo_116 cw_WithoutEModel_352 ?_
      refine ev_icmp_ge (tgt := 134) dX11_layUpTo_119 (by decide) (fun c => ?_) (fun c => ?_)
      · replace h := h.1 c
        refine ev_ldcw (v := 1000000) dX11_layUpTo_134 cw_WithoutEModel_352 ?_
        obtain ⟨c, h⟩ := h
        refine ev_iast dX11_layUpTo_137 lm_14 c ?_
        generalize eM2 : ev_wr M 14 x3.toNatClampNeg 1000000 = M2
        replace h := h M2 eM2.symm
        refine ev_iinc (v := x3 + 1) (ls2 := [some (.ref 0), some (.int x1), some (.int x2), some (.int (x3 + 1)), some (.int x4), some (.int x5)]) dX11_layUpTo_138 rfl rfl rfl ?_
        refine ev_goto (tgt := 2) dX11_layUpTo_141 (by decide) ?_
        refine Ev.weak (ls := [some (.ref 0), some (.int x1), some (.int x2), some (.int (x3 + 1)), none, none]) ⟨rfl, rfl, rfl, rfl, trivial⟩ ?_
        exact h
      · replace h := h.2 c
        refine ev_aload_n dX11_layUpTo_122 rfl ?_
        refine ev_getA dX11_layUpTo_123 fl_WithoutEModel_49 lm_0 rfl ?_
        refine ev_iload_n dX11_layUpTo_126 rfl ?_
        obtain ⟨c, h⟩ := h
        refine ev_iald dX11_layUpTo_127 lm_11 c ?_
        refine ev_iload dX11_layUpTo_128 rfl ?_
        refine ev_iadd dX11_layUpTo_130 ?_
        refine ev_goto (tgt := 137) dX11_layUpTo_131 (by decide) ?_
        obtain ⟨c, h⟩ := h
        refine ev_iast dX11_layUpTo_137 lm_14 c ?_
        generalize eM3 : ev_wr M 14 x3.toNatClampNeg ((M.1 11 x3.toNatClampNeg) + x4) = M3
        replace h := h M3 eM3.symm
        refine ev_iinc (v := x3 + 1) (ls2 := [some (.ref 0), some (.int x1), some (.int x2), some (.int (x3 + 1)), some (.int x4), some (.int x5)]) dX11_layUpTo_138 rfl rfl rfl ?_
        refine ev_goto (tgt := 2) dX11_layUpTo_141 (by decide) ?_
        refine Ev.weak (ls := [some (.ref 0), some (.int x1), some (.int x2), some (.int (x3 + 1)), none, none]) ⟨rfl, rfl, rfl, rfl, trivial⟩ ?_
        exact h
  · replace h := h.2 c
    refine ev_iload_n dX11_layUpTo_39 rfl ?_
    refine ev_if_le (tgt := 99) dX11_layUpTo_40 (by decide) (fun c => ?_) (fun c => ?_)
    · replace h := h.1 c
      refine ev_aload_n dX11_layUpTo_99 rfl ?_
      refine ev_getA dX11_layUpTo_100 fl_WithoutEModel_58 lm_0 rfl ?_
      refine ev_iload_n dX11_layUpTo_103 rfl ?_
      refine ev_aload_n dX11_layUpTo_104 rfl ?_
      refine ev_iload_n dX11_layUpTo_105 rfl ?_
      refine ev_iload_n dX11_layUpTo_106 rfl ?_
      refine ev_iload_n dX11_layUpTo_107 rfl ?_
      obtain ⟨p1, h⟩ := h
      refine ev_callV [.int x1, .int x2, .int x3] dX11_layUpTo_108 ml_WithoutEModel_353 lm_0 rfl rfl (Nat.le_of_ble_eq_true rfl) (qX11_isAt p1) ?_
      rintro zr zM ⟨q1, q2⟩
      rw [q1, q2]
      show Ev LM (d + 2) mX11_layUpTo 111 [some (.ref 0), some (.int x1), some (.int x2), some (.int x3), some (.int x4), some (.int x5)] [(.int (bi (atQ M x1 x2 x3))), (.int x3), (.ref 14)] M Q
      refine ev_if_eq (tgt := 134) dX11_layUpTo_111 (by decide) (fun c => ?_) (fun c => ?_)
      · replace h := h.1 ((bi_0 _).mp c)
        refine ev_ldcw (v := 1000000) dX11_layUpTo_134 cw_WithoutEModel_352 ?_
        obtain ⟨c, h⟩ := h
        refine ev_iast dX11_layUpTo_137 lm_14 c ?_
        generalize eM4 : ev_wr M 14 x3.toNatClampNeg 1000000 = M4
        replace h := h M4 eM4.symm
        refine ev_iinc (v := x3 + 1) (ls2 := [some (.ref 0), some (.int x1), some (.int x2), some (.int (x3 + 1)), some (.int x4), some (.int x5)]) dX11_layUpTo_138 rfl rfl rfl ?_
        refine ev_goto (tgt := 2) dX11_layUpTo_141 (by decide) ?_
        refine Ev.weak (ls := [some (.ref 0), some (.int x1), some (.int x2), some (.int (x3 + 1)), none, none]) ⟨rfl, rfl, rfl, rfl, trivial⟩ ?_
        exact h
      · replace h := h.2 ((bi_n0 _).mp c)
        refine ev_iload dX11_layUpTo_114 rfl ?_
        refine ev_ldcw (v := 1000000) dX11_layUpTo_116 cw_WithoutEModel_352 ?_
        refine ev_icmp_ge (tgt := 134) dX11_layUpTo_119 (by decide) (fun c => ?_) (fun c => ?_)
        · replace h := h.1 c
          refine ev_ldcw (v := 1000000) dX11_layUpTo_134 cw_WithoutEModel_352 ?_
          obtain ⟨c, h⟩ := h
          refine ev_iast dX11_layUpTo_137 lm_14 c ?_
          generalize eM5 : ev_wr M 14 x3.toNatClampNeg 1000000 = M5
          replace h := h M5 eM5.symm
          refine ev_iinc (v := x3 + 1) (ls2 := [some (.ref 0), some (.int x1), some (.int x2), some (.int (x3 + 1)), some (.int x4), some (.int x5)]) dX11_layUpTo_138 rfl rfl rfl ?_
          refine ev_goto (tgt := 2) dX11_layUpTo_141 (by decide) ?_
          refine Ev.weak (ls := [some (.ref 0), some (.int x1), some (.int x2), some (.int (x3 + 1)), none, none]) ⟨rfl, rfl, rfl, rfl, trivial⟩ ?_
          exact h
        · replace h := h.2 c
          refine ev_aload_n dX11_layUpTo_122 rfl ?_
          refine ev_getA dX11_layUpTo_123 fl_WithoutEModel_49 lm_0 rfl ?_
          refine ev_iload_n dX11_layUpTo_126 rfl ?_
          obtain ⟨c, h⟩ := h
          refine ev_iald dX11_layUpTo_127 lm_11 c ?_
          refine ev_iload dX11_layUpTo_128 rfl ?_
          refine ev_iadd dX11_layUpTo_130 ?_
          refine ev_goto (tgt := 137) dX11_layUpTo_131 (by decide) ?_
          obtain ⟨c, h⟩ := h
          refine ev_iast dX11_layUpTo_137 lm_14 c ?_
          generalize eM6 : ev_wr M 14 x3.toNatClampNeg ((M.1 11 x3.toNatClampNeg) + x4) = M6
          replace h := h M6 eM6.symm
          refine ev_iinc (v := x3 + 1) (ls2 := [some (.ref 0), some (.int x1), some (.int x2), some (.int (x3 + 1)), some (.int x4), some (.int x5)]) dX11_layUpTo_138 rfl rfl rfl ?_
          refine ev_goto (tgt := 2) dX11_layUpTo_141 (by decide) ?_
          refine Ev.weak (ls := [some (.ref 0), some (.int x1), some (.int x2), some (.int (x3 + 1)), none, none]) ⟨rfl, rfl, rfl, rfl, trivial⟩ ?_
          exact h
    · replace h := h.2 c
      refine ev_aload_n dX11_layUpTo_43 rfl ?_
      refine ev_getA dX11_layUpTo_44 fl_WithoutEModel_61 lm_0 rfl ?_
      refine ev_iload dX11_layUpTo_47 rfl ?_
      obtain ⟨c, h⟩ := h
      refine ev_iald dX11_layUpTo_49 lm_15 c ?_
      refine ev_ldcw (v := 1000000) dX11_layUpTo_50 cw_WithoutEModel_352 ?_
      refine ev_icmp_ge (tgt := 93) dX11_layUpTo_53 (by decide) (fun c => ?_) (fun c => ?_)
      · replace h := h.1 c
        refine ev_iinc (v := x5 + 1) (ls2 := [some (.ref 0), some (.int x1), some (.int x2), some (.int x3), some (.int x4), some (.int (x5 + 1))]) dX11_layUpTo_93 rfl rfl rfl ?_
        refine ev_goto (tgt := 28) dX11_layUpTo_96 (by decide) ?_
        exact h
      · replace h := h.2 c
        refine ev_aload_n dX11_layUpTo_56 rfl ?_
        refine ev_getA dX11_layUpTo_57 fl_WithoutEModel_61 lm_0 rfl ?_
        refine ev_iload dX11_layUpTo_60 rfl ?_
        obtain ⟨c, h⟩ := h
        refine ev_iald dX11_layUpTo_62 lm_15 c ?_
        refine ev_aload_n dX11_layUpTo_63 rfl ?_
        refine ev_iload dX11_layUpTo_64 rfl ?_
        refine ev_iload_n dX11_layUpTo_66 rfl ?_
        obtain ⟨p1, h⟩ := h
        refine ev_callV [.int x5, .int x3] dX11_layUpTo_67 ml_WithoutEModel_356 lm_0 rfl rfl (Nat.le_of_ble_eq_true rfl) (qX11_behind p1) ?_
        rintro zr zM ⟨q1, q2⟩
        rw [q1, q2]
        show Ev LM (d + 2) mX11_layUpTo 70 [some (.ref 0), some (.int x1), some (.int x2), some (.int x3), some (.int x4), some (.int x5)] [(.int (bhd (M.1 1 (39 + 13 * x5 + 0).toNatClampNeg) (M.1 1 (39 + 13 * x3 + 0).toNatClampNeg) x5 x3)), (.int (M.1 15 x5.toNatClampNeg))] M Q
        refine ev_iadd dX11_layUpTo_70 ?_
        refine ev_iload dX11_layUpTo_71 rfl ?_
        refine ev_icmp_ge (tgt := 93) dX11_layUpTo_73 (by decide) (fun c => ?_) (fun c => ?_)
        · replace h := h.1 c
          refine ev_iinc (v := x5 + 1) (ls2 := [some (.ref 0), some (.int x1), some (.int x2), some (.int x3), some (.int x4), some (.int (x5 + 1))]) dX11_layUpTo_93 rfl rfl rfl ?_
          refine ev_goto (tgt := 28) dX11_layUpTo_96 (by decide) ?_
          exact h
        · replace h := h.2 c
          refine ev_aload_n dX11_layUpTo_76 rfl ?_
          refine ev_getA dX11_layUpTo_77 fl_WithoutEModel_61 lm_0 rfl ?_
          refine ev_iload dX11_layUpTo_80 rfl ?_
          obtain ⟨c, h⟩ := h
          refine ev_iald dX11_layUpTo_82 lm_15 c ?_
          refine ev_aload_n dX11_layUpTo_83 rfl ?_
          refine ev_iload dX11_layUpTo_84 rfl ?_
          refine ev_iload_n dX11_layUpTo_86 rfl ?_
          obtain ⟨p1, h⟩ := h
          refine ev_callV [.int x5, .int x3] dX11_layUpTo_87 ml_WithoutEModel_356 lm_0 rfl rfl (Nat.le_of_ble_eq_true rfl) (qX11_behind p1) ?_
          rintro zr zM ⟨q1, q2⟩
          rw [q1, q2]
          show Ev LM (d + 2) mX11_layUpTo 90 [some (.ref 0), some (.int x1), some (.int x2), some (.int x3), some (.int x4), some (.int x5)] [(.int (bhd (M.1 1 (39 + 13 * x5 + 0).toNatClampNeg) (M.1 1 (39 + 13 * x3 + 0).toNatClampNeg) x5 x3)), (.int (M.1 15 x5.toNatClampNeg))] M Q
          refine ev_iadd dX11_layUpTo_90 ?_
          refine ev_istore (ls2 := [some (.ref 0), some (.int x1), some (.int x2), some (.int x3), some (.int ((M.1 15 x5.toNatClampNeg) + (bhd (M.1 1 (39 + 13 * x5 + 0).toNatClampNeg) (M.1 1 (39 + 13 * x3 + 0).toNatClampNeg) x5 x3))), some (.int x5)]) dX11_layUpTo_91 (Nat.le_of_ble_eq_true rfl) rfl ?_
          generalize ev1 : (M.1 15 x5.toNatClampNeg) + (bhd (M.1 1 (39 + 13 * x5 + 0).toNatClampNeg) (M.1 1 (39 + 13 * x3 + 0).toNatClampNeg) x5 x3) = v1
          replace h := h v1 ev1.symm
          refine ev_iinc (v := x5 + 1) (ls2 := [some (.ref 0), some (.int x1), some (.int x2), some (.int x3), some (.int v1), some (.int (x5 + 1))]) dX11_layUpTo_93 rfl rfl rfl ?_
          refine ev_goto (tgt := 28) dX11_layUpTo_96 (by decide) ?_
          exact h
theorem dX11_states_0 : decode cX11_states 0 = .ok (.aload_n 0, 1) := by decide +kernel
theorem dX11_states_1 : decode cX11_states 1 = .ok (.iload_n 1, 1) := by decide +kernel
theorem dX11_states_2 : decode cX11_states 2 = .ok (.invokevirtual 411, 3) := by decide +kernel
theorem dX11_states_5 : decode cX11_states 5 = .ok (.ifCond .eq 26, 3) := by decide +kernel
theorem dX11_states_8 : decode cX11_states 8 = .ok (.iload_n 2, 1) := by decide +kernel
theorem dX11_states_9 : decode cX11_states 9 = .ok (.iconst 0, 1) := by decide +kernel
theorem dX11_states_10 : decode cX11_states 10 = .ok (.aload_n 0, 1) := by decide +kernel
theorem dX11_states_11 : decode cX11_states 11 = .ok (.iload_n 1, 1) := by decide +kernel
theorem dX11_states_12 : decode cX11_states 12 = .ok (.invokevirtual 359, 3) := by decide +kernel
theorem dX11_states_15 : decode cX11_states 15 = .ok (.iconst 1, 1) := by decide +kernel
theorem dX11_states_16 : decode cX11_states 16 = .ok (.isub, 1) := by decide +kernel
theorem dX11_states_17 : decode cX11_states 17 = .ok (.invokestatic 80, 3) := by decide +kernel
theorem dX11_states_20 : decode cX11_states 20 = .ok (.ifCond .eq 11, 3) := by decide +kernel
theorem dX11_states_23 : decode cX11_states 23 = .ok (.aload_n 0, 1) := by decide +kernel
theorem dX11_states_24 : decode cX11_states 24 = .ok (.iload_n 3, 1) := by decide +kernel
theorem dX11_states_25 : decode cX11_states 25 = .ok (.invokevirtual 337, 3) := by decide +kernel
theorem dX11_states_28 : decode cX11_states 28 = .ok (.ifCond .ne 5, 3) := by decide +kernel
theorem dX11_states_31 : decode cX11_states 31 = .ok (.iconst (-1), 1) := by decide +kernel
theorem dX11_states_32 : decode cX11_states 32 = .ok (.ireturn, 1) := by decide +kernel
theorem dX11_states_33 : decode cX11_states 33 = .ok (.aload_n 0, 1) := by decide +kernel
theorem dX11_states_34 : decode cX11_states 34 = .ok (.invokevirtual 368, 3) := by decide +kernel
theorem dX11_states_37 : decode cX11_states 37 = .ok (.iconst 0, 1) := by decide +kernel
theorem dX11_states_38 : decode cX11_states 38 = .ok (.istore 4, 2) := by decide +kernel
theorem dX11_states_40 : decode cX11_states 40 = .ok (.iload 4, 2) := by decide +kernel
theorem dX11_states_42 : decode cX11_states 42 = .ok (.iload_n 2, 1) := by decide +kernel
theorem dX11_states_43 : decode cX11_states 43 = .ok (.if_icmp .gt 16, 3) := by decide +kernel
theorem dX11_states_46 : decode cX11_states 46 = .ok (.aload_n 0, 1) := by decide +kernel
theorem dX11_states_47 : decode cX11_states 47 = .ok (.iload_n 1, 1) := by decide +kernel
theorem dX11_states_48 : decode cX11_states 48 = .ok (.iload 4, 2) := by decide +kernel
theorem dX11_states_50 : decode cX11_states 50 = .ok (.invokevirtual 448, 3) := by decide +kernel
theorem dX11_states_53 : decode cX11_states 53 = .ok (.iinc 4 1, 3) := by decide +kernel
theorem dX11_states_56 : decode cX11_states 56 = .ok (.goto (-16), 3) := by decide +kernel
theorem dX11_states_59 : decode cX11_states 59 = .ok (.aload_n 0, 1) := by decide +kernel
theorem dX11_states_60 : decode cX11_states 60 = .ok (.getfield 58, 3) := by decide +kernel
theorem dX11_states_63 : decode cX11_states 63 = .ok (.iload_n 3, 1) := by decide +kernel
theorem dX11_states_64 : decode cX11_states 64 = .ok (.iaload, 1) := by decide +kernel
theorem dX11_states_65 : decode cX11_states 65 = .ok (.ldc_w 352, 3) := by decide +kernel
theorem dX11_states_68 : decode cX11_states 68 = .ok (.if_icmp .ne 7, 3) := by decide +kernel
theorem dX11_states_71 : decode cX11_states 71 = .ok (.iconst (-1), 1) := by decide +kernel
theorem dX11_states_72 : decode cX11_states 72 = .ok (.goto 9, 3) := by decide +kernel
theorem dX11_states_75 : decode cX11_states 75 = .ok (.aload_n 0, 1) := by decide +kernel
theorem dX11_states_76 : decode cX11_states 76 = .ok (.getfield 58, 3) := by decide +kernel
theorem dX11_states_79 : decode cX11_states 79 = .ok (.iload_n 3, 1) := by decide +kernel
theorem dX11_states_80 : decode cX11_states 80 = .ok (.iaload, 1) := by decide +kernel
theorem dX11_states_81 : decode cX11_states 81 = .ok (.ireturn, 1) := by decide +kernel
theorem gX11_states_0 {d : Nat} {M : ev_Mem} {Q : Option Value → ev_Mem → Prop} {x1 x2 x3 : Int32} (h : ((((iin x1 0 (M.1 1 1 - 1)) = false) → (Q (some (.int (-1))) M)) ∧ (((iin x1 0 (M.1 1 1 - 1)) = true) → ((vp_in (351 + 6 * x1) 3315) ∧ ((((iin x2 (0 : Int32) ((M.1 1 (351 + 6 * x1).toNatClampNeg) - 1)) = false) → (Q (some (.int (-1))) M)) ∧ (((iin x2 (0 : Int32) ((M.1 1 (351 + 6 * x1).toNatClampNeg) - 1)) = true) → ((((iin x3 0 (M.1 1 0 - 1)) = true) → (∃ Q2 : Option Value → ev_Mem → Prop, Cl LM (d + 1) mX11_layStiffs [.ref 0] M Q2 ∧ ∀ (zr : Option Value) (zM : ev_Mem), Q2 zr zM → Ev LM (d + 2) mX11_states 37 [some (.ref 0), some (.int x1), some (.int x2), some (.int x3), none] (zr.toList ++ []) zM Q)) ∧ (((iin x3 0 (M.1 1 0 - 1)) = false) → (Q (some (.int (-1))) M))))))))) : Ev LM (d + 2) mX11_states 0 [some (.ref 0), some (.int x1), some (.int x2), some (.int x3), none] [] M Q := by
  refine ev_aload_n dX11_states_0 rfl ?_
  refine ev_iload_n dX11_states_1 rfl ?_
  refine ev_callV [.int x1] dX11_states_2 ml_WithoutEModel_411 lm_0 rfl rfl (Nat.le_of_ble_eq_true rfl) (kX11_isSentence) ?_
  rintro zr zM ⟨q1, q2⟩
  rw [q1, q2]
  show Ev LM (d + 2) mX11_states 5 [some (.ref 0), some (.int x1), some (.int x2), some (.int x3), none] [(.int (bi (iin x1 0 (M.1 1 1 - 1))))] M Q
  refine ev_if_eq (tgt := 31) dX11_states_5 (by decide) (fun c => ?_) (fun c => ?_)
  · replace h := h.1 ((bi_0 _).mp c)
    refine ev_iconst (v := -1) dX11_states_31 (by decide) ?_
    exact ev_iret dX11_states_32 rfl h
  · replace h := h.2 ((bi_n0 _).mp c)
    refine ev_iload_n dX11_states_8 rfl ?_
    refine ev_iconst (v := 0) dX11_states_9 (by decide) ?_
    refine ev_aload_n dX11_states_10 rfl ?_
    refine ev_iload_n dX11_states_11 rfl ?_
    obtain ⟨p1, h⟩ := h
    refine ev_callV [.int x1] dX11_states_12 ml_WithoutEModel_359 lm_0 rfl rfl (Nat.le_of_ble_eq_true rfl) (kX11_lengthOf p1) ?_
    rintro zr zM ⟨q1, q2⟩
    rw [q1, q2]
    show Ev LM (d + 2) mX11_states 15 [some (.ref 0), some (.int x1), some (.int x2), some (.int x3), none] [(.int (M.1 1 (351 + 6 * x1).toNatClampNeg)), (.int 0), (.int x2)] M Q
    refine ev_iconst (v := 1) dX11_states_15 (by decide) ?_
    refine ev_isub dX11_states_16 ?_
    refine ev_callS [.int x2, .int 0, .int ((M.1 1 (351 + 6 * x1).toNatClampNeg) - 1)] dX11_states_17 ml_WithoutEModel_80 rfl (Nat.le_of_ble_eq_true rfl) (kX11_isIn) ?_
    rintro zr zM ⟨q1, q2⟩
    rw [q1, q2]
    show Ev LM (d + 2) mX11_states 20 [some (.ref 0), some (.int x1), some (.int x2), some (.int x3), none] [(.int (bi (iin x2 (0 : Int32) ((M.1 1 (351 + 6 * x1).toNatClampNeg) - 1))))] M Q
    refine ev_if_eq (tgt := 31) dX11_states_20 (by decide) (fun c => ?_) (fun c => ?_)
    · replace h := h.1 ((bi_0 _).mp c)
      refine ev_iconst (v := -1) dX11_states_31 (by decide) ?_
      exact ev_iret dX11_states_32 rfl h
    · replace h := h.2 ((bi_n0 _).mp c)
      refine ev_aload_n dX11_states_23 rfl ?_
      refine ev_iload_n dX11_states_24 rfl ?_
      refine ev_callV [.int x3] dX11_states_25 ml_WithoutEModel_337 lm_0 rfl rfl (Nat.le_of_ble_eq_true rfl) (kX11_isWordOf) ?_
      rintro zr zM ⟨q1, q2⟩
      rw [q1, q2]
      show Ev LM (d + 2) mX11_states 28 [some (.ref 0), some (.int x1), some (.int x2), some (.int x3), none] [(.int (bi (iin x3 0 (M.1 1 0 - 1))))] M Q
      refine ev_if_ne (tgt := 33) dX11_states_28 (by decide) (fun c => ?_) (fun c => ?_)
      · replace h := h.1 ((bi_n0 _).mp c)
        refine ev_aload_n dX11_states_33 rfl ?_
        obtain ⟨Q2, hc, h⟩ := h
        refine ev_callV [] dX11_states_34 ml_WithoutEModel_368 lm_0 rfl rfl (Nat.le_of_ble_eq_true rfl) hc (fun zr zM q => ?_)
        exact h zr zM q
      · replace h := h.2 ((bi_0 _).mp c)
        refine ev_iconst (v := -1) dX11_states_31 (by decide) ?_
        exact ev_iret dX11_states_32 rfl h
theorem gX11_states_37 {d : Nat} {M : ev_Mem} {Q : Option Value → ev_Mem → Prop} {x1 x2 x3 : Int32} (h : (Ev LM d mX11_states 40 [some (.ref 0), some (.int x1), some (.int x2), some (.int x3), some (.int 0)] [] M Q)) : Ev LM d mX11_states 37 [some (.ref 0), some (.int x1), some (.int x2), some (.int x3), none] [] M Q := by
  refine ev_iconst (v := 0) dX11_states_37 (by decide) ?_
  refine ev_istore (ls2 := [some (.ref 0), some (.int x1), some (.int x2), some (.int x3), some (.int 0)]) dX11_states_38 (Nat.le_of_ble_eq_true rfl) rfl ?_
  exact h
theorem gX11_states_40 {d : Nat} {M : ev_Mem} {Q : Option Value → ev_Mem → Prop} {x1 x2 x3 x4 : Int32} (h : (((x2 < x4) → (vp_in x3 24 ∧ (((¬ (M.1 14 x3.toNatClampNeg) = 1000000) → (vp_in x3 24 ∧ (Q (some (.int (M.1 14 x3.toNatClampNeg))) M))) ∧ (((M.1 14 x3.toNatClampNeg) = 1000000) → (Q (some (.int (-1))) M))))) ∧ ((¬ x2 < x4) → (∃ Q2 : Option Value → ev_Mem → Prop, Cl LM d mX11_layUpTo [.ref 0, .int x1, .int x4] M Q2 ∧ ∀ (zr : Option Value) (zM : ev_Mem), Q2 zr zM → Ev LM (d + 1) mX11_states 53 [some (.ref 0), some (.int x1), some (.int x2), some (.int x3), some (.int x4)] (zr.toList ++ []) zM Q)))) : Ev LM (d + 1) mX11_states 40 [some (.ref 0), some (.int x1), some (.int x2), some (.int x3), some (.int x4)] [] M Q := by
  refine ev_iload dX11_states_40 rfl ?_
  refine ev_iload_n dX11_states_42 rfl ?_
  refine ev_icmp_gt (tgt := 59) dX11_states_43 (by decide) (fun c => ?_) (fun c => ?_)
  · replace h := h.1 c
    refine ev_aload_n dX11_states_59 rfl ?_
    refine ev_getA dX11_states_60 fl_WithoutEModel_58 lm_0 rfl ?_
    refine ev_iload_n dX11_states_63 rfl ?_
    obtain ⟨c, h⟩ := h
    refine ev_iald dX11_states_64 lm_14 c ?_
    refine ev_ldcw (v := 1000000) dX11_states_65 cw_WithoutEModel_352 ?_
    refine ev_icmp_ne (tgt := 75) dX11_states_68 (by decide) (fun c => ?_) (fun c => ?_)
    · replace h := h.1 c
      refine ev_aload_n dX11_states_75 rfl ?_
      refine ev_getA dX11_states_76 fl_WithoutEModel_58 lm_0 rfl ?_
      refine ev_iload_n dX11_states_79 rfl ?_
      obtain ⟨c, h⟩ := h
      refine ev_iald dX11_states_80 lm_14 c ?_
      exact ev_iret dX11_states_81 rfl h
    · replace h := h.2 c
      refine ev_iconst (v := -1) dX11_states_71 (by decide) ?_
      refine ev_goto (tgt := 81) dX11_states_72 (by decide) ?_
      exact ev_iret dX11_states_81 rfl h
  · replace h := h.2 c
    refine ev_aload_n dX11_states_46 rfl ?_
    refine ev_iload_n dX11_states_47 rfl ?_
    refine ev_iload dX11_states_48 rfl ?_
    obtain ⟨Q2, hc, h⟩ := h
    refine ev_callV [.int x1, .int x4] dX11_states_50 ml_WithoutEModel_448 lm_0 rfl rfl (Nat.le_of_ble_eq_true rfl) hc (fun zr zM q => ?_)
    exact h zr zM q
theorem gX11_states_53 {d : Nat} {M : ev_Mem} {Q : Option Value → ev_Mem → Prop} {x1 x2 x3 x4 : Int32} (h : (Ev LM d mX11_states 40 [some (.ref 0), some (.int x1), some (.int x2), some (.int x3), some (.int (x4 + 1))] [] M Q)) : Ev LM d mX11_states 53 [some (.ref 0), some (.int x1), some (.int x2), some (.int x3), some (.int x4)] [] M Q := by
  refine ev_iinc (v := x4 + 1) (ls2 := [some (.ref 0), some (.int x1), some (.int x2), some (.int x3), some (.int (x4 + 1))]) dX11_states_53 rfl rfl rfl ?_
  refine ev_goto (tgt := 40) dX11_states_56 (by decide) ?_
  exact h
theorem dX11_law_0 : decode cX11_law 0 = .ok (.iconst 0, 1) := by decide +kernel
theorem dX11_law_1 : decode cX11_law 1 = .ok (.istore_n 1, 1) := by decide +kernel
theorem dX11_law_2 : decode cX11_law 2 = .ok (.iconst 0, 1) := by decide +kernel
theorem dX11_law_3 : decode cX11_law 3 = .ok (.istore_n 2, 1) := by decide +kernel
theorem dX11_law_4 : decode cX11_law 4 = .ok (.iload_n 2, 1) := by decide +kernel
theorem dX11_law_5 : decode cX11_law 5 = .ok (.aload_n 0, 1) := by decide +kernel
theorem dX11_law_6 : decode cX11_law 6 = .ok (.getfield 7, 3) := by decide +kernel
theorem dX11_law_9 : decode cX11_law 9 = .ok (.iconst 2, 1) := by decide +kernel
theorem dX11_law_10 : decode cX11_law 10 = .ok (.iaload, 1) := by decide +kernel
theorem dX11_law_11 : decode cX11_law 11 = .ok (.if_icmp .ge 92, 3) := by decide +kernel
theorem dX11_law_14 : decode cX11_law 14 = .ok (.iconst 1, 1) := by decide +kernel
theorem dX11_law_15 : decode cX11_law 15 = .ok (.istore_n 3, 1) := by decide +kernel
theorem dX11_law_16 : decode cX11_law 16 = .ok (.iconst 0, 1) := by decide +kernel
theorem dX11_law_17 : decode cX11_law 17 = .ok (.istore 4, 2) := by decide +kernel
theorem dX11_law_19 : decode cX11_law 19 = .ok (.iload 4, 2) := by decide +kernel
theorem dX11_law_21 : decode cX11_law 21 = .ok (.aload_n 0, 1) := by decide +kernel
theorem dX11_law_22 : decode cX11_law 22 = .ok (.getfield 7, 3) := by decide +kernel
theorem dX11_law_25 : decode cX11_law 25 = .ok (.bipush 7, 2) := by decide +kernel
theorem dX11_law_27 : decode cX11_law 27 = .ok (.iaload, 1) := by decide +kernel
theorem dX11_law_28 : decode cX11_law 28 = .ok (.if_icmp .ge 55, 3) := by decide +kernel
theorem dX11_law_31 : decode cX11_law 31 = .ok (.iload_n 3, 1) := by decide +kernel
theorem dX11_law_32 : decode cX11_law 32 = .ok (.ifCond .eq 43, 3) := by decide +kernel
theorem dX11_law_35 : decode cX11_law 35 = .ok (.aload_n 0, 1) := by decide +kernel
theorem dX11_law_36 : decode cX11_law 36 = .ok (.iload_n 2, 1) := by decide +kernel
theorem dX11_law_37 : decode cX11_law 37 = .ok (.aload_n 0, 1) := by decide +kernel
theorem dX11_law_38 : decode cX11_law 38 = .ok (.getfield 7, 3) := by decide +kernel
theorem dX11_law_41 : decode cX11_law 41 = .ok (.sipush 509, 3) := by decide +kernel
theorem dX11_law_44 : decode cX11_law 44 = .ok (.iconst 2, 1) := by decide +kernel
theorem dX11_law_45 : decode cX11_law 45 = .ok (.iload 4, 2) := by decide +kernel
theorem dX11_law_47 : decode cX11_law 47 = .ok (.imul, 1) := by decide +kernel
theorem dX11_law_48 : decode cX11_law 48 = .ok (.iadd, 1) := by decide +kernel
theorem dX11_law_49 : decode cX11_law 49 = .ok (.iaload, 1) := by decide +kernel
theorem dX11_law_50 : decode cX11_law 50 = .ok (.invokevirtual 349, 3) := by decide +kernel
theorem dX11_law_53 : decode cX11_law 53 = .ok (.aload_n 0, 1) := by decide +kernel
theorem dX11_law_54 : decode cX11_law 54 = .ok (.getfield 7, 3) := by decide +kernel
theorem dX11_law_57 : decode cX11_law 57 = .ok (.sipush 509, 3) := by decide +kernel
theorem dX11_law_60 : decode cX11_law 60 = .ok (.iconst 2, 1) := by decide +kernel
theorem dX11_law_61 : decode cX11_law 61 = .ok (.iload 4, 2) := by decide +kernel
theorem dX11_law_63 : decode cX11_law 63 = .ok (.imul, 1) := by decide +kernel
theorem dX11_law_64 : decode cX11_law 64 = .ok (.iadd, 1) := by decide +kernel
theorem dX11_law_65 : decode cX11_law 65 = .ok (.iconst 1, 1) := by decide +kernel
theorem dX11_law_66 : decode cX11_law 66 = .ok (.iadd, 1) := by decide +kernel
theorem dX11_law_67 : decode cX11_law 67 = .ok (.iaload, 1) := by decide +kernel
theorem dX11_law_68 : decode cX11_law 68 = .ok (.if_icmp .ne 7, 3) := by decide +kernel
theorem dX11_law_71 : decode cX11_law 71 = .ok (.iconst 1, 1) := by decide +kernel
theorem dX11_law_72 : decode cX11_law 72 = .ok (.goto 4, 3) := by decide +kernel
theorem dX11_law_75 : decode cX11_law 75 = .ok (.iconst 0, 1) := by decide +kernel
theorem dX11_law_76 : decode cX11_law 76 = .ok (.istore_n 3, 1) := by decide +kernel
theorem dX11_law_77 : decode cX11_law 77 = .ok (.iinc 4 1, 3) := by decide +kernel
theorem dX11_law_80 : decode cX11_law 80 = .ok (.goto (-61), 3) := by decide +kernel
theorem dX11_law_83 : decode cX11_law 83 = .ok (.iload_n 1, 1) := by decide +kernel
theorem dX11_law_84 : decode cX11_law 84 = .ok (.iload_n 3, 1) := by decide +kernel
theorem dX11_law_85 : decode cX11_law 85 = .ok (.ifCond .eq 9, 3) := by decide +kernel
theorem dX11_law_88 : decode cX11_law 88 = .ok (.iconst 1, 1) := by decide +kernel
theorem dX11_law_89 : decode cX11_law 89 = .ok (.iload_n 2, 1) := by decide +kernel
theorem dX11_law_90 : decode cX11_law 90 = .ok (.ishl, 1) := by decide +kernel
theorem dX11_law_91 : decode cX11_law 91 = .ok (.goto 4, 3) := by decide +kernel
theorem dX11_law_94 : decode cX11_law 94 = .ok (.iconst 0, 1) := by decide +kernel
theorem dX11_law_95 : decode cX11_law 95 = .ok (.ior, 1) := by decide +kernel
theorem dX11_law_96 : decode cX11_law 96 = .ok (.istore_n 1, 1) := by decide +kernel
theorem dX11_law_97 : decode cX11_law 97 = .ok (.iinc 2 1, 3) := by decide +kernel
theorem dX11_law_100 : decode cX11_law 100 = .ok (.goto (-96), 3) := by decide +kernel
theorem dX11_law_103 : decode cX11_law 103 = .ok (.iload_n 1, 1) := by decide +kernel
theorem dX11_law_104 : decode cX11_law 104 = .ok (.ireturn, 1) := by decide +kernel
theorem gX11_law_0 {d : Nat} {M : ev_Mem} {Q : Option Value → ev_Mem → Prop} (h : (Ev LM d mX11_law 4 [some (.ref 0), some (.int 0), some (.int 0), none, none] [] M Q)) : Ev LM d mX11_law 0 [some (.ref 0), none, none, none, none] [] M Q := by
  refine ev_iconst (v := 0) dX11_law_0 (by decide) ?_
  refine ev_istore_n (ls2 := [some (.ref 0), some (.int 0), none, none, none]) dX11_law_1 (Nat.le_of_ble_eq_true rfl) rfl ?_
  refine ev_iconst (v := 0) dX11_law_2 (by decide) ?_
  refine ev_istore_n (ls2 := [some (.ref 0), some (.int 0), some (.int 0), none, none]) dX11_law_3 (Nat.le_of_ble_eq_true rfl) rfl ?_
  exact h
theorem gX11_law_4 {d : Nat} {M : ev_Mem} {Q : Option Value → ev_Mem → Prop} {x1 x2 : Int32} (h : ((((M.1 1 2) ≤ x2) → (Q (some (.int x1)) M)) ∧ ((¬ (M.1 1 2) ≤ x2) → (Ev LM d mX11_law 19 [some (.ref 0), some (.int x1), some (.int x2), some (.int 1), some (.int 0)] [] M Q)))) : Ev LM d mX11_law 4 [some (.ref 0), some (.int x1), some (.int x2), none, none] [] M Q := by
  refine ev_iload_n dX11_law_4 rfl ?_
  refine ev_aload_n dX11_law_5 rfl ?_
  refine ev_getA dX11_law_6 fl_WithoutEModel_7 lm_0 rfl ?_
  refine ev_iconst (v := 2) dX11_law_9 (by decide) ?_
  refine ev_iaN (j := 2) dX11_law_10 lm_1 (by decide) (by decide) ?_
  refine ev_icmp_ge (tgt := 103) dX11_law_11 (by decide) (fun c => ?_) (fun c => ?_)
  · replace h := h.1 c
    refine ev_iload_n dX11_law_103 rfl ?_
    exact ev_iret dX11_law_104 rfl h
  · replace h := h.2 c
    refine ev_iconst (v := 1) dX11_law_14 (by decide) ?_
    refine ev_istore_n (ls2 := [some (.ref 0), some (.int x1), some (.int x2), some (.int 1), none]) dX11_law_15 (Nat.le_of_ble_eq_true rfl) rfl ?_
    refine ev_iconst (v := 0) dX11_law_16 (by decide) ?_
    refine ev_istore (ls2 := [some (.ref 0), some (.int x1), some (.int x2), some (.int 1), some (.int 0)]) dX11_law_17 (Nat.le_of_ble_eq_true rfl) rfl ?_
    exact h
theorem gX11_law_19 {d : Nat} {M : ev_Mem} {Q : Option Value → ev_Mem → Prop} {x1 x2 x3 x4 : Int32} (h : ((((M.1 1 7) ≤ x4) → (((x3 = 0) → (Ev LM (d + 5) mX11_law 4 [some (.ref 0), some (.int (x1 ||| 0)), some (.int (x2 + 1)), none, none] [] M Q)) ∧ ((¬ x3 = 0) → (∀ v1 : Int32, v1 = x1 ||| (1 <<< (x2 &&& 31)) → (Ev LM (d + 5) mX11_law 4 [some (.ref 0), some (.int v1), some (.int (x2 + 1)), none, none] [] M Q))))) ∧ ((¬ (M.1 1 7) ≤ x4) → (((x3 = 0) → (Ev LM (d + 5) mX11_law 19 [some (.ref 0), some (.int x1), some (.int x2), some (.int 0), some (.int (x4 + 1))] [] M Q)) ∧ ((¬ x3 = 0) → (vp_in (509 + (2 * x4)) 3315 ∧ ((stOK M x2 (M.1 1 (509 + (2 * x4)).toNatClampNeg)) ∧ (∀ M1 : ev_Mem, nfr M M1 → (vp_in ((509 + (2 * x4)) + 1) 3315 ∧ (((¬ (stN M x2 (M.1 1 (509 + (2 * x4)).toNatClampNeg).toNatClampNeg) = (M1.1 1 ((509 + (2 * x4)) + 1).toNatClampNeg)) → (Ev LM (d + 5) mX11_law 19 [some (.ref 0), some (.int x1), some (.int x2), some (.int 0), some (.int (x4 + 1))] [] M1 Q)) ∧ (((stN M x2 (M.1 1 (509 + (2 * x4)).toNatClampNeg).toNatClampNeg) = (M1.1 1 ((509 + (2 * x4)) + 1).toNatClampNeg)) → (Ev LM (d + 5) mX11_law 19 [some (.ref 0), some (.int x1), some (.int x2), some (.int 1), some (.int (x4 + 1))] [] M1 Q)))))))))))) : Ev LM (d + 5) mX11_law 19 [some (.ref 0), some (.int x1), some (.int x2), some (.int x3), some (.int x4)] [] M Q := by
  refine ev_iload dX11_law_19 rfl ?_
  refine ev_aload_n dX11_law_21 rfl ?_
  refine ev_getA dX11_law_22 fl_WithoutEModel_7 lm_0 rfl ?_
  refine ev_bipush (v := 7) dX11_law_25 (by decide) ?_
  refine ev_iaN (j := 7) dX11_law_27 lm_1 (by decide) (by decide) ?_
  refine ev_icmp_ge (tgt := 83) dX11_law_28 (by decide) (fun c => ?_) (fun c => ?_)
  · replace h := h.1 c
    refine ev_iload_n dX11_law_83 rfl ?_
    refine ev_iload_n dX11_law_84 rfl ?_
    refine ev_if_eq (tgt := 94) dX11_law_85 (by decide) (fun c => ?_) (fun c => ?_)
    · replace h := h.1 c
      refine ev_iconst (v := 0) dX11_law_94 (by decide) ?_
      refine ev_ior dX11_law_95 ?_
      refine ev_istore_n (ls2 := [some (.ref 0), some (.int (x1 ||| 0)), some (.int x2), some (.int x3), some (.int x4)]) dX11_law_96 (Nat.le_of_ble_eq_true rfl) rfl ?_
      refine ev_iinc (v := x2 + 1) (ls2 := [some (.ref 0), some (.int (x1 ||| 0)), some (.int (x2 + 1)), some (.int x3), some (.int x4)]) dX11_law_97 rfl rfl rfl ?_
      refine ev_goto (tgt := 4) dX11_law_100 (by decide) ?_
      refine Ev.weak (ls := [some (.ref 0), some (.int (x1 ||| 0)), some (.int (x2 + 1)), none, none]) ⟨rfl, rfl, rfl, trivial⟩ ?_
      exact h
    · replace h := h.2 c
      refine ev_iconst (v := 1) dX11_law_88 (by decide) ?_
      refine ev_iload_n dX11_law_89 rfl ?_
      refine ev_ishl dX11_law_90 ?_
      refine ev_goto (tgt := 95) dX11_law_91 (by decide) ?_
      refine ev_ior dX11_law_95 ?_
      refine ev_istore_n (ls2 := [some (.ref 0), some (.int (x1 ||| (1 <<< (x2 &&& 31)))), some (.int x2), some (.int x3), some (.int x4)]) dX11_law_96 (Nat.le_of_ble_eq_true rfl) rfl ?_
      generalize ev1 : x1 ||| (1 <<< (x2 &&& 31)) = v1
      replace h := h v1 ev1.symm
      refine ev_iinc (v := x2 + 1) (ls2 := [some (.ref 0), some (.int v1), some (.int (x2 + 1)), some (.int x3), some (.int x4)]) dX11_law_97 rfl rfl rfl ?_
      refine ev_goto (tgt := 4) dX11_law_100 (by decide) ?_
      refine Ev.weak (ls := [some (.ref 0), some (.int v1), some (.int (x2 + 1)), none, none]) ⟨rfl, rfl, rfl, trivial⟩ ?_
      exact h
  · replace h := h.2 c
    refine ev_iload_n dX11_law_31 rfl ?_
    refine ev_if_eq (tgt := 75) dX11_law_32 (by decide) (fun c => ?_) (fun c => ?_)
    · replace h := h.1 c
      refine ev_iconst (v := 0) dX11_law_75 (by decide) ?_
      refine ev_istore_n (ls2 := [some (.ref 0), some (.int x1), some (.int x2), some (.int 0), some (.int x4)]) dX11_law_76 (Nat.le_of_ble_eq_true rfl) rfl ?_
      refine ev_iinc (v := x4 + 1) (ls2 := [some (.ref 0), some (.int x1), some (.int x2), some (.int 0), some (.int (x4 + 1))]) dX11_law_77 rfl rfl rfl ?_
      refine ev_goto (tgt := 19) dX11_law_80 (by decide) ?_
      exact h
    · replace h := h.2 c
      refine ev_aload_n dX11_law_35 rfl ?_
      refine ev_iload_n dX11_law_36 rfl ?_
      refine ev_aload_n dX11_law_37 rfl ?_
      refine ev_getA dX11_law_38 fl_WithoutEModel_7 lm_0 rfl ?_
      refine ev_sipush (v := 509) dX11_law_41 (by decide) ?_
      refine ev_iconst (v := 2) dX11_law_44 (by decide) ?_
      refine ev_iload dX11_law_45 rfl ?_
      refine ev_imul dX11_law_47 ?_
      refine ev_iadd dX11_law_48 ?_
      obtain ⟨c, h⟩ := h
      refine ev_iald dX11_law_49 lm_1 c ?_
      obtain ⟨p1, h⟩ := h
      refine ev_callV [.int x2, .int (M.1 1 (509 + (2 * x4)).toNatClampNeg)] dX11_law_50 ml_WithoutEModel_349 lm_0 rfl rfl (Nat.le_of_ble_eq_true rfl) (qX11_stiffOf p1) ?_
      rintro zr M1 ⟨q1, q⟩
      rw [q1]
      replace h := h M1 q
      show Ev LM (d + 5) mX11_law 53 [some (.ref 0), some (.int x1), some (.int x2), some (.int x3), some (.int x4)] [(.int (stN M x2 (M.1 1 (509 + (2 * x4)).toNatClampNeg).toNatClampNeg))] M1 Q
      refine ev_aload_n dX11_law_53 rfl ?_
      refine ev_getA dX11_law_54 fl_WithoutEModel_7 lm_0 rfl ?_
      refine ev_sipush (v := 509) dX11_law_57 (by decide) ?_
      refine ev_iconst (v := 2) dX11_law_60 (by decide) ?_
      refine ev_iload dX11_law_61 rfl ?_
      refine ev_imul dX11_law_63 ?_
      refine ev_iadd dX11_law_64 ?_
      refine ev_iconst (v := 1) dX11_law_65 (by decide) ?_
      refine ev_iadd dX11_law_66 ?_
      obtain ⟨c, h⟩ := h
      refine ev_iald dX11_law_67 lm_1 c ?_
      refine ev_icmp_ne (tgt := 75) dX11_law_68 (by decide) (fun c => ?_) (fun c => ?_)
      · replace h := h.1 c
        refine ev_iconst (v := 0) dX11_law_75 (by decide) ?_
        refine ev_istore_n (ls2 := [some (.ref 0), some (.int x1), some (.int x2), some (.int 0), some (.int x4)]) dX11_law_76 (Nat.le_of_ble_eq_true rfl) rfl ?_
        refine ev_iinc (v := x4 + 1) (ls2 := [some (.ref 0), some (.int x1), some (.int x2), some (.int 0), some (.int (x4 + 1))]) dX11_law_77 rfl rfl rfl ?_
        refine ev_goto (tgt := 19) dX11_law_80 (by decide) ?_
        exact h
      · replace h := h.2 c
        refine ev_iconst (v := 1) dX11_law_71 (by decide) ?_
        refine ev_goto (tgt := 76) dX11_law_72 (by decide) ?_
        refine ev_istore_n (ls2 := [some (.ref 0), some (.int x1), some (.int x2), some (.int 1), some (.int x4)]) dX11_law_76 (Nat.le_of_ble_eq_true rfl) rfl ?_
        refine ev_iinc (v := x4 + 1) (ls2 := [some (.ref 0), some (.int x1), some (.int x2), some (.int 1), some (.int (x4 + 1))]) dX11_law_77 rfl rfl rfl ?_
        refine ev_goto (tgt := 19) dX11_law_80 (by decide) ?_
        exact h
