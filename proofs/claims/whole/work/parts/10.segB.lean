theorem dX5_holesOf_0 : decode cX5_holesOf 0 = .ok (.iconst 0, 1) := by decide +kernel
theorem dX5_holesOf_1 : decode cX5_holesOf 1 = .ok (.istore_n 3, 1) := by decide +kernel
theorem dX5_holesOf_2 : decode cX5_holesOf 2 = .ok (.iconst 0, 1) := by decide +kernel
theorem dX5_holesOf_3 : decode cX5_holesOf 3 = .ok (.istore 4, 2) := by decide +kernel
theorem dX5_holesOf_5 : decode cX5_holesOf 5 = .ok (.iload 4, 2) := by decide +kernel
theorem dX5_holesOf_7 : decode cX5_holesOf 7 = .ok (.aload_n 0, 1) := by decide +kernel
theorem dX5_holesOf_8 : decode cX5_holesOf 8 = .ok (.getfield 9, 3) := by decide +kernel
theorem dX5_holesOf_11 : decode cX5_holesOf 11 = .ok (.getfield 19, 3) := by decide +kernel
theorem dX5_holesOf_14 : decode cX5_holesOf 14 = .ok (.iload_n 1, 1) := by decide +kernel
theorem dX5_holesOf_15 : decode cX5_holesOf 15 = .ok (.iaload, 1) := by decide +kernel
theorem dX5_holesOf_16 : decode cX5_holesOf 16 = .ok (.if_icmp .ge 31, 3) := by decide +kernel
theorem dX5_holesOf_19 : decode cX5_holesOf 19 = .ok (.iload_n 2, 1) := by decide +kernel
theorem dX5_holesOf_20 : decode cX5_holesOf 20 = .ok (.aload_n 0, 1) := by decide +kernel
theorem dX5_holesOf_21 : decode cX5_holesOf 21 = .ok (.getfield 9, 3) := by decide +kernel
theorem dX5_holesOf_24 : decode cX5_holesOf 24 = .ok (.getfield 25, 3) := by decide +kernel
theorem dX5_holesOf_27 : decode cX5_holesOf 27 = .ok (.iload_n 1, 1) := by decide +kernel
theorem dX5_holesOf_28 : decode cX5_holesOf 28 = .ok (.aaload, 1) := by decide +kernel
theorem dX5_holesOf_29 : decode cX5_holesOf 29 = .ok (.iload 4, 2) := by decide +kernel
theorem dX5_holesOf_31 : decode cX5_holesOf 31 = .ok (.iaload, 1) := by decide +kernel
theorem dX5_holesOf_32 : decode cX5_holesOf 32 = .ok (.invokestatic 29, 3) := by decide +kernel
theorem dX5_holesOf_35 : decode cX5_holesOf 35 = .ok (.ifCond .eq 6, 3) := by decide +kernel
theorem dX5_holesOf_38 : decode cX5_holesOf 38 = .ok (.iinc 3 1, 3) := by decide +kernel
theorem dX5_holesOf_41 : decode cX5_holesOf 41 = .ok (.iinc 4 1, 3) := by decide +kernel
theorem dX5_holesOf_44 : decode cX5_holesOf 44 = .ok (.goto (-39), 3) := by decide +kernel
theorem dX5_holesOf_47 : decode cX5_holesOf 47 = .ok (.iload_n 3, 1) := by decide +kernel
theorem dX5_holesOf_48 : decode cX5_holesOf 48 = .ok (.ireturn, 1) := by decide +kernel
theorem gX5_holesOf_0 {d : Nat} {M : ev_Mem} {Q : Option Value → ev_Mem → Prop} {x1 x2 : Int32} (h : (Ev LX d mX5_holesOf 5 [some (.ref 82), some (.int x1), some (.int x2), some (.int 0), some (.int 0)] [] M Q)) : Ev LX d mX5_holesOf 0 [some (.ref 82), some (.int x1), some (.int x2), none, none] [] M Q := by
  refine ev_iconst (v := 0) dX5_holesOf_0 (by decide) ?_
  refine ev_istore_n (ls2 := [some (.ref 82), some (.int x1), some (.int x2), some (.int 0), none]) dX5_holesOf_1 (Nat.le_of_ble_eq_true rfl) rfl ?_
  refine ev_iconst (v := 0) dX5_holesOf_2 (by decide) ?_
  refine ev_istore (ls2 := [some (.ref 82), some (.int x1), some (.int x2), some (.int 0), some (.int 0)]) dX5_holesOf_3 (Nat.le_of_ble_eq_true rfl) rfl ?_
  exact h
theorem gX5_holesOf_5 {d : Nat} {M : ev_Mem} {Q : Option Value → ev_Mem → Prop} {x1 x2 x3 x4 : Int32} (h : (vp_in x1 24 ∧ ((((M.1 29 x1.toNatClampNeg) ≤ x4) → (Q (some (.int x3)) M)) ∧ ((¬ (M.1 29 x1.toNatClampNeg) ≤ x4) → (vp_in x1 24 ∧ (vp_in x4 9 ∧ ((((hs x2 (M.1 (5 + x1.toNatClampNeg) x4.toNatClampNeg)) = false) → (Ev LX (d + 1) mX5_holesOf 5 [some (.ref 82), some (.int x1), some (.int x2), some (.int x3), some (.int (x4 + 1))] [] M Q)) ∧ (((hs x2 (M.1 (5 + x1.toNatClampNeg) x4.toNatClampNeg)) = true) → (Ev LX (d + 1) mX5_holesOf 5 [some (.ref 82), some (.int x1), some (.int x2), some (.int (x3 + 1)), some (.int (x4 + 1))] [] M Q))))))))) : Ev LX (d + 1) mX5_holesOf 5 [some (.ref 82), some (.int x1), some (.int x2), some (.int x3), some (.int x4)] [] M Q := by
  refine ev_iload dX5_holesOf_5 rfl ?_
  refine ev_aload_n dX5_holesOf_7 rfl ?_
  refine ev_getA dX5_holesOf_8 fl_WithoutE_Sound_9 lx_82 rfl ?_
  refine ev_getA dX5_holesOf_11 fl_WithoutE_Sound_19 lx_3 rfl ?_
  refine ev_iload_n dX5_holesOf_14 rfl ?_
  obtain ⟨c, h⟩ := h
  refine ev_iald dX5_holesOf_15 lx_29 c ?_
  refine ev_icmp_ge (tgt := 47) dX5_holesOf_16 (by decide) (fun c => ?_) (fun c => ?_)
  · replace h := h.1 c
    refine ev_iload_n dX5_holesOf_47 rfl ?_
    exact ev_iret dX5_holesOf_48 rfl h
  · replace h := h.2 c
    refine ev_iload_n dX5_holesOf_19 rfl ?_
    refine ev_aload_n dX5_holesOf_20 rfl ?_
    refine ev_getA dX5_holesOf_21 fl_WithoutE_Sound_9 lx_82 rfl ?_
    refine ev_getA dX5_holesOf_24 fl_WithoutE_Sound_25 lx_3 rfl ?_
    refine ev_iload_n dX5_holesOf_27 rfl ?_
    obtain ⟨b1, h⟩ := h
    refine ev_aald dX5_holesOf_28 lx_4 (fun _ => rfl) rfl b1 ?_
    refine ev_iload dX5_holesOf_29 rfl ?_
    obtain ⟨c, h⟩ := h
    refine ev_iald dX5_holesOf_31 (lx_sp (ev_lt b1)) c ?_
    refine ev_callN [.int x2, .int (M.1 (5 + x1.toNatClampNeg) x4.toNatClampNeg)] dX5_holesOf_32 ml_WithoutE_Sound_29 rfl (Nat.le_of_ble_eq_true rfl) (kX10_has) ?_
    rintro r9 M9 ⟨q1, q2⟩
    rw [q1, q2]
    show Ev LX (d + 1) mX5_holesOf 35 [some (.ref 82), some (.int x1), some (.int x2), some (.int x3), some (.int x4)] [(.int (bi (hs x2 (M.1 (5 + x1.toNatClampNeg) x4.toNatClampNeg))))] M Q
    refine ev_if_eq (tgt := 41) dX5_holesOf_35 (by decide) (fun c => ?_) (fun c => ?_)
    · replace h := h.1 ((bi_0 _).mp c)
      refine ev_iinc (v := x4 + 1) (ls2 := [some (.ref 82), some (.int x1), some (.int x2), some (.int x3), some (.int (x4 + 1))]) dX5_holesOf_41 rfl rfl rfl ?_
      refine ev_goto (tgt := 5) dX5_holesOf_44 (by decide) ?_
      exact h
    · replace h := h.2 ((bi_n0 _).mp c)
      refine ev_iinc (v := x3 + 1) (ls2 := [some (.ref 82), some (.int x1), some (.int x2), some (.int (x3 + 1)), some (.int x4)]) dX5_holesOf_38 rfl rfl rfl ?_
      refine ev_iinc (v := x4 + 1) (ls2 := [some (.ref 82), some (.int x1), some (.int x2), some (.int (x3 + 1)), some (.int (x4 + 1))]) dX5_holesOf_41 rfl rfl rfl ?_
      refine ev_goto (tgt := 5) dX5_holesOf_44 (by decide) ?_
      exact h
theorem dX5_looksOf_0 : decode cX5_looksOf 0 = .ok (.iconst 0, 1) := by decide +kernel
theorem dX5_looksOf_1 : decode cX5_looksOf 1 = .ok (.istore_n 3, 1) := by decide +kernel
theorem dX5_looksOf_2 : decode cX5_looksOf 2 = .ok (.iconst 0, 1) := by decide +kernel
theorem dX5_looksOf_3 : decode cX5_looksOf 3 = .ok (.istore 4, 2) := by decide +kernel
theorem dX5_looksOf_5 : decode cX5_looksOf 5 = .ok (.iload 4, 2) := by decide +kernel
theorem dX5_looksOf_7 : decode cX5_looksOf 7 = .ok (.aload_n 0, 1) := by decide +kernel
theorem dX5_looksOf_8 : decode cX5_looksOf 8 = .ok (.getfield 9, 3) := by decide +kernel
theorem dX5_looksOf_11 : decode cX5_looksOf 11 = .ok (.getfield 19, 3) := by decide +kernel
theorem dX5_looksOf_14 : decode cX5_looksOf 14 = .ok (.iload_n 1, 1) := by decide +kernel
theorem dX5_looksOf_15 : decode cX5_looksOf 15 = .ok (.iaload, 1) := by decide +kernel
theorem dX5_looksOf_16 : decode cX5_looksOf 16 = .ok (.if_icmp .ge 45, 3) := by decide +kernel
theorem dX5_looksOf_19 : decode cX5_looksOf 19 = .ok (.aload_n 0, 1) := by decide +kernel
theorem dX5_looksOf_20 : decode cX5_looksOf 20 = .ok (.getfield 9, 3) := by decide +kernel
theorem dX5_looksOf_23 : decode cX5_looksOf 23 = .ok (.getfield 25, 3) := by decide +kernel
theorem dX5_looksOf_26 : decode cX5_looksOf 26 = .ok (.iload_n 1, 1) := by decide +kernel
theorem dX5_looksOf_27 : decode cX5_looksOf 27 = .ok (.aaload, 1) := by decide +kernel
theorem dX5_looksOf_28 : decode cX5_looksOf 28 = .ok (.iload 4, 2) := by decide +kernel
theorem dX5_looksOf_30 : decode cX5_looksOf 30 = .ok (.iaload, 1) := by decide +kernel
theorem dX5_looksOf_31 : decode cX5_looksOf 31 = .ok (.istore 5, 2) := by decide +kernel
theorem dX5_looksOf_33 : decode cX5_looksOf 33 = .ok (.iload_n 2, 1) := by decide +kernel
theorem dX5_looksOf_34 : decode cX5_looksOf 34 = .ok (.iload 5, 2) := by decide +kernel
theorem dX5_looksOf_36 : decode cX5_looksOf 36 = .ok (.invokestatic 29, 3) := by decide +kernel
theorem dX5_looksOf_39 : decode cX5_looksOf 39 = .ok (.ifCond .eq 16, 3) := by decide +kernel
theorem dX5_looksOf_42 : decode cX5_looksOf 42 = .ok (.iload_n 3, 1) := by decide +kernel
theorem dX5_looksOf_43 : decode cX5_looksOf 43 = .ok (.aload_n 0, 1) := by decide +kernel
theorem dX5_looksOf_44 : decode cX5_looksOf 44 = .ok (.getfield 15, 3) := by decide +kernel
theorem dX5_looksOf_47 : decode cX5_looksOf 47 = .ok (.getfield 46, 3) := by decide +kernel
theorem dX5_looksOf_50 : decode cX5_looksOf 50 = .ok (.iload 5, 2) := by decide +kernel
theorem dX5_looksOf_52 : decode cX5_looksOf 52 = .ok (.iaload, 1) := by decide +kernel
theorem dX5_looksOf_53 : decode cX5_looksOf 53 = .ok (.iadd, 1) := by decide +kernel
theorem dX5_looksOf_54 : decode cX5_looksOf 54 = .ok (.istore_n 3, 1) := by decide +kernel
theorem dX5_looksOf_55 : decode cX5_looksOf 55 = .ok (.iinc 4 1, 3) := by decide +kernel
theorem dX5_looksOf_58 : decode cX5_looksOf 58 = .ok (.goto (-53), 3) := by decide +kernel
theorem dX5_looksOf_61 : decode cX5_looksOf 61 = .ok (.iload_n 3, 1) := by decide +kernel
theorem dX5_looksOf_62 : decode cX5_looksOf 62 = .ok (.ireturn, 1) := by decide +kernel
theorem gX5_looksOf_0 {d : Nat} {M : ev_Mem} {Q : Option Value → ev_Mem → Prop} {x1 x2 : Int32} (h : (Ev LX d mX5_looksOf 5 [some (.ref 82), some (.int x1), some (.int x2), some (.int 0), some (.int 0), none] [] M Q)) : Ev LX d mX5_looksOf 0 [some (.ref 82), some (.int x1), some (.int x2), none, none, none] [] M Q := by
  refine ev_iconst (v := 0) dX5_looksOf_0 (by decide) ?_
  refine ev_istore_n (ls2 := [some (.ref 82), some (.int x1), some (.int x2), some (.int 0), none, none]) dX5_looksOf_1 (Nat.le_of_ble_eq_true rfl) rfl ?_
  refine ev_iconst (v := 0) dX5_looksOf_2 (by decide) ?_
  refine ev_istore (ls2 := [some (.ref 82), some (.int x1), some (.int x2), some (.int 0), some (.int 0), none]) dX5_looksOf_3 (Nat.le_of_ble_eq_true rfl) rfl ?_
  exact h
theorem gX5_looksOf_5 {d : Nat} {M : ev_Mem} {Q : Option Value → ev_Mem → Prop} {x1 x2 x3 x4 : Int32} (h : (vp_in x1 24 ∧ ((((M.1 29 x1.toNatClampNeg) ≤ x4) → (Q (some (.int x3)) M)) ∧ ((¬ (M.1 29 x1.toNatClampNeg) ≤ x4) → (vp_in x1 24 ∧ (vp_in x4 9 ∧ (∀ v1 : Int32, v1 = M.1 (5 + x1.toNatClampNeg) x4.toNatClampNeg → ((((hs x2 v1) = false) → (Ev LX (d + 1) mX5_looksOf 5 [some (.ref 82), some (.int x1), some (.int x2), some (.int x3), some (.int (x4 + 1)), none] [] M Q)) ∧ (((hs x2 v1) = true) → (vp_in v1 26 ∧ (∀ v2 : Int32, v2 = x3 + (M.1 49 v1.toNatClampNeg) → (Ev LX (d + 1) mX5_looksOf 5 [some (.ref 82), some (.int x1), some (.int x2), some (.int v2), some (.int (x4 + 1)), none] [] M Q)))))))))))) : Ev LX (d + 1) mX5_looksOf 5 [some (.ref 82), some (.int x1), some (.int x2), some (.int x3), some (.int x4), none] [] M Q := by
  refine ev_iload dX5_looksOf_5 rfl ?_
  refine ev_aload_n dX5_looksOf_7 rfl ?_
  refine ev_getA dX5_looksOf_8 fl_WithoutE_Sound_9 lx_82 rfl ?_
  refine ev_getA dX5_looksOf_11 fl_WithoutE_Sound_19 lx_3 rfl ?_
  refine ev_iload_n dX5_looksOf_14 rfl ?_
  obtain ⟨c, h⟩ := h
  refine ev_iald dX5_looksOf_15 lx_29 c ?_
  refine ev_icmp_ge (tgt := 61) dX5_looksOf_16 (by decide) (fun c => ?_) (fun c => ?_)
  · replace h := h.1 c
    refine ev_iload_n dX5_looksOf_61 rfl ?_
    exact ev_iret dX5_looksOf_62 rfl h
  · replace h := h.2 c
    refine ev_aload_n dX5_looksOf_19 rfl ?_
    refine ev_getA dX5_looksOf_20 fl_WithoutE_Sound_9 lx_82 rfl ?_
    refine ev_getA dX5_looksOf_23 fl_WithoutE_Sound_25 lx_3 rfl ?_
    refine ev_iload_n dX5_looksOf_26 rfl ?_
    obtain ⟨b1, h⟩ := h
    refine ev_aald dX5_looksOf_27 lx_4 (fun _ => rfl) rfl b1 ?_
    refine ev_iload dX5_looksOf_28 rfl ?_
    obtain ⟨c, h⟩ := h
    refine ev_iald dX5_looksOf_30 (lx_sp (ev_lt b1)) c ?_
    refine ev_istore (ls2 := [some (.ref 82), some (.int x1), some (.int x2), some (.int x3), some (.int x4), some (.int (M.1 (5 + x1.toNatClampNeg) x4.toNatClampNeg))]) dX5_looksOf_31 (Nat.le_of_ble_eq_true rfl) rfl ?_
    generalize ev1 : M.1 (5 + x1.toNatClampNeg) x4.toNatClampNeg = v1
    replace h := h v1 ev1.symm
    refine ev_iload_n dX5_looksOf_33 rfl ?_
    refine ev_iload dX5_looksOf_34 rfl ?_
    refine ev_callN [.int x2, .int v1] dX5_looksOf_36 ml_WithoutE_Sound_29 rfl (Nat.le_of_ble_eq_true rfl) (kX10_has) ?_
    rintro r9 M9 ⟨q1, q2⟩
    rw [q1, q2]
    show Ev LX (d + 1) mX5_looksOf 39 [some (.ref 82), some (.int x1), some (.int x2), some (.int x3), some (.int x4), some (.int v1)] [(.int (bi (hs x2 v1)))] M Q
    refine ev_if_eq (tgt := 55) dX5_looksOf_39 (by decide) (fun c => ?_) (fun c => ?_)
    · replace h := h.1 ((bi_0 _).mp c)
      refine ev_iinc (v := x4 + 1) (ls2 := [some (.ref 82), some (.int x1), some (.int x2), some (.int x3), some (.int (x4 + 1)), some (.int v1)]) dX5_looksOf_55 rfl rfl rfl ?_
      refine ev_goto (tgt := 5) dX5_looksOf_58 (by decide) ?_
      refine Ev.weak (ls := [some (.ref 82), some (.int x1), some (.int x2), some (.int x3), some (.int (x4 + 1)), none]) ⟨rfl, rfl, rfl, rfl, rfl, trivial⟩ ?_
      exact h
    · replace h := h.2 ((bi_n0 _).mp c)
      refine ev_iload_n dX5_looksOf_42 rfl ?_
      refine ev_aload_n dX5_looksOf_43 rfl ?_
      refine ev_getA dX5_looksOf_44 fl_WithoutE_Sound_15 lx_82 rfl ?_
      refine ev_getA dX5_looksOf_47 fl_WithoutE_Sound_46 lx_47 rfl ?_
      refine ev_iload dX5_looksOf_50 rfl ?_
      obtain ⟨c, h⟩ := h
      refine ev_iald dX5_looksOf_52 lx_49 c ?_
      refine ev_iadd dX5_looksOf_53 ?_
      refine ev_istore_n (ls2 := [some (.ref 82), some (.int x1), some (.int x2), some (.int (x3 + (M.1 49 v1.toNatClampNeg))), some (.int x4), some (.int v1)]) dX5_looksOf_54 (Nat.le_of_ble_eq_true rfl) rfl ?_
      generalize ev2 : x3 + (M.1 49 v1.toNatClampNeg) = v2
      replace h := h v2 ev2.symm
      refine ev_iinc (v := x4 + 1) (ls2 := [some (.ref 82), some (.int x1), some (.int x2), some (.int v2), some (.int (x4 + 1)), some (.int v1)]) dX5_looksOf_55 rfl rfl rfl ?_
      refine ev_goto (tgt := 5) dX5_looksOf_58 (by decide) ?_
      refine Ev.weak (ls := [some (.ref 82), some (.int x1), some (.int x2), some (.int v2), some (.int (x4 + 1)), none]) ⟨rfl, rfl, rfl, rfl, rfl, trivial⟩ ?_
      exact h
theorem dX5_isMendable_0 : decode cX5_isMendable 0 = .ok (.aload_n 0, 1) := by decide +kernel
theorem dX5_isMendable_1 : decode cX5_isMendable 1 = .ok (.getfield 15, 3) := by decide +kernel
theorem dX5_isMendable_4 : decode cX5_isMendable 4 = .ok (.getfield 54, 3) := by decide +kernel
theorem dX5_isMendable_7 : decode cX5_isMendable 7 = .ok (.iload_n 1, 1) := by decide +kernel
theorem dX5_isMendable_8 : decode cX5_isMendable 8 = .ok (.iaload, 1) := by decide +kernel
theorem dX5_isMendable_9 : decode cX5_isMendable 9 = .ok (.istore_n 3, 1) := by decide +kernel
theorem dX5_isMendable_10 : decode cX5_isMendable 10 = .ok (.iload_n 3, 1) := by decide +kernel
theorem dX5_isMendable_11 : decode cX5_isMendable 11 = .ok (.invokestatic 57, 3) := by decide +kernel
theorem dX5_isMendable_14 : decode cX5_isMendable 14 = .ok (.ifCond .eq 15, 3) := by decide +kernel
theorem dX5_isMendable_17 : decode cX5_isMendable 17 = .ok (.iload_n 2, 1) := by decide +kernel
theorem dX5_isMendable_18 : decode cX5_isMendable 18 = .ok (.iload_n 3, 1) := by decide +kernel
theorem dX5_isMendable_19 : decode cX5_isMendable 19 = .ok (.invokestatic 29, 3) := by decide +kernel
theorem dX5_isMendable_22 : decode cX5_isMendable 22 = .ok (.ifCond .ne 7, 3) := by decide +kernel
theorem dX5_isMendable_25 : decode cX5_isMendable 25 = .ok (.iconst 1, 1) := by decide +kernel
theorem dX5_isMendable_26 : decode cX5_isMendable 26 = .ok (.goto 4, 3) := by decide +kernel
theorem dX5_isMendable_29 : decode cX5_isMendable 29 = .ok (.iconst 0, 1) := by decide +kernel
theorem dX5_isMendable_30 : decode cX5_isMendable 30 = .ok (.ireturn, 1) := by decide +kernel
theorem gX5_isMendable_0 {d : Nat} {M : ev_Mem} {Q : Option Value → ev_Mem → Prop} {x1 x2 : Int32} (h : (vp_in x1 26 ∧ ((((iin (M.1 48 x1.toNatClampNeg) 0 25) = false) → (Q (some (.int 0)) M)) ∧ (((iin (M.1 48 x1.toNatClampNeg) 0 25) = true) → ((((hs x2 (M.1 48 x1.toNatClampNeg)) = true) → (Q (some (.int 0)) M)) ∧ (((hs x2 (M.1 48 x1.toNatClampNeg)) = false) → (Q (some (.int 1)) M))))))) : Ev LX (d + 1) mX5_isMendable 0 [some (.ref 82), some (.int x1), some (.int x2), none] [] M Q := by
  refine ev_aload_n dX5_isMendable_0 rfl ?_
  refine ev_getA dX5_isMendable_1 fl_WithoutE_Sound_15 lx_82 rfl ?_
  refine ev_getA dX5_isMendable_4 fl_WithoutE_Sound_54 lx_47 rfl ?_
  refine ev_iload_n dX5_isMendable_7 rfl ?_
  obtain ⟨c, h⟩ := h
  refine ev_iald dX5_isMendable_8 lx_48 c ?_
  refine ev_istore_n (ls2 := [some (.ref 82), some (.int x1), some (.int x2), some (.int (M.1 48 x1.toNatClampNeg))]) dX5_isMendable_9 (Nat.le_of_ble_eq_true rfl) rfl ?_
  refine ev_iload_n dX5_isMendable_10 rfl ?_
  refine ev_callN [.int (M.1 48 x1.toNatClampNeg)] dX5_isMendable_11 ml_WithoutE_Sound_57 rfl (Nat.le_of_ble_eq_true rfl) (kX10_isLetter) ?_
  rintro r9 M9 ⟨q1, q2⟩
  rw [q1, q2]
  show Ev LX (d + 1) mX5_isMendable 14 [some (.ref 82), some (.int x1), some (.int x2), some (.int (M.1 48 x1.toNatClampNeg))] [(.int (bi (iin (M.1 48 x1.toNatClampNeg) 0 25)))] M Q
  refine ev_if_eq (tgt := 29) dX5_isMendable_14 (by decide) (fun c => ?_) (fun c => ?_)
  · replace h := h.1 ((bi_0 _).mp c)
    refine ev_iconst (v := 0) dX5_isMendable_29 (by decide) ?_
    exact ev_zret dX5_isMendable_30 rfl (by decide) h
  · replace h := h.2 ((bi_n0 _).mp c)
    refine ev_iload_n dX5_isMendable_17 rfl ?_
    refine ev_iload_n dX5_isMendable_18 rfl ?_
    refine ev_callN [.int x2, .int (M.1 48 x1.toNatClampNeg)] dX5_isMendable_19 ml_WithoutE_Sound_29 rfl (Nat.le_of_ble_eq_true rfl) (kX10_has) ?_
    rintro r9 M9 ⟨q1, q2⟩
    rw [q1, q2]
    show Ev LX (d + 1) mX5_isMendable 22 [some (.ref 82), some (.int x1), some (.int x2), some (.int (M.1 48 x1.toNatClampNeg))] [(.int (bi (hs x2 (M.1 48 x1.toNatClampNeg))))] M Q
    refine ev_if_ne (tgt := 29) dX5_isMendable_22 (by decide) (fun c => ?_) (fun c => ?_)
    · replace h := h.1 ((bi_n0 _).mp c)
      refine ev_iconst (v := 0) dX5_isMendable_29 (by decide) ?_
      exact ev_zret dX5_isMendable_30 rfl (by decide) h
    · replace h := h.2 ((bi_0 _).mp c)
      refine ev_iconst (v := 1) dX5_isMendable_25 (by decide) ?_
      refine ev_goto (tgt := 30) dX5_isMendable_26 (by decide) ?_
      exact ev_zret dX5_isMendable_30 rfl (by decide) h
theorem dX5_keyFor_0 : decode cX5_keyFor 0 = .ok (.aload_n 0, 1) := by decide +kernel
theorem dX5_keyFor_1 : decode cX5_keyFor 1 = .ok (.getfield 9, 3) := by decide +kernel
theorem dX5_keyFor_4 : decode cX5_keyFor 4 = .ok (.getfield 25, 3) := by decide +kernel
theorem dX5_keyFor_7 : decode cX5_keyFor 7 = .ok (.iload_n 1, 1) := by decide +kernel
theorem dX5_keyFor_8 : decode cX5_keyFor 8 = .ok (.aaload, 1) := by decide +kernel
theorem dX5_keyFor_9 : decode cX5_keyFor 9 = .ok (.iload_n 2, 1) := by decide +kernel
theorem dX5_keyFor_10 : decode cX5_keyFor 10 = .ok (.iaload, 1) := by decide +kernel
theorem dX5_keyFor_11 : decode cX5_keyFor 11 = .ok (.istore 4, 2) := by decide +kernel
theorem dX5_keyFor_13 : decode cX5_keyFor 13 = .ok (.iload_n 3, 1) := by decide +kernel
theorem dX5_keyFor_14 : decode cX5_keyFor 14 = .ok (.iload 4, 2) := by decide +kernel
theorem dX5_keyFor_16 : decode cX5_keyFor 16 = .ok (.invokestatic 29, 3) := by decide +kernel
theorem dX5_keyFor_19 : decode cX5_keyFor 19 = .ok (.ifCond .ne 6, 3) := by decide +kernel
theorem dX5_keyFor_22 : decode cX5_keyFor 22 = .ok (.iload 4, 2) := by decide +kernel
theorem dX5_keyFor_24 : decode cX5_keyFor 24 = .ok (.ireturn, 1) := by decide +kernel
theorem dX5_keyFor_25 : decode cX5_keyFor 25 = .ok (.aload_n 0, 1) := by decide +kernel
theorem dX5_keyFor_26 : decode cX5_keyFor 26 = .ok (.getfield 9, 3) := by decide +kernel
theorem dX5_keyFor_29 : decode cX5_keyFor 29 = .ok (.getfield 33, 3) := by decide +kernel
theorem dX5_keyFor_32 : decode cX5_keyFor 32 = .ok (.iload_n 1, 1) := by decide +kernel
theorem dX5_keyFor_33 : decode cX5_keyFor 33 = .ok (.iaload, 1) := by decide +kernel
theorem dX5_keyFor_34 : decode cX5_keyFor 34 = .ok (.iconst 5, 1) := by decide +kernel
theorem dX5_keyFor_35 : decode cX5_keyFor 35 = .ok (.if_icmp .ne 16, 3) := by decide +kernel
theorem dX5_keyFor_38 : decode cX5_keyFor 38 = .ok (.aload_n 0, 1) := by decide +kernel
theorem dX5_keyFor_39 : decode cX5_keyFor 39 = .ok (.getfield 15, 3) := by decide +kernel
theorem dX5_keyFor_42 : decode cX5_keyFor 42 = .ok (.getfield 54, 3) := by decide +kernel
theorem dX5_keyFor_45 : decode cX5_keyFor 45 = .ok (.iload 4, 2) := by decide +kernel
theorem dX5_keyFor_47 : decode cX5_keyFor 47 = .ok (.iaload, 1) := by decide +kernel
theorem dX5_keyFor_48 : decode cX5_keyFor 48 = .ok (.goto 4, 3) := by decide +kernel
theorem dX5_keyFor_51 : decode cX5_keyFor 51 = .ok (.iconst (-1), 1) := by decide +kernel
theorem dX5_keyFor_52 : decode cX5_keyFor 52 = .ok (.ireturn, 1) := by decide +kernel
theorem gX5_keyFor_0 {d : Nat} {M : ev_Mem} {Q : Option Value → ev_Mem → Prop} {x1 x2 x3 : Int32} (h : (vp_in x1 24 ∧ (vp_in x2 9 ∧ (∀ v1 : Int32, v1 = M.1 (5 + x1.toNatClampNeg) x2.toNatClampNeg → ((((hs x3 v1) = true) → (vp_in x1 24 ∧ (((¬ (M.1 30 x1.toNatClampNeg) = 5) → (Q (some (.int (-1))) M)) ∧ (((M.1 30 x1.toNatClampNeg) = 5) → (vp_in v1 26 ∧ (Q (some (.int (M.1 48 v1.toNatClampNeg))) M)))))) ∧ (((hs x3 v1) = false) → (Q (some (.int v1)) M))))))) : Ev LX (d + 1) mX5_keyFor 0 [some (.ref 82), some (.int x1), some (.int x2), some (.int x3), none] [] M Q := by
  refine ev_aload_n dX5_keyFor_0 rfl ?_
  refine ev_getA dX5_keyFor_1 fl_WithoutE_Sound_9 lx_82 rfl ?_
  refine ev_getA dX5_keyFor_4 fl_WithoutE_Sound_25 lx_3 rfl ?_
  refine ev_iload_n dX5_keyFor_7 rfl ?_
  obtain ⟨b1, h⟩ := h
  refine ev_aald dX5_keyFor_8 lx_4 (fun _ => rfl) rfl b1 ?_
  refine ev_iload_n dX5_keyFor_9 rfl ?_
  obtain ⟨c, h⟩ := h
  refine ev_iald dX5_keyFor_10 (lx_sp (ev_lt b1)) c ?_
  refine ev_istore (ls2 := [some (.ref 82), some (.int x1), some (.int x2), some (.int x3), some (.int (M.1 (5 + x1.toNatClampNeg) x2.toNatClampNeg))]) dX5_keyFor_11 (Nat.le_of_ble_eq_true rfl) rfl ?_
  generalize ev1 : M.1 (5 + x1.toNatClampNeg) x2.toNatClampNeg = v1
  replace h := h v1 ev1.symm
  refine ev_iload_n dX5_keyFor_13 rfl ?_
  refine ev_iload dX5_keyFor_14 rfl ?_
  refine ev_callN [.int x3, .int v1] dX5_keyFor_16 ml_WithoutE_Sound_29 rfl (Nat.le_of_ble_eq_true rfl) (kX10_has) ?_
  rintro r9 M9 ⟨q1, q2⟩
  rw [q1, q2]
  show Ev LX (d + 1) mX5_keyFor 19 [some (.ref 82), some (.int x1), some (.int x2), some (.int x3), some (.int v1)] [(.int (bi (hs x3 v1)))] M Q
  refine ev_if_ne (tgt := 25) dX5_keyFor_19 (by decide) (fun c => ?_) (fun c => ?_)
  · replace h := h.1 ((bi_n0 _).mp c)
    refine ev_aload_n dX5_keyFor_25 rfl ?_
    refine ev_getA dX5_keyFor_26 fl_WithoutE_Sound_9 lx_82 rfl ?_
    refine ev_getA dX5_keyFor_29 fl_WithoutE_Sound_33 lx_3 rfl ?_
    refine ev_iload_n dX5_keyFor_32 rfl ?_
    obtain ⟨c, h⟩ := h
    refine ev_iald dX5_keyFor_33 lx_30 c ?_
    refine ev_iconst (v := 5) dX5_keyFor_34 (by decide) ?_
    refine ev_icmp_ne (tgt := 51) dX5_keyFor_35 (by decide) (fun c => ?_) (fun c => ?_)
    · replace h := h.1 c
      refine ev_iconst (v := -1) dX5_keyFor_51 (by decide) ?_
      exact ev_iret dX5_keyFor_52 rfl h
    · replace h := h.2 c
      refine ev_aload_n dX5_keyFor_38 rfl ?_
      refine ev_getA dX5_keyFor_39 fl_WithoutE_Sound_15 lx_82 rfl ?_
      refine ev_getA dX5_keyFor_42 fl_WithoutE_Sound_54 lx_47 rfl ?_
      refine ev_iload dX5_keyFor_45 rfl ?_
      obtain ⟨c, h⟩ := h
      refine ev_iald dX5_keyFor_47 lx_48 c ?_
      refine ev_goto (tgt := 52) dX5_keyFor_48 (by decide) ?_
      exact ev_iret dX5_keyFor_52 rfl h
  · replace h := h.2 ((bi_0 _).mp c)
    refine ev_iload dX5_keyFor_22 rfl ?_
    exact ev_iret dX5_keyFor_24 rfl h
theorem dX0_lettersOf_0 : decode cX0_lettersOf 0 = .ok (.iconst 0, 1) := by decide +kernel
theorem dX0_lettersOf_1 : decode cX0_lettersOf 1 = .ok (.istore_n 2, 1) := by decide +kernel
theorem dX0_lettersOf_2 : decode cX0_lettersOf 2 = .ok (.iconst 0, 1) := by decide +kernel
theorem dX0_lettersOf_3 : decode cX0_lettersOf 3 = .ok (.istore_n 3, 1) := by decide +kernel
theorem dX0_lettersOf_4 : decode cX0_lettersOf 4 = .ok (.iload_n 3, 1) := by decide +kernel
theorem dX0_lettersOf_5 : decode cX0_lettersOf 5 = .ok (.aload_n 0, 1) := by decide +kernel
theorem dX0_lettersOf_6 : decode cX0_lettersOf 6 = .ok (.getfield 16, 3) := by decide +kernel
theorem dX0_lettersOf_9 : decode cX0_lettersOf 9 = .ok (.iload_n 1, 1) := by decide +kernel
theorem dX0_lettersOf_10 : decode cX0_lettersOf 10 = .ok (.iaload, 1) := by decide +kernel
theorem dX0_lettersOf_11 : decode cX0_lettersOf 11 = .ok (.if_icmp .ge 22, 3) := by decide +kernel
theorem dX0_lettersOf_14 : decode cX0_lettersOf 14 = .ok (.iload_n 2, 1) := by decide +kernel
theorem dX0_lettersOf_15 : decode cX0_lettersOf 15 = .ok (.iconst 1, 1) := by decide +kernel
theorem dX0_lettersOf_16 : decode cX0_lettersOf 16 = .ok (.aload_n 0, 1) := by decide +kernel
theorem dX0_lettersOf_17 : decode cX0_lettersOf 17 = .ok (.getfield 11, 3) := by decide +kernel
theorem dX0_lettersOf_20 : decode cX0_lettersOf 20 = .ok (.iload_n 1, 1) := by decide +kernel
theorem dX0_lettersOf_21 : decode cX0_lettersOf 21 = .ok (.aaload, 1) := by decide +kernel
theorem dX0_lettersOf_22 : decode cX0_lettersOf 22 = .ok (.iload_n 3, 1) := by decide +kernel
theorem dX0_lettersOf_23 : decode cX0_lettersOf 23 = .ok (.iaload, 1) := by decide +kernel
theorem dX0_lettersOf_24 : decode cX0_lettersOf 24 = .ok (.ishl, 1) := by decide +kernel
theorem dX0_lettersOf_25 : decode cX0_lettersOf 25 = .ok (.ior, 1) := by decide +kernel
theorem dX0_lettersOf_26 : decode cX0_lettersOf 26 = .ok (.istore_n 2, 1) := by decide +kernel
theorem dX0_lettersOf_27 : decode cX0_lettersOf 27 = .ok (.iinc 3 1, 3) := by decide +kernel
theorem dX0_lettersOf_30 : decode cX0_lettersOf 30 = .ok (.goto (-26), 3) := by decide +kernel
theorem dX0_lettersOf_33 : decode cX0_lettersOf 33 = .ok (.iload_n 2, 1) := by decide +kernel
theorem dX0_lettersOf_34 : decode cX0_lettersOf 34 = .ok (.ireturn, 1) := by decide +kernel
theorem gX0_lettersOf_0 {d : Nat} {M : ev_Mem} {Q : Option Value → ev_Mem → Prop} {x1 : Int32} (h : (Ev LX d mX0_lettersOf 4 [some (.ref 3), some (.int x1), some (.int 0), some (.int 0)] [] M Q)) : Ev LX d mX0_lettersOf 0 [some (.ref 3), some (.int x1), none, none] [] M Q := by
  refine ev_iconst (v := 0) dX0_lettersOf_0 (by decide) ?_
  refine ev_istore_n (ls2 := [some (.ref 3), some (.int x1), some (.int 0), none]) dX0_lettersOf_1 (Nat.le_of_ble_eq_true rfl) rfl ?_
  refine ev_iconst (v := 0) dX0_lettersOf_2 (by decide) ?_
  refine ev_istore_n (ls2 := [some (.ref 3), some (.int x1), some (.int 0), some (.int 0)]) dX0_lettersOf_3 (Nat.le_of_ble_eq_true rfl) rfl ?_
  exact h
theorem gX0_lettersOf_4 {d : Nat} {M : ev_Mem} {Q : Option Value → ev_Mem → Prop} {x1 x2 x3 : Int32} (h : (vp_in x1 24 ∧ ((((M.1 29 x1.toNatClampNeg) ≤ x3) → (Q (some (.int x2)) M)) ∧ ((¬ (M.1 29 x1.toNatClampNeg) ≤ x3) → (vp_in x1 24 ∧ (vp_in x3 9 ∧ (∀ v1 : Int32, v1 = x2 ||| (1 <<< ((M.1 (5 + x1.toNatClampNeg) x3.toNatClampNeg) &&& 31)) → (Ev LX d mX0_lettersOf 4 [some (.ref 3), some (.int x1), some (.int v1), some (.int (x3 + 1))] [] M Q)))))))) : Ev LX d mX0_lettersOf 4 [some (.ref 3), some (.int x1), some (.int x2), some (.int x3)] [] M Q := by
  refine ev_iload_n dX0_lettersOf_4 rfl ?_
  refine ev_aload_n dX0_lettersOf_5 rfl ?_
  refine ev_getA dX0_lettersOf_6 fl_WithoutE_Dictionary_16 lx_3 rfl ?_
  refine ev_iload_n dX0_lettersOf_9 rfl ?_
  obtain ⟨c, h⟩ := h
  refine ev_iald dX0_lettersOf_10 lx_29 c ?_
  refine ev_icmp_ge (tgt := 33) dX0_lettersOf_11 (by decide) (fun c => ?_) (fun c => ?_)
  · replace h := h.1 c
    refine ev_iload_n dX0_lettersOf_33 rfl ?_
    exact ev_iret dX0_lettersOf_34 rfl h
  · replace h := h.2 c
    refine ev_iload_n dX0_lettersOf_14 rfl ?_
    refine ev_iconst (v := 1) dX0_lettersOf_15 (by decide) ?_
    refine ev_aload_n dX0_lettersOf_16 rfl ?_
    refine ev_getA dX0_lettersOf_17 fl_WithoutE_Dictionary_11 lx_3 rfl ?_
    refine ev_iload_n dX0_lettersOf_20 rfl ?_
    obtain ⟨b1, h⟩ := h
    refine ev_aald dX0_lettersOf_21 lx_4 (fun _ => rfl) rfl b1 ?_
    refine ev_iload_n dX0_lettersOf_22 rfl ?_
    obtain ⟨c, h⟩ := h
    refine ev_iald dX0_lettersOf_23 (lx_sp (ev_lt b1)) c ?_
    refine ev_ishl dX0_lettersOf_24 ?_
    refine ev_ior dX0_lettersOf_25 ?_
    refine ev_istore_n (ls2 := [some (.ref 3), some (.int x1), some (.int (x2 ||| (1 <<< ((M.1 (5 + x1.toNatClampNeg) x3.toNatClampNeg) &&& 31)))), some (.int x3)]) dX0_lettersOf_26 (Nat.le_of_ble_eq_true rfl) rfl ?_
    generalize ev1 : x2 ||| (1 <<< ((M.1 (5 + x1.toNatClampNeg) x3.toNatClampNeg) &&& 31)) = v1
    replace h := h v1 ev1.symm
    refine ev_iinc (v := x3 + 1) (ls2 := [some (.ref 3), some (.int x1), some (.int v1), some (.int (x3 + 1))]) dX0_lettersOf_27 rfl rfl rfl ?_
    refine ev_goto (tgt := 4) dX0_lettersOf_30 (by decide) ?_
    exact h
theorem dX0_tellWord_0 : decode cX0_tellWord 0 = .ok (.aload_n 0, 1) := by decide +kernel
theorem dX0_tellWord_1 : decode cX0_tellWord 1 = .ok (.getfield 35, 3) := by decide +kernel
theorem dX0_tellWord_4 : decode cX0_tellWord 4 = .ok (.bipush 24, 2) := by decide +kernel
theorem dX0_tellWord_6 : decode cX0_tellWord 6 = .ok (.if_icmp .ge 21, 3) := by decide +kernel
theorem dX0_tellWord_9 : decode cX0_tellWord 9 = .ok (.iload_n 3, 1) := by decide +kernel
theorem dX0_tellWord_10 : decode cX0_tellWord 10 = .ok (.bipush 9, 2) := by decide +kernel
theorem dX0_tellWord_12 : decode cX0_tellWord 12 = .ok (.if_icmp .gt 15, 3) := by decide +kernel
theorem dX0_tellWord_15 : decode cX0_tellWord 15 = .ok (.iload_n 2, 1) := by decide +kernel
theorem dX0_tellWord_16 : decode cX0_tellWord 16 = .ok (.ifCond .lt 11, 3) := by decide +kernel
theorem dX0_tellWord_19 : decode cX0_tellWord 19 = .ok (.iload_n 2, 1) := by decide +kernel
theorem dX0_tellWord_20 : decode cX0_tellWord 20 = .ok (.iload_n 3, 1) := by decide +kernel
theorem dX0_tellWord_21 : decode cX0_tellWord 21 = .ok (.iadd, 1) := by decide +kernel
theorem dX0_tellWord_22 : decode cX0_tellWord 22 = .ok (.aload_n 1, 1) := by decide +kernel
theorem dX0_tellWord_23 : decode cX0_tellWord 23 = .ok (.arraylength, 1) := by decide +kernel
theorem dX0_tellWord_24 : decode cX0_tellWord 24 = .ok (.if_icmp .le 5, 3) := by decide +kernel
theorem dX0_tellWord_27 : decode cX0_tellWord 27 = .ok (.iconst (-1), 1) := by decide +kernel
theorem dX0_tellWord_28 : decode cX0_tellWord 28 = .ok (.ireturn, 1) := by decide +kernel
theorem dX0_tellWord_29 : decode cX0_tellWord 29 = .ok (.iconst 0, 1) := by decide +kernel
theorem dX0_tellWord_30 : decode cX0_tellWord 30 = .ok (.istore 7, 2) := by decide +kernel
theorem dX0_tellWord_32 : decode cX0_tellWord 32 = .ok (.iload 7, 2) := by decide +kernel
theorem dX0_tellWord_34 : decode cX0_tellWord 34 = .ok (.iload_n 3, 1) := by decide +kernel
theorem dX0_tellWord_35 : decode cX0_tellWord 35 = .ok (.if_icmp .ge 30, 3) := by decide +kernel
theorem dX0_tellWord_38 : decode cX0_tellWord 38 = .ok (.aload_n 0, 1) := by decide +kernel
theorem dX0_tellWord_39 : decode cX0_tellWord 39 = .ok (.getfield 11, 3) := by decide +kernel
theorem dX0_tellWord_42 : decode cX0_tellWord 42 = .ok (.aload_n 0, 1) := by decide +kernel
theorem dX0_tellWord_43 : decode cX0_tellWord 43 = .ok (.getfield 35, 3) := by decide +kernel
theorem dX0_tellWord_46 : decode cX0_tellWord 46 = .ok (.aaload, 1) := by decide +kernel
theorem dX0_tellWord_47 : decode cX0_tellWord 47 = .ok (.iload 7, 2) := by decide +kernel
theorem dX0_tellWord_49 : decode cX0_tellWord 49 = .ok (.aload_n 1, 1) := by decide +kernel
theorem dX0_tellWord_50 : decode cX0_tellWord 50 = .ok (.iload_n 2, 1) := by decide +kernel
theorem dX0_tellWord_51 : decode cX0_tellWord 51 = .ok (.iload 7, 2) := by decide +kernel
theorem dX0_tellWord_53 : decode cX0_tellWord 53 = .ok (.iadd, 1) := by decide +kernel
theorem dX0_tellWord_54 : decode cX0_tellWord 54 = .ok (.iaload, 1) := by decide +kernel
theorem dX0_tellWord_55 : decode cX0_tellWord 55 = .ok (.bipush 97, 2) := by decide +kernel
theorem dX0_tellWord_57 : decode cX0_tellWord 57 = .ok (.isub, 1) := by decide +kernel
theorem dX0_tellWord_58 : decode cX0_tellWord 58 = .ok (.iastore, 1) := by decide +kernel
theorem dX0_tellWord_59 : decode cX0_tellWord 59 = .ok (.iinc 7 1, 3) := by decide +kernel
theorem dX0_tellWord_62 : decode cX0_tellWord 62 = .ok (.goto (-30), 3) := by decide +kernel
theorem dX0_tellWord_65 : decode cX0_tellWord 65 = .ok (.aload_n 0, 1) := by decide +kernel
theorem dX0_tellWord_66 : decode cX0_tellWord 66 = .ok (.getfield 16, 3) := by decide +kernel
theorem dX0_tellWord_69 : decode cX0_tellWord 69 = .ok (.aload_n 0, 1) := by decide +kernel
theorem dX0_tellWord_70 : decode cX0_tellWord 70 = .ok (.getfield 35, 3) := by decide +kernel
theorem dX0_tellWord_73 : decode cX0_tellWord 73 = .ok (.iload_n 3, 1) := by decide +kernel
theorem dX0_tellWord_74 : decode cX0_tellWord 74 = .ok (.iastore, 1) := by decide +kernel
theorem dX0_tellWord_75 : decode cX0_tellWord 75 = .ok (.aload_n 0, 1) := by decide +kernel
theorem dX0_tellWord_76 : decode cX0_tellWord 76 = .ok (.getfield 20, 3) := by decide +kernel
theorem dX0_tellWord_79 : decode cX0_tellWord 79 = .ok (.aload_n 0, 1) := by decide +kernel
theorem dX0_tellWord_80 : decode cX0_tellWord 80 = .ok (.getfield 35, 3) := by decide +kernel
theorem dX0_tellWord_83 : decode cX0_tellWord 83 = .ok (.iload 4, 2) := by decide +kernel
theorem dX0_tellWord_85 : decode cX0_tellWord 85 = .ok (.iastore, 1) := by decide +kernel
theorem dX0_tellWord_86 : decode cX0_tellWord 86 = .ok (.aload_n 0, 1) := by decide +kernel
theorem dX0_tellWord_87 : decode cX0_tellWord 87 = .ok (.getfield 23, 3) := by decide +kernel
theorem dX0_tellWord_90 : decode cX0_tellWord 90 = .ok (.aload_n 0, 1) := by decide +kernel
theorem dX0_tellWord_91 : decode cX0_tellWord 91 = .ok (.getfield 35, 3) := by decide +kernel
theorem dX0_tellWord_94 : decode cX0_tellWord 94 = .ok (.iload 5, 2) := by decide +kernel
theorem dX0_tellWord_96 : decode cX0_tellWord 96 = .ok (.iastore, 1) := by decide +kernel
theorem dX0_tellWord_97 : decode cX0_tellWord 97 = .ok (.aload_n 0, 1) := by decide +kernel
theorem dX0_tellWord_98 : decode cX0_tellWord 98 = .ok (.getfield 26, 3) := by decide +kernel
theorem dX0_tellWord_101 : decode cX0_tellWord 101 = .ok (.aload_n 0, 1) := by decide +kernel
theorem dX0_tellWord_102 : decode cX0_tellWord 102 = .ok (.getfield 35, 3) := by decide +kernel
theorem dX0_tellWord_105 : decode cX0_tellWord 105 = .ok (.iload 6, 2) := by decide +kernel
theorem dX0_tellWord_107 : decode cX0_tellWord 107 = .ok (.iastore, 1) := by decide +kernel
theorem dX0_tellWord_108 : decode cX0_tellWord 108 = .ok (.aload_n 0, 1) := by decide +kernel
theorem dX0_tellWord_109 : decode cX0_tellWord 109 = .ok (.dup, 1) := by decide +kernel
theorem dX0_tellWord_110 : decode cX0_tellWord 110 = .ok (.getfield 35, 3) := by decide +kernel
theorem dX0_tellWord_113 : decode cX0_tellWord 113 = .ok (.iconst 1, 1) := by decide +kernel
theorem dX0_tellWord_114 : decode cX0_tellWord 114 = .ok (.iadd, 1) := by decide +kernel
theorem dX0_tellWord_115 : decode cX0_tellWord 115 = .ok (.putfield 35, 3) := by decide +kernel
theorem dX0_tellWord_118 : decode cX0_tellWord 118 = .ok (.aload_n 0, 1) := by decide +kernel
theorem dX0_tellWord_119 : decode cX0_tellWord 119 = .ok (.getfield 35, 3) := by decide +kernel
theorem dX0_tellWord_122 : decode cX0_tellWord 122 = .ok (.iconst 1, 1) := by decide +kernel
theorem dX0_tellWord_123 : decode cX0_tellWord 123 = .ok (.isub, 1) := by decide +kernel
theorem dX0_tellWord_124 : decode cX0_tellWord 124 = .ok (.ireturn, 1) := by decide +kernel
theorem gX0_tellWord_0 {d : Nat} {M : ev_Mem} {Q : Option Value → ev_Mem → Prop} {x2 x3 x4 x5 x6 : Int32} {k n : Nat} {kid : Nat → Nat} (hk : LX[k]? = some (.inl (0, n, 0, kid))) (h : (((24 ≤ (M.1 3 5)) → (Q (some (.int (-1))) M)) ∧ ((¬ 24 ≤ (M.1 3 5)) → (((9 < x3) → (Q (some (.int (-1))) M)) ∧ ((¬ 9 < x3) → (((x2 < 0) → (Q (some (.int (-1))) M)) ∧ ((¬ x2 < 0) → ((((x2 + x3) ≤ (nI n)) → (Ev LX d mX0_tellWord 32 [some (.ref 3), some (.ref k), some (.int x2), some (.int x3), some (.int x4), some (.int x5), some (.int x6), some (.int 0)] [] M Q)) ∧ ((¬ (x2 + x3) ≤ (nI n)) → (Q (some (.int (-1))) M)))))))))) : Ev LX d mX0_tellWord 0 [some (.ref 3), some (.ref k), some (.int x2), some (.int x3), some (.int x4), some (.int x5), some (.int x6), none] [] M Q := by
  refine ev_aload_n dX0_tellWord_0 rfl ?_
  refine ev_getI dX0_tellWord_1 fl_WithoutE_Dictionary_35 lx_3 rfl ?_
  refine ev_bipush (v := 24) dX0_tellWord_4 (by decide) ?_
  refine ev_icmp_ge (tgt := 27) dX0_tellWord_6 (by decide) (fun c => ?_) (fun c => ?_)
  · replace h := h.1 c
    refine ev_iconst (v := -1) dX0_tellWord_27 (by decide) ?_
    exact ev_iret dX0_tellWord_28 rfl h
  · replace h := h.2 c
    refine ev_iload_n dX0_tellWord_9 rfl ?_
    refine ev_bipush (v := 9) dX0_tellWord_10 (by decide) ?_
    refine ev_icmp_gt (tgt := 27) dX0_tellWord_12 (by decide) (fun c => ?_) (fun c => ?_)
    · replace h := h.1 c
      refine ev_iconst (v := -1) dX0_tellWord_27 (by decide) ?_
      exact ev_iret dX0_tellWord_28 rfl h
    · replace h := h.2 c
      refine ev_iload_n dX0_tellWord_15 rfl ?_
      refine ev_if_lt (tgt := 27) dX0_tellWord_16 (by decide) (fun c => ?_) (fun c => ?_)
      · replace h := h.1 c
        refine ev_iconst (v := -1) dX0_tellWord_27 (by decide) ?_
        exact ev_iret dX0_tellWord_28 rfl h
      · replace h := h.2 c
        refine ev_iload_n dX0_tellWord_19 rfl ?_
        refine ev_iload_n dX0_tellWord_20 rfl ?_
        refine ev_iadd dX0_tellWord_21 ?_
        refine ev_aload_n dX0_tellWord_22 rfl ?_
        refine ev_alen (q := 0) (v := nI n) dX0_tellWord_23 hk (fun _ => rfl) rfl ?_
        refine ev_icmp_le (tgt := 29) dX0_tellWord_24 (by decide) (fun c => ?_) (fun c => ?_)
        · replace h := h.1 c
          refine ev_iconst (v := 0) dX0_tellWord_29 (by decide) ?_
          refine ev_istore (ls2 := [some (.ref 3), some (.ref k), some (.int x2), some (.int x3), some (.int x4), some (.int x5), some (.int x6), some (.int 0)]) dX0_tellWord_30 (Nat.le_of_ble_eq_true rfl) rfl ?_
          exact h
        · replace h := h.2 c
          refine ev_iconst (v := -1) dX0_tellWord_27 (by decide) ?_
          exact ev_iret dX0_tellWord_28 rfl h
theorem gX0_tellWord_32 {d : Nat} {M : ev_Mem} {Q : Option Value → ev_Mem → Prop} {x2 x3 x4 x5 x6 x7 : Int32} {k n : Nat} {kid : Nat → Nat} (hk : LX[k]? = some (.inl (0, n, 0, kid))) (h : (((x3 ≤ x7) → (vp_in (M.1 3 5) 24 ∧ (∀ M1 : ev_Mem, M1 = ev_wr M 29 (M.1 3 5).toNatClampNeg x3 → (vp_in (M1.1 3 5) 24 ∧ (∀ M2 : ev_Mem, M2 = ev_wr M1 30 (M1.1 3 5).toNatClampNeg x4 → (vp_in (M2.1 3 5) 24 ∧ (∀ M3 : ev_Mem, M3 = ev_wr M2 31 (M2.1 3 5).toNatClampNeg x5 → (vp_in (M3.1 3 5) 24 ∧ (∀ M4 : ev_Mem, M4 = ev_wr M3 32 (M3.1 3 5).toNatClampNeg x6 → (∀ M5 : ev_Mem, M5 = ev_wr M4 3 5 ((M4.1 3 5) + 1) → (Q (some (.int ((M5.1 3 5) - 1))) M5))))))))))) ∧ ((¬ x3 ≤ x7) → (vp_in (M.1 3 5) 24 ∧ (vp_in (x2 + x7) n ∧ (vp_in x7 9 ∧ (∀ M6 : ev_Mem, M6 = ev_wr M (5 + (M.1 3 5).toNatClampNeg) x7.toNatClampNeg ((M.1 k (x2 + x7).toNatClampNeg) - 97) → (Ev LX d mX0_tellWord 32 [some (.ref 3), some (.ref k), some (.int x2), some (.int x3), some (.int x4), some (.int x5), some (.int x6), some (.int (x7 + 1))] [] M6 Q)))))))) : Ev LX d mX0_tellWord 32 [some (.ref 3), some (.ref k), some (.int x2), some (.int x3), some (.int x4), some (.int x5), some (.int x6), some (.int x7)] [] M Q := by
  refine ev_iload dX0_tellWord_32 rfl ?_
  refine ev_iload_n dX0_tellWord_34 rfl ?_
  refine ev_icmp_ge (tgt := 65) dX0_tellWord_35 (by decide) (fun c => ?_) (fun c => ?_)
  · replace h := h.1 c
    refine ev_aload_n dX0_tellWord_65 rfl ?_
    refine ev_getA dX0_tellWord_66 fl_WithoutE_Dictionary_16 lx_3 rfl ?_
    refine ev_aload_n dX0_tellWord_69 rfl ?_
    refine ev_getI dX0_tellWord_70 fl_WithoutE_Dictionary_35 lx_3 rfl ?_
    refine ev_iload_n dX0_tellWord_73 rfl ?_
    obtain ⟨c, h⟩ := h
    refine ev_iast dX0_tellWord_74 lx_29 c ?_
    generalize eM1 : ev_wr M 29 (M.1 3 5).toNatClampNeg x3 = M1
    replace h := h M1 eM1.symm
    refine ev_aload_n dX0_tellWord_75 rfl ?_
    refine ev_getA dX0_tellWord_76 fl_WithoutE_Dictionary_20 lx_3 rfl ?_
    refine ev_aload_n dX0_tellWord_79 rfl ?_
    refine ev_getI dX0_tellWord_80 fl_WithoutE_Dictionary_35 lx_3 rfl ?_
    refine ev_iload dX0_tellWord_83 rfl ?_
    obtain ⟨c, h⟩ := h
    refine ev_iast dX0_tellWord_85 lx_30 c ?_
    generalize eM2 : ev_wr M1 30 (M1.1 3 5).toNatClampNeg x4 = M2
    replace h := h M2 eM2.symm
    refine ev_aload_n dX0_tellWord_86 rfl ?_
    refine ev_getA dX0_tellWord_87 fl_WithoutE_Dictionary_23 lx_3 rfl ?_
    refine ev_aload_n dX0_tellWord_90 rfl ?_
    refine ev_getI dX0_tellWord_91 fl_WithoutE_Dictionary_35 lx_3 rfl ?_
    refine ev_iload dX0_tellWord_94 rfl ?_
    obtain ⟨c, h⟩ := h
    refine ev_iast dX0_tellWord_96 lx_31 c ?_
    generalize eM3 : ev_wr M2 31 (M2.1 3 5).toNatClampNeg x5 = M3
    replace h := h M3 eM3.symm
    refine ev_aload_n dX0_tellWord_97 rfl ?_
    refine ev_getA dX0_tellWord_98 fl_WithoutE_Dictionary_26 lx_3 rfl ?_
    refine ev_aload_n dX0_tellWord_101 rfl ?_
    refine ev_getI dX0_tellWord_102 fl_WithoutE_Dictionary_35 lx_3 rfl ?_
    refine ev_iload dX0_tellWord_105 rfl ?_
    obtain ⟨c, h⟩ := h
    refine ev_iast dX0_tellWord_107 lx_32 c ?_
    generalize eM4 : ev_wr M3 32 (M3.1 3 5).toNatClampNeg x6 = M4
    replace h := h M4 eM4.symm
    refine ev_aload_n dX0_tellWord_108 rfl ?_
    refine ev_dup dX0_tellWord_109 rfl ?_
    refine ev_getI dX0_tellWord_110 fl_WithoutE_Dictionary_35 lx_3 rfl ?_
    refine ev_iconst (v := 1) dX0_tellWord_113 (by decide) ?_
    refine ev_iadd dX0_tellWord_114 ?_
    refine ev_putI dX0_tellWord_115 fp_WithoutE_Dictionary_35 lx_3 rfl rfl rfl ?_
    generalize eM5 : ev_wr M4 3 5 ((M4.1 3 5) + 1) = M5
    replace h := h M5 eM5.symm
    refine ev_aload_n dX0_tellWord_118 rfl ?_
    refine ev_getI dX0_tellWord_119 fl_WithoutE_Dictionary_35 lx_3 rfl ?_
    refine ev_iconst (v := 1) dX0_tellWord_122 (by decide) ?_
    refine ev_isub dX0_tellWord_123 ?_
    exact ev_iret dX0_tellWord_124 rfl h
  · replace h := h.2 c
    refine ev_aload_n dX0_tellWord_38 rfl ?_
    refine ev_getA dX0_tellWord_39 fl_WithoutE_Dictionary_11 lx_3 rfl ?_
    refine ev_aload_n dX0_tellWord_42 rfl ?_
    refine ev_getI dX0_tellWord_43 fl_WithoutE_Dictionary_35 lx_3 rfl ?_
    obtain ⟨b1, h⟩ := h
    refine ev_aald dX0_tellWord_46 lx_4 (fun _ => rfl) rfl b1 ?_
    refine ev_iload dX0_tellWord_47 rfl ?_
    refine ev_aload_n dX0_tellWord_49 rfl ?_
    refine ev_iload_n dX0_tellWord_50 rfl ?_
    refine ev_iload dX0_tellWord_51 rfl ?_
    refine ev_iadd dX0_tellWord_53 ?_
    obtain ⟨c, h⟩ := h
    refine ev_iald dX0_tellWord_54 hk c ?_
    refine ev_bipush (v := 97) dX0_tellWord_55 (by decide) ?_
    refine ev_isub dX0_tellWord_57 ?_
    obtain ⟨c, h⟩ := h
    refine ev_iast dX0_tellWord_58 (lx_sp (ev_lt b1)) c ?_
    generalize eM6 : ev_wr M (5 + (M.1 3 5).toNatClampNeg) x7.toNatClampNeg ((M.1 k (x2 + x7).toNatClampNeg) - 97) = M6
    replace h := h M6 eM6.symm
    refine ev_iinc (v := x7 + 1) (ls2 := [some (.ref 3), some (.ref k), some (.int x2), some (.int x3), some (.int x4), some (.int x5), some (.int x6), some (.int (x7 + 1))]) dX0_tellWord_59 rfl rfl rfl ?_
    refine ev_goto (tgt := 32) dX0_tellWord_62 (by decide) ?_
    exact h
theorem dX0_tellSentence_0 : decode cX0_tellSentence 0 = .ok (.aload_n 0, 1) := by decide +kernel
theorem dX0_tellSentence_1 : decode cX0_tellSentence 1 = .ok (.getfield 39, 3) := by decide +kernel
theorem dX0_tellSentence_4 : decode cX0_tellSentence 4 = .ok (.bipush 8, 2) := by decide +kernel
theorem dX0_tellSentence_6 : decode cX0_tellSentence 6 = .ok (.if_icmp .ge 20, 3) := by decide +kernel
theorem dX0_tellSentence_9 : decode cX0_tellSentence 9 = .ok (.iload_n 3, 1) := by decide +kernel
theorem dX0_tellSentence_10 : decode cX0_tellSentence 10 = .ok (.iconst 5, 1) := by decide +kernel
theorem dX0_tellSentence_11 : decode cX0_tellSentence 11 = .ok (.if_icmp .gt 15, 3) := by decide +kernel
theorem dX0_tellSentence_14 : decode cX0_tellSentence 14 = .ok (.iload_n 2, 1) := by decide +kernel
theorem dX0_tellSentence_15 : decode cX0_tellSentence 15 = .ok (.ifCond .lt 11, 3) := by decide +kernel
theorem dX0_tellSentence_18 : decode cX0_tellSentence 18 = .ok (.iload_n 2, 1) := by decide +kernel
theorem dX0_tellSentence_19 : decode cX0_tellSentence 19 = .ok (.iload_n 3, 1) := by decide +kernel
theorem dX0_tellSentence_20 : decode cX0_tellSentence 20 = .ok (.iadd, 1) := by decide +kernel
theorem dX0_tellSentence_21 : decode cX0_tellSentence 21 = .ok (.aload_n 1, 1) := by decide +kernel
theorem dX0_tellSentence_22 : decode cX0_tellSentence 22 = .ok (.arraylength, 1) := by decide +kernel
theorem dX0_tellSentence_23 : decode cX0_tellSentence 23 = .ok (.if_icmp .le 5, 3) := by decide +kernel
theorem dX0_tellSentence_26 : decode cX0_tellSentence 26 = .ok (.iconst (-1), 1) := by decide +kernel
theorem dX0_tellSentence_27 : decode cX0_tellSentence 27 = .ok (.ireturn, 1) := by decide +kernel
theorem dX0_tellSentence_28 : decode cX0_tellSentence 28 = .ok (.iconst 0, 1) := by decide +kernel
theorem dX0_tellSentence_29 : decode cX0_tellSentence 29 = .ok (.istore 4, 2) := by decide +kernel
theorem dX0_tellSentence_31 : decode cX0_tellSentence 31 = .ok (.iload 4, 2) := by decide +kernel
theorem dX0_tellSentence_33 : decode cX0_tellSentence 33 = .ok (.iload_n 3, 1) := by decide +kernel
theorem dX0_tellSentence_34 : decode cX0_tellSentence 34 = .ok (.if_icmp .ge 27, 3) := by decide +kernel
theorem dX0_tellSentence_37 : decode cX0_tellSentence 37 = .ok (.aload_n 0, 1) := by decide +kernel
theorem dX0_tellSentence_38 : decode cX0_tellSentence 38 = .ok (.getfield 29, 3) := by decide +kernel
theorem dX0_tellSentence_41 : decode cX0_tellSentence 41 = .ok (.aload_n 0, 1) := by decide +kernel
theorem dX0_tellSentence_42 : decode cX0_tellSentence 42 = .ok (.getfield 39, 3) := by decide +kernel
theorem dX0_tellSentence_45 : decode cX0_tellSentence 45 = .ok (.aaload, 1) := by decide +kernel
theorem dX0_tellSentence_46 : decode cX0_tellSentence 46 = .ok (.iload 4, 2) := by decide +kernel
theorem dX0_tellSentence_48 : decode cX0_tellSentence 48 = .ok (.aload_n 1, 1) := by decide +kernel
theorem dX0_tellSentence_49 : decode cX0_tellSentence 49 = .ok (.iload_n 2, 1) := by decide +kernel
theorem dX0_tellSentence_50 : decode cX0_tellSentence 50 = .ok (.iload 4, 2) := by decide +kernel
theorem dX0_tellSentence_52 : decode cX0_tellSentence 52 = .ok (.iadd, 1) := by decide +kernel
theorem dX0_tellSentence_53 : decode cX0_tellSentence 53 = .ok (.iaload, 1) := by decide +kernel
theorem dX0_tellSentence_54 : decode cX0_tellSentence 54 = .ok (.iastore, 1) := by decide +kernel
theorem dX0_tellSentence_55 : decode cX0_tellSentence 55 = .ok (.iinc 4 1, 3) := by decide +kernel
theorem dX0_tellSentence_58 : decode cX0_tellSentence 58 = .ok (.goto (-27), 3) := by decide +kernel
theorem dX0_tellSentence_61 : decode cX0_tellSentence 61 = .ok (.aload_n 0, 1) := by decide +kernel
theorem dX0_tellSentence_62 : decode cX0_tellSentence 62 = .ok (.getfield 32, 3) := by decide +kernel
theorem dX0_tellSentence_65 : decode cX0_tellSentence 65 = .ok (.aload_n 0, 1) := by decide +kernel
theorem dX0_tellSentence_66 : decode cX0_tellSentence 66 = .ok (.getfield 39, 3) := by decide +kernel
theorem dX0_tellSentence_69 : decode cX0_tellSentence 69 = .ok (.iload_n 3, 1) := by decide +kernel
theorem dX0_tellSentence_70 : decode cX0_tellSentence 70 = .ok (.iastore, 1) := by decide +kernel
theorem dX0_tellSentence_71 : decode cX0_tellSentence 71 = .ok (.aload_n 0, 1) := by decide +kernel
theorem dX0_tellSentence_72 : decode cX0_tellSentence 72 = .ok (.dup, 1) := by decide +kernel
theorem dX0_tellSentence_73 : decode cX0_tellSentence 73 = .ok (.getfield 39, 3) := by decide +kernel
theorem dX0_tellSentence_76 : decode cX0_tellSentence 76 = .ok (.iconst 1, 1) := by decide +kernel
theorem dX0_tellSentence_77 : decode cX0_tellSentence 77 = .ok (.iadd, 1) := by decide +kernel
theorem dX0_tellSentence_78 : decode cX0_tellSentence 78 = .ok (.putfield 39, 3) := by decide +kernel
theorem dX0_tellSentence_81 : decode cX0_tellSentence 81 = .ok (.aload_n 0, 1) := by decide +kernel
theorem dX0_tellSentence_82 : decode cX0_tellSentence 82 = .ok (.getfield 39, 3) := by decide +kernel
theorem dX0_tellSentence_85 : decode cX0_tellSentence 85 = .ok (.iconst 1, 1) := by decide +kernel
theorem dX0_tellSentence_86 : decode cX0_tellSentence 86 = .ok (.isub, 1) := by decide +kernel
theorem dX0_tellSentence_87 : decode cX0_tellSentence 87 = .ok (.ireturn, 1) := by decide +kernel
theorem gX0_tellSentence_0 {d : Nat} {M : ev_Mem} {Q : Option Value → ev_Mem → Prop} {x2 x3 : Int32} {k n : Nat} {kid : Nat → Nat} (hk : LX[k]? = some (.inl (0, n, 0, kid))) (h : (((8 ≤ (M.1 3 8)) → (Q (some (.int (-1))) M)) ∧ ((¬ 8 ≤ (M.1 3 8)) → (((5 < x3) → (Q (some (.int (-1))) M)) ∧ ((¬ 5 < x3) → (((x2 < 0) → (Q (some (.int (-1))) M)) ∧ ((¬ x2 < 0) → ((((x2 + x3) ≤ (nI n)) → (Ev LX d mX0_tellSentence 31 [some (.ref 3), some (.ref k), some (.int x2), some (.int x3), some (.int 0)] [] M Q)) ∧ ((¬ (x2 + x3) ≤ (nI n)) → (Q (some (.int (-1))) M)))))))))) : Ev LX d mX0_tellSentence 0 [some (.ref 3), some (.ref k), some (.int x2), some (.int x3), none] [] M Q := by
  refine ev_aload_n dX0_tellSentence_0 rfl ?_
  refine ev_getI dX0_tellSentence_1 fl_WithoutE_Dictionary_39 lx_3 rfl ?_
  refine ev_bipush (v := 8) dX0_tellSentence_4 (by decide) ?_
  refine ev_icmp_ge (tgt := 26) dX0_tellSentence_6 (by decide) (fun c => ?_) (fun c => ?_)
  · replace h := h.1 c
    refine ev_iconst (v := -1) dX0_tellSentence_26 (by decide) ?_
    exact ev_iret dX0_tellSentence_27 rfl h
  · replace h := h.2 c
    refine ev_iload_n dX0_tellSentence_9 rfl ?_
    refine ev_iconst (v := 5) dX0_tellSentence_10 (by decide) ?_
    refine ev_icmp_gt (tgt := 26) dX0_tellSentence_11 (by decide) (fun c => ?_) (fun c => ?_)
    · replace h := h.1 c
      refine ev_iconst (v := -1) dX0_tellSentence_26 (by decide) ?_
      exact ev_iret dX0_tellSentence_27 rfl h
    · replace h := h.2 c
      refine ev_iload_n dX0_tellSentence_14 rfl ?_
      refine ev_if_lt (tgt := 26) dX0_tellSentence_15 (by decide) (fun c => ?_) (fun c => ?_)
      · replace h := h.1 c
        refine ev_iconst (v := -1) dX0_tellSentence_26 (by decide) ?_
        exact ev_iret dX0_tellSentence_27 rfl h
      · replace h := h.2 c
        refine ev_iload_n dX0_tellSentence_18 rfl ?_
        refine ev_iload_n dX0_tellSentence_19 rfl ?_
        refine ev_iadd dX0_tellSentence_20 ?_
        refine ev_aload_n dX0_tellSentence_21 rfl ?_
        refine ev_alen (q := 0) (v := nI n) dX0_tellSentence_22 hk (fun _ => rfl) rfl ?_
        refine ev_icmp_le (tgt := 28) dX0_tellSentence_23 (by decide) (fun c => ?_) (fun c => ?_)
        · replace h := h.1 c
          refine ev_iconst (v := 0) dX0_tellSentence_28 (by decide) ?_
          refine ev_istore (ls2 := [some (.ref 3), some (.ref k), some (.int x2), some (.int x3), some (.int 0)]) dX0_tellSentence_29 (Nat.le_of_ble_eq_true rfl) rfl ?_
          exact h
        · replace h := h.2 c
          refine ev_iconst (v := -1) dX0_tellSentence_26 (by decide) ?_
          exact ev_iret dX0_tellSentence_27 rfl h
theorem gX0_tellSentence_31 {d : Nat} {M : ev_Mem} {Q : Option Value → ev_Mem → Prop} {x2 x3 x4 : Int32} {k n : Nat} {kid : Nat → Nat} (hk : LX[k]? = some (.inl (0, n, 0, kid))) (h : (((x3 ≤ x4) → (vp_in (M.1 3 8) 8 ∧ (∀ M1 : ev_Mem, M1 = ev_wr M 42 (M.1 3 8).toNatClampNeg x3 → (∀ M2 : ev_Mem, M2 = ev_wr M1 3 8 ((M1.1 3 8) + 1) → (Q (some (.int ((M2.1 3 8) - 1))) M2))))) ∧ ((¬ x3 ≤ x4) → (vp_in (M.1 3 8) 8 ∧ (vp_in (x2 + x4) n ∧ (vp_in x4 5 ∧ (∀ M3 : ev_Mem, M3 = ev_wr M (34 + (M.1 3 8).toNatClampNeg) x4.toNatClampNeg (M.1 k (x2 + x4).toNatClampNeg) → (Ev LX d mX0_tellSentence 31 [some (.ref 3), some (.ref k), some (.int x2), some (.int x3), some (.int (x4 + 1))] [] M3 Q)))))))) : Ev LX d mX0_tellSentence 31 [some (.ref 3), some (.ref k), some (.int x2), some (.int x3), some (.int x4)] [] M Q := by
  refine ev_iload dX0_tellSentence_31 rfl ?_
  refine ev_iload_n dX0_tellSentence_33 rfl ?_
  refine ev_icmp_ge (tgt := 61) dX0_tellSentence_34 (by decide) (fun c => ?_) (fun c => ?_)
  · replace h := h.1 c
    refine ev_aload_n dX0_tellSentence_61 rfl ?_
    refine ev_getA dX0_tellSentence_62 fl_WithoutE_Dictionary_32 lx_3 rfl ?_
    refine ev_aload_n dX0_tellSentence_65 rfl ?_
    refine ev_getI dX0_tellSentence_66 fl_WithoutE_Dictionary_39 lx_3 rfl ?_
    refine ev_iload_n dX0_tellSentence_69 rfl ?_
    obtain ⟨c, h⟩ := h
    refine ev_iast dX0_tellSentence_70 lx_42 c ?_
    generalize eM1 : ev_wr M 42 (M.1 3 8).toNatClampNeg x3 = M1
    replace h := h M1 eM1.symm
    refine ev_aload_n dX0_tellSentence_71 rfl ?_
    refine ev_dup dX0_tellSentence_72 rfl ?_
    refine ev_getI dX0_tellSentence_73 fl_WithoutE_Dictionary_39 lx_3 rfl ?_
    refine ev_iconst (v := 1) dX0_tellSentence_76 (by decide) ?_
    refine ev_iadd dX0_tellSentence_77 ?_
    refine ev_putI dX0_tellSentence_78 fp_WithoutE_Dictionary_39 lx_3 rfl rfl rfl ?_
    generalize eM2 : ev_wr M1 3 8 ((M1.1 3 8) + 1) = M2
    replace h := h M2 eM2.symm
    refine ev_aload_n dX0_tellSentence_81 rfl ?_
    refine ev_getI dX0_tellSentence_82 fl_WithoutE_Dictionary_39 lx_3 rfl ?_
    refine ev_iconst (v := 1) dX0_tellSentence_85 (by decide) ?_
    refine ev_isub dX0_tellSentence_86 ?_
    exact ev_iret dX0_tellSentence_87 rfl h
  · replace h := h.2 c
    refine ev_aload_n dX0_tellSentence_37 rfl ?_
    refine ev_getA dX0_tellSentence_38 fl_WithoutE_Dictionary_29 lx_3 rfl ?_
    refine ev_aload_n dX0_tellSentence_41 rfl ?_
    refine ev_getI dX0_tellSentence_42 fl_WithoutE_Dictionary_39 lx_3 rfl ?_
    obtain ⟨b1, h⟩ := h
    refine ev_aald dX0_tellSentence_45 lx_33 (fun _ => rfl) rfl b1 ?_
    refine ev_iload dX0_tellSentence_46 rfl ?_
    refine ev_aload_n dX0_tellSentence_48 rfl ?_
    refine ev_iload_n dX0_tellSentence_49 rfl ?_
    refine ev_iload dX0_tellSentence_50 rfl ?_
    refine ev_iadd dX0_tellSentence_52 ?_
    obtain ⟨c, h⟩ := h
    refine ev_iald dX0_tellSentence_53 hk c ?_
    obtain ⟨c, h⟩ := h
    refine ev_iast dX0_tellSentence_54 (lx_ro (ev_lt b1)) c ?_
    generalize eM3 : ev_wr M (34 + (M.1 3 8).toNatClampNeg) x4.toNatClampNeg (M.1 k (x2 + x4).toNatClampNeg) = M3
    replace h := h M3 eM3.symm
    refine ev_iinc (v := x4 + 1) (ls2 := [some (.ref 3), some (.ref k), some (.int x2), some (.int x3), some (.int (x4 + 1))]) dX0_tellSentence_55 rfl rfl rfl ?_
    refine ev_goto (tgt := 31) dX0_tellSentence_58 (by decide) ?_
    exact h
theorem dX7_put_0 : decode cX7_put 0 = .ok (.bipush 24, 2) := by decide +kernel
theorem dX7_put_2 : decode cX7_put 2 = .ok (.istore_n 2, 1) := by decide +kernel
theorem dX7_put_3 : decode cX7_put 3 = .ok (.iload_n 2, 1) := by decide +kernel
theorem dX7_put_4 : decode cX7_put 4 = .ok (.ifCond .lt 45, 3) := by decide +kernel
theorem dX7_put_7 : decode cX7_put 7 = .ok (.aload_n 0, 1) := by decide +kernel
theorem dX7_put_8 : decode cX7_put 8 = .ok (.getfield 15, 3) := by decide +kernel
theorem dX7_put_11 : decode cX7_put 11 = .ok (.sipush 300, 3) := by decide +kernel
theorem dX7_put_14 : decode cX7_put 14 = .ok (.if_icmp .ge 35, 3) := by decide +kernel
theorem dX7_put_17 : decode cX7_put 17 = .ok (.aload_n 0, 1) := by decide +kernel
theorem dX7_put_18 : decode cX7_put 18 = .ok (.getfield 9, 3) := by decide +kernel
theorem dX7_put_21 : decode cX7_put 21 = .ok (.aload_n 0, 1) := by decide +kernel
theorem dX7_put_22 : decode cX7_put 22 = .ok (.getfield 15, 3) := by decide +kernel
theorem dX7_put_25 : decode cX7_put 25 = .ok (.iload_n 1, 1) := by decide +kernel
theorem dX7_put_26 : decode cX7_put 26 = .ok (.iload_n 2, 1) := by decide +kernel
theorem dX7_put_27 : decode cX7_put 27 = .ok (.iushr, 1) := by decide +kernel
theorem dX7_put_28 : decode cX7_put 28 = .ok (.sipush 255, 3) := by decide +kernel
theorem dX7_put_31 : decode cX7_put 31 = .ok (.iand, 1) := by decide +kernel
theorem dX7_put_32 : decode cX7_put 32 = .ok (.iastore, 1) := by decide +kernel
theorem dX7_put_33 : decode cX7_put 33 = .ok (.aload_n 0, 1) := by decide +kernel
theorem dX7_put_34 : decode cX7_put 34 = .ok (.dup, 1) := by decide +kernel
theorem dX7_put_35 : decode cX7_put 35 = .ok (.getfield 15, 3) := by decide +kernel
theorem dX7_put_38 : decode cX7_put 38 = .ok (.iconst 1, 1) := by decide +kernel
theorem dX7_put_39 : decode cX7_put 39 = .ok (.iadd, 1) := by decide +kernel
theorem dX7_put_40 : decode cX7_put 40 = .ok (.putfield 15, 3) := by decide +kernel
theorem dX7_put_43 : decode cX7_put 43 = .ok (.iinc 2 (-8), 3) := by decide +kernel
theorem dX7_put_46 : decode cX7_put 46 = .ok (.goto (-43), 3) := by decide +kernel
theorem dX7_put_49 : decode cX7_put 49 = .ok (.return_, 1) := by decide +kernel
theorem gX7_put_0 {d : Nat} {M : ev_Mem} {Q : Option Value → ev_Mem → Prop} {x1 : Int32} (h : (Ev LX d mX7_put 3 [some (.ref 1), some (.int x1), some (.int 24)] [] M Q)) : Ev LX d mX7_put 0 [some (.ref 1), some (.int x1), none] [] M Q := by
  refine ev_bipush (v := 24) dX7_put_0 (by decide) ?_
  refine ev_istore_n (ls2 := [some (.ref 1), some (.int x1), some (.int 24)]) dX7_put_2 (Nat.le_of_ble_eq_true rfl) rfl ?_
  exact h
theorem gX7_put_3 {d : Nat} {M : ev_Mem} {Q : Option Value → ev_Mem → Prop} {x1 x2 : Int32} (h : (((x2 < 0) → (Q none M)) ∧ ((¬ x2 < 0) → (((300 ≤ (M.1 1 1)) → (Q none M)) ∧ ((¬ 300 ≤ (M.1 1 1)) → (vp_in (M.1 1 1) 300 ∧ (∀ M1 : ev_Mem, M1 = ev_wr M 2 (M.1 1 1).toNatClampNeg (((x1.toUInt32 >>> (((x2 : Int32)).toUInt32 &&& Int32.toUInt32 31)).toInt32) &&& 255) → (∀ M2 : ev_Mem, M2 = ev_wr M1 1 1 ((M1.1 1 1) + 1) → (Ev LX d mX7_put 3 [some (.ref 1), some (.int x1), some (.int (x2 + (-8)))] [] M2 Q))))))))) : Ev LX d mX7_put 3 [some (.ref 1), some (.int x1), some (.int x2)] [] M Q := by
  refine ev_iload_n dX7_put_3 rfl ?_
  refine ev_if_lt (tgt := 49) dX7_put_4 (by decide) (fun c => ?_) (fun c => ?_)
  · replace h := h.1 c
    exact ev_vret dX7_put_49 rfl h
  · replace h := h.2 c
    refine ev_aload_n dX7_put_7 rfl ?_
    refine ev_getI dX7_put_8 fl_WithoutE_Tape_15 lx_1 rfl ?_
    refine ev_sipush (v := 300) dX7_put_11 (by decide) ?_
    refine ev_icmp_ge (tgt := 49) dX7_put_14 (by decide) (fun c => ?_) (fun c => ?_)
    · replace h := h.1 c
      exact ev_vret dX7_put_49 rfl h
    · replace h := h.2 c
      refine ev_aload_n dX7_put_17 rfl ?_
      refine ev_getA dX7_put_18 fl_WithoutE_Tape_9 lx_1 rfl ?_
      refine ev_aload_n dX7_put_21 rfl ?_
      refine ev_getI dX7_put_22 fl_WithoutE_Tape_15 lx_1 rfl ?_
      refine ev_iload_n dX7_put_25 rfl ?_
      refine ev_iload_n dX7_put_26 rfl ?_
      refine ev_iushr (v := (x1.toUInt32 >>> (((x2 : Int32)).toUInt32 &&& Int32.toUInt32 31)).toInt32) dX7_put_27 rfl ?_
      refine ev_sipush (v := 255) dX7_put_28 (by decide) ?_
      refine ev_iand dX7_put_31 ?_
      obtain ⟨c, h⟩ := h
      refine ev_iast dX7_put_32 lx_2 c ?_
      generalize eM1 : ev_wr M 2 (M.1 1 1).toNatClampNeg (((x1.toUInt32 >>> (((x2 : Int32)).toUInt32 &&& Int32.toUInt32 31)).toInt32) &&& 255) = M1
      replace h := h M1 eM1.symm
      refine ev_aload_n dX7_put_33 rfl ?_
      refine ev_dup dX7_put_34 rfl ?_
      refine ev_getI dX7_put_35 fl_WithoutE_Tape_15 lx_1 rfl ?_
      refine ev_iconst (v := 1) dX7_put_38 (by decide) ?_
      refine ev_iadd dX7_put_39 ?_
      refine ev_putI dX7_put_40 fp_WithoutE_Tape_15 lx_1 rfl rfl rfl ?_
      generalize eM2 : ev_wr M1 1 1 ((M1.1 1 1) + 1) = M2
      replace h := h M2 eM2.symm
      refine ev_iinc (v := x2 + (-8)) (ls2 := [some (.ref 1), some (.int x1), some (.int (x2 + (-8)))]) dX7_put_43 rfl rfl rfl ?_
      refine ev_goto (tgt := 3) dX7_put_46 (by decide) ?_
      exact h
theorem dX7_spells_0 : decode cX7_spells 0 = .ok (.aload_n 0, 1) := by decide +kernel
theorem dX7_spells_1 : decode cX7_spells 1 = .ok (.getfield 15, 3) := by decide +kernel
theorem dX7_spells_4 : decode cX7_spells 4 = .ok (.iconst 1, 1) := by decide +kernel
theorem dX7_spells_5 : decode cX7_spells 5 = .ok (.if_icmp .lt 12, 3) := by decide +kernel
theorem dX7_spells_8 : decode cX7_spells 8 = .ok (.aload_n 0, 1) := by decide +kernel
theorem dX7_spells_9 : decode cX7_spells 9 = .ok (.getfield 15, 3) := by decide +kernel
theorem dX7_spells_12 : decode cX7_spells 12 = .ok (.bipush 9, 2) := by decide +kernel
theorem dX7_spells_14 : decode cX7_spells 14 = .ok (.if_icmp .le 5, 3) := by decide +kernel
theorem dX7_spells_17 : decode cX7_spells 17 = .ok (.iconst 0, 1) := by decide +kernel
theorem dX7_spells_18 : decode cX7_spells 18 = .ok (.ireturn, 1) := by decide +kernel
theorem dX7_spells_19 : decode cX7_spells 19 = .ok (.iconst 0, 1) := by decide +kernel
theorem dX7_spells_20 : decode cX7_spells 20 = .ok (.istore_n 2, 1) := by decide +kernel
theorem dX7_spells_21 : decode cX7_spells 21 = .ok (.iload_n 2, 1) := by decide +kernel
theorem dX7_spells_22 : decode cX7_spells 22 = .ok (.aload_n 0, 1) := by decide +kernel
theorem dX7_spells_23 : decode cX7_spells 23 = .ok (.getfield 15, 3) := by decide +kernel
theorem dX7_spells_26 : decode cX7_spells 26 = .ok (.if_icmp .ge 38, 3) := by decide +kernel
theorem dX7_spells_29 : decode cX7_spells 29 = .ok (.aload_n 0, 1) := by decide +kernel
theorem dX7_spells_30 : decode cX7_spells 30 = .ok (.getfield 9, 3) := by decide +kernel
theorem dX7_spells_33 : decode cX7_spells 33 = .ok (.iload_n 2, 1) := by decide +kernel
theorem dX7_spells_34 : decode cX7_spells 34 = .ok (.iaload, 1) := by decide +kernel
theorem dX7_spells_35 : decode cX7_spells 35 = .ok (.invokestatic 19, 3) := by decide +kernel
theorem dX7_spells_38 : decode cX7_spells 38 = .ok (.ifCond .ne 20, 3) := by decide +kernel
theorem dX7_spells_41 : decode cX7_spells 41 = .ok (.iload_n 1, 1) := by decide +kernel
theorem dX7_spells_42 : decode cX7_spells 42 = .ok (.ifCond .eq 14, 3) := by decide +kernel
theorem dX7_spells_45 : decode cX7_spells 45 = .ok (.aload_n 0, 1) := by decide +kernel
theorem dX7_spells_46 : decode cX7_spells 46 = .ok (.getfield 9, 3) := by decide +kernel
theorem dX7_spells_49 : decode cX7_spells 49 = .ok (.iload_n 2, 1) := by decide +kernel
theorem dX7_spells_50 : decode cX7_spells 50 = .ok (.iaload, 1) := by decide +kernel
theorem dX7_spells_51 : decode cX7_spells 51 = .ok (.bipush 45, 2) := by decide +kernel
theorem dX7_spells_53 : decode cX7_spells 53 = .ok (.if_icmp .eq 5, 3) := by decide +kernel
theorem dX7_spells_56 : decode cX7_spells 56 = .ok (.iconst 0, 1) := by decide +kernel
theorem dX7_spells_57 : decode cX7_spells 57 = .ok (.ireturn, 1) := by decide +kernel
theorem dX7_spells_58 : decode cX7_spells 58 = .ok (.iinc 2 1, 3) := by decide +kernel
theorem dX7_spells_61 : decode cX7_spells 61 = .ok (.goto (-40), 3) := by decide +kernel
theorem dX7_spells_64 : decode cX7_spells 64 = .ok (.iconst 1, 1) := by decide +kernel
theorem dX7_spells_65 : decode cX7_spells 65 = .ok (.ireturn, 1) := by decide +kernel
theorem gX7_spells_0 {d : Nat} {M : ev_Mem} {Q : Option Value → ev_Mem → Prop} {x1 : Int32} (h : ((((M.1 1 1) < 1) → (Q (some (.int 0)) M)) ∧ ((¬ (M.1 1 1) < 1) → ((((M.1 1 1) ≤ 9) → (Ev LX d mX7_spells 21 [some (.ref 1), some (.int x1), some (.int 0)] [] M Q)) ∧ ((¬ (M.1 1 1) ≤ 9) → (Q (some (.int 0)) M)))))) : Ev LX d mX7_spells 0 [some (.ref 1), some (.int x1), none] [] M Q := by
  refine ev_aload_n dX7_spells_0 rfl ?_
  refine ev_getI dX7_spells_1 fl_WithoutE_Tape_15 lx_1 rfl ?_
  refine ev_iconst (v := 1) dX7_spells_4 (by decide) ?_
  refine ev_icmp_lt (tgt := 17) dX7_spells_5 (by decide) (fun c => ?_) (fun c => ?_)
  · replace h := h.1 c
    refine ev_iconst (v := 0) dX7_spells_17 (by decide) ?_
    exact ev_zret dX7_spells_18 rfl (by decide) h
  · replace h := h.2 c
    refine ev_aload_n dX7_spells_8 rfl ?_
    refine ev_getI dX7_spells_9 fl_WithoutE_Tape_15 lx_1 rfl ?_
    refine ev_bipush (v := 9) dX7_spells_12 (by decide) ?_
    refine ev_icmp_le (tgt := 19) dX7_spells_14 (by decide) (fun c => ?_) (fun c => ?_)
    · replace h := h.1 c
      refine ev_iconst (v := 0) dX7_spells_19 (by decide) ?_
      refine ev_istore_n (ls2 := [some (.ref 1), some (.int x1), some (.int 0)]) dX7_spells_20 (Nat.le_of_ble_eq_true rfl) rfl ?_
      exact h
    · replace h := h.2 c
      refine ev_iconst (v := 0) dX7_spells_17 (by decide) ?_
      exact ev_zret dX7_spells_18 rfl (by decide) h
theorem gX7_spells_21 {d : Nat} {M : ev_Mem} {Q : Option Value → ev_Mem → Prop} {x1 x2 : Int32} (h : ((((M.1 1 1) ≤ x2) → (Q (some (.int 1)) M)) ∧ ((¬ (M.1 1 1) ≤ x2) → (vp_in x2 300 ∧ ((((iin (M.1 2 x2.toNatClampNeg) 97 122) = true) → (Ev LX (d + 1) mX7_spells 21 [some (.ref 1), some (.int x1), some (.int (x2 + 1))] [] M Q)) ∧ (((iin (M.1 2 x2.toNatClampNeg) 97 122) = false) → (((x1 = 0) → (Q (some (.int 0)) M)) ∧ ((¬ x1 = 0) → (vp_in x2 300 ∧ ((((M.1 2 x2.toNatClampNeg) = 45) → (Ev LX (d + 1) mX7_spells 21 [some (.ref 1), some (.int x1), some (.int (x2 + 1))] [] M Q)) ∧ ((¬ (M.1 2 x2.toNatClampNeg) = 45) → (Q (some (.int 0)) M)))))))))))) : Ev LX (d + 1) mX7_spells 21 [some (.ref 1), some (.int x1), some (.int x2)] [] M Q := by
  refine ev_iload_n dX7_spells_21 rfl ?_
  refine ev_aload_n dX7_spells_22 rfl ?_
  refine ev_getI dX7_spells_23 fl_WithoutE_Tape_15 lx_1 rfl ?_
  refine ev_icmp_ge (tgt := 64) dX7_spells_26 (by decide) (fun c => ?_) (fun c => ?_)
  · replace h := h.1 c
    refine ev_iconst (v := 1) dX7_spells_64 (by decide) ?_
    exact ev_zret dX7_spells_65 rfl (by decide) h
  · replace h := h.2 c
    refine ev_aload_n dX7_spells_29 rfl ?_
    refine ev_getA dX7_spells_30 fl_WithoutE_Tape_9 lx_1 rfl ?_
    refine ev_iload_n dX7_spells_33 rfl ?_
    obtain ⟨c, h⟩ := h
    refine ev_iald dX7_spells_34 lx_2 c ?_
    refine ev_callN [.int (M.1 2 x2.toNatClampNeg)] dX7_spells_35 ml_WithoutE_Tape_19 rfl (Nat.le_of_ble_eq_true rfl) (kX10_isSmall) ?_
    rintro r9 M9 ⟨q1, q2⟩
    rw [q1, q2]
    show Ev LX (d + 1) mX7_spells 38 [some (.ref 1), some (.int x1), some (.int x2)] [(.int (bi (iin (M.1 2 x2.toNatClampNeg) 97 122)))] M Q
    refine ev_if_ne (tgt := 58) dX7_spells_38 (by decide) (fun c => ?_) (fun c => ?_)
    · replace h := h.1 ((bi_n0 _).mp c)
      refine ev_iinc (v := x2 + 1) (ls2 := [some (.ref 1), some (.int x1), some (.int (x2 + 1))]) dX7_spells_58 rfl rfl rfl ?_
      refine ev_goto (tgt := 21) dX7_spells_61 (by decide) ?_
      exact h
    · replace h := h.2 ((bi_0 _).mp c)
      refine ev_iload_n dX7_spells_41 rfl ?_
      refine ev_if_eq (tgt := 56) dX7_spells_42 (by decide) (fun c => ?_) (fun c => ?_)
      · replace h := h.1 c
        refine ev_iconst (v := 0) dX7_spells_56 (by decide) ?_
        exact ev_zret dX7_spells_57 rfl (by decide) h
      · replace h := h.2 c
        refine ev_aload_n dX7_spells_45 rfl ?_
        refine ev_getA dX7_spells_46 fl_WithoutE_Tape_9 lx_1 rfl ?_
        refine ev_iload_n dX7_spells_49 rfl ?_
        obtain ⟨c, h⟩ := h
        refine ev_iald dX7_spells_50 lx_2 c ?_
        refine ev_bipush (v := 45) dX7_spells_51 (by decide) ?_
        refine ev_icmp_eq (tgt := 58) dX7_spells_53 (by decide) (fun c => ?_) (fun c => ?_)
        · replace h := h.1 c
          refine ev_iinc (v := x2 + 1) (ls2 := [some (.ref 1), some (.int x1), some (.int (x2 + 1))]) dX7_spells_58 rfl rfl rfl ?_
          refine ev_goto (tgt := 21) dX7_spells_61 (by decide) ?_
          exact h
        · replace h := h.2 c
          refine ev_iconst (v := 0) dX7_spells_56 (by decide) ?_
          exact ev_zret dX7_spells_57 rfl (by decide) h
theorem dX9_draw_0 : decode cX9_draw 0 = .ok (.aload_n 0, 1) := by decide +kernel
theorem dX9_draw_1 : decode cX9_draw 1 = .ok (.getfield 15, 3) := by decide +kernel
theorem dX9_draw_4 : decode cX9_draw 4 = .ok (.iload_n 1, 1) := by decide +kernel
theorem dX9_draw_5 : decode cX9_draw 5 = .ok (.irem, 1) := by decide +kernel
theorem dX9_draw_6 : decode cX9_draw 6 = .ok (.istore_n 2, 1) := by decide +kernel
theorem dX9_draw_7 : decode cX9_draw 7 = .ok (.aload_n 0, 1) := by decide +kernel
theorem dX9_draw_8 : decode cX9_draw 8 = .ok (.aload_n 0, 1) := by decide +kernel
theorem dX9_draw_9 : decode cX9_draw 9 = .ok (.getfield 15, 3) := by decide +kernel
theorem dX9_draw_12 : decode cX9_draw 12 = .ok (.sipush 409, 3) := by decide +kernel
theorem dX9_draw_15 : decode cX9_draw 15 = .ok (.imul, 1) := by decide +kernel
theorem dX9_draw_16 : decode cX9_draw 16 = .ok (.sipush 283, 3) := by decide +kernel
theorem dX9_draw_19 : decode cX9_draw 19 = .ok (.iadd, 1) := by decide +kernel
theorem dX9_draw_20 : decode cX9_draw 20 = .ok (.sipush 30517, 3) := by decide +kernel
theorem dX9_draw_23 : decode cX9_draw 23 = .ok (.irem, 1) := by decide +kernel
theorem dX9_draw_24 : decode cX9_draw 24 = .ok (.putfield 15, 3) := by decide +kernel
theorem dX9_draw_27 : decode cX9_draw 27 = .ok (.iload_n 2, 1) := by decide +kernel
theorem dX9_draw_28 : decode cX9_draw 28 = .ok (.ireturn, 1) := by decide +kernel
theorem gX9_draw_0 {d : Nat} {M : ev_Mem} {Q : Option Value → ev_Mem → Prop} {x1 : Int32} (h : (¬ (x1 : Int32) = 0 ∧ (∀ v1 : Int32, v1 = (M.1 43 4) - (M.1 43 4) / x1 * x1 → (∀ M1 : ev_Mem, M1 = ev_wr M 43 4 ((((M.1 43 4) * 409) + 283) - (((M.1 43 4) * 409) + 283) / 30517 * 30517) → (Q (some (.int v1)) M1))))) : Ev LX d mX9_draw 0 [some (.ref 43), some (.int x1), none] [] M Q := by
  refine ev_aload_n dX9_draw_0 rfl ?_
  refine ev_getI dX9_draw_1 fl_WithoutE_Typewriter_15 lx_43 rfl ?_
  refine ev_iload_n dX9_draw_4 rfl ?_
  obtain ⟨c, h⟩ := h
  refine ev_irem dX9_draw_5 c ?_
  refine ev_istore_n (ls2 := [some (.ref 43), some (.int x1), some (.int ((M.1 43 4) - (M.1 43 4) / x1 * x1))]) dX9_draw_6 (Nat.le_of_ble_eq_true rfl) rfl ?_
  generalize ev1 : (M.1 43 4) - (M.1 43 4) / x1 * x1 = v1
  replace h := h v1 ev1.symm
  refine ev_aload_n dX9_draw_7 rfl ?_
  refine ev_aload_n dX9_draw_8 rfl ?_
  refine ev_getI dX9_draw_9 fl_WithoutE_Typewriter_15 lx_43 rfl ?_
  refine ev_sipush (v := 409) dX9_draw_12 (by decide) ?_
  refine ev_imul dX9_draw_15 ?_
  refine ev_sipush (v := 283) dX9_draw_16 (by decide) ?_
  refine ev_iadd dX9_draw_19 ?_
  refine ev_sipush (v := 30517) dX9_draw_20 (by decide) ?_
  refine ev_irem dX9_draw_23 (by decide) ?_
  refine ev_putI dX9_draw_24 fp_WithoutE_Typewriter_15 lx_43 rfl rfl rfl ?_
  generalize eM1 : ev_wr M 43 4 ((((M.1 43 4) * 409) + 283) - (((M.1 43 4) * 409) + 283) / 30517 * 30517) = M1
  replace h := h M1 eM1.symm
  refine ev_iload_n dX9_draw_27 rfl ?_
  exact ev_iret dX9_draw_28 rfl h
theorem dX9_note_0 : decode cX9_note 0 = .ok (.aload_n 0, 1) := by decide +kernel
theorem dX9_note_1 : decode cX9_note 1 = .ok (.getfield 40, 3) := by decide +kernel
theorem dX9_note_4 : decode cX9_note 4 = .ok (.bipush 90, 2) := by decide +kernel
theorem dX9_note_6 : decode cX9_note 6 = .ok (.irem, 1) := by decide +kernel
theorem dX9_note_7 : decode cX9_note 7 = .ok (.iconst 4, 1) := by decide +kernel
theorem dX9_note_8 : decode cX9_note 8 = .ok (.imul, 1) := by decide +kernel
theorem dX9_note_9 : decode cX9_note 9 = .ok (.istore 4, 2) := by decide +kernel
theorem dX9_note_11 : decode cX9_note 11 = .ok (.aload_n 0, 1) := by decide +kernel
theorem dX9_note_12 : decode cX9_note 12 = .ok (.getfield 19, 3) := by decide +kernel
theorem dX9_note_15 : decode cX9_note 15 = .ok (.iload 4, 2) := by decide +kernel
theorem dX9_note_17 : decode cX9_note 17 = .ok (.aload_n 0, 1) := by decide +kernel
theorem dX9_note_18 : decode cX9_note 18 = .ok (.getfield 37, 3) := by decide +kernel
theorem dX9_note_21 : decode cX9_note 21 = .ok (.iastore, 1) := by decide +kernel
theorem dX9_note_22 : decode cX9_note 22 = .ok (.aload_n 0, 1) := by decide +kernel
theorem dX9_note_23 : decode cX9_note 23 = .ok (.getfield 19, 3) := by decide +kernel
theorem dX9_note_26 : decode cX9_note 26 = .ok (.iload 4, 2) := by decide +kernel
theorem dX9_note_28 : decode cX9_note 28 = .ok (.iconst 1, 1) := by decide +kernel
theorem dX9_note_29 : decode cX9_note 29 = .ok (.iadd, 1) := by decide +kernel
theorem dX9_note_30 : decode cX9_note 30 = .ok (.iload_n 1, 1) := by decide +kernel
theorem dX9_note_31 : decode cX9_note 31 = .ok (.iastore, 1) := by decide +kernel
theorem dX9_note_32 : decode cX9_note 32 = .ok (.aload_n 0, 1) := by decide +kernel
theorem dX9_note_33 : decode cX9_note 33 = .ok (.getfield 19, 3) := by decide +kernel
theorem dX9_note_36 : decode cX9_note 36 = .ok (.iload 4, 2) := by decide +kernel
theorem dX9_note_38 : decode cX9_note 38 = .ok (.iconst 2, 1) := by decide +kernel
theorem dX9_note_39 : decode cX9_note 39 = .ok (.iadd, 1) := by decide +kernel
theorem dX9_note_40 : decode cX9_note 40 = .ok (.iload_n 2, 1) := by decide +kernel
theorem dX9_note_41 : decode cX9_note 41 = .ok (.iastore, 1) := by decide +kernel
theorem dX9_note_42 : decode cX9_note 42 = .ok (.aload_n 0, 1) := by decide +kernel
theorem dX9_note_43 : decode cX9_note 43 = .ok (.getfield 19, 3) := by decide +kernel
theorem dX9_note_46 : decode cX9_note 46 = .ok (.iload 4, 2) := by decide +kernel
theorem dX9_note_48 : decode cX9_note 48 = .ok (.iconst 3, 1) := by decide +kernel
theorem dX9_note_49 : decode cX9_note 49 = .ok (.iadd, 1) := by decide +kernel
theorem dX9_note_50 : decode cX9_note 50 = .ok (.iload_n 3, 1) := by decide +kernel
theorem dX9_note_51 : decode cX9_note 51 = .ok (.iastore, 1) := by decide +kernel
theorem dX9_note_52 : decode cX9_note 52 = .ok (.aload_n 0, 1) := by decide +kernel
theorem dX9_note_53 : decode cX9_note 53 = .ok (.dup, 1) := by decide +kernel
theorem dX9_note_54 : decode cX9_note 54 = .ok (.getfield 40, 3) := by decide +kernel
theorem dX9_note_57 : decode cX9_note 57 = .ok (.iconst 1, 1) := by decide +kernel
theorem dX9_note_58 : decode cX9_note 58 = .ok (.iadd, 1) := by decide +kernel
theorem dX9_note_59 : decode cX9_note 59 = .ok (.putfield 40, 3) := by decide +kernel
theorem dX9_note_62 : decode cX9_note 62 = .ok (.return_, 1) := by decide +kernel
theorem gX9_note_0 {d : Nat} {M : ev_Mem} {Q : Option Value → ev_Mem → Prop} {x1 x2 x3 : Int32} (h : (∀ v1 : Int32, v1 = ((M.1 43 6) - (M.1 43 6) / 90 * 90) * 4 → (vp_in v1 360 ∧ (∀ M1 : ev_Mem, M1 = ev_wr M 45 v1.toNatClampNeg (M.1 43 3) → (vp_in (v1 + 1) 360 ∧ (∀ M2 : ev_Mem, M2 = ev_wr M1 45 (v1 + 1).toNatClampNeg x1 → (vp_in (v1 + 2) 360 ∧ (∀ M3 : ev_Mem, M3 = ev_wr M2 45 (v1 + 2).toNatClampNeg x2 → (vp_in (v1 + 3) 360 ∧ (∀ M4 : ev_Mem, M4 = ev_wr M3 45 (v1 + 3).toNatClampNeg x3 → (∀ M5 : ev_Mem, M5 = ev_wr M4 43 6 ((M4.1 43 6) + 1) → (Q none M5)))))))))))) : Ev LX d mX9_note 0 [some (.ref 43), some (.int x1), some (.int x2), some (.int x3), none] [] M Q := by
  refine ev_aload_n dX9_note_0 rfl ?_
  refine ev_getI dX9_note_1 fl_WithoutE_Typewriter_40 lx_43 rfl ?_
  refine ev_bipush (v := 90) dX9_note_4 (by decide) ?_
  refine ev_irem dX9_note_6 (by decide) ?_
  refine ev_iconst (v := 4) dX9_note_7 (by decide) ?_
  refine ev_imul dX9_note_8 ?_
  refine ev_istore (ls2 := [some (.ref 43), some (.int x1), some (.int x2), some (.int x3), some (.int (((M.1 43 6) - (M.1 43 6) / 90 * 90) * 4))]) dX9_note_9 (Nat.le_of_ble_eq_true rfl) rfl ?_
  generalize ev1 : ((M.1 43 6) - (M.1 43 6) / 90 * 90) * 4 = v1
  replace h := h v1 ev1.symm
  refine ev_aload_n dX9_note_11 rfl ?_
  refine ev_getA dX9_note_12 fl_WithoutE_Typewriter_19 lx_43 rfl ?_
  refine ev_iload dX9_note_15 rfl ?_
  refine ev_aload_n dX9_note_17 rfl ?_
  refine ev_getI dX9_note_18 fl_WithoutE_Typewriter_37 lx_43 rfl ?_
  obtain ⟨c, h⟩ := h
  refine ev_iast dX9_note_21 lx_45 c ?_
  generalize eM1 : ev_wr M 45 v1.toNatClampNeg (M.1 43 3) = M1
  replace h := h M1 eM1.symm
  refine ev_aload_n dX9_note_22 rfl ?_
  refine ev_getA dX9_note_23 fl_WithoutE_Typewriter_19 lx_43 rfl ?_
  refine ev_iload dX9_note_26 rfl ?_
  refine ev_iconst (v := 1) dX9_note_28 (by decide) ?_
  refine ev_iadd dX9_note_29 ?_
  refine ev_iload_n dX9_note_30 rfl ?_
  obtain ⟨c, h⟩ := h
  refine ev_iast dX9_note_31 lx_45 c ?_
  generalize eM2 : ev_wr M1 45 (v1 + 1).toNatClampNeg x1 = M2
  replace h := h M2 eM2.symm
  refine ev_aload_n dX9_note_32 rfl ?_
  refine ev_getA dX9_note_33 fl_WithoutE_Typewriter_19 lx_43 rfl ?_
  refine ev_iload dX9_note_36 rfl ?_
  refine ev_iconst (v := 2) dX9_note_38 (by decide) ?_
  refine ev_iadd dX9_note_39 ?_
  refine ev_iload_n dX9_note_40 rfl ?_
  obtain ⟨c, h⟩ := h
  refine ev_iast dX9_note_41 lx_45 c ?_
  generalize eM3 : ev_wr M2 45 (v1 + 2).toNatClampNeg x2 = M3
  replace h := h M3 eM3.symm
  refine ev_aload_n dX9_note_42 rfl ?_
  refine ev_getA dX9_note_43 fl_WithoutE_Typewriter_19 lx_43 rfl ?_
  refine ev_iload dX9_note_46 rfl ?_
  refine ev_iconst (v := 3) dX9_note_48 (by decide) ?_
  refine ev_iadd dX9_note_49 ?_
  refine ev_iload_n dX9_note_50 rfl ?_
  obtain ⟨c, h⟩ := h
  refine ev_iast dX9_note_51 lx_45 c ?_
  generalize eM4 : ev_wr M3 45 (v1 + 3).toNatClampNeg x3 = M4
  replace h := h M4 eM4.symm
  refine ev_aload_n dX9_note_52 rfl ?_
  refine ev_dup dX9_note_53 rfl ?_
  refine ev_getI dX9_note_54 fl_WithoutE_Typewriter_40 lx_43 rfl ?_
  refine ev_iconst (v := 1) dX9_note_57 (by decide) ?_
  refine ev_iadd dX9_note_58 ?_
  refine ev_putI dX9_note_59 fp_WithoutE_Typewriter_40 lx_43 rfl rfl rfl ?_
  generalize eM5 : ev_wr M4 43 6 ((M4.1 43 6) + 1) = M5
  replace h := h M5 eM5.symm
  exact ev_vret dX9_note_62 rfl h
theorem dX9_linesShown_0 : decode cX9_linesShown 0 = .ok (.aload_n 0, 1) := by decide +kernel
theorem dX9_linesShown_1 : decode cX9_linesShown 1 = .ok (.getfield 40, 3) := by decide +kernel
theorem dX9_linesShown_4 : decode cX9_linesShown 4 = .ok (.bipush 30, 2) := by decide +kernel
theorem dX9_linesShown_6 : decode cX9_linesShown 6 = .ok (.invokestatic 49, 3) := by decide +kernel
theorem dX9_linesShown_9 : decode cX9_linesShown 9 = .ok (.ireturn, 1) := by decide +kernel
theorem gX9_linesShown_0 {d : Nat} {M : ev_Mem} {Q : Option Value → ev_Mem → Prop} (h : (Q (some (.int (imin (M.1 43 6) (30 : Int32)))) M)) : Ev LX (d + 1) mX9_linesShown 0 [some (.ref 43)] [] M Q := by
  refine ev_aload_n dX9_linesShown_0 rfl ?_
  refine ev_getI dX9_linesShown_1 fl_WithoutE_Typewriter_40 lx_43 rfl ?_
  refine ev_bipush (v := 30) dX9_linesShown_4 (by decide) ?_
  refine ev_min dX9_linesShown_6 ml_WithoutE_Typewriter_49 (by omega) (Nat.le_of_ble_eq_true rfl) ?_
  exact ev_iret dX9_linesShown_9 rfl h
theorem dX9_markStep_0 : decode cX9_markStep 0 = .ok (.aload_n 0, 1) := by decide +kernel
theorem dX9_markStep_1 : decode cX9_markStep 1 = .ok (.getfield 43, 3) := by decide +kernel
theorem dX9_markStep_4 : decode cX9_markStep 4 = .ok (.aload_n 0, 1) := by decide +kernel
theorem dX9_markStep_5 : decode cX9_markStep 5 = .ok (.getfield 46, 3) := by decide +kernel
theorem dX9_markStep_8 : decode cX9_markStep 8 = .ok (.iadd, 1) := by decide +kernel
theorem dX9_markStep_9 : decode cX9_markStep 9 = .ok (.bipush 30, 2) := by decide +kernel
theorem dX9_markStep_11 : decode cX9_markStep 11 = .ok (.irem, 1) := by decide +kernel
theorem dX9_markStep_12 : decode cX9_markStep 12 = .ok (.bipush 31, 2) := by decide +kernel
theorem dX9_markStep_14 : decode cX9_markStep 14 = .ok (.imul, 1) := by decide +kernel
theorem dX9_markStep_15 : decode cX9_markStep 15 = .ok (.istore_n 1, 1) := by decide +kernel
theorem dX9_markStep_16 : decode cX9_markStep 16 = .ok (.aload_n 0, 1) := by decide +kernel
theorem dX9_markStep_17 : decode cX9_markStep 17 = .ok (.getfield 46, 3) := by decide +kernel
theorem dX9_markStep_20 : decode cX9_markStep 20 = .ok (.bipush 30, 2) := by decide +kernel
theorem dX9_markStep_22 : decode cX9_markStep 22 = .ok (.if_icmp .ne 19, 3) := by decide +kernel
theorem dX9_markStep_25 : decode cX9_markStep 25 = .ok (.aload_n 0, 1) := by decide +kernel
theorem dX9_markStep_26 : decode cX9_markStep 26 = .ok (.aload_n 0, 1) := by decide +kernel
theorem dX9_markStep_27 : decode cX9_markStep 27 = .ok (.getfield 43, 3) := by decide +kernel
theorem dX9_markStep_30 : decode cX9_markStep 30 = .ok (.iconst 1, 1) := by decide +kernel
theorem dX9_markStep_31 : decode cX9_markStep 31 = .ok (.iadd, 1) := by decide +kernel
theorem dX9_markStep_32 : decode cX9_markStep 32 = .ok (.bipush 30, 2) := by decide +kernel
theorem dX9_markStep_34 : decode cX9_markStep 34 = .ok (.irem, 1) := by decide +kernel
theorem dX9_markStep_35 : decode cX9_markStep 35 = .ok (.putfield 43, 3) := by decide +kernel
theorem dX9_markStep_38 : decode cX9_markStep 38 = .ok (.goto 13, 3) := by decide +kernel
theorem dX9_markStep_41 : decode cX9_markStep 41 = .ok (.aload_n 0, 1) := by decide +kernel
theorem dX9_markStep_42 : decode cX9_markStep 42 = .ok (.dup, 1) := by decide +kernel
theorem dX9_markStep_43 : decode cX9_markStep 43 = .ok (.getfield 46, 3) := by decide +kernel
theorem dX9_markStep_46 : decode cX9_markStep 46 = .ok (.iconst 1, 1) := by decide +kernel
theorem dX9_markStep_47 : decode cX9_markStep 47 = .ok (.iadd, 1) := by decide +kernel
theorem dX9_markStep_48 : decode cX9_markStep 48 = .ok (.putfield 46, 3) := by decide +kernel
theorem dX9_markStep_51 : decode cX9_markStep 51 = .ok (.aload_n 0, 1) := by decide +kernel
theorem dX9_markStep_52 : decode cX9_markStep 52 = .ok (.getfield 9, 3) := by decide +kernel
theorem dX9_markStep_55 : decode cX9_markStep 55 = .ok (.iconst 0, 1) := by decide +kernel
theorem dX9_markStep_56 : decode cX9_markStep 56 = .ok (.aload_n 0, 1) := by decide +kernel
theorem dX9_markStep_57 : decode cX9_markStep 57 = .ok (.getfield 22, 3) := by decide +kernel
theorem dX9_markStep_60 : decode cX9_markStep 60 = .ok (.iload_n 1, 1) := by decide +kernel
theorem dX9_markStep_61 : decode cX9_markStep 61 = .ok (.bipush 26, 2) := by decide +kernel
theorem dX9_markStep_63 : decode cX9_markStep 63 = .ok (.invokestatic 28, 3) := by decide +kernel
theorem dX9_markStep_66 : decode cX9_markStep 66 = .ok (.aload_n 0, 1) := by decide +kernel
theorem dX9_markStep_67 : decode cX9_markStep 67 = .ok (.getfield 22, 3) := by decide +kernel
theorem dX9_markStep_70 : decode cX9_markStep 70 = .ok (.iload_n 1, 1) := by decide +kernel
theorem dX9_markStep_71 : decode cX9_markStep 71 = .ok (.bipush 26, 2) := by decide +kernel
theorem dX9_markStep_73 : decode cX9_markStep 73 = .ok (.iadd, 1) := by decide +kernel
theorem dX9_markStep_74 : decode cX9_markStep 74 = .ok (.aload_n 0, 1) := by decide +kernel
theorem dX9_markStep_75 : decode cX9_markStep 75 = .ok (.getfield 25, 3) := by decide +kernel
theorem dX9_markStep_78 : decode cX9_markStep 78 = .ok (.iastore, 1) := by decide +kernel
theorem dX9_markStep_79 : decode cX9_markStep 79 = .ok (.aload_n 0, 1) := by decide +kernel
theorem dX9_markStep_80 : decode cX9_markStep 80 = .ok (.getfield 22, 3) := by decide +kernel
theorem dX9_markStep_83 : decode cX9_markStep 83 = .ok (.iload_n 1, 1) := by decide +kernel
theorem dX9_markStep_84 : decode cX9_markStep 84 = .ok (.bipush 26, 2) := by decide +kernel
theorem dX9_markStep_86 : decode cX9_markStep 86 = .ok (.iadd, 1) := by decide +kernel
theorem dX9_markStep_87 : decode cX9_markStep 87 = .ok (.iconst 1, 1) := by decide +kernel
theorem dX9_markStep_88 : decode cX9_markStep 88 = .ok (.iadd, 1) := by decide +kernel
theorem dX9_markStep_89 : decode cX9_markStep 89 = .ok (.aload_n 0, 1) := by decide +kernel
theorem dX9_markStep_90 : decode cX9_markStep 90 = .ok (.getfield 34, 3) := by decide +kernel
theorem dX9_markStep_93 : decode cX9_markStep 93 = .ok (.iastore, 1) := by decide +kernel
theorem dX9_markStep_94 : decode cX9_markStep 94 = .ok (.aload_n 0, 1) := by decide +kernel
theorem dX9_markStep_95 : decode cX9_markStep 95 = .ok (.getfield 22, 3) := by decide +kernel
theorem dX9_markStep_98 : decode cX9_markStep 98 = .ok (.iload_n 1, 1) := by decide +kernel
theorem dX9_markStep_99 : decode cX9_markStep 99 = .ok (.bipush 26, 2) := by decide +kernel
theorem dX9_markStep_101 : decode cX9_markStep 101 = .ok (.iadd, 1) := by decide +kernel
theorem dX9_markStep_102 : decode cX9_markStep 102 = .ok (.iconst 2, 1) := by decide +kernel
theorem dX9_markStep_103 : decode cX9_markStep 103 = .ok (.iadd, 1) := by decide +kernel
theorem dX9_markStep_104 : decode cX9_markStep 104 = .ok (.aload_n 0, 1) := by decide +kernel
theorem dX9_markStep_105 : decode cX9_markStep 105 = .ok (.getfield 37, 3) := by decide +kernel
theorem dX9_markStep_108 : decode cX9_markStep 108 = .ok (.iastore, 1) := by decide +kernel
theorem dX9_markStep_109 : decode cX9_markStep 109 = .ok (.aload_n 0, 1) := by decide +kernel
theorem dX9_markStep_110 : decode cX9_markStep 110 = .ok (.getfield 22, 3) := by decide +kernel
theorem dX9_markStep_113 : decode cX9_markStep 113 = .ok (.iload_n 1, 1) := by decide +kernel
theorem dX9_markStep_114 : decode cX9_markStep 114 = .ok (.bipush 26, 2) := by decide +kernel
theorem dX9_markStep_116 : decode cX9_markStep 116 = .ok (.iadd, 1) := by decide +kernel
theorem dX9_markStep_117 : decode cX9_markStep 117 = .ok (.iconst 3, 1) := by decide +kernel
theorem dX9_markStep_118 : decode cX9_markStep 118 = .ok (.iadd, 1) := by decide +kernel
theorem dX9_markStep_119 : decode cX9_markStep 119 = .ok (.aload_n 0, 1) := by decide +kernel
theorem dX9_markStep_120 : decode cX9_markStep 120 = .ok (.getfield 15, 3) := by decide +kernel
theorem dX9_markStep_123 : decode cX9_markStep 123 = .ok (.iastore, 1) := by decide +kernel
theorem dX9_markStep_124 : decode cX9_markStep 124 = .ok (.aload_n 0, 1) := by decide +kernel
theorem dX9_markStep_125 : decode cX9_markStep 125 = .ok (.getfield 22, 3) := by decide +kernel
theorem dX9_markStep_128 : decode cX9_markStep 128 = .ok (.iload_n 1, 1) := by decide +kernel
theorem dX9_markStep_129 : decode cX9_markStep 129 = .ok (.bipush 26, 2) := by decide +kernel
theorem dX9_markStep_131 : decode cX9_markStep 131 = .ok (.iadd, 1) := by decide +kernel
theorem dX9_markStep_132 : decode cX9_markStep 132 = .ok (.iconst 4, 1) := by decide +kernel
theorem dX9_markStep_133 : decode cX9_markStep 133 = .ok (.iadd, 1) := by decide +kernel
theorem dX9_markStep_134 : decode cX9_markStep 134 = .ok (.aload_n 0, 1) := by decide +kernel
theorem dX9_markStep_135 : decode cX9_markStep 135 = .ok (.getfield 40, 3) := by decide +kernel
theorem dX9_markStep_138 : decode cX9_markStep 138 = .ok (.iastore, 1) := by decide +kernel
theorem dX9_markStep_139 : decode cX9_markStep 139 = .ok (.return_, 1) := by decide +kernel
theorem gX9_markStep_0 {d : Nat} {M : ev_Mem} {Q : Option Value → ev_Mem → Prop} (h : (∀ v1 : Int32, v1 = (((M.1 43 8) + (M.1 43 9)) - ((M.1 43 8) + (M.1 43 9)) / 30 * 30) * 31 → (((¬ (M.1 43 9) = 30) → (∀ M1 : ev_Mem, M1 = ev_wr M 43 9 ((M.1 43 9) + 1) → ((¬ (0 : Int32) < 0 ∧ ¬ v1 < 0 ∧ ¬ (26 : Int32) < 0 ∧ (0 : Int32).toNatClampNeg + (26 : Int32).toNatClampNeg ≤ 26 ∧ v1.toNatClampNeg + (26 : Int32).toNatClampNeg ≤ 930) ∧ (∀ M2 : ev_Mem, M2 = ev_cp M1 44 46 (0 : Int32).toNatClampNeg v1.toNatClampNeg (26 : Int32).toNatClampNeg → (vp_in (v1 + 26) 930 ∧ (∀ M3 : ev_Mem, M3 = ev_wr M2 46 (v1 + 26).toNatClampNeg (M2.1 43 0) → (vp_in ((v1 + 26) + 1) 930 ∧ (∀ M4 : ev_Mem, M4 = ev_wr M3 46 ((v1 + 26) + 1).toNatClampNeg (M3.1 43 2) → (vp_in ((v1 + 26) + 2) 930 ∧ (∀ M5 : ev_Mem, M5 = ev_wr M4 46 ((v1 + 26) + 2).toNatClampNeg (M4.1 43 3) → (vp_in ((v1 + 26) + 3) 930 ∧ (∀ M6 : ev_Mem, M6 = ev_wr M5 46 ((v1 + 26) + 3).toNatClampNeg (M5.1 43 4) → (vp_in ((v1 + 26) + 4) 930 ∧ (∀ M7 : ev_Mem, M7 = ev_wr M6 46 ((v1 + 26) + 4).toNatClampNeg (M6.1 43 6) → (Q none M7))))))))))))))) ∧ (((M.1 43 9) = 30) → (∀ M8 : ev_Mem, M8 = ev_wr M 43 8 (((M.1 43 8) + 1) - ((M.1 43 8) + 1) / 30 * 30) → ((¬ (0 : Int32) < 0 ∧ ¬ v1 < 0 ∧ ¬ (26 : Int32) < 0 ∧ (0 : Int32).toNatClampNeg + (26 : Int32).toNatClampNeg ≤ 26 ∧ v1.toNatClampNeg + (26 : Int32).toNatClampNeg ≤ 930) ∧ (∀ M9 : ev_Mem, M9 = ev_cp M8 44 46 (0 : Int32).toNatClampNeg v1.toNatClampNeg (26 : Int32).toNatClampNeg → (vp_in (v1 + 26) 930 ∧ (∀ M10 : ev_Mem, M10 = ev_wr M9 46 (v1 + 26).toNatClampNeg (M9.1 43 0) → (vp_in ((v1 + 26) + 1) 930 ∧ (∀ M11 : ev_Mem, M11 = ev_wr M10 46 ((v1 + 26) + 1).toNatClampNeg (M10.1 43 2) → (vp_in ((v1 + 26) + 2) 930 ∧ (∀ M12 : ev_Mem, M12 = ev_wr M11 46 ((v1 + 26) + 2).toNatClampNeg (M11.1 43 3) → (vp_in ((v1 + 26) + 3) 930 ∧ (∀ M13 : ev_Mem, M13 = ev_wr M12 46 ((v1 + 26) + 3).toNatClampNeg (M12.1 43 4) → (vp_in ((v1 + 26) + 4) 930 ∧ (∀ M14 : ev_Mem, M14 = ev_wr M13 46 ((v1 + 26) + 4).toNatClampNeg (M13.1 43 6) → (Q none M14)))))))))))))))))) : Ev LX (d + 1) mX9_markStep 0 [some (.ref 43), none] [] M Q := by
  refine ev_aload_n dX9_markStep_0 rfl ?_
  refine ev_getI dX9_markStep_1 fl_WithoutE_Typewriter_43 lx_43 rfl ?_
  refine ev_aload_n dX9_markStep_4 rfl ?_
  refine ev_getI dX9_markStep_5 fl_WithoutE_Typewriter_46 lx_43 rfl ?_
  refine ev_iadd dX9_markStep_8 ?_
  refine ev_bipush (v := 30) dX9_markStep_9 (by decide) ?_
  refine ev_irem dX9_markStep_11 (by decide) ?_
  refine ev_bipush (v := 31) dX9_markStep_12 (by decide) ?_
  refine ev_imul dX9_markStep_14 ?_
  refine ev_istore_n (ls2 := [some (.ref 43), some (.int ((((M.1 43 8) + (M.1 43 9)) - ((M.1 43 8) + (M.1 43 9)) / 30 * 30) * 31))]) dX9_markStep_15 (Nat.le_of_ble_eq_true rfl) rfl ?_
  generalize ev1 : (((M.1 43 8) + (M.1 43 9)) - ((M.1 43 8) + (M.1 43 9)) / 30 * 30) * 31 = v1
  replace h := h v1 ev1.symm
  refine ev_aload_n dX9_markStep_16 rfl ?_
  refine ev_getI dX9_markStep_17 fl_WithoutE_Typewriter_46 lx_43 rfl ?_
  refine ev_bipush (v := 30) dX9_markStep_20 (by decide) ?_
  refine ev_icmp_ne (tgt := 41) dX9_markStep_22 (by decide) (fun c => ?_) (fun c => ?_)
  · replace h := h.1 c
    refine ev_aload_n dX9_markStep_41 rfl ?_
    refine ev_dup dX9_markStep_42 rfl ?_
    refine ev_getI dX9_markStep_43 fl_WithoutE_Typewriter_46 lx_43 rfl ?_
    refine ev_iconst (v := 1) dX9_markStep_46 (by decide) ?_
    refine ev_iadd dX9_markStep_47 ?_
    refine ev_putI dX9_markStep_48 fp_WithoutE_Typewriter_46 lx_43 rfl rfl rfl ?_
    generalize eM1 : ev_wr M 43 9 ((M.1 43 9) + 1) = M1
    replace h := h M1 eM1.symm
    refine ev_aload_n dX9_markStep_51 rfl ?_
    refine ev_getA dX9_markStep_52 fl_WithoutE_Typewriter_9 lx_43 rfl ?_
    refine ev_iconst (v := 0) dX9_markStep_55 (by decide) ?_
    refine ev_aload_n dX9_markStep_56 rfl ?_
    refine ev_getA dX9_markStep_57 fl_WithoutE_Typewriter_22 lx_43 rfl ?_
    refine ev_iload_n dX9_markStep_60 rfl ?_
    refine ev_bipush (v := 26) dX9_markStep_61 (by decide) ?_
    obtain ⟨⟨c, c2, c3, c4, c5⟩, h⟩ := h
    refine ev_copy dX9_markStep_63 (cpw cp_WithoutE_Typewriter_28) lx_44 lx_46 (by omega) rfl c c2 c3 c4 c5 ?_
    generalize eM2 : ev_cp M1 44 46 (0 : Int32).toNatClampNeg v1.toNatClampNeg (26 : Int32).toNatClampNeg = M2
    replace h := h M2 eM2.symm
    refine ev_aload_n dX9_markStep_66 rfl ?_
    refine ev_getA dX9_markStep_67 fl_WithoutE_Typewriter_22 lx_43 rfl ?_
    refine ev_iload_n dX9_markStep_70 rfl ?_
    refine ev_bipush (v := 26) dX9_markStep_71 (by decide) ?_
    refine ev_iadd dX9_markStep_73 ?_
    refine ev_aload_n dX9_markStep_74 rfl ?_
    refine ev_getI dX9_markStep_75 fl_WithoutE_Typewriter_25 lx_43 rfl ?_
    obtain ⟨c, h⟩ := h
    refine ev_iast dX9_markStep_78 lx_46 c ?_
    generalize eM3 : ev_wr M2 46 (v1 + 26).toNatClampNeg (M2.1 43 0) = M3
    replace h := h M3 eM3.symm
    refine ev_aload_n dX9_markStep_79 rfl ?_
    refine ev_getA dX9_markStep_80 fl_WithoutE_Typewriter_22 lx_43 rfl ?_
    refine ev_iload_n dX9_markStep_83 rfl ?_
    refine ev_bipush (v := 26) dX9_markStep_84 (by decide) ?_
    refine ev_iadd dX9_markStep_86 ?_
    refine ev_iconst (v := 1) dX9_markStep_87 (by decide) ?_
    refine ev_iadd dX9_markStep_88 ?_
    refine ev_aload_n dX9_markStep_89 rfl ?_
    refine ev_getI dX9_markStep_90 fl_WithoutE_Typewriter_34 lx_43 rfl ?_
    obtain ⟨c, h⟩ := h
    refine ev_iast dX9_markStep_93 lx_46 c ?_
    generalize eM4 : ev_wr M3 46 ((v1 + 26) + 1).toNatClampNeg (M3.1 43 2) = M4
    replace h := h M4 eM4.symm
    refine ev_aload_n dX9_markStep_94 rfl ?_
    refine ev_getA dX9_markStep_95 fl_WithoutE_Typewriter_22 lx_43 rfl ?_
    refine ev_iload_n dX9_markStep_98 rfl ?_
    refine ev_bipush (v := 26) dX9_markStep_99 (by decide) ?_
    refine ev_iadd dX9_markStep_101 ?_
    refine ev_iconst (v := 2) dX9_markStep_102 (by decide) ?_
    refine ev_iadd dX9_markStep_103 ?_
    refine ev_aload_n dX9_markStep_104 rfl ?_
    refine ev_getI dX9_markStep_105 fl_WithoutE_Typewriter_37 lx_43 rfl ?_
    obtain ⟨c, h⟩ := h
    refine ev_iast dX9_markStep_108 lx_46 c ?_
    generalize eM5 : ev_wr M4 46 ((v1 + 26) + 2).toNatClampNeg (M4.1 43 3) = M5
    replace h := h M5 eM5.symm
    refine ev_aload_n dX9_markStep_109 rfl ?_
    refine ev_getA dX9_markStep_110 fl_WithoutE_Typewriter_22 lx_43 rfl ?_
    refine ev_iload_n dX9_markStep_113 rfl ?_
    refine ev_bipush (v := 26) dX9_markStep_114 (by decide) ?_
    refine ev_iadd dX9_markStep_116 ?_
    refine ev_iconst (v := 3) dX9_markStep_117 (by decide) ?_
    refine ev_iadd dX9_markStep_118 ?_
    refine ev_aload_n dX9_markStep_119 rfl ?_
    refine ev_getI dX9_markStep_120 fl_WithoutE_Typewriter_15 lx_43 rfl ?_
    obtain ⟨c, h⟩ := h
    refine ev_iast dX9_markStep_123 lx_46 c ?_
    generalize eM6 : ev_wr M5 46 ((v1 + 26) + 3).toNatClampNeg (M5.1 43 4) = M6
    replace h := h M6 eM6.symm
    refine ev_aload_n dX9_markStep_124 rfl ?_
    refine ev_getA dX9_markStep_125 fl_WithoutE_Typewriter_22 lx_43 rfl ?_
    refine ev_iload_n dX9_markStep_128 rfl ?_
    refine ev_bipush (v := 26) dX9_markStep_129 (by decide) ?_
    refine ev_iadd dX9_markStep_131 ?_
    refine ev_iconst (v := 4) dX9_markStep_132 (by decide) ?_
    refine ev_iadd dX9_markStep_133 ?_
    refine ev_aload_n dX9_markStep_134 rfl ?_
    refine ev_getI dX9_markStep_135 fl_WithoutE_Typewriter_40 lx_43 rfl ?_
    obtain ⟨c, h⟩ := h
    refine ev_iast dX9_markStep_138 lx_46 c ?_
    generalize eM7 : ev_wr M6 46 ((v1 + 26) + 4).toNatClampNeg (M6.1 43 6) = M7
    replace h := h M7 eM7.symm
    exact ev_vret dX9_markStep_139 rfl h
  · replace h := h.2 c
    refine ev_aload_n dX9_markStep_25 rfl ?_
    refine ev_aload_n dX9_markStep_26 rfl ?_
    refine ev_getI dX9_markStep_27 fl_WithoutE_Typewriter_43 lx_43 rfl ?_
    refine ev_iconst (v := 1) dX9_markStep_30 (by decide) ?_
    refine ev_iadd dX9_markStep_31 ?_
    refine ev_bipush (v := 30) dX9_markStep_32 (by decide) ?_
    refine ev_irem dX9_markStep_34 (by decide) ?_
    refine ev_putI dX9_markStep_35 fp_WithoutE_Typewriter_43 lx_43 rfl rfl rfl ?_
    generalize eM8 : ev_wr M 43 8 (((M.1 43 8) + 1) - ((M.1 43 8) + 1) / 30 * 30) = M8
    replace h := h M8 eM8.symm
    refine ev_goto (tgt := 51) dX9_markStep_38 (by decide) ?_
    refine ev_aload_n dX9_markStep_51 rfl ?_
    refine ev_getA dX9_markStep_52 fl_WithoutE_Typewriter_9 lx_43 rfl ?_
    refine ev_iconst (v := 0) dX9_markStep_55 (by decide) ?_
    refine ev_aload_n dX9_markStep_56 rfl ?_
    refine ev_getA dX9_markStep_57 fl_WithoutE_Typewriter_22 lx_43 rfl ?_
    refine ev_iload_n dX9_markStep_60 rfl ?_
    refine ev_bipush (v := 26) dX9_markStep_61 (by decide) ?_
    obtain ⟨⟨c, c2, c3, c4, c5⟩, h⟩ := h
    refine ev_copy dX9_markStep_63 (cpw cp_WithoutE_Typewriter_28) lx_44 lx_46 (by omega) rfl c c2 c3 c4 c5 ?_
    generalize eM9 : ev_cp M8 44 46 (0 : Int32).toNatClampNeg v1.toNatClampNeg (26 : Int32).toNatClampNeg = M9
    replace h := h M9 eM9.symm
    refine ev_aload_n dX9_markStep_66 rfl ?_
    refine ev_getA dX9_markStep_67 fl_WithoutE_Typewriter_22 lx_43 rfl ?_
    refine ev_iload_n dX9_markStep_70 rfl ?_
    refine ev_bipush (v := 26) dX9_markStep_71 (by decide) ?_
    refine ev_iadd dX9_markStep_73 ?_
    refine ev_aload_n dX9_markStep_74 rfl ?_
    refine ev_getI dX9_markStep_75 fl_WithoutE_Typewriter_25 lx_43 rfl ?_
    obtain ⟨c, h⟩ := h
    refine ev_iast dX9_markStep_78 lx_46 c ?_
    generalize eM10 : ev_wr M9 46 (v1 + 26).toNatClampNeg (M9.1 43 0) = M10
    replace h := h M10 eM10.symm
    refine ev_aload_n dX9_markStep_79 rfl ?_
    refine ev_getA dX9_markStep_80 fl_WithoutE_Typewriter_22 lx_43 rfl ?_
    refine ev_iload_n dX9_markStep_83 rfl ?_
    refine ev_bipush (v := 26) dX9_markStep_84 (by decide) ?_
    refine ev_iadd dX9_markStep_86 ?_
    refine ev_iconst (v := 1) dX9_markStep_87 (by decide) ?_
    refine ev_iadd dX9_markStep_88 ?_
    refine ev_aload_n dX9_markStep_89 rfl ?_
    refine ev_getI dX9_markStep_90 fl_WithoutE_Typewriter_34 lx_43 rfl ?_
    obtain ⟨c, h⟩ := h
    refine ev_iast dX9_markStep_93 lx_46 c ?_
    generalize eM11 : ev_wr M10 46 ((v1 + 26) + 1).toNatClampNeg (M10.1 43 2) = M11
    replace h := h M11 eM11.symm
    refine ev_aload_n dX9_markStep_94 rfl ?_
    refine ev_getA dX9_markStep_95 fl_WithoutE_Typewriter_22 lx_43 rfl ?_
    refine ev_iload_n dX9_markStep_98 rfl ?_
    refine ev_bipush (v := 26) dX9_markStep_99 (by decide) ?_
    refine ev_iadd dX9_markStep_101 ?_
    refine ev_iconst (v := 2) dX9_markStep_102 (by decide) ?_
    refine ev_iadd dX9_markStep_103 ?_
    refine ev_aload_n dX9_markStep_104 rfl ?_
    refine ev_getI dX9_markStep_105 fl_WithoutE_Typewriter_37 lx_43 rfl ?_
    obtain ⟨c, h⟩ := h
    refine ev_iast dX9_markStep_108 lx_46 c ?_
    generalize eM12 : ev_wr M11 46 ((v1 + 26) + 2).toNatClampNeg (M11.1 43 3) = M12
    replace h := h M12 eM12.symm
    refine ev_aload_n dX9_markStep_109 rfl ?_
    refine ev_getA dX9_markStep_110 fl_WithoutE_Typewriter_22 lx_43 rfl ?_
    refine ev_iload_n dX9_markStep_113 rfl ?_
    refine ev_bipush (v := 26) dX9_markStep_114 (by decide) ?_
    refine ev_iadd dX9_markStep_116 ?_
    refine ev_iconst (v := 3) dX9_markStep_117 (by decide) ?_
    refine ev_iadd dX9_markStep_118 ?_
    refine ev_aload_n dX9_markStep_119 rfl ?_
    refine ev_getI dX9_markStep_120 fl_WithoutE_Typewriter_15 lx_43 rfl ?_
    obtain ⟨c, h⟩ := h
    refine ev_iast dX9_markStep_123 lx_46 c ?_
    generalize eM13 : ev_wr M12 46 ((v1 + 26) + 3).toNatClampNeg (M12.1 43 4) = M13
    replace h := h M13 eM13.symm
    refine ev_aload_n dX9_markStep_124 rfl ?_
    refine ev_getA dX9_markStep_125 fl_WithoutE_Typewriter_22 lx_43 rfl ?_
    refine ev_iload_n dX9_markStep_128 rfl ?_
    refine ev_bipush (v := 26) dX9_markStep_129 (by decide) ?_
    refine ev_iadd dX9_markStep_131 ?_
    refine ev_iconst (v := 4) dX9_markStep_132 (by decide) ?_
    refine ev_iadd dX9_markStep_133 ?_
    refine ev_aload_n dX9_markStep_134 rfl ?_
    refine ev_getI dX9_markStep_135 fl_WithoutE_Typewriter_40 lx_43 rfl ?_
    obtain ⟨c, h⟩ := h
    refine ev_iast dX9_markStep_138 lx_46 c ?_
    generalize eM14 : ev_wr M13 46 ((v1 + 26) + 4).toNatClampNeg (M13.1 43 6) = M14
    replace h := h M14 eM14.symm
    exact ev_vret dX9_markStep_139 rfl h
theorem dX9_takeBack_0 : decode cX9_takeBack 0 = .ok (.aload_n 0, 1) := by decide +kernel
theorem dX9_takeBack_1 : decode cX9_takeBack 1 = .ok (.getfield 46, 3) := by decide +kernel
theorem dX9_takeBack_4 : decode cX9_takeBack 4 = .ok (.iconst 1, 1) := by decide +kernel
theorem dX9_takeBack_5 : decode cX9_takeBack 5 = .ok (.if_icmp .ge 4, 3) := by decide +kernel
theorem dX9_takeBack_8 : decode cX9_takeBack 8 = .ok (.return_, 1) := by decide +kernel
theorem dX9_takeBack_9 : decode cX9_takeBack 9 = .ok (.aload_n 0, 1) := by decide +kernel
theorem dX9_takeBack_10 : decode cX9_takeBack 10 = .ok (.dup, 1) := by decide +kernel
theorem dX9_takeBack_11 : decode cX9_takeBack 11 = .ok (.getfield 46, 3) := by decide +kernel
theorem dX9_takeBack_14 : decode cX9_takeBack 14 = .ok (.iconst 1, 1) := by decide +kernel
theorem dX9_takeBack_15 : decode cX9_takeBack 15 = .ok (.isub, 1) := by decide +kernel
theorem dX9_takeBack_16 : decode cX9_takeBack 16 = .ok (.putfield 46, 3) := by decide +kernel
theorem dX9_takeBack_19 : decode cX9_takeBack 19 = .ok (.aload_n 0, 1) := by decide +kernel
theorem dX9_takeBack_20 : decode cX9_takeBack 20 = .ok (.getfield 43, 3) := by decide +kernel
theorem dX9_takeBack_23 : decode cX9_takeBack 23 = .ok (.aload_n 0, 1) := by decide +kernel
theorem dX9_takeBack_24 : decode cX9_takeBack 24 = .ok (.getfield 46, 3) := by decide +kernel
theorem dX9_takeBack_27 : decode cX9_takeBack 27 = .ok (.iadd, 1) := by decide +kernel
theorem dX9_takeBack_28 : decode cX9_takeBack 28 = .ok (.bipush 30, 2) := by decide +kernel
theorem dX9_takeBack_30 : decode cX9_takeBack 30 = .ok (.irem, 1) := by decide +kernel
theorem dX9_takeBack_31 : decode cX9_takeBack 31 = .ok (.bipush 31, 2) := by decide +kernel
theorem dX9_takeBack_33 : decode cX9_takeBack 33 = .ok (.imul, 1) := by decide +kernel
theorem dX9_takeBack_34 : decode cX9_takeBack 34 = .ok (.istore_n 1, 1) := by decide +kernel
theorem dX9_takeBack_35 : decode cX9_takeBack 35 = .ok (.aload_n 0, 1) := by decide +kernel
theorem dX9_takeBack_36 : decode cX9_takeBack 36 = .ok (.getfield 22, 3) := by decide +kernel
theorem dX9_takeBack_39 : decode cX9_takeBack 39 = .ok (.iload_n 1, 1) := by decide +kernel
theorem dX9_takeBack_40 : decode cX9_takeBack 40 = .ok (.aload_n 0, 1) := by decide +kernel
theorem dX9_takeBack_41 : decode cX9_takeBack 41 = .ok (.getfield 9, 3) := by decide +kernel
theorem dX9_takeBack_44 : decode cX9_takeBack 44 = .ok (.iconst 0, 1) := by decide +kernel
theorem dX9_takeBack_45 : decode cX9_takeBack 45 = .ok (.bipush 26, 2) := by decide +kernel
theorem dX9_takeBack_47 : decode cX9_takeBack 47 = .ok (.invokestatic 28, 3) := by decide +kernel
theorem dX9_takeBack_50 : decode cX9_takeBack 50 = .ok (.aload_n 0, 1) := by decide +kernel
theorem dX9_takeBack_51 : decode cX9_takeBack 51 = .ok (.aload_n 0, 1) := by decide +kernel
theorem dX9_takeBack_52 : decode cX9_takeBack 52 = .ok (.getfield 22, 3) := by decide +kernel
theorem dX9_takeBack_55 : decode cX9_takeBack 55 = .ok (.iload_n 1, 1) := by decide +kernel
theorem dX9_takeBack_56 : decode cX9_takeBack 56 = .ok (.bipush 26, 2) := by decide +kernel
theorem dX9_takeBack_58 : decode cX9_takeBack 58 = .ok (.iadd, 1) := by decide +kernel
theorem dX9_takeBack_59 : decode cX9_takeBack 59 = .ok (.iaload, 1) := by decide +kernel
theorem dX9_takeBack_60 : decode cX9_takeBack 60 = .ok (.putfield 25, 3) := by decide +kernel
theorem dX9_takeBack_63 : decode cX9_takeBack 63 = .ok (.aload_n 0, 1) := by decide +kernel
theorem dX9_takeBack_64 : decode cX9_takeBack 64 = .ok (.aload_n 0, 1) := by decide +kernel
theorem dX9_takeBack_65 : decode cX9_takeBack 65 = .ok (.getfield 22, 3) := by decide +kernel
theorem dX9_takeBack_68 : decode cX9_takeBack 68 = .ok (.iload_n 1, 1) := by decide +kernel
theorem dX9_takeBack_69 : decode cX9_takeBack 69 = .ok (.bipush 26, 2) := by decide +kernel
theorem dX9_takeBack_71 : decode cX9_takeBack 71 = .ok (.iadd, 1) := by decide +kernel
theorem dX9_takeBack_72 : decode cX9_takeBack 72 = .ok (.iconst 1, 1) := by decide +kernel
theorem dX9_takeBack_73 : decode cX9_takeBack 73 = .ok (.iadd, 1) := by decide +kernel
theorem dX9_takeBack_74 : decode cX9_takeBack 74 = .ok (.iaload, 1) := by decide +kernel
theorem dX9_takeBack_75 : decode cX9_takeBack 75 = .ok (.putfield 34, 3) := by decide +kernel
theorem dX9_takeBack_78 : decode cX9_takeBack 78 = .ok (.aload_n 0, 1) := by decide +kernel
theorem dX9_takeBack_79 : decode cX9_takeBack 79 = .ok (.aload_n 0, 1) := by decide +kernel
theorem dX9_takeBack_80 : decode cX9_takeBack 80 = .ok (.getfield 22, 3) := by decide +kernel
theorem dX9_takeBack_83 : decode cX9_takeBack 83 = .ok (.iload_n 1, 1) := by decide +kernel
theorem dX9_takeBack_84 : decode cX9_takeBack 84 = .ok (.bipush 26, 2) := by decide +kernel
theorem dX9_takeBack_86 : decode cX9_takeBack 86 = .ok (.iadd, 1) := by decide +kernel
theorem dX9_takeBack_87 : decode cX9_takeBack 87 = .ok (.iconst 2, 1) := by decide +kernel
theorem dX9_takeBack_88 : decode cX9_takeBack 88 = .ok (.iadd, 1) := by decide +kernel
theorem dX9_takeBack_89 : decode cX9_takeBack 89 = .ok (.iaload, 1) := by decide +kernel
theorem dX9_takeBack_90 : decode cX9_takeBack 90 = .ok (.putfield 37, 3) := by decide +kernel
theorem dX9_takeBack_93 : decode cX9_takeBack 93 = .ok (.aload_n 0, 1) := by decide +kernel
theorem dX9_takeBack_94 : decode cX9_takeBack 94 = .ok (.aload_n 0, 1) := by decide +kernel
theorem dX9_takeBack_95 : decode cX9_takeBack 95 = .ok (.getfield 22, 3) := by decide +kernel
theorem dX9_takeBack_98 : decode cX9_takeBack 98 = .ok (.iload_n 1, 1) := by decide +kernel
theorem dX9_takeBack_99 : decode cX9_takeBack 99 = .ok (.bipush 26, 2) := by decide +kernel
theorem dX9_takeBack_101 : decode cX9_takeBack 101 = .ok (.iadd, 1) := by decide +kernel
theorem dX9_takeBack_102 : decode cX9_takeBack 102 = .ok (.iconst 3, 1) := by decide +kernel
theorem dX9_takeBack_103 : decode cX9_takeBack 103 = .ok (.iadd, 1) := by decide +kernel
theorem dX9_takeBack_104 : decode cX9_takeBack 104 = .ok (.iaload, 1) := by decide +kernel
theorem dX9_takeBack_105 : decode cX9_takeBack 105 = .ok (.putfield 15, 3) := by decide +kernel
theorem dX9_takeBack_108 : decode cX9_takeBack 108 = .ok (.aload_n 0, 1) := by decide +kernel
theorem dX9_takeBack_109 : decode cX9_takeBack 109 = .ok (.aload_n 0, 1) := by decide +kernel
theorem dX9_takeBack_110 : decode cX9_takeBack 110 = .ok (.getfield 22, 3) := by decide +kernel
theorem dX9_takeBack_113 : decode cX9_takeBack 113 = .ok (.iload_n 1, 1) := by decide +kernel
theorem dX9_takeBack_114 : decode cX9_takeBack 114 = .ok (.bipush 26, 2) := by decide +kernel
theorem dX9_takeBack_116 : decode cX9_takeBack 116 = .ok (.iadd, 1) := by decide +kernel
theorem dX9_takeBack_117 : decode cX9_takeBack 117 = .ok (.iconst 4, 1) := by decide +kernel
theorem dX9_takeBack_118 : decode cX9_takeBack 118 = .ok (.iadd, 1) := by decide +kernel
theorem dX9_takeBack_119 : decode cX9_takeBack 119 = .ok (.iaload, 1) := by decide +kernel
theorem dX9_takeBack_120 : decode cX9_takeBack 120 = .ok (.putfield 40, 3) := by decide +kernel
theorem dX9_takeBack_123 : decode cX9_takeBack 123 = .ok (.return_, 1) := by decide +kernel
theorem gX9_takeBack_0 {d : Nat} {M : ev_Mem} {Q : Option Value → ev_Mem → Prop} (h : (((1 ≤ (M.1 43 9)) → (∀ M1 : ev_Mem, M1 = ev_wr M 43 9 ((M.1 43 9) - 1) → (∀ v1 : Int32, v1 = (((M1.1 43 8) + (M1.1 43 9)) - ((M1.1 43 8) + (M1.1 43 9)) / 30 * 30) * 31 → ((¬ v1 < 0 ∧ ¬ (0 : Int32) < 0 ∧ ¬ (26 : Int32) < 0 ∧ v1.toNatClampNeg + (26 : Int32).toNatClampNeg ≤ 930 ∧ (0 : Int32).toNatClampNeg + (26 : Int32).toNatClampNeg ≤ 26) ∧ (∀ M2 : ev_Mem, M2 = ev_cp M1 46 44 v1.toNatClampNeg (0 : Int32).toNatClampNeg (26 : Int32).toNatClampNeg → (vp_in (v1 + 26) 930 ∧ (∀ M3 : ev_Mem, M3 = ev_wr M2 43 0 (M2.1 46 (v1 + 26).toNatClampNeg) → (vp_in ((v1 + 26) + 1) 930 ∧ (∀ M4 : ev_Mem, M4 = ev_wr M3 43 2 (M3.1 46 ((v1 + 26) + 1).toNatClampNeg) → (vp_in ((v1 + 26) + 2) 930 ∧ (∀ M5 : ev_Mem, M5 = ev_wr M4 43 3 (M4.1 46 ((v1 + 26) + 2).toNatClampNeg) → (vp_in ((v1 + 26) + 3) 930 ∧ (∀ M6 : ev_Mem, M6 = ev_wr M5 43 4 (M5.1 46 ((v1 + 26) + 3).toNatClampNeg) → (vp_in ((v1 + 26) + 4) 930 ∧ (∀ M7 : ev_Mem, M7 = ev_wr M6 43 6 (M6.1 46 ((v1 + 26) + 4).toNatClampNeg) → (Q none M7)))))))))))))))) ∧ ((¬ 1 ≤ (M.1 43 9)) → (Q none M)))) : Ev LX (d + 1) mX9_takeBack 0 [some (.ref 43), none] [] M Q := by
  refine ev_aload_n dX9_takeBack_0 rfl ?_
  refine ev_getI dX9_takeBack_1 fl_WithoutE_Typewriter_46 lx_43 rfl ?_
  refine ev_iconst (v := 1) dX9_takeBack_4 (by decide) ?_
  refine ev_icmp_ge (tgt := 9) dX9_takeBack_5 (by decide) (fun c => ?_) (fun c => ?_)
  · replace h := h.1 c
    refine ev_aload_n dX9_takeBack_9 rfl ?_
    refine ev_dup dX9_takeBack_10 rfl ?_
    refine ev_getI dX9_takeBack_11 fl_WithoutE_Typewriter_46 lx_43 rfl ?_
    refine ev_iconst (v := 1) dX9_takeBack_14 (by decide) ?_
    refine ev_isub dX9_takeBack_15 ?_
    refine ev_putI dX9_takeBack_16 fp_WithoutE_Typewriter_46 lx_43 rfl rfl rfl ?_
    generalize eM1 : ev_wr M 43 9 ((M.1 43 9) - 1) = M1
    replace h := h M1 eM1.symm
    refine ev_aload_n dX9_takeBack_19 rfl ?_
    refine ev_getI dX9_takeBack_20 fl_WithoutE_Typewriter_43 lx_43 rfl ?_
    refine ev_aload_n dX9_takeBack_23 rfl ?_
    refine ev_getI dX9_takeBack_24 fl_WithoutE_Typewriter_46 lx_43 rfl ?_
    refine ev_iadd dX9_takeBack_27 ?_
    refine ev_bipush (v := 30) dX9_takeBack_28 (by decide) ?_
    refine ev_irem dX9_takeBack_30 (by decide) ?_
    refine ev_bipush (v := 31) dX9_takeBack_31 (by decide) ?_
    refine ev_imul dX9_takeBack_33 ?_
    refine ev_istore_n (ls2 := [some (.ref 43), some (.int ((((M1.1 43 8) + (M1.1 43 9)) - ((M1.1 43 8) + (M1.1 43 9)) / 30 * 30) * 31))]) dX9_takeBack_34 (Nat.le_of_ble_eq_true rfl) rfl ?_
    generalize ev1 : (((M1.1 43 8) + (M1.1 43 9)) - ((M1.1 43 8) + (M1.1 43 9)) / 30 * 30) * 31 = v1
    replace h := h v1 ev1.symm
    refine ev_aload_n dX9_takeBack_35 rfl ?_
    refine ev_getA dX9_takeBack_36 fl_WithoutE_Typewriter_22 lx_43 rfl ?_
    refine ev_iload_n dX9_takeBack_39 rfl ?_
    refine ev_aload_n dX9_takeBack_40 rfl ?_
    refine ev_getA dX9_takeBack_41 fl_WithoutE_Typewriter_9 lx_43 rfl ?_
    refine ev_iconst (v := 0) dX9_takeBack_44 (by decide) ?_
    refine ev_bipush (v := 26) dX9_takeBack_45 (by decide) ?_
    obtain ⟨⟨c, c2, c3, c4, c5⟩, h⟩ := h
    refine ev_copy dX9_takeBack_47 (cpw cp_WithoutE_Typewriter_28) lx_46 lx_44 (by omega) rfl c c2 c3 c4 c5 ?_
    generalize eM2 : ev_cp M1 46 44 v1.toNatClampNeg (0 : Int32).toNatClampNeg (26 : Int32).toNatClampNeg = M2
    replace h := h M2 eM2.symm
    refine ev_aload_n dX9_takeBack_50 rfl ?_
    refine ev_aload_n dX9_takeBack_51 rfl ?_
    refine ev_getA dX9_takeBack_52 fl_WithoutE_Typewriter_22 lx_43 rfl ?_
    refine ev_iload_n dX9_takeBack_55 rfl ?_
    refine ev_bipush (v := 26) dX9_takeBack_56 (by decide) ?_
    refine ev_iadd dX9_takeBack_58 ?_
    obtain ⟨c, h⟩ := h
    refine ev_iald dX9_takeBack_59 lx_46 c ?_
    refine ev_putI dX9_takeBack_60 fp_WithoutE_Typewriter_25 lx_43 rfl rfl rfl ?_
    generalize eM3 : ev_wr M2 43 0 (M2.1 46 (v1 + 26).toNatClampNeg) = M3
    replace h := h M3 eM3.symm
    refine ev_aload_n dX9_takeBack_63 rfl ?_
    refine ev_aload_n dX9_takeBack_64 rfl ?_
    refine ev_getA dX9_takeBack_65 fl_WithoutE_Typewriter_22 lx_43 rfl ?_
    refine ev_iload_n dX9_takeBack_68 rfl ?_
    refine ev_bipush (v := 26) dX9_takeBack_69 (by decide) ?_
    refine ev_iadd dX9_takeBack_71 ?_
    refine ev_iconst (v := 1) dX9_takeBack_72 (by decide) ?_
    refine ev_iadd dX9_takeBack_73 ?_
    obtain ⟨c, h⟩ := h
    refine ev_iald dX9_takeBack_74 lx_46 c ?_
    refine ev_putI dX9_takeBack_75 fp_WithoutE_Typewriter_34 lx_43 rfl rfl rfl ?_
    generalize eM4 : ev_wr M3 43 2 (M3.1 46 ((v1 + 26) + 1).toNatClampNeg) = M4
    replace h := h M4 eM4.symm
    refine ev_aload_n dX9_takeBack_78 rfl ?_
    refine ev_aload_n dX9_takeBack_79 rfl ?_
    refine ev_getA dX9_takeBack_80 fl_WithoutE_Typewriter_22 lx_43 rfl ?_
    refine ev_iload_n dX9_takeBack_83 rfl ?_
    refine ev_bipush (v := 26) dX9_takeBack_84 (by decide) ?_
    refine ev_iadd dX9_takeBack_86 ?_
    refine ev_iconst (v := 2) dX9_takeBack_87 (by decide) ?_
    refine ev_iadd dX9_takeBack_88 ?_
    obtain ⟨c, h⟩ := h
    refine ev_iald dX9_takeBack_89 lx_46 c ?_
    refine ev_putI dX9_takeBack_90 fp_WithoutE_Typewriter_37 lx_43 rfl rfl rfl ?_
    generalize eM5 : ev_wr M4 43 3 (M4.1 46 ((v1 + 26) + 2).toNatClampNeg) = M5
    replace h := h M5 eM5.symm
    refine ev_aload_n dX9_takeBack_93 rfl ?_
    refine ev_aload_n dX9_takeBack_94 rfl ?_
    refine ev_getA dX9_takeBack_95 fl_WithoutE_Typewriter_22 lx_43 rfl ?_
    refine ev_iload_n dX9_takeBack_98 rfl ?_
    refine ev_bipush (v := 26) dX9_takeBack_99 (by decide) ?_
    refine ev_iadd dX9_takeBack_101 ?_
    refine ev_iconst (v := 3) dX9_takeBack_102 (by decide) ?_
    refine ev_iadd dX9_takeBack_103 ?_
    obtain ⟨c, h⟩ := h
    refine ev_iald dX9_takeBack_104 lx_46 c ?_
    refine ev_putI dX9_takeBack_105 fp_WithoutE_Typewriter_15 lx_43 rfl rfl rfl ?_
    generalize eM6 : ev_wr M5 43 4 (M5.1 46 ((v1 + 26) + 3).toNatClampNeg) = M6
    replace h := h M6 eM6.symm
    refine ev_aload_n dX9_takeBack_108 rfl ?_
    refine ev_aload_n dX9_takeBack_109 rfl ?_
    refine ev_getA dX9_takeBack_110 fl_WithoutE_Typewriter_22 lx_43 rfl ?_
    refine ev_iload_n dX9_takeBack_113 rfl ?_
    refine ev_bipush (v := 26) dX9_takeBack_114 (by decide) ?_
    refine ev_iadd dX9_takeBack_116 ?_
    refine ev_iconst (v := 4) dX9_takeBack_117 (by decide) ?_
    refine ev_iadd dX9_takeBack_118 ?_
    obtain ⟨c, h⟩ := h
    refine ev_iald dX9_takeBack_119 lx_46 c ?_
    refine ev_putI dX9_takeBack_120 fp_WithoutE_Typewriter_40 lx_43 rfl rfl rfl ?_
    generalize eM7 : ev_wr M6 43 6 (M6.1 46 ((v1 + 26) + 4).toNatClampNeg) = M7
    replace h := h M7 eM7.symm
    exact ev_vret dX9_takeBack_123 rfl h
  · replace h := h.2 c
    exact ev_vret dX9_takeBack_8 rfl h
theorem dX1_push_0 : decode cX1_push 0 = .ok (.aload_n 0, 1) := by decide +kernel
theorem dX1_push_1 : decode cX1_push 1 = .ok (.getfield 65, 3) := by decide +kernel
theorem dX1_push_4 : decode cX1_push 4 = .ok (.bipush 64, 2) := by decide +kernel
theorem dX1_push_6 : decode cX1_push 6 = .ok (.if_icmp .ge 23, 3) := by decide +kernel
theorem dX1_push_9 : decode cX1_push 9 = .ok (.aload_n 0, 1) := by decide +kernel
theorem dX1_push_10 : decode cX1_push 10 = .ok (.getfield 15, 3) := by decide +kernel
theorem dX1_push_13 : decode cX1_push 13 = .ok (.aload_n 0, 1) := by decide +kernel
theorem dX1_push_14 : decode cX1_push 14 = .ok (.getfield 65, 3) := by decide +kernel
theorem dX1_push_17 : decode cX1_push 17 = .ok (.iload_n 1, 1) := by decide +kernel
theorem dX1_push_18 : decode cX1_push 18 = .ok (.iastore, 1) := by decide +kernel
theorem dX1_push_19 : decode cX1_push 19 = .ok (.aload_n 0, 1) := by decide +kernel
theorem dX1_push_20 : decode cX1_push 20 = .ok (.dup, 1) := by decide +kernel
theorem dX1_push_21 : decode cX1_push 21 = .ok (.getfield 65, 3) := by decide +kernel
theorem dX1_push_24 : decode cX1_push 24 = .ok (.iconst 1, 1) := by decide +kernel
theorem dX1_push_25 : decode cX1_push 25 = .ok (.iadd, 1) := by decide +kernel
theorem dX1_push_26 : decode cX1_push 26 = .ok (.putfield 65, 3) := by decide +kernel
theorem dX1_push_29 : decode cX1_push 29 = .ok (.return_, 1) := by decide +kernel
theorem gX1_push_0 {d : Nat} {M : ev_Mem} {Q : Option Value → ev_Mem → Prop} {x1 : Int32} (h : (((64 ≤ (M.1 83 4)) → (Q none M)) ∧ ((¬ 64 ≤ (M.1 83 4)) → (vp_in (M.1 83 4) 64 ∧ (∀ M1 : ev_Mem, M1 = ev_wr M 85 (M.1 83 4).toNatClampNeg x1 → (∀ M2 : ev_Mem, M2 = ev_wr M1 83 4 ((M1.1 83 4) + 1) → (Q none M2))))))) : Ev LX d mX1_push 0 [some (.ref 83), some (.int x1)] [] M Q := by
  refine ev_aload_n dX1_push_0 rfl ?_
  refine ev_getI dX1_push_1 fl_WithoutE_Laws_65 lx_83 rfl ?_
  refine ev_bipush (v := 64) dX1_push_4 (by decide) ?_
  refine ev_icmp_ge (tgt := 29) dX1_push_6 (by decide) (fun c => ?_) (fun c => ?_)
  · replace h := h.1 c
    exact ev_vret dX1_push_29 rfl h
  · replace h := h.2 c
    refine ev_aload_n dX1_push_9 rfl ?_
    refine ev_getA dX1_push_10 fl_WithoutE_Laws_15 lx_83 rfl ?_
    refine ev_aload_n dX1_push_13 rfl ?_
    refine ev_getI dX1_push_14 fl_WithoutE_Laws_65 lx_83 rfl ?_
    refine ev_iload_n dX1_push_17 rfl ?_
    obtain ⟨c, h⟩ := h
    refine ev_iast dX1_push_18 lx_85 c ?_
    generalize eM1 : ev_wr M 85 (M.1 83 4).toNatClampNeg x1 = M1
    replace h := h M1 eM1.symm
    refine ev_aload_n dX1_push_19 rfl ?_
    refine ev_dup dX1_push_20 rfl ?_
    refine ev_getI dX1_push_21 fl_WithoutE_Laws_65 lx_83 rfl ?_
    refine ev_iconst (v := 1) dX1_push_24 (by decide) ?_
    refine ev_iadd dX1_push_25 ?_
    refine ev_putI dX1_push_26 fp_WithoutE_Laws_65 lx_83 rfl rfl rfl ?_
    generalize eM2 : ev_wr M1 83 4 ((M1.1 83 4) + 1) = M2
    replace h := h M2 eM2.symm
    exact ev_vret dX1_push_29 rfl h
theorem dX1_pop_0 : decode cX1_pop 0 = .ok (.aload_n 0, 1) := by decide +kernel
theorem dX1_pop_1 : decode cX1_pop 1 = .ok (.getfield 65, 3) := by decide +kernel
theorem dX1_pop_4 : decode cX1_pop 4 = .ok (.iconst 1, 1) := by decide +kernel
theorem dX1_pop_5 : decode cX1_pop 5 = .ok (.if_icmp .ge 5, 3) := by decide +kernel
theorem dX1_pop_8 : decode cX1_pop 8 = .ok (.iconst 0, 1) := by decide +kernel
theorem dX1_pop_9 : decode cX1_pop 9 = .ok (.ireturn, 1) := by decide +kernel
theorem dX1_pop_10 : decode cX1_pop 10 = .ok (.aload_n 0, 1) := by decide +kernel
theorem dX1_pop_11 : decode cX1_pop 11 = .ok (.dup, 1) := by decide +kernel
theorem dX1_pop_12 : decode cX1_pop 12 = .ok (.getfield 65, 3) := by decide +kernel
theorem dX1_pop_15 : decode cX1_pop 15 = .ok (.iconst 1, 1) := by decide +kernel
theorem dX1_pop_16 : decode cX1_pop 16 = .ok (.isub, 1) := by decide +kernel
theorem dX1_pop_17 : decode cX1_pop 17 = .ok (.putfield 65, 3) := by decide +kernel
theorem dX1_pop_20 : decode cX1_pop 20 = .ok (.aload_n 0, 1) := by decide +kernel
theorem dX1_pop_21 : decode cX1_pop 21 = .ok (.getfield 15, 3) := by decide +kernel
theorem dX1_pop_24 : decode cX1_pop 24 = .ok (.aload_n 0, 1) := by decide +kernel
theorem dX1_pop_25 : decode cX1_pop 25 = .ok (.getfield 65, 3) := by decide +kernel
theorem dX1_pop_28 : decode cX1_pop 28 = .ok (.iaload, 1) := by decide +kernel
theorem dX1_pop_29 : decode cX1_pop 29 = .ok (.ireturn, 1) := by decide +kernel
theorem gX1_pop_0 {d : Nat} {M : ev_Mem} {Q : Option Value → ev_Mem → Prop} (h : (((1 ≤ (M.1 83 4)) → (∀ M1 : ev_Mem, M1 = ev_wr M 83 4 ((M.1 83 4) - 1) → (vp_in (M1.1 83 4) 64 ∧ (Q (some (.int (M1.1 85 (M1.1 83 4).toNatClampNeg))) M1)))) ∧ ((¬ 1 ≤ (M.1 83 4)) → (Q (some (.int 0)) M)))) : Ev LX d mX1_pop 0 [some (.ref 83)] [] M Q := by
  refine ev_aload_n dX1_pop_0 rfl ?_
  refine ev_getI dX1_pop_1 fl_WithoutE_Laws_65 lx_83 rfl ?_
  refine ev_iconst (v := 1) dX1_pop_4 (by decide) ?_
  refine ev_icmp_ge (tgt := 10) dX1_pop_5 (by decide) (fun c => ?_) (fun c => ?_)
  · replace h := h.1 c
    refine ev_aload_n dX1_pop_10 rfl ?_
    refine ev_dup dX1_pop_11 rfl ?_
    refine ev_getI dX1_pop_12 fl_WithoutE_Laws_65 lx_83 rfl ?_
    refine ev_iconst (v := 1) dX1_pop_15 (by decide) ?_
    refine ev_isub dX1_pop_16 ?_
    refine ev_putI dX1_pop_17 fp_WithoutE_Laws_65 lx_83 rfl rfl rfl ?_
    generalize eM1 : ev_wr M 83 4 ((M.1 83 4) - 1) = M1
    replace h := h M1 eM1.symm
    refine ev_aload_n dX1_pop_20 rfl ?_
    refine ev_getA dX1_pop_21 fl_WithoutE_Laws_15 lx_83 rfl ?_
    refine ev_aload_n dX1_pop_24 rfl ?_
    refine ev_getI dX1_pop_25 fl_WithoutE_Laws_65 lx_83 rfl ?_
    obtain ⟨c, h⟩ := h
    refine ev_iald dX1_pop_28 lx_85 c ?_
    exact ev_iret dX1_pop_29 rfl h
  · replace h := h.2 c
    refine ev_iconst (v := 0) dX1_pop_8 (by decide) ?_
    exact ev_iret dX1_pop_9 rfl h
theorem dX1_usesOf_0 : decode cX1_usesOf 0 = .ok (.iload_n 1, 1) := by decide +kernel
theorem dX1_usesOf_1 : decode cX1_usesOf 1 = .ok (.ifCond .lt 27, 3) := by decide +kernel
theorem dX1_usesOf_4 : decode cX1_usesOf 4 = .ok (.iload_n 1, 1) := by decide +kernel
theorem dX1_usesOf_5 : decode cX1_usesOf 5 = .ok (.aload_n 0, 1) := by decide +kernel
theorem dX1_usesOf_6 : decode cX1_usesOf 6 = .ok (.getfield 22, 3) := by decide +kernel
theorem dX1_usesOf_9 : decode cX1_usesOf 9 = .ok (.getfield 50, 3) := by decide +kernel
theorem dX1_usesOf_12 : decode cX1_usesOf 12 = .ok (.arraylength, 1) := by decide +kernel
theorem dX1_usesOf_13 : decode cX1_usesOf 13 = .ok (.if_icmp .ge 15, 3) := by decide +kernel
theorem dX1_usesOf_16 : decode cX1_usesOf 16 = .ok (.aload_n 0, 1) := by decide +kernel
theorem dX1_usesOf_17 : decode cX1_usesOf 17 = .ok (.getfield 22, 3) := by decide +kernel
theorem dX1_usesOf_20 : decode cX1_usesOf 20 = .ok (.getfield 50, 3) := by decide +kernel
theorem dX1_usesOf_23 : decode cX1_usesOf 23 = .ok (.iload_n 1, 1) := by decide +kernel
theorem dX1_usesOf_24 : decode cX1_usesOf 24 = .ok (.iaload, 1) := by decide +kernel
theorem dX1_usesOf_25 : decode cX1_usesOf 25 = .ok (.goto 4, 3) := by decide +kernel
theorem dX1_usesOf_28 : decode cX1_usesOf 28 = .ok (.iconst 0, 1) := by decide +kernel
theorem dX1_usesOf_29 : decode cX1_usesOf 29 = .ok (.ireturn, 1) := by decide +kernel
theorem gX1_usesOf_0 {d : Nat} {M : ev_Mem} {Q : Option Value → ev_Mem → Prop} {x1 : Int32} (h : (((x1 < 0) → (Q (some (.int 0)) M)) ∧ ((¬ x1 < 0) → (((26 ≤ x1) → (Q (some (.int 0)) M)) ∧ ((¬ 26 ≤ x1) → (vp_in x1 26 ∧ (Q (some (.int (M.1 44 x1.toNatClampNeg))) M))))))) : Ev LX d mX1_usesOf 0 [some (.ref 83), some (.int x1)] [] M Q := by
  refine ev_iload_n dX1_usesOf_0 rfl ?_
  refine ev_if_lt (tgt := 28) dX1_usesOf_1 (by decide) (fun c => ?_) (fun c => ?_)
  · replace h := h.1 c
    refine ev_iconst (v := 0) dX1_usesOf_28 (by decide) ?_
    exact ev_iret dX1_usesOf_29 rfl h
  · replace h := h.2 c
    refine ev_iload_n dX1_usesOf_4 rfl ?_
    refine ev_aload_n dX1_usesOf_5 rfl ?_
    refine ev_getA dX1_usesOf_6 fl_WithoutE_Laws_22 lx_83 rfl ?_
    refine ev_getA dX1_usesOf_9 fl_WithoutE_Laws_50 lx_43 rfl ?_
    refine ev_alen (q := 0) (v := 26) dX1_usesOf_12 lx_44 (fun _ => rfl) (by decide) ?_
    refine ev_icmp_ge (tgt := 28) dX1_usesOf_13 (by decide) (fun c => ?_) (fun c => ?_)
    · replace h := h.1 c
      refine ev_iconst (v := 0) dX1_usesOf_28 (by decide) ?_
      exact ev_iret dX1_usesOf_29 rfl h
    · replace h := h.2 c
      refine ev_aload_n dX1_usesOf_16 rfl ?_
      refine ev_getA dX1_usesOf_17 fl_WithoutE_Laws_22 lx_83 rfl ?_
      refine ev_getA dX1_usesOf_20 fl_WithoutE_Laws_50 lx_43 rfl ?_
      refine ev_iload_n dX1_usesOf_23 rfl ?_
      obtain ⟨c, h⟩ := h
      refine ev_iald dX1_usesOf_24 lx_44 c ?_
      refine ev_goto (tgt := 29) dX1_usesOf_25 (by decide) ?_
      exact ev_iret dX1_usesOf_29 rfl h
theorem dX8_empty_0 : decode cX8_empty 0 = .ok (.aload_n 0, 1) := by decide +kernel
theorem dX8_empty_1 : decode cX8_empty 1 = .ok (.iconst 0, 1) := by decide +kernel
theorem dX8_empty_2 : decode cX8_empty 2 = .ok (.putfield 24, 3) := by decide +kernel
theorem dX8_empty_5 : decode cX8_empty 5 = .ok (.aload_n 0, 1) := by decide +kernel
theorem dX8_empty_6 : decode cX8_empty 6 = .ok (.iconst 0, 1) := by decide +kernel
theorem dX8_empty_7 : decode cX8_empty 7 = .ok (.putfield 28, 3) := by decide +kernel
theorem dX8_empty_10 : decode cX8_empty 10 = .ok (.aload_n 0, 1) := by decide +kernel
theorem dX8_empty_11 : decode cX8_empty 11 = .ok (.getfield 21, 3) := by decide +kernel
theorem dX8_empty_14 : decode cX8_empty 14 = .ok (.iconst (-1), 1) := by decide +kernel
theorem dX8_empty_15 : decode cX8_empty 15 = .ok (.invokestatic 31, 3) := by decide +kernel
theorem dX8_empty_18 : decode cX8_empty 18 = .ok (.return_, 1) := by decide +kernel
theorem gX8_empty_0 {d : Nat} {M : ev_Mem} {Q : Option Value → ev_Mem → Prop} {k : Nat} (hk : ev_isT k) (h : (∀ M1 : ev_Mem, M1 = ev_wr M k 1 0 → (∀ M2 : ev_Mem, M2 = ev_wr M1 k 4 0 → (∃ Q2 : Option Value → ev_Mem → Prop, Cl LX d mJ7_fill_53178 [.ref (k + 4), .int (-1)] M2 Q2 ∧ ∀ (r : Option Value) (M9 : ev_Mem), Q2 r M9 → Ev LX (d + 1) mX8_empty 18 [none] (r.toList ++ []) M9 Q)))) : Ev LX (d + 1) mX8_empty 0 [some (.ref k)] [] M Q := by
  refine ev_aload_n dX8_empty_0 rfl ?_
  refine ev_iconst (v := 0) dX8_empty_1 (by decide) ?_
  refine ev_putI dX8_empty_2 fp_WithoutE_Text_24 (lx_T hk) rfl rfl rfl ?_
  generalize eM1 : ev_wr M k 1 0 = M1
  replace h := h M1 eM1.symm
  refine ev_aload_n dX8_empty_5 rfl ?_
  refine ev_iconst (v := 0) dX8_empty_6 (by decide) ?_
  refine ev_putI dX8_empty_7 fp_WithoutE_Text_28 (lx_T hk) rfl rfl rfl ?_
  generalize eM2 : ev_wr M1 k 4 0 = M2
  replace h := h M2 eM2.symm
  refine ev_aload_n dX8_empty_10 rfl ?_
  refine ev_getA dX8_empty_11 fl_WithoutE_Text_21 (lx_T hk) rfl ?_
  refine ev_iconst (v := -1) dX8_empty_14 (by decide) ?_
  obtain ⟨Q2, hc, h⟩ := h
  refine ev_callS [.ref (k + 4), .int (-1)] dX8_empty_15 ml_WithoutE_Text_31 rfl (Nat.le_of_ble_eq_true rfl) hc (fun r M9 q => ?_)
  refine Ev.weak (ls := [none]) trivial ?_
  exact h r M9 q
theorem gX8_empty_18 {d : Nat} {M : ev_Mem} {Q : Option Value → ev_Mem → Prop} {k : Nat} (hk : ev_isT k) (h : (Q none M)) : Ev LX d mX8_empty 18 [none] [] M Q := by
  exact ev_vret dX8_empty_18 rfl h
theorem dX8_begin_0 : decode cX8_begin 0 = .ok (.aload_n 0, 1) := by decide +kernel
theorem dX8_begin_1 : decode cX8_begin 1 = .ok (.getfield 28, 3) := by decide +kernel
theorem dX8_begin_4 : decode cX8_begin 4 = .ok (.bipush 24, 2) := by decide +kernel
theorem dX8_begin_6 : decode cX8_begin 6 = .ok (.if_icmp .lt 4, 3) := by decide +kernel
theorem dX8_begin_9 : decode cX8_begin 9 = .ok (.return_, 1) := by decide +kernel
theorem dX8_begin_10 : decode cX8_begin 10 = .ok (.aload_n 0, 1) := by decide +kernel
theorem dX8_begin_11 : decode cX8_begin 11 = .ok (.getfield 15, 3) := by decide +kernel
theorem dX8_begin_14 : decode cX8_begin 14 = .ok (.aload_n 0, 1) := by decide +kernel
theorem dX8_begin_15 : decode cX8_begin 15 = .ok (.getfield 28, 3) := by decide +kernel
theorem dX8_begin_18 : decode cX8_begin 18 = .ok (.iload_n 1, 1) := by decide +kernel
theorem dX8_begin_19 : decode cX8_begin 19 = .ok (.iastore, 1) := by decide +kernel
theorem dX8_begin_20 : decode cX8_begin 20 = .ok (.aload_n 0, 1) := by decide +kernel
theorem dX8_begin_21 : decode cX8_begin 21 = .ok (.getfield 18, 3) := by decide +kernel
theorem dX8_begin_24 : decode cX8_begin 24 = .ok (.aload_n 0, 1) := by decide +kernel
theorem dX8_begin_25 : decode cX8_begin 25 = .ok (.getfield 28, 3) := by decide +kernel
theorem dX8_begin_28 : decode cX8_begin 28 = .ok (.aload_n 0, 1) := by decide +kernel
theorem dX8_begin_29 : decode cX8_begin 29 = .ok (.getfield 24, 3) := by decide +kernel
theorem dX8_begin_32 : decode cX8_begin 32 = .ok (.iastore, 1) := by decide +kernel
theorem dX8_begin_33 : decode cX8_begin 33 = .ok (.aload_n 0, 1) := by decide +kernel
theorem dX8_begin_34 : decode cX8_begin 34 = .ok (.dup, 1) := by decide +kernel
theorem dX8_begin_35 : decode cX8_begin 35 = .ok (.getfield 28, 3) := by decide +kernel
theorem dX8_begin_38 : decode cX8_begin 38 = .ok (.iconst 1, 1) := by decide +kernel
theorem dX8_begin_39 : decode cX8_begin 39 = .ok (.iadd, 1) := by decide +kernel
theorem dX8_begin_40 : decode cX8_begin 40 = .ok (.putfield 28, 3) := by decide +kernel
theorem dX8_begin_43 : decode cX8_begin 43 = .ok (.iload_n 1, 1) := by decide +kernel
theorem dX8_begin_44 : decode cX8_begin 44 = .ok (.iconst 2, 1) := by decide +kernel
theorem dX8_begin_45 : decode cX8_begin 45 = .ok (.if_icmp .gt 13, 3) := by decide +kernel
theorem dX8_begin_48 : decode cX8_begin 48 = .ok (.aload_n 0, 1) := by decide +kernel
theorem dX8_begin_49 : decode cX8_begin 49 = .ok (.getfield 21, 3) := by decide +kernel
theorem dX8_begin_52 : decode cX8_begin 52 = .ok (.iload_n 1, 1) := by decide +kernel
theorem dX8_begin_53 : decode cX8_begin 53 = .ok (.aload_n 0, 1) := by decide +kernel
theorem dX8_begin_54 : decode cX8_begin 54 = .ok (.getfield 24, 3) := by decide +kernel
theorem dX8_begin_57 : decode cX8_begin 57 = .ok (.iastore, 1) := by decide +kernel
theorem dX8_begin_58 : decode cX8_begin 58 = .ok (.return_, 1) := by decide +kernel
theorem gX8_begin_0 {d : Nat} {M : ev_Mem} {Q : Option Value → ev_Mem → Prop} {x1 : Int32} {k : Nat} (hk : ev_isT k) (h : ((((M.1 k 4) < 24) → (vp_in (M.1 k 4) 24 ∧ (∀ M1 : ev_Mem, M1 = ev_wr M (k + 2) (M.1 k 4).toNatClampNeg x1 → (vp_in (M1.1 k 4) 24 ∧ (∀ M2 : ev_Mem, M2 = ev_wr M1 (k + 3) (M1.1 k 4).toNatClampNeg (M1.1 k 1) → (∀ M3 : ev_Mem, M3 = ev_wr M2 k 4 ((M2.1 k 4) + 1) → (((2 < x1) → (Q none M3)) ∧ ((¬ 2 < x1) → (vp_in x1 3 ∧ (∀ M4 : ev_Mem, M4 = ev_wr M3 (k + 4) x1.toNatClampNeg (M3.1 k 1) → (Q none M4))))))))))) ∧ ((¬ (M.1 k 4) < 24) → (Q none M)))) : Ev LX d mX8_begin 0 [some (.ref k), some (.int x1)] [] M Q := by
  refine ev_aload_n dX8_begin_0 rfl ?_
  refine ev_getI dX8_begin_1 fl_WithoutE_Text_28 (lx_T hk) rfl ?_
  refine ev_bipush (v := 24) dX8_begin_4 (by decide) ?_
  refine ev_icmp_lt (tgt := 10) dX8_begin_6 (by decide) (fun c => ?_) (fun c => ?_)
  · replace h := h.1 c
    refine ev_aload_n dX8_begin_10 rfl ?_
    refine ev_getA dX8_begin_11 fl_WithoutE_Text_15 (lx_T hk) rfl ?_
    refine ev_aload_n dX8_begin_14 rfl ?_
    refine ev_getI dX8_begin_15 fl_WithoutE_Text_28 (lx_T hk) rfl ?_
    refine ev_iload_n dX8_begin_18 rfl ?_
    obtain ⟨c, h⟩ := h
    refine ev_iast dX8_begin_19 (lx_T2 hk) c ?_
    generalize eM1 : ev_wr M (k + 2) (M.1 k 4).toNatClampNeg x1 = M1
    replace h := h M1 eM1.symm
    refine ev_aload_n dX8_begin_20 rfl ?_
    refine ev_getA dX8_begin_21 fl_WithoutE_Text_18 (lx_T hk) rfl ?_
    refine ev_aload_n dX8_begin_24 rfl ?_
    refine ev_getI dX8_begin_25 fl_WithoutE_Text_28 (lx_T hk) rfl ?_
    refine ev_aload_n dX8_begin_28 rfl ?_
    refine ev_getI dX8_begin_29 fl_WithoutE_Text_24 (lx_T hk) rfl ?_
    obtain ⟨c, h⟩ := h
    refine ev_iast dX8_begin_32 (lx_T3 hk) c ?_
    generalize eM2 : ev_wr M1 (k + 3) (M1.1 k 4).toNatClampNeg (M1.1 k 1) = M2
    replace h := h M2 eM2.symm
    refine ev_aload_n dX8_begin_33 rfl ?_
    refine ev_dup dX8_begin_34 rfl ?_
    refine ev_getI dX8_begin_35 fl_WithoutE_Text_28 (lx_T hk) rfl ?_
    refine ev_iconst (v := 1) dX8_begin_38 (by decide) ?_
    refine ev_iadd dX8_begin_39 ?_
    refine ev_putI dX8_begin_40 fp_WithoutE_Text_28 (lx_T hk) rfl rfl rfl ?_
    generalize eM3 : ev_wr M2 k 4 ((M2.1 k 4) + 1) = M3
    replace h := h M3 eM3.symm
    refine ev_iload_n dX8_begin_43 rfl ?_
    refine ev_iconst (v := 2) dX8_begin_44 (by decide) ?_
    refine ev_icmp_gt (tgt := 58) dX8_begin_45 (by decide) (fun c => ?_) (fun c => ?_)
    · replace h := h.1 c
      exact ev_vret dX8_begin_58 rfl h
    · replace h := h.2 c
      refine ev_aload_n dX8_begin_48 rfl ?_
      refine ev_getA dX8_begin_49 fl_WithoutE_Text_21 (lx_T hk) rfl ?_
      refine ev_iload_n dX8_begin_52 rfl ?_
      refine ev_aload_n dX8_begin_53 rfl ?_
      refine ev_getI dX8_begin_54 fl_WithoutE_Text_24 (lx_T hk) rfl ?_
      obtain ⟨c, h⟩ := h
      refine ev_iast dX8_begin_57 (lx_T4 hk) c ?_
      generalize eM4 : ev_wr M3 (k + 4) x1.toNatClampNeg (M3.1 k 1) = M4
      replace h := h M4 eM4.symm
      exact ev_vret dX8_begin_58 rfl h
  · replace h := h.2 c
    exact ev_vret dX8_begin_9 rfl h
theorem dX8_put_0 : decode cX8_put 0 = .ok (.aload_n 0, 1) := by decide +kernel
theorem dX8_put_1 : decode cX8_put 1 = .ok (.getfield 24, 3) := by decide +kernel
theorem dX8_put_4 : decode cX8_put 4 = .ok (.sipush 300, 3) := by decide +kernel
theorem dX8_put_7 : decode cX8_put 7 = .ok (.if_icmp .ge 23, 3) := by decide +kernel
theorem dX8_put_10 : decode cX8_put 10 = .ok (.aload_n 0, 1) := by decide +kernel
theorem dX8_put_11 : decode cX8_put 11 = .ok (.getfield 9, 3) := by decide +kernel
theorem dX8_put_14 : decode cX8_put 14 = .ok (.aload_n 0, 1) := by decide +kernel
theorem dX8_put_15 : decode cX8_put 15 = .ok (.getfield 24, 3) := by decide +kernel
theorem dX8_put_18 : decode cX8_put 18 = .ok (.iload_n 1, 1) := by decide +kernel
theorem dX8_put_19 : decode cX8_put 19 = .ok (.iastore, 1) := by decide +kernel
theorem dX8_put_20 : decode cX8_put 20 = .ok (.aload_n 0, 1) := by decide +kernel
theorem dX8_put_21 : decode cX8_put 21 = .ok (.dup, 1) := by decide +kernel
theorem dX8_put_22 : decode cX8_put 22 = .ok (.getfield 24, 3) := by decide +kernel
theorem dX8_put_25 : decode cX8_put 25 = .ok (.iconst 1, 1) := by decide +kernel
theorem dX8_put_26 : decode cX8_put 26 = .ok (.iadd, 1) := by decide +kernel
theorem dX8_put_27 : decode cX8_put 27 = .ok (.putfield 24, 3) := by decide +kernel
theorem dX8_put_30 : decode cX8_put 30 = .ok (.return_, 1) := by decide +kernel
theorem gX8_put_0 {d : Nat} {M : ev_Mem} {Q : Option Value → ev_Mem → Prop} {x1 : Int32} {k : Nat} (hk : ev_isT k) (h : (((300 ≤ (M.1 k 1)) → (Q none M)) ∧ ((¬ 300 ≤ (M.1 k 1)) → (vp_in (M.1 k 1) 300 ∧ (∀ M1 : ev_Mem, M1 = ev_wr M (k + 1) (M.1 k 1).toNatClampNeg x1 → (∀ M2 : ev_Mem, M2 = ev_wr M1 k 1 ((M1.1 k 1) + 1) → (Q none M2))))))) : Ev LX d mX8_put 0 [some (.ref k), some (.int x1)] [] M Q := by
  refine ev_aload_n dX8_put_0 rfl ?_
  refine ev_getI dX8_put_1 fl_WithoutE_Text_24 (lx_T hk) rfl ?_
  refine ev_sipush (v := 300) dX8_put_4 (by decide) ?_
  refine ev_icmp_ge (tgt := 30) dX8_put_7 (by decide) (fun c => ?_) (fun c => ?_)
  · replace h := h.1 c
    exact ev_vret dX8_put_30 rfl h
  · replace h := h.2 c
    refine ev_aload_n dX8_put_10 rfl ?_
    refine ev_getA dX8_put_11 fl_WithoutE_Text_9 (lx_T hk) rfl ?_
    refine ev_aload_n dX8_put_14 rfl ?_
    refine ev_getI dX8_put_15 fl_WithoutE_Text_24 (lx_T hk) rfl ?_
    refine ev_iload_n dX8_put_18 rfl ?_
    obtain ⟨c, h⟩ := h
    refine ev_iast dX8_put_19 (lx_T1 hk) c ?_
    generalize eM1 : ev_wr M (k + 1) (M.1 k 1).toNatClampNeg x1 = M1
    replace h := h M1 eM1.symm
    refine ev_aload_n dX8_put_20 rfl ?_
    refine ev_dup dX8_put_21 rfl ?_
    refine ev_getI dX8_put_22 fl_WithoutE_Text_24 (lx_T hk) rfl ?_
    refine ev_iconst (v := 1) dX8_put_25 (by decide) ?_
    refine ev_iadd dX8_put_26 ?_
    refine ev_putI dX8_put_27 fp_WithoutE_Text_24 (lx_T hk) rfl rfl rfl ?_
    generalize eM2 : ev_wr M1 k 1 ((M1.1 k 1) + 1) = M2
    replace h := h M2 eM2.symm
    exact ev_vret dX8_put_30 rfl h
theorem dX8_set_0 : decode cX8_set 0 = .ok (.iload_n 1, 1) := by decide +kernel
theorem dX8_set_1 : decode cX8_set 1 = .ok (.ifCond .lt 18, 3) := by decide +kernel
theorem dX8_set_4 : decode cX8_set 4 = .ok (.iload_n 1, 1) := by decide +kernel
theorem dX8_set_5 : decode cX8_set 5 = .ok (.aload_n 0, 1) := by decide +kernel
theorem dX8_set_6 : decode cX8_set 6 = .ok (.getfield 24, 3) := by decide +kernel
theorem dX8_set_9 : decode cX8_set 9 = .ok (.if_icmp .ge 10, 3) := by decide +kernel
theorem dX8_set_12 : decode cX8_set 12 = .ok (.aload_n 0, 1) := by decide +kernel
theorem dX8_set_13 : decode cX8_set 13 = .ok (.getfield 9, 3) := by decide +kernel
theorem dX8_set_16 : decode cX8_set 16 = .ok (.iload_n 1, 1) := by decide +kernel
theorem dX8_set_17 : decode cX8_set 17 = .ok (.iload_n 2, 1) := by decide +kernel
theorem dX8_set_18 : decode cX8_set 18 = .ok (.iastore, 1) := by decide +kernel
theorem dX8_set_19 : decode cX8_set 19 = .ok (.return_, 1) := by decide +kernel
theorem gX8_set_0 {d : Nat} {M : ev_Mem} {Q : Option Value → ev_Mem → Prop} {x1 x2 : Int32} {k : Nat} (hk : ev_isT k) (h : (((x1 < 0) → (Q none M)) ∧ ((¬ x1 < 0) → ((((M.1 k 1) ≤ x1) → (Q none M)) ∧ ((¬ (M.1 k 1) ≤ x1) → (vp_in x1 300 ∧ (∀ M1 : ev_Mem, M1 = ev_wr M (k + 1) x1.toNatClampNeg x2 → (Q none M1)))))))) : Ev LX d mX8_set 0 [some (.ref k), some (.int x1), some (.int x2)] [] M Q := by
  refine ev_iload_n dX8_set_0 rfl ?_
  refine ev_if_lt (tgt := 19) dX8_set_1 (by decide) (fun c => ?_) (fun c => ?_)
  · replace h := h.1 c
    exact ev_vret dX8_set_19 rfl h
  · replace h := h.2 c
    refine ev_iload_n dX8_set_4 rfl ?_
    refine ev_aload_n dX8_set_5 rfl ?_
    refine ev_getI dX8_set_6 fl_WithoutE_Text_24 (lx_T hk) rfl ?_
    refine ev_icmp_ge (tgt := 19) dX8_set_9 (by decide) (fun c => ?_) (fun c => ?_)
    · replace h := h.1 c
      exact ev_vret dX8_set_19 rfl h
    · replace h := h.2 c
      refine ev_aload_n dX8_set_12 rfl ?_
      refine ev_getA dX8_set_13 fl_WithoutE_Text_9 (lx_T hk) rfl ?_
      refine ev_iload_n dX8_set_16 rfl ?_
      refine ev_iload_n dX8_set_17 rfl ?_
      obtain ⟨c, h⟩ := h
      refine ev_iast dX8_set_18 (lx_T1 hk) c ?_
      generalize eM1 : ev_wr M (k + 1) x1.toNatClampNeg x2 = M1
      replace h := h M1 eM1.symm
      exact ev_vret dX8_set_19 rfl h
theorem dX8_part_0 : decode cX8_part 0 = .ok (.aload_n 0, 1) := by decide +kernel
theorem dX8_part_1 : decode cX8_part 1 = .ok (.getfield 18, 3) := by decide +kernel
theorem dX8_part_4 : decode cX8_part 4 = .ok (.iload_n 1, 1) := by decide +kernel
theorem dX8_part_5 : decode cX8_part 5 = .ok (.iaload, 1) := by decide +kernel
theorem dX8_part_6 : decode cX8_part 6 = .ok (.iload_n 2, 1) := by decide +kernel
theorem dX8_part_7 : decode cX8_part 7 = .ok (.iadd, 1) := by decide +kernel
theorem dX8_part_8 : decode cX8_part 8 = .ok (.istore_n 3, 1) := by decide +kernel
theorem dX8_part_9 : decode cX8_part 9 = .ok (.iload_n 3, 1) := by decide +kernel
theorem dX8_part_10 : decode cX8_part 10 = .ok (.ifCond .lt 20, 3) := by decide +kernel
theorem dX8_part_13 : decode cX8_part 13 = .ok (.iload_n 3, 1) := by decide +kernel
theorem dX8_part_14 : decode cX8_part 14 = .ok (.aload_n 0, 1) := by decide +kernel
theorem dX8_part_15 : decode cX8_part 15 = .ok (.getfield 24, 3) := by decide +kernel
theorem dX8_part_18 : decode cX8_part 18 = .ok (.if_icmp .ge 12, 3) := by decide +kernel
theorem dX8_part_21 : decode cX8_part 21 = .ok (.aload_n 0, 1) := by decide +kernel
theorem dX8_part_22 : decode cX8_part 22 = .ok (.getfield 9, 3) := by decide +kernel
theorem dX8_part_25 : decode cX8_part 25 = .ok (.iload_n 3, 1) := by decide +kernel
theorem dX8_part_26 : decode cX8_part 26 = .ok (.iaload, 1) := by decide +kernel
theorem dX8_part_27 : decode cX8_part 27 = .ok (.goto 4, 3) := by decide +kernel
theorem dX8_part_30 : decode cX8_part 30 = .ok (.iconst 0, 1) := by decide +kernel
theorem dX8_part_31 : decode cX8_part 31 = .ok (.ireturn, 1) := by decide +kernel
theorem gX8_part_0 {d : Nat} {M : ev_Mem} {Q : Option Value → ev_Mem → Prop} {x1 x2 : Int32} {k : Nat} (hk : ev_isT k) (h : (vp_in x1 24 ∧ (∀ v1 : Int32, v1 = (M.1 (k + 3) x1.toNatClampNeg) + x2 → (((v1 < 0) → (Q (some (.int 0)) M)) ∧ ((¬ v1 < 0) → ((((M.1 k 1) ≤ v1) → (Q (some (.int 0)) M)) ∧ ((¬ (M.1 k 1) ≤ v1) → (vp_in v1 300 ∧ (Q (some (.int (M.1 (k + 1) v1.toNatClampNeg))) M))))))))) : Ev LX d mX8_part 0 [some (.ref k), some (.int x1), some (.int x2), none] [] M Q := by
  refine ev_aload_n dX8_part_0 rfl ?_
  refine ev_getA dX8_part_1 fl_WithoutE_Text_18 (lx_T hk) rfl ?_
  refine ev_iload_n dX8_part_4 rfl ?_
  obtain ⟨c, h⟩ := h
  refine ev_iald dX8_part_5 (lx_T3 hk) c ?_
  refine ev_iload_n dX8_part_6 rfl ?_
  refine ev_iadd dX8_part_7 ?_
  refine ev_istore_n (ls2 := [some (.ref k), some (.int x1), some (.int x2), some (.int ((M.1 (k + 3) x1.toNatClampNeg) + x2))]) dX8_part_8 (Nat.le_of_ble_eq_true rfl) rfl ?_
  generalize ev1 : (M.1 (k + 3) x1.toNatClampNeg) + x2 = v1
  replace h := h v1 ev1.symm
  refine ev_iload_n dX8_part_9 rfl ?_
  refine ev_if_lt (tgt := 30) dX8_part_10 (by decide) (fun c => ?_) (fun c => ?_)
  · replace h := h.1 c
    refine ev_iconst (v := 0) dX8_part_30 (by decide) ?_
    exact ev_iret dX8_part_31 rfl h
  · replace h := h.2 c
    refine ev_iload_n dX8_part_13 rfl ?_
    refine ev_aload_n dX8_part_14 rfl ?_
    refine ev_getI dX8_part_15 fl_WithoutE_Text_24 (lx_T hk) rfl ?_
    refine ev_icmp_ge (tgt := 30) dX8_part_18 (by decide) (fun c => ?_) (fun c => ?_)
    · replace h := h.1 c
      refine ev_iconst (v := 0) dX8_part_30 (by decide) ?_
      exact ev_iret dX8_part_31 rfl h
    · replace h := h.2 c
      refine ev_aload_n dX8_part_21 rfl ?_
      refine ev_getA dX8_part_22 fl_WithoutE_Text_9 (lx_T hk) rfl ?_
      refine ev_iload_n dX8_part_25 rfl ?_
      obtain ⟨c, h⟩ := h
      refine ev_iald dX8_part_26 (lx_T1 hk) c ?_
      refine ev_goto (tgt := 31) dX8_part_27 (by decide) ?_
      exact ev_iret dX8_part_31 rfl h
theorem dX2_start_0 : decode cX2_start 0 = .ok (.aload_n 0, 1) := by decide +kernel
theorem dX2_start_1 : decode cX2_start 1 = .ok (.ldc 9, 2) := by decide +kernel
theorem dX2_start_3 : decode cX2_start 3 = .ok (.putfield 10, 3) := by decide +kernel
theorem dX2_start_6 : decode cX2_start 6 = .ok (.aload_n 0, 1) := by decide +kernel
theorem dX2_start_7 : decode cX2_start 7 = .ok (.ldc 9, 2) := by decide +kernel
theorem dX2_start_9 : decode cX2_start 9 = .ok (.putfield 16, 3) := by decide +kernel
theorem dX2_start_12 : decode cX2_start 12 = .ok (.aload_n 0, 1) := by decide +kernel
theorem dX2_start_13 : decode cX2_start 13 = .ok (.iconst (-1), 1) := by decide +kernel
theorem dX2_start_14 : decode cX2_start 14 = .ok (.putfield 19, 3) := by decide +kernel
theorem dX2_start_17 : decode cX2_start 17 = .ok (.return_, 1) := by decide +kernel
theorem gX2_startt_0 {d : Nat} {M : ev_Mem} {Q : Option Value → ev_Mem → Prop} (h : (∀ M1 : ev_Mem, M1 = ev_wr M 97 0 1000000 → (∀ M2 : ev_Mem, M2 = ev_wr M1 97 1 1000000 → (∀ M3 : ev_Mem, M3 = ev_wr M2 97 2 (-1) → (Q none M3))))) : Ev LX d mX2_start 0 [some (.ref 97)] [] M Q := by
  refine ev_aload_n dX2_start_0 rfl ?_
  refine ev_ldc (v := 1000000) dX2_start_1 cw_WithoutE_Lowest_9 ?_
  refine ev_putI dX2_start_3 fp_WithoutE_Lowest_10 lx_97 rfl rfl rfl ?_
  generalize eM1 : ev_wr M 97 0 1000000 = M1
  replace h := h M1 eM1.symm
  refine ev_aload_n dX2_start_6 rfl ?_
  refine ev_ldc (v := 1000000) dX2_start_7 cw_WithoutE_Lowest_9 ?_
  refine ev_putI dX2_start_9 fp_WithoutE_Lowest_16 lx_97 rfl rfl rfl ?_
  generalize eM2 : ev_wr M1 97 1 1000000 = M2
  replace h := h M2 eM2.symm
  refine ev_aload_n dX2_start_12 rfl ?_
  refine ev_iconst (v := -1) dX2_start_13 (by decide) ?_
  refine ev_putI dX2_start_14 fp_WithoutE_Lowest_19 lx_97 rfl rfl rfl ?_
  generalize eM3 : ev_wr M2 97 2 (-1) = M3
  replace h := h M3 eM3.symm
  exact ev_vret dX2_start_17 rfl h
theorem dX2_see_0 : decode cX2_see 0 = .ok (.iload_n 2, 1) := by decide +kernel
theorem dX2_see_1 : decode cX2_see 1 = .ok (.aload_n 0, 1) := by decide +kernel
theorem dX2_see_2 : decode cX2_see 2 = .ok (.getfield 10, 3) := by decide +kernel
theorem dX2_see_5 : decode cX2_see 5 = .ok (.if_icmp .ge 24, 3) := by decide +kernel
theorem dX2_see_8 : decode cX2_see 8 = .ok (.aload_n 0, 1) := by decide +kernel
theorem dX2_see_9 : decode cX2_see 9 = .ok (.aload_n 0, 1) := by decide +kernel
theorem dX2_see_10 : decode cX2_see 10 = .ok (.getfield 10, 3) := by decide +kernel
theorem dX2_see_13 : decode cX2_see 13 = .ok (.putfield 16, 3) := by decide +kernel
theorem dX2_see_16 : decode cX2_see 16 = .ok (.aload_n 0, 1) := by decide +kernel
theorem dX2_see_17 : decode cX2_see 17 = .ok (.iload_n 2, 1) := by decide +kernel
theorem dX2_see_18 : decode cX2_see 18 = .ok (.putfield 10, 3) := by decide +kernel
theorem dX2_see_21 : decode cX2_see 21 = .ok (.aload_n 0, 1) := by decide +kernel
theorem dX2_see_22 : decode cX2_see 22 = .ok (.iload_n 1, 1) := by decide +kernel
theorem dX2_see_23 : decode cX2_see 23 = .ok (.putfield 19, 3) := by decide +kernel
theorem dX2_see_26 : decode cX2_see 26 = .ok (.goto 16, 3) := by decide +kernel
theorem dX2_see_29 : decode cX2_see 29 = .ok (.iload_n 2, 1) := by decide +kernel
theorem dX2_see_30 : decode cX2_see 30 = .ok (.aload_n 0, 1) := by decide +kernel
theorem dX2_see_31 : decode cX2_see 31 = .ok (.getfield 16, 3) := by decide +kernel
theorem dX2_see_34 : decode cX2_see 34 = .ok (.if_icmp .ge 8, 3) := by decide +kernel
theorem dX2_see_37 : decode cX2_see 37 = .ok (.aload_n 0, 1) := by decide +kernel
theorem dX2_see_38 : decode cX2_see 38 = .ok (.iload_n 2, 1) := by decide +kernel
theorem dX2_see_39 : decode cX2_see 39 = .ok (.putfield 16, 3) := by decide +kernel
theorem dX2_see_42 : decode cX2_see 42 = .ok (.return_, 1) := by decide +kernel
theorem gX2_seet_0 {d : Nat} {M : ev_Mem} {Q : Option Value → ev_Mem → Prop} {x1 x2 : Int32} (h : ((((M.1 97 0) ≤ x2) → ((((M.1 97 1) ≤ x2) → (Q none M)) ∧ ((¬ (M.1 97 1) ≤ x2) → (∀ M1 : ev_Mem, M1 = ev_wr M 97 1 x2 → (Q none M1))))) ∧ ((¬ (M.1 97 0) ≤ x2) → (∀ M2 : ev_Mem, M2 = ev_wr M 97 1 (M.1 97 0) → (∀ M3 : ev_Mem, M3 = ev_wr M2 97 0 x2 → (∀ M4 : ev_Mem, M4 = ev_wr M3 97 2 x1 → (Q none M4))))))) : Ev LX d mX2_see 0 [some (.ref 97), some (.int x1), some (.int x2)] [] M Q := by
  refine ev_iload_n dX2_see_0 rfl ?_
  refine ev_aload_n dX2_see_1 rfl ?_
  refine ev_getI dX2_see_2 fl_WithoutE_Lowest_10 lx_97 rfl ?_
  refine ev_icmp_ge (tgt := 29) dX2_see_5 (by decide) (fun c => ?_) (fun c => ?_)
  · replace h := h.1 c
    refine ev_iload_n dX2_see_29 rfl ?_
    refine ev_aload_n dX2_see_30 rfl ?_
    refine ev_getI dX2_see_31 fl_WithoutE_Lowest_16 lx_97 rfl ?_
    refine ev_icmp_ge (tgt := 42) dX2_see_34 (by decide) (fun c => ?_) (fun c => ?_)
    · replace h := h.1 c
      exact ev_vret dX2_see_42 rfl h
    · replace h := h.2 c
      refine ev_aload_n dX2_see_37 rfl ?_
      refine ev_iload_n dX2_see_38 rfl ?_
      refine ev_putI dX2_see_39 fp_WithoutE_Lowest_16 lx_97 rfl rfl rfl ?_
      generalize eM1 : ev_wr M 97 1 x2 = M1
      replace h := h M1 eM1.symm
      exact ev_vret dX2_see_42 rfl h
  · replace h := h.2 c
    refine ev_aload_n dX2_see_8 rfl ?_
    refine ev_aload_n dX2_see_9 rfl ?_
    refine ev_getI dX2_see_10 fl_WithoutE_Lowest_10 lx_97 rfl ?_
    refine ev_putI dX2_see_13 fp_WithoutE_Lowest_16 lx_97 rfl rfl rfl ?_
    generalize eM2 : ev_wr M 97 1 (M.1 97 0) = M2
    replace h := h M2 eM2.symm
    refine ev_aload_n dX2_see_16 rfl ?_
    refine ev_iload_n dX2_see_17 rfl ?_
    refine ev_putI dX2_see_18 fp_WithoutE_Lowest_10 lx_97 rfl rfl rfl ?_
    generalize eM3 : ev_wr M2 97 0 x2 = M3
    replace h := h M3 eM3.symm
    refine ev_aload_n dX2_see_21 rfl ?_
    refine ev_iload_n dX2_see_22 rfl ?_
    refine ev_putI dX2_see_23 fp_WithoutE_Lowest_19 lx_97 rfl rfl rfl ?_
    generalize eM4 : ev_wr M3 97 2 x1 = M4
    replace h := h M4 eM4.symm
    refine ev_goto (tgt := 42) dX2_see_26 (by decide) ?_
    exact ev_vret dX2_see_42 rfl h
theorem dX2_without_0 : decode cX2_without 0 = .ok (.iload_n 1, 1) := by decide +kernel
theorem dX2_without_1 : decode cX2_without 1 = .ok (.aload_n 0, 1) := by decide +kernel
theorem dX2_without_2 : decode cX2_without 2 = .ok (.getfield 19, 3) := by decide +kernel
theorem dX2_without_5 : decode cX2_without 5 = .ok (.if_icmp .ne 10, 3) := by decide +kernel
theorem dX2_without_8 : decode cX2_without 8 = .ok (.aload_n 0, 1) := by decide +kernel
theorem dX2_without_9 : decode cX2_without 9 = .ok (.getfield 16, 3) := by decide +kernel
theorem dX2_without_12 : decode cX2_without 12 = .ok (.goto 7, 3) := by decide +kernel
theorem dX2_without_15 : decode cX2_without 15 = .ok (.aload_n 0, 1) := by decide +kernel
theorem dX2_without_16 : decode cX2_without 16 = .ok (.getfield 10, 3) := by decide +kernel
theorem dX2_without_19 : decode cX2_without 19 = .ok (.ireturn, 1) := by decide +kernel
theorem gX2_withoutt_0 {d : Nat} {M : ev_Mem} {Q : Option Value → ev_Mem → Prop} {x1 : Int32} (h : (((¬ x1 = (M.1 97 2)) → (Q (some (.int (M.1 97 0))) M)) ∧ ((x1 = (M.1 97 2)) → (Q (some (.int (M.1 97 1))) M)))) : Ev LX d mX2_without 0 [some (.ref 97), some (.int x1)] [] M Q := by
  refine ev_iload_n dX2_without_0 rfl ?_
  refine ev_aload_n dX2_without_1 rfl ?_
  refine ev_getI dX2_without_2 fl_WithoutE_Lowest_19 lx_97 rfl ?_
  refine ev_icmp_ne (tgt := 15) dX2_without_5 (by decide) (fun c => ?_) (fun c => ?_)
  · replace h := h.1 c
    refine ev_aload_n dX2_without_15 rfl ?_
    refine ev_getI dX2_without_16 fl_WithoutE_Lowest_10 lx_97 rfl ?_
    exact ev_iret dX2_without_19 rfl h
  · replace h := h.2 c
    refine ev_aload_n dX2_without_8 rfl ?_
    refine ev_getI dX2_without_9 fl_WithoutE_Lowest_16 lx_97 rfl ?_
    refine ev_goto (tgt := 19) dX2_without_12 (by decide) ?_
    exact ev_iret dX2_without_19 rfl h
theorem gX2_starto_0 {d : Nat} {M : ev_Mem} {Q : Option Value → ev_Mem → Prop} (h : (∀ M1 : ev_Mem, M1 = ev_wr M 98 0 1000000 → (∀ M2 : ev_Mem, M2 = ev_wr M1 98 1 1000000 → (∀ M3 : ev_Mem, M3 = ev_wr M2 98 2 (-1) → (Q none M3))))) : Ev LX d mX2_start 0 [some (.ref 98)] [] M Q := by
  refine ev_aload_n dX2_start_0 rfl ?_
  refine ev_ldc (v := 1000000) dX2_start_1 cw_WithoutE_Lowest_9 ?_
  refine ev_putI dX2_start_3 fp_WithoutE_Lowest_10 lx_98 rfl rfl rfl ?_
  generalize eM1 : ev_wr M 98 0 1000000 = M1
  replace h := h M1 eM1.symm
  refine ev_aload_n dX2_start_6 rfl ?_
  refine ev_ldc (v := 1000000) dX2_start_7 cw_WithoutE_Lowest_9 ?_
  refine ev_putI dX2_start_9 fp_WithoutE_Lowest_16 lx_98 rfl rfl rfl ?_
  generalize eM2 : ev_wr M1 98 1 1000000 = M2
  replace h := h M2 eM2.symm
  refine ev_aload_n dX2_start_12 rfl ?_
  refine ev_iconst (v := -1) dX2_start_13 (by decide) ?_
  refine ev_putI dX2_start_14 fp_WithoutE_Lowest_19 lx_98 rfl rfl rfl ?_
  generalize eM3 : ev_wr M2 98 2 (-1) = M3
  replace h := h M3 eM3.symm
  exact ev_vret dX2_start_17 rfl h
theorem gX2_seeo_0 {d : Nat} {M : ev_Mem} {Q : Option Value → ev_Mem → Prop} {x1 x2 : Int32} (h : ((((M.1 98 0) ≤ x2) → ((((M.1 98 1) ≤ x2) → (Q none M)) ∧ ((¬ (M.1 98 1) ≤ x2) → (∀ M1 : ev_Mem, M1 = ev_wr M 98 1 x2 → (Q none M1))))) ∧ ((¬ (M.1 98 0) ≤ x2) → (∀ M2 : ev_Mem, M2 = ev_wr M 98 1 (M.1 98 0) → (∀ M3 : ev_Mem, M3 = ev_wr M2 98 0 x2 → (∀ M4 : ev_Mem, M4 = ev_wr M3 98 2 x1 → (Q none M4))))))) : Ev LX d mX2_see 0 [some (.ref 98), some (.int x1), some (.int x2)] [] M Q := by
  refine ev_iload_n dX2_see_0 rfl ?_
  refine ev_aload_n dX2_see_1 rfl ?_
  refine ev_getI dX2_see_2 fl_WithoutE_Lowest_10 lx_98 rfl ?_
  refine ev_icmp_ge (tgt := 29) dX2_see_5 (by decide) (fun c => ?_) (fun c => ?_)
  · replace h := h.1 c
    refine ev_iload_n dX2_see_29 rfl ?_
    refine ev_aload_n dX2_see_30 rfl ?_
    refine ev_getI dX2_see_31 fl_WithoutE_Lowest_16 lx_98 rfl ?_
    refine ev_icmp_ge (tgt := 42) dX2_see_34 (by decide) (fun c => ?_) (fun c => ?_)
    · replace h := h.1 c
      exact ev_vret dX2_see_42 rfl h
    · replace h := h.2 c
      refine ev_aload_n dX2_see_37 rfl ?_
      refine ev_iload_n dX2_see_38 rfl ?_
      refine ev_putI dX2_see_39 fp_WithoutE_Lowest_16 lx_98 rfl rfl rfl ?_
      generalize eM1 : ev_wr M 98 1 x2 = M1
      replace h := h M1 eM1.symm
      exact ev_vret dX2_see_42 rfl h
  · replace h := h.2 c
    refine ev_aload_n dX2_see_8 rfl ?_
    refine ev_aload_n dX2_see_9 rfl ?_
    refine ev_getI dX2_see_10 fl_WithoutE_Lowest_10 lx_98 rfl ?_
    refine ev_putI dX2_see_13 fp_WithoutE_Lowest_16 lx_98 rfl rfl rfl ?_
    generalize eM2 : ev_wr M 98 1 (M.1 98 0) = M2
    replace h := h M2 eM2.symm
    refine ev_aload_n dX2_see_16 rfl ?_
    refine ev_iload_n dX2_see_17 rfl ?_
    refine ev_putI dX2_see_18 fp_WithoutE_Lowest_10 lx_98 rfl rfl rfl ?_
    generalize eM3 : ev_wr M2 98 0 x2 = M3
    replace h := h M3 eM3.symm
    refine ev_aload_n dX2_see_21 rfl ?_
    refine ev_iload_n dX2_see_22 rfl ?_
    refine ev_putI dX2_see_23 fp_WithoutE_Lowest_19 lx_98 rfl rfl rfl ?_
    generalize eM4 : ev_wr M3 98 2 x1 = M4
    replace h := h M4 eM4.symm
    refine ev_goto (tgt := 42) dX2_see_26 (by decide) ?_
    exact ev_vret dX2_see_42 rfl h
theorem gX2_withouto_0 {d : Nat} {M : ev_Mem} {Q : Option Value → ev_Mem → Prop} {x1 : Int32} (h : (((¬ x1 = (M.1 98 2)) → (Q (some (.int (M.1 98 0))) M)) ∧ ((x1 = (M.1 98 2)) → (Q (some (.int (M.1 98 1))) M)))) : Ev LX d mX2_without 0 [some (.ref 98), some (.int x1)] [] M Q := by
  refine ev_iload_n dX2_without_0 rfl ?_
  refine ev_aload_n dX2_without_1 rfl ?_
  refine ev_getI dX2_without_2 fl_WithoutE_Lowest_19 lx_98 rfl ?_
  refine ev_icmp_ne (tgt := 15) dX2_without_5 (by decide) (fun c => ?_) (fun c => ?_)
  · replace h := h.1 c
    refine ev_aload_n dX2_without_15 rfl ?_
    refine ev_getI dX2_without_16 fl_WithoutE_Lowest_10 lx_98 rfl ?_
    exact ev_iret dX2_without_19 rfl h
  · replace h := h.2 c
    refine ev_aload_n dX2_without_8 rfl ?_
    refine ev_getI dX2_without_9 fl_WithoutE_Lowest_16 lx_98 rfl ?_
    refine ev_goto (tgt := 19) dX2_without_12 (by decide) ?_
    exact ev_iret dX2_without_19 rfl h
theorem dX10_refuse_0 : decode cX10_refuse 0 = .ok (.iload_n 1, 1) := by decide +kernel
theorem dX10_refuse_1 : decode cX10_refuse 1 = .ok (.ifCond .lt 34, 3) := by decide +kernel
theorem dX10_refuse_4 : decode cX10_refuse 4 = .ok (.iload_n 1, 1) := by decide +kernel
theorem dX10_refuse_5 : decode cX10_refuse 5 = .ok (.aload_n 0, 1) := by decide +kernel
theorem dX10_refuse_6 : decode cX10_refuse 6 = .ok (.getfield 58, 3) := by decide +kernel
theorem dX10_refuse_9 : decode cX10_refuse 9 = .ok (.arraylength, 1) := by decide +kernel
theorem dX10_refuse_10 : decode cX10_refuse 10 = .ok (.if_icmp .ge 25, 3) := by decide +kernel
theorem dX10_refuse_13 : decode cX10_refuse 13 = .ok (.aload_n 0, 1) := by decide +kernel
theorem dX10_refuse_14 : decode cX10_refuse 14 = .ok (.getfield 58, 3) := by decide +kernel
theorem dX10_refuse_17 : decode cX10_refuse 17 = .ok (.iload_n 1, 1) := by decide +kernel
theorem dX10_refuse_18 : decode cX10_refuse 18 = .ok (.iaload, 1) := by decide +kernel
theorem dX10_refuse_19 : decode cX10_refuse 19 = .ok (.sipush 9999, 3) := by decide +kernel
theorem dX10_refuse_22 : decode cX10_refuse 22 = .ok (.if_icmp .ge 13, 3) := by decide +kernel
theorem dX10_refuse_25 : decode cX10_refuse 25 = .ok (.aload_n 0, 1) := by decide +kernel
theorem dX10_refuse_26 : decode cX10_refuse 26 = .ok (.getfield 58, 3) := by decide +kernel
theorem dX10_refuse_29 : decode cX10_refuse 29 = .ok (.iload_n 1, 1) := by decide +kernel
theorem dX10_refuse_30 : decode cX10_refuse 30 = .ok (.dup2, 1) := by decide +kernel
theorem dX10_refuse_31 : decode cX10_refuse 31 = .ok (.iaload, 1) := by decide +kernel
theorem dX10_refuse_32 : decode cX10_refuse 32 = .ok (.iconst 1, 1) := by decide +kernel
theorem dX10_refuse_33 : decode cX10_refuse 33 = .ok (.iadd, 1) := by decide +kernel
theorem dX10_refuse_34 : decode cX10_refuse 34 = .ok (.iastore, 1) := by decide +kernel
theorem dX10_refuse_35 : decode cX10_refuse 35 = .ok (.iconst (-1), 1) := by decide +kernel
theorem dX10_refuse_36 : decode cX10_refuse 36 = .ok (.ireturn, 1) := by decide +kernel
theorem gX10_refuse_0 {d : Nat} {M : ev_Mem} {Q : Option Value → ev_Mem → Prop} {x1 : Int32} (h : (((x1 < 0) → (Q (some (.int (-1))) M)) ∧ ((¬ x1 < 0) → (((3 ≤ x1) → (Q (some (.int (-1))) M)) ∧ ((¬ 3 ≤ x1) → (vp_in x1 3 ∧ (((9999 ≤ (M.1 117 x1.toNatClampNeg)) → (Q (some (.int (-1))) M)) ∧ ((¬ 9999 ≤ (M.1 117 x1.toNatClampNeg)) → (vp_in x1 3 ∧ (vp_in x1 3 ∧ (∀ M1 : ev_Mem, M1 = ev_wr M 117 x1.toNatClampNeg ((M.1 117 x1.toNatClampNeg) + 1) → (Q (some (.int (-1))) M1)))))))))))) : Ev LX d mX10_refuse 0 [some (.ref 0), some (.int x1)] [] M Q := by
  refine ev_iload_n dX10_refuse_0 rfl ?_
  refine ev_if_lt (tgt := 35) dX10_refuse_1 (by decide) (fun c => ?_) (fun c => ?_)
  · replace h := h.1 c
    refine ev_iconst (v := -1) dX10_refuse_35 (by decide) ?_
    exact ev_iret dX10_refuse_36 rfl h
  · replace h := h.2 c
    refine ev_iload_n dX10_refuse_4 rfl ?_
    refine ev_aload_n dX10_refuse_5 rfl ?_
    refine ev_getA dX10_refuse_6 fl_WithoutE_58 lx_0 rfl ?_
    refine ev_alen (q := 0) (v := 3) dX10_refuse_9 lx_117 (fun _ => rfl) (by decide) ?_
    refine ev_icmp_ge (tgt := 35) dX10_refuse_10 (by decide) (fun c => ?_) (fun c => ?_)
    · replace h := h.1 c
      refine ev_iconst (v := -1) dX10_refuse_35 (by decide) ?_
      exact ev_iret dX10_refuse_36 rfl h
    · replace h := h.2 c
      refine ev_aload_n dX10_refuse_13 rfl ?_
      refine ev_getA dX10_refuse_14 fl_WithoutE_58 lx_0 rfl ?_
      refine ev_iload_n dX10_refuse_17 rfl ?_
      obtain ⟨c, h⟩ := h
      refine ev_iald dX10_refuse_18 lx_117 c ?_
      refine ev_sipush (v := 9999) dX10_refuse_19 (by decide) ?_
      refine ev_icmp_ge (tgt := 35) dX10_refuse_22 (by decide) (fun c => ?_) (fun c => ?_)
      · replace h := h.1 c
        refine ev_iconst (v := -1) dX10_refuse_35 (by decide) ?_
        exact ev_iret dX10_refuse_36 rfl h
      · replace h := h.2 c
        refine ev_aload_n dX10_refuse_25 rfl ?_
        refine ev_getA dX10_refuse_26 fl_WithoutE_58 lx_0 rfl ?_
        refine ev_iload_n dX10_refuse_29 rfl ?_
        refine ev_dup2 dX10_refuse_30 rfl rfl ?_
        obtain ⟨c, h⟩ := h
        refine ev_iald dX10_refuse_31 lx_117 c ?_
        refine ev_iconst (v := 1) dX10_refuse_32 (by decide) ?_
        refine ev_iadd dX10_refuse_33 ?_
        obtain ⟨c, h⟩ := h
        refine ev_iast dX10_refuse_34 lx_117 c ?_
        generalize eM1 : ev_wr M 117 x1.toNatClampNeg ((M.1 117 x1.toNatClampNeg) + 1) = M1
        replace h := h M1 eM1.symm
        refine ev_iconst (v := -1) dX10_refuse_35 (by decide) ?_
        exact ev_iret dX10_refuse_36 rfl h
theorem dX11_isWordOf_0 : decode cX11_isWordOf 0 = .ok (.iload_n 1, 1) := by decide +kernel
theorem dX11_isWordOf_1 : decode cX11_isWordOf 1 = .ok (.iconst 0, 1) := by decide +kernel
theorem dX11_isWordOf_2 : decode cX11_isWordOf 2 = .ok (.aload_n 0, 1) := by decide +kernel
theorem dX11_isWordOf_3 : decode cX11_isWordOf 3 = .ok (.getfield 7, 3) := by decide +kernel
theorem dX11_isWordOf_6 : decode cX11_isWordOf 6 = .ok (.iconst 0, 1) := by decide +kernel
theorem dX11_isWordOf_7 : decode cX11_isWordOf 7 = .ok (.iaload, 1) := by decide +kernel
theorem dX11_isWordOf_8 : decode cX11_isWordOf 8 = .ok (.iconst 1, 1) := by decide +kernel
theorem dX11_isWordOf_9 : decode cX11_isWordOf 9 = .ok (.isub, 1) := by decide +kernel
theorem dX11_isWordOf_10 : decode cX11_isWordOf 10 = .ok (.invokestatic 80, 3) := by decide +kernel
theorem dX11_isWordOf_13 : decode cX11_isWordOf 13 = .ok (.ireturn, 1) := by decide +kernel
theorem gX11_isWordOf_0 {d : Nat} {M : ev_Mem} {Q : Option Value → ev_Mem → Prop} {x1 : Int32} (h : (Q (some (.int (bi (iin x1 (0 : Int32) ((M.1 1 0) - 1))))) M)) : Ev LM (d + 1) mX11_isWordOf 0 [some (.ref 0), some (.int x1)] [] M Q := by
  refine ev_iload_n dX11_isWordOf_0 rfl ?_
  refine ev_iconst (v := 0) dX11_isWordOf_1 (by decide) ?_
  refine ev_aload_n dX11_isWordOf_2 rfl ?_
  refine ev_getA dX11_isWordOf_3 fl_WithoutEModel_7 lm_0 rfl ?_
  refine ev_iconst (v := 0) dX11_isWordOf_6 (by decide) ?_
  refine ev_iaN (j := 0) dX11_isWordOf_7 lm_1 (by decide) (by decide) ?_
  refine ev_iconst (v := 1) dX11_isWordOf_8 (by decide) ?_
  refine ev_isub dX11_isWordOf_9 ?_
  refine ev_callS [.int x1, .int 0, .int ((M.1 1 0) - 1)] dX11_isWordOf_10 ml_WithoutEModel_80 rfl (Nat.le_of_ble_eq_true rfl) (kX11_isIn) ?_
  rintro r9 M9 ⟨q1, q2⟩
  rw [q1, q2]
  show Ev LM (d + 1) mX11_isWordOf 13 [some (.ref 0), some (.int x1)] [(.int (bi (iin x1 (0 : Int32) ((M.1 1 0) - 1))))] M Q
  exact ev_zret dX11_isWordOf_13 rfl (bi_nar _) h
theorem dX11_isSentence_0 : decode cX11_isSentence 0 = .ok (.iload_n 1, 1) := by decide +kernel
theorem dX11_isSentence_1 : decode cX11_isSentence 1 = .ok (.iconst 0, 1) := by decide +kernel
theorem dX11_isSentence_2 : decode cX11_isSentence 2 = .ok (.aload_n 0, 1) := by decide +kernel
theorem dX11_isSentence_3 : decode cX11_isSentence 3 = .ok (.getfield 7, 3) := by decide +kernel
theorem dX11_isSentence_6 : decode cX11_isSentence 6 = .ok (.iconst 1, 1) := by decide +kernel
theorem dX11_isSentence_7 : decode cX11_isSentence 7 = .ok (.iaload, 1) := by decide +kernel
theorem dX11_isSentence_8 : decode cX11_isSentence 8 = .ok (.iconst 1, 1) := by decide +kernel
theorem dX11_isSentence_9 : decode cX11_isSentence 9 = .ok (.isub, 1) := by decide +kernel
theorem dX11_isSentence_10 : decode cX11_isSentence 10 = .ok (.invokestatic 80, 3) := by decide +kernel
theorem dX11_isSentence_13 : decode cX11_isSentence 13 = .ok (.ireturn, 1) := by decide +kernel
theorem gX11_isSentence_0 {d : Nat} {M : ev_Mem} {Q : Option Value → ev_Mem → Prop} {x1 : Int32} (h : (Q (some (.int (bi (iin x1 (0 : Int32) ((M.1 1 1) - 1))))) M)) : Ev LM (d + 1) mX11_isSentence 0 [some (.ref 0), some (.int x1)] [] M Q := by
  refine ev_iload_n dX11_isSentence_0 rfl ?_
  refine ev_iconst (v := 0) dX11_isSentence_1 (by decide) ?_
  refine ev_aload_n dX11_isSentence_2 rfl ?_
  refine ev_getA dX11_isSentence_3 fl_WithoutEModel_7 lm_0 rfl ?_
  refine ev_iconst (v := 1) dX11_isSentence_6 (by decide) ?_
  refine ev_iaN (j := 1) dX11_isSentence_7 lm_1 (by decide) (by decide) ?_
  refine ev_iconst (v := 1) dX11_isSentence_8 (by decide) ?_
  refine ev_isub dX11_isSentence_9 ?_
  refine ev_callS [.int x1, .int 0, .int ((M.1 1 1) - 1)] dX11_isSentence_10 ml_WithoutEModel_80 rfl (Nat.le_of_ble_eq_true rfl) (kX11_isIn) ?_
  rintro r9 M9 ⟨q1, q2⟩
  rw [q1, q2]
  show Ev LM (d + 1) mX11_isSentence 13 [some (.ref 0), some (.int x1)] [(.int (bi (iin x1 (0 : Int32) ((M.1 1 1) - 1))))] M Q
  exact ev_zret dX11_isSentence_13 rfl (bi_nar _) h
theorem dX11_isLetter_0 : decode cX11_isLetter 0 = .ok (.iload_n 0, 1) := by decide +kernel
theorem dX11_isLetter_1 : decode cX11_isLetter 1 = .ok (.iconst 0, 1) := by decide +kernel
theorem dX11_isLetter_2 : decode cX11_isLetter 2 = .ok (.bipush 25, 2) := by decide +kernel
theorem dX11_isLetter_4 : decode cX11_isLetter 4 = .ok (.invokestatic 80, 3) := by decide +kernel
theorem dX11_isLetter_7 : decode cX11_isLetter 7 = .ok (.ireturn, 1) := by decide +kernel
theorem gX11_isLetter_0 {d : Nat} {M : ev_Mem} {Q : Option Value → ev_Mem → Prop} {x0 : Int32} (h : (Q (some (.int (bi (iin x0 (0 : Int32) (25 : Int32))))) M)) : Ev LM (d + 1) mX11_isLetter 0 [some (.int x0)] [] M Q := by
  refine ev_iload_n dX11_isLetter_0 rfl ?_
  refine ev_iconst (v := 0) dX11_isLetter_1 (by decide) ?_
  refine ev_bipush (v := 25) dX11_isLetter_2 (by decide) ?_
  refine ev_callS [.int x0, .int 0, .int 25] dX11_isLetter_4 ml_WithoutEModel_80 rfl (Nat.le_of_ble_eq_true rfl) (kX11_isIn) ?_
  rintro r9 M9 ⟨q1, q2⟩
  rw [q1, q2]
  show Ev LM (d + 1) mX11_isLetter 7 [some (.int x0)] [(.int (bi (iin x0 (0 : Int32) (25 : Int32))))] M Q
  exact ev_zret dX11_isLetter_7 rfl (bi_nar _) h
