theorem dX11_lettersOf_0 : decode cX11_lettersOf 0 = .ok (.iconst 0, 1) := by decide +kernel
theorem dX11_lettersOf_1 : decode cX11_lettersOf 1 = .ok (.istore_n 2, 1) := by decide +kernel
theorem dX11_lettersOf_2 : decode cX11_lettersOf 2 = .ok (.iconst 0, 1) := by decide +kernel
theorem dX11_lettersOf_3 : decode cX11_lettersOf 3 = .ok (.istore_n 3, 1) := by decide +kernel
theorem dX11_lettersOf_4 : decode cX11_lettersOf 4 = .ok (.iload_n 3, 1) := by decide +kernel
theorem dX11_lettersOf_5 : decode cX11_lettersOf 5 = .ok (.aload_n 0, 1) := by decide +kernel
theorem dX11_lettersOf_6 : decode cX11_lettersOf 6 = .ok (.iload_n 1, 1) := by decide +kernel
theorem dX11_lettersOf_7 : decode cX11_lettersOf 7 = .ok (.iconst 3, 1) := by decide +kernel
theorem dX11_lettersOf_8 : decode cX11_lettersOf 8 = .ok (.invokevirtual 92, 3) := by decide +kernel
theorem dX11_lettersOf_11 : decode cX11_lettersOf 11 = .ok (.if_icmp .ge 22, 3) := by decide +kernel
theorem dX11_lettersOf_14 : decode cX11_lettersOf 14 = .ok (.iload_n 2, 1) := by decide +kernel
theorem dX11_lettersOf_15 : decode cX11_lettersOf 15 = .ok (.iconst 1, 1) := by decide +kernel
theorem dX11_lettersOf_16 : decode cX11_lettersOf 16 = .ok (.aload_n 0, 1) := by decide +kernel
theorem dX11_lettersOf_17 : decode cX11_lettersOf 17 = .ok (.iload_n 1, 1) := by decide +kernel
theorem dX11_lettersOf_18 : decode cX11_lettersOf 18 = .ok (.iconst 4, 1) := by decide +kernel
theorem dX11_lettersOf_19 : decode cX11_lettersOf 19 = .ok (.iload_n 3, 1) := by decide +kernel
theorem dX11_lettersOf_20 : decode cX11_lettersOf 20 = .ok (.iadd, 1) := by decide +kernel
theorem dX11_lettersOf_21 : decode cX11_lettersOf 21 = .ok (.invokevirtual 92, 3) := by decide +kernel
theorem dX11_lettersOf_24 : decode cX11_lettersOf 24 = .ok (.ishl, 1) := by decide +kernel
theorem dX11_lettersOf_25 : decode cX11_lettersOf 25 = .ok (.ior, 1) := by decide +kernel
theorem dX11_lettersOf_26 : decode cX11_lettersOf 26 = .ok (.istore_n 2, 1) := by decide +kernel
theorem dX11_lettersOf_27 : decode cX11_lettersOf 27 = .ok (.iinc 3 1, 3) := by decide +kernel
theorem dX11_lettersOf_30 : decode cX11_lettersOf 30 = .ok (.goto (-26), 3) := by decide +kernel
theorem dX11_lettersOf_33 : decode cX11_lettersOf 33 = .ok (.iload_n 2, 1) := by decide +kernel
theorem dX11_lettersOf_34 : decode cX11_lettersOf 34 = .ok (.ireturn, 1) := by decide +kernel
theorem gX11_lettersOf_0 {d : Nat} {M : ev_Mem} {Q : Option Value → ev_Mem → Prop} {x1 : Int32} (h : (Ev LM d mX11_lettersOf 4 [some (.ref 0), some (.int x1), some (.int 0), some (.int 0)] [] M Q)) : Ev LM d mX11_lettersOf 0 [some (.ref 0), some (.int x1), none, none] [] M Q := by
  refine ev_iconst (v := 0) dX11_lettersOf_0 (by decide) ?_
  refine ev_istore_n (ls2 := [some (.ref 0), some (.int x1), some (.int 0), none]) dX11_lettersOf_1 (Nat.le_of_ble_eq_true rfl) rfl ?_
  refine ev_iconst (v := 0) dX11_lettersOf_2 (by decide) ?_
  refine ev_istore_n (ls2 := [some (.ref 0), some (.int x1), some (.int 0), some (.int 0)]) dX11_lettersOf_3 (Nat.le_of_ble_eq_true rfl) rfl ?_
  exact h
theorem gX11_lettersOf_4 {d : Nat} {M : ev_Mem} {Q : Option Value → ev_Mem → Prop} {x1 x2 x3 : Int32} (h : ((vp_in (39 + 13 * x1 + (3 : Int32)) 3315) ∧ ((((M.1 1 (39 + 13 * x1 + (3 : Int32)).toNatClampNeg) ≤ x3) → (Q (some (.int x2)) M)) ∧ ((¬ (M.1 1 (39 + 13 * x1 + (3 : Int32)).toNatClampNeg) ≤ x3) → ((vp_in (39 + 13 * x1 + (4 + x3)) 3315) ∧ (∀ v1 : Int32, v1 = x2 ||| (1 <<< ((M.1 1 (39 + 13 * x1 + (4 + x3)).toNatClampNeg) &&& 31)) → (Ev LM (d + 1) mX11_lettersOf 4 [some (.ref 0), some (.int x1), some (.int v1), some (.int (x3 + 1))] [] M Q))))))) : Ev LM (d + 1) mX11_lettersOf 4 [some (.ref 0), some (.int x1), some (.int x2), some (.int x3)] [] M Q := by
  refine ev_iload_n dX11_lettersOf_4 rfl ?_
  refine ev_aload_n dX11_lettersOf_5 rfl ?_
  refine ev_iload_n dX11_lettersOf_6 rfl ?_
  refine ev_iconst (v := 3) dX11_lettersOf_7 (by decide) ?_
  obtain ⟨p1, h⟩ := h
  refine ev_callV [.int x1, .int 3] dX11_lettersOf_8 ml_WithoutEModel_92 lm_0 rfl rfl (Nat.le_of_ble_eq_true rfl) (kX11_get p1) ?_
  rintro zr zM ⟨q1, q2⟩
  rw [q1, q2]
  show Ev LM (d + 1) mX11_lettersOf 11 [some (.ref 0), some (.int x1), some (.int x2), some (.int x3)] [(.int (M.1 1 (39 + 13 * x1 + (3 : Int32)).toNatClampNeg)), (.int x3)] M Q
  refine ev_icmp_ge (tgt := 33) dX11_lettersOf_11 (by decide) (fun c => ?_) (fun c => ?_)
  · replace h := h.1 c
    refine ev_iload_n dX11_lettersOf_33 rfl ?_
    exact ev_iret dX11_lettersOf_34 rfl h
  · replace h := h.2 c
    refine ev_iload_n dX11_lettersOf_14 rfl ?_
    refine ev_iconst (v := 1) dX11_lettersOf_15 (by decide) ?_
    refine ev_aload_n dX11_lettersOf_16 rfl ?_
    refine ev_iload_n dX11_lettersOf_17 rfl ?_
    refine ev_iconst (v := 4) dX11_lettersOf_18 (by decide) ?_
    refine ev_iload_n dX11_lettersOf_19 rfl ?_
    refine ev_iadd dX11_lettersOf_20 ?_
    obtain ⟨p1, h⟩ := h
    refine ev_callV [.int x1, .int (4 + x3)] dX11_lettersOf_21 ml_WithoutEModel_92 lm_0 rfl rfl (Nat.le_of_ble_eq_true rfl) (kX11_get p1) ?_
    rintro zr zM ⟨q1, q2⟩
    rw [q1, q2]
    show Ev LM (d + 1) mX11_lettersOf 24 [some (.ref 0), some (.int x1), some (.int x2), some (.int x3)] [(.int (M.1 1 (39 + 13 * x1 + (4 + x3)).toNatClampNeg)), (.int 1), (.int x2)] M Q
    refine ev_ishl dX11_lettersOf_24 ?_
    refine ev_ior dX11_lettersOf_25 ?_
    refine ev_istore_n (ls2 := [some (.ref 0), some (.int x1), some (.int (x2 ||| (1 <<< ((M.1 1 (39 + 13 * x1 + (4 + x3)).toNatClampNeg) &&& 31)))), some (.int x3)]) dX11_lettersOf_26 (Nat.le_of_ble_eq_true rfl) rfl ?_
    generalize ev1 : x2 ||| (1 <<< ((M.1 1 (39 + 13 * x1 + (4 + x3)).toNatClampNeg) &&& 31)) = v1
    replace h := h v1 ev1.symm
    refine ev_iinc (v := x3 + 1) (ls2 := [some (.ref 0), some (.int x1), some (.int v1), some (.int (x3 + 1))]) dX11_lettersOf_27 rfl rfl rfl ?_
    refine ev_goto (tgt := 4) dX11_lettersOf_30 (by decide) ?_
    exact h
