theorem dX5_extraOf_0 : decode cX5_extraOf 0 = .ok (.aload_n 0, 1) := by decide +kernel
theorem dX5_extraOf_1 : decode cX5_extraOf 1 = .ok (.getfield 9, 3) := by decide +kernel
theorem dX5_extraOf_4 : decode cX5_extraOf 4 = .ok (.getfield 33, 3) := by decide +kernel
theorem dX5_extraOf_7 : decode cX5_extraOf 7 = .ok (.iload_n 1, 1) := by decide +kernel
theorem dX5_extraOf_8 : decode cX5_extraOf 8 = .ok (.iaload, 1) := by decide +kernel
theorem dX5_extraOf_9 : decode cX5_extraOf 9 = .ok (.istore_n 3, 1) := by decide +kernel
theorem dX5_extraOf_10 : decode cX5_extraOf 10 = .ok (.iload_n 3, 1) := by decide +kernel
theorem dX5_extraOf_11 : decode cX5_extraOf 11 = .ok (.ifCond .lt 17, 3) := by decide +kernel
theorem dX5_extraOf_14 : decode cX5_extraOf 14 = .ok (.iload_n 3, 1) := by decide +kernel
theorem dX5_extraOf_15 : decode cX5_extraOf 15 = .ok (.getstatic 36, 3) := by decide +kernel
theorem dX5_extraOf_18 : decode cX5_extraOf 18 = .ok (.arraylength, 1) := by decide +kernel
theorem dX5_extraOf_19 : decode cX5_extraOf 19 = .ok (.if_icmp .ge 9, 3) := by decide +kernel
theorem dX5_extraOf_22 : decode cX5_extraOf 22 = .ok (.getstatic 36, 3) := by decide +kernel
theorem dX5_extraOf_25 : decode cX5_extraOf 25 = .ok (.iload_n 3, 1) := by decide +kernel
theorem dX5_extraOf_26 : decode cX5_extraOf 26 = .ok (.iaload, 1) := by decide +kernel
theorem dX5_extraOf_27 : decode cX5_extraOf 27 = .ok (.ireturn, 1) := by decide +kernel
theorem dX5_extraOf_28 : decode cX5_extraOf 28 = .ok (.iload_n 3, 1) := by decide +kernel
theorem dX5_extraOf_29 : decode cX5_extraOf 29 = .ok (.iconst 4, 1) := by decide +kernel
theorem dX5_extraOf_30 : decode cX5_extraOf 30 = .ok (.if_icmp .ne 10, 3) := by decide +kernel
theorem dX5_extraOf_33 : decode cX5_extraOf 33 = .ok (.aload_n 0, 1) := by decide +kernel
theorem dX5_extraOf_34 : decode cX5_extraOf 34 = .ok (.iload_n 1, 1) := by decide +kernel
theorem dX5_extraOf_35 : decode cX5_extraOf 35 = .ok (.iload_n 2, 1) := by decide +kernel
theorem dX5_extraOf_36 : decode cX5_extraOf 36 = .ok (.invokevirtual 39, 3) := by decide +kernel
theorem dX5_extraOf_39 : decode cX5_extraOf 39 = .ok (.ireturn, 1) := by decide +kernel
theorem dX5_extraOf_40 : decode cX5_extraOf 40 = .ok (.iload_n 3, 1) := by decide +kernel
theorem dX5_extraOf_41 : decode cX5_extraOf 41 = .ok (.iconst 5, 1) := by decide +kernel
theorem dX5_extraOf_42 : decode cX5_extraOf 42 = .ok (.if_icmp .ne 12, 3) := by decide +kernel
theorem dX5_extraOf_45 : decode cX5_extraOf 45 = .ok (.aload_n 0, 1) := by decide +kernel
theorem dX5_extraOf_46 : decode cX5_extraOf 46 = .ok (.iload_n 1, 1) := by decide +kernel
theorem dX5_extraOf_47 : decode cX5_extraOf 47 = .ok (.iload_n 2, 1) := by decide +kernel
theorem dX5_extraOf_48 : decode cX5_extraOf 48 = .ok (.invokevirtual 43, 3) := by decide +kernel
theorem dX5_extraOf_51 : decode cX5_extraOf 51 = .ok (.goto 4, 3) := by decide +kernel
theorem dX5_extraOf_54 : decode cX5_extraOf 54 = .ok (.iconst 0, 1) := by decide +kernel
theorem dX5_extraOf_55 : decode cX5_extraOf 55 = .ok (.ireturn, 1) := by decide +kernel
theorem gX5_extraOf_0 {d : Nat} {M : ev_Mem} {Q : Option Value → ev_Mem → Prop} {x1 x2 : Int32} (h : (vp_in x1 24 ∧ ((((M.1 30 x1.toNatClampNeg) < 0) → (((¬ (M.1 30 x1.toNatClampNeg) = 4) → (((¬ (M.1 30 x1.toNatClampNeg) = 5) → (Q (some (.int 0)) M)) ∧ (((M.1 30 x1.toNatClampNeg) = 5) → ((wd M x1) ∧ (Q (some (.int (xK M x1 x2))) M))))) ∧ (((M.1 30 x1.toNatClampNeg) = 4) → ((wd M x1) ∧ (Q (some (.int (nI (xH M x1 x2)))) M))))) ∧ ((¬ (M.1 30 x1.toNatClampNeg) < 0) → (((4 ≤ (M.1 30 x1.toNatClampNeg)) → (((¬ (M.1 30 x1.toNatClampNeg) = 4) → (((¬ (M.1 30 x1.toNatClampNeg) = 5) → (Q (some (.int 0)) M)) ∧ (((M.1 30 x1.toNatClampNeg) = 5) → ((wd M x1) ∧ (Q (some (.int (xK M x1 x2))) M))))) ∧ (((M.1 30 x1.toNatClampNeg) = 4) → ((wd M x1) ∧ (Q (some (.int (nI (xH M x1 x2)))) M))))) ∧ ((¬ 4 ≤ (M.1 30 x1.toNatClampNeg)) → (vp_in (M.1 30 x1.toNatClampNeg) 4 ∧ (Q (some (.int (ev_eok (M.1 30 x1.toNatClampNeg).toNatClampNeg))) M)))))))) : Ev LX (d + 2) mX5_extraOf 0 [some (.ref 82), some (.int x1), some (.int x2), none] [] M Q := by
  refine ev_aload_n dX5_extraOf_0 rfl ?_
  refine ev_getA dX5_extraOf_1 fl_WithoutE_Sound_9 lx_82 rfl ?_
  refine ev_getA dX5_extraOf_4 fl_WithoutE_Sound_33 lx_3 rfl ?_
  refine ev_iload_n dX5_extraOf_7 rfl ?_
  obtain ⟨c, h⟩ := h
  refine ev_iald dX5_extraOf_8 lx_30 c ?_
  refine ev_istore_n (ls2 := [some (.ref 82), some (.int x1), some (.int x2), some (.int (M.1 30 x1.toNatClampNeg))]) dX5_extraOf_9 (Nat.le_of_ble_eq_true rfl) rfl ?_
  refine ev_iload_n dX5_extraOf_10 rfl ?_
  refine ev_if_lt (tgt := 28) dX5_extraOf_11 (by decide) (fun c => ?_) (fun c => ?_)
  · replace h := h.1 c
    refine ev_iload_n dX5_extraOf_28 rfl ?_
    refine ev_iconst (v := 4) dX5_extraOf_29 (by decide) ?_
    refine ev_icmp_ne (tgt := 40) dX5_extraOf_30 (by decide) (fun c => ?_) (fun c => ?_)
    · replace h := h.1 c
      refine ev_iload_n dX5_extraOf_40 rfl ?_
      refine ev_iconst (v := 5) dX5_extraOf_41 (by decide) ?_
      refine ev_icmp_ne (tgt := 54) dX5_extraOf_42 (by decide) (fun c => ?_) (fun c => ?_)
      · replace h := h.1 c
        refine ev_iconst (v := 0) dX5_extraOf_54 (by decide) ?_
        exact ev_iret dX5_extraOf_55 rfl h
      · replace h := h.2 c
        refine ev_aload_n dX5_extraOf_45 rfl ?_
        refine ev_iload_n dX5_extraOf_46 rfl ?_
        refine ev_iload_n dX5_extraOf_47 rfl ?_
        obtain ⟨p1, h⟩ := h
        refine ev_callV [.int x1, .int x2] dX5_extraOf_48 ml_WithoutE_Sound_43 lx_82 rfl rfl (Nat.le_of_ble_eq_true rfl) (qX5_looksOf p1) ?_
        rintro r9 M9 ⟨q1, q2⟩
        rw [q1, q2]
        show Ev LX (d + 2) mX5_extraOf 51 [some (.ref 82), some (.int x1), some (.int x2), some (.int (M.1 30 x1.toNatClampNeg))] [(.int (xK M x1 x2))] M Q
        refine ev_goto (tgt := 55) dX5_extraOf_51 (by decide) ?_
        exact ev_iret dX5_extraOf_55 rfl h
    · replace h := h.2 c
      refine ev_aload_n dX5_extraOf_33 rfl ?_
      refine ev_iload_n dX5_extraOf_34 rfl ?_
      refine ev_iload_n dX5_extraOf_35 rfl ?_
      obtain ⟨p1, h⟩ := h
      refine ev_callV [.int x1, .int x2] dX5_extraOf_36 ml_WithoutE_Sound_39 lx_82 rfl rfl (Nat.le_of_ble_eq_true rfl) (qX5_holesOf p1) ?_
      rintro r9 M9 ⟨q1, q2⟩
      rw [q1, q2]
      show Ev LX (d + 2) mX5_extraOf 39 [some (.ref 82), some (.int x1), some (.int x2), some (.int (M.1 30 x1.toNatClampNeg))] [(.int (nI (xH M x1 x2)))] M Q
      exact ev_iret dX5_extraOf_39 rfl h
  · replace h := h.2 c
    refine ev_iload_n dX5_extraOf_14 rfl ?_
    refine ev_gs_eok dX5_extraOf_15 rfl ?_
    refine ev_gl_eok dX5_extraOf_18 ?_
    refine ev_icmp_ge (tgt := 28) dX5_extraOf_19 (by decide) (fun c => ?_) (fun c => ?_)
    · replace h := h.1 c
      refine ev_iload_n dX5_extraOf_28 rfl ?_
      refine ev_iconst (v := 4) dX5_extraOf_29 (by decide) ?_
      refine ev_icmp_ne (tgt := 40) dX5_extraOf_30 (by decide) (fun c => ?_) (fun c => ?_)
      · replace h := h.1 c
        refine ev_iload_n dX5_extraOf_40 rfl ?_
        refine ev_iconst (v := 5) dX5_extraOf_41 (by decide) ?_
        refine ev_icmp_ne (tgt := 54) dX5_extraOf_42 (by decide) (fun c => ?_) (fun c => ?_)
        · replace h := h.1 c
          refine ev_iconst (v := 0) dX5_extraOf_54 (by decide) ?_
          exact ev_iret dX5_extraOf_55 rfl h
        · replace h := h.2 c
          refine ev_aload_n dX5_extraOf_45 rfl ?_
          refine ev_iload_n dX5_extraOf_46 rfl ?_
          refine ev_iload_n dX5_extraOf_47 rfl ?_
          obtain ⟨p1, h⟩ := h
          refine ev_callV [.int x1, .int x2] dX5_extraOf_48 ml_WithoutE_Sound_43 lx_82 rfl rfl (Nat.le_of_ble_eq_true rfl) (qX5_looksOf p1) ?_
          rintro r9 M9 ⟨q1, q2⟩
          rw [q1, q2]
          show Ev LX (d + 2) mX5_extraOf 51 [some (.ref 82), some (.int x1), some (.int x2), some (.int (M.1 30 x1.toNatClampNeg))] [(.int (xK M x1 x2))] M Q
          refine ev_goto (tgt := 55) dX5_extraOf_51 (by decide) ?_
          exact ev_iret dX5_extraOf_55 rfl h
      · replace h := h.2 c
        refine ev_aload_n dX5_extraOf_33 rfl ?_
        refine ev_iload_n dX5_extraOf_34 rfl ?_
        refine ev_iload_n dX5_extraOf_35 rfl ?_
        obtain ⟨p1, h⟩ := h
        refine ev_callV [.int x1, .int x2] dX5_extraOf_36 ml_WithoutE_Sound_39 lx_82 rfl rfl (Nat.le_of_ble_eq_true rfl) (qX5_holesOf p1) ?_
        rintro r9 M9 ⟨q1, q2⟩
        rw [q1, q2]
        show Ev LX (d + 2) mX5_extraOf 39 [some (.ref 82), some (.int x1), some (.int x2), some (.int (M.1 30 x1.toNatClampNeg))] [(.int (nI (xH M x1 x2)))] M Q
        exact ev_iret dX5_extraOf_39 rfl h
    · replace h := h.2 c
      refine ev_gs_eok dX5_extraOf_22 rfl ?_
      refine ev_iload_n dX5_extraOf_25 rfl ?_
      obtain ⟨c, h⟩ := h
      refine ev_ga_eok dX5_extraOf_26 c ?_
      exact ev_iret dX5_extraOf_27 rfl h
theorem dX5_secondsOf_0 : decode cX5_secondsOf 0 = .ok (.aload_n 0, 1) := by decide +kernel
theorem dX5_secondsOf_1 : decode cX5_secondsOf 1 = .ok (.getfield 9, 3) := by decide +kernel
theorem dX5_secondsOf_4 : decode cX5_secondsOf 4 = .ok (.getfield 33, 3) := by decide +kernel
theorem dX5_secondsOf_7 : decode cX5_secondsOf 7 = .ok (.iload_n 1, 1) := by decide +kernel
theorem dX5_secondsOf_8 : decode cX5_secondsOf 8 = .ok (.iaload, 1) := by decide +kernel
theorem dX5_secondsOf_9 : decode cX5_secondsOf 9 = .ok (.lookupswitch 47 #[(4, 27), (6, 37)], 27) := by decide +kernel
theorem dX5_secondsOf_36 : decode cX5_secondsOf 36 = .ok (.bipush 6, 2) := by decide +kernel
theorem dX5_secondsOf_38 : decode cX5_secondsOf 38 = .ok (.aload_n 0, 1) := by decide +kernel
theorem dX5_secondsOf_39 : decode cX5_secondsOf 39 = .ok (.iload_n 1, 1) := by decide +kernel
theorem dX5_secondsOf_40 : decode cX5_secondsOf 40 = .ok (.iload_n 2, 1) := by decide +kernel
theorem dX5_secondsOf_41 : decode cX5_secondsOf 41 = .ok (.invokevirtual 39, 3) := by decide +kernel
theorem dX5_secondsOf_44 : decode cX5_secondsOf 44 = .ok (.imul, 1) := by decide +kernel
theorem dX5_secondsOf_45 : decode cX5_secondsOf 45 = .ok (.ireturn, 1) := by decide +kernel
theorem dX5_secondsOf_46 : decode cX5_secondsOf 46 = .ok (.bipush 9, 2) := by decide +kernel
theorem dX5_secondsOf_48 : decode cX5_secondsOf 48 = .ok (.aload_n 0, 1) := by decide +kernel
theorem dX5_secondsOf_49 : decode cX5_secondsOf 49 = .ok (.iload_n 1, 1) := by decide +kernel
theorem dX5_secondsOf_50 : decode cX5_secondsOf 50 = .ok (.iload_n 2, 1) := by decide +kernel
theorem dX5_secondsOf_51 : decode cX5_secondsOf 51 = .ok (.invokevirtual 39, 3) := by decide +kernel
theorem dX5_secondsOf_54 : decode cX5_secondsOf 54 = .ok (.imul, 1) := by decide +kernel
theorem dX5_secondsOf_55 : decode cX5_secondsOf 55 = .ok (.ireturn, 1) := by decide +kernel
theorem dX5_secondsOf_56 : decode cX5_secondsOf 56 = .ok (.iconst 0, 1) := by decide +kernel
theorem dX5_secondsOf_57 : decode cX5_secondsOf 57 = .ok (.ireturn, 1) := by decide +kernel
theorem gX5_secondsOf_0 {d : Nat} {M : ev_Mem} {Q : Option Value → ev_Mem → Prop} {x1 x2 : Int32} (h : (vp_in x1 24 ∧ ((((M.1 30 x1.toNatClampNeg) = 4) → ((wd M x1) ∧ (Q (some (.int (6 * (nI (xH M x1 x2))))) M))) ∧ (((M.1 30 x1.toNatClampNeg) = 6) → ((wd M x1) ∧ (Q (some (.int (9 * (nI (xH M x1 x2))))) M))) ∧ ((¬ (M.1 30 x1.toNatClampNeg) = 4 ∧ ¬ (M.1 30 x1.toNatClampNeg) = 6) → (Q (some (.int 0)) M))))) : Ev LX (d + 2) mX5_secondsOf 0 [some (.ref 82), some (.int x1), some (.int x2)] [] M Q := by
  refine ev_aload_n dX5_secondsOf_0 rfl ?_
  refine ev_getA dX5_secondsOf_1 fl_WithoutE_Sound_9 lx_82 rfl ?_
  refine ev_getA dX5_secondsOf_4 fl_WithoutE_Sound_33 lx_3 rfl ?_
  refine ev_iload_n dX5_secondsOf_7 rfl ?_
  obtain ⟨c, h⟩ := h
  refine ev_iald dX5_secondsOf_8 lx_30 c ?_
  obtain ⟨h0, h1, h2⟩ := h
  by_cases e0 : (M.1 30 x1.toNatClampNeg) = 4
  · replace h := h0 e0
    have hk : Op.lookupswitch.offset #[(4, 27), (6, 37)].toList 47 ((M.1 30 x1.toNatClampNeg) : Int32).toInt = 27 := by
      have e := e0
      · rw [e]; decide
    refine ev_lookup (tgt := 36) dX5_secondsOf_9 (by decide) hk (by decide) ?_
    refine ev_bipush (v := 6) dX5_secondsOf_36 (by decide) ?_
    refine ev_aload_n dX5_secondsOf_38 rfl ?_
    refine ev_iload_n dX5_secondsOf_39 rfl ?_
    refine ev_iload_n dX5_secondsOf_40 rfl ?_
    obtain ⟨p1, h⟩ := h
    refine ev_callV [.int x1, .int x2] dX5_secondsOf_41 ml_WithoutE_Sound_39 lx_82 rfl rfl (Nat.le_of_ble_eq_true rfl) (qX5_holesOf p1) ?_
    rintro r9 M9 ⟨q1, q2⟩
    rw [q1, q2]
    show Ev LX (d + 2) mX5_secondsOf 44 [some (.ref 82), some (.int x1), some (.int x2)] [(.int (nI (xH M x1 x2))), (.int 6)] M Q
    refine ev_imul dX5_secondsOf_44 ?_
    exact ev_iret dX5_secondsOf_45 rfl h
  by_cases e1 : (M.1 30 x1.toNatClampNeg) = 6
  · replace h := h1 e1
    have hk : Op.lookupswitch.offset #[(4, 27), (6, 37)].toList 47 ((M.1 30 x1.toNatClampNeg) : Int32).toInt = 37 := by
      have e := e1
      · rw [e]; decide
    refine ev_lookup (tgt := 46) dX5_secondsOf_9 (by decide) hk (by decide) ?_
    refine ev_bipush (v := 9) dX5_secondsOf_46 (by decide) ?_
    refine ev_aload_n dX5_secondsOf_48 rfl ?_
    refine ev_iload_n dX5_secondsOf_49 rfl ?_
    refine ev_iload_n dX5_secondsOf_50 rfl ?_
    obtain ⟨p1, h⟩ := h
    refine ev_callV [.int x1, .int x2] dX5_secondsOf_51 ml_WithoutE_Sound_39 lx_82 rfl rfl (Nat.le_of_ble_eq_true rfl) (qX5_holesOf p1) ?_
    rintro r9 M9 ⟨q1, q2⟩
    rw [q1, q2]
    show Ev LX (d + 2) mX5_secondsOf 54 [some (.ref 82), some (.int x1), some (.int x2)] [(.int (nI (xH M x1 x2))), (.int 9)] M Q
    refine ev_imul dX5_secondsOf_54 ?_
    exact ev_iret dX5_secondsOf_55 rfl h
  replace h := h2 ⟨fun e => e0 (e), fun e => e1 (e)⟩
  have hk : Op.lookupswitch.offset #[(4, 27), (6, 37)].toList 47 ((M.1 30 x1.toNatClampNeg) : Int32).toInt = 47 := by
    have t : ∀ k : Int32, ¬ ((M.1 30 x1.toNatClampNeg) : Int32) = k → ((M.1 30 x1.toNatClampNeg) : Int32).toInt ≠ k.toInt := fun k hne e => hne (Int32.toInt_inj.mp e)
    have z4 : ((M.1 30 x1.toNatClampNeg) : Int32).toInt ≠ 4 := t 4 (fun e => by simp_all)
    have z6 : ((M.1 30 x1.toNatClampNeg) : Int32).toInt ≠ 6 := t 6 (fun e => by simp_all)
    have y4 : ¬ (4 : Int) = ((M.1 30 x1.toNatClampNeg) : Int32).toInt := fun e => z4 e.symm
    have y6 : ¬ (6 : Int) = ((M.1 30 x1.toNatClampNeg) : Int32).toInt := fun e => z6 e.symm
    simp only [Op.lookupswitch.offset, y4, y6, if_false, ite_false]
  refine ev_lookup (tgt := 56) dX5_secondsOf_9 (by decide) hk (by decide) ?_
  refine ev_iconst (v := 0) dX5_secondsOf_56 (by decide) ?_
  exact ev_iret dX5_secondsOf_57 rfl h
theorem dX5_canBe_0 : decode cX5_canBe 0 = .ok (.aload_n 0, 1) := by decide +kernel
theorem dX5_canBe_1 : decode cX5_canBe 1 = .ok (.getfield 9, 3) := by decide +kernel
theorem dX5_canBe_4 : decode cX5_canBe 4 = .ok (.getfield 33, 3) := by decide +kernel
theorem dX5_canBe_7 : decode cX5_canBe 7 = .ok (.iload_n 1, 1) := by decide +kernel
theorem dX5_canBe_8 : decode cX5_canBe 8 = .ok (.iaload, 1) := by decide +kernel
theorem dX5_canBe_9 : decode cX5_canBe 9 = .ok (.istore_n 3, 1) := by decide +kernel
theorem dX5_canBe_10 : decode cX5_canBe 10 = .ok (.iload_n 3, 1) := by decide +kernel
theorem dX5_canBe_11 : decode cX5_canBe 11 = .ok (.iconst 4, 1) := by decide +kernel
theorem dX5_canBe_12 : decode cX5_canBe 12 = .ok (.if_icmp .eq 9, 3) := by decide +kernel
theorem dX5_canBe_15 : decode cX5_canBe 15 = .ok (.iload_n 3, 1) := by decide +kernel
theorem dX5_canBe_16 : decode cX5_canBe 16 = .ok (.bipush 6, 2) := by decide +kernel
theorem dX5_canBe_18 : decode cX5_canBe 18 = .ok (.if_icmp .ne 5, 3) := by decide +kernel
theorem dX5_canBe_21 : decode cX5_canBe 21 = .ok (.iconst 1, 1) := by decide +kernel
theorem dX5_canBe_22 : decode cX5_canBe 22 = .ok (.ireturn, 1) := by decide +kernel
theorem dX5_canBe_23 : decode cX5_canBe 23 = .ok (.iconst 0, 1) := by decide +kernel
theorem dX5_canBe_24 : decode cX5_canBe 24 = .ok (.istore 4, 2) := by decide +kernel
theorem dX5_canBe_26 : decode cX5_canBe 26 = .ok (.iload 4, 2) := by decide +kernel
theorem dX5_canBe_28 : decode cX5_canBe 28 = .ok (.aload_n 0, 1) := by decide +kernel
theorem dX5_canBe_29 : decode cX5_canBe 29 = .ok (.getfield 9, 3) := by decide +kernel
theorem dX5_canBe_32 : decode cX5_canBe 32 = .ok (.getfield 19, 3) := by decide +kernel
theorem dX5_canBe_35 : decode cX5_canBe 35 = .ok (.iload_n 1, 1) := by decide +kernel
theorem dX5_canBe_36 : decode cX5_canBe 36 = .ok (.iaload, 1) := by decide +kernel
theorem dX5_canBe_37 : decode cX5_canBe 37 = .ok (.if_icmp .ge 49, 3) := by decide +kernel
theorem dX5_canBe_40 : decode cX5_canBe 40 = .ok (.aload_n 0, 1) := by decide +kernel
theorem dX5_canBe_41 : decode cX5_canBe 41 = .ok (.getfield 9, 3) := by decide +kernel
theorem dX5_canBe_44 : decode cX5_canBe 44 = .ok (.getfield 25, 3) := by decide +kernel
theorem dX5_canBe_47 : decode cX5_canBe 47 = .ok (.iload_n 1, 1) := by decide +kernel
theorem dX5_canBe_48 : decode cX5_canBe 48 = .ok (.aaload, 1) := by decide +kernel
theorem dX5_canBe_49 : decode cX5_canBe 49 = .ok (.iload 4, 2) := by decide +kernel
theorem dX5_canBe_51 : decode cX5_canBe 51 = .ok (.iaload, 1) := by decide +kernel
theorem dX5_canBe_52 : decode cX5_canBe 52 = .ok (.istore 5, 2) := by decide +kernel
theorem dX5_canBe_54 : decode cX5_canBe 54 = .ok (.iload_n 2, 1) := by decide +kernel
theorem dX5_canBe_55 : decode cX5_canBe 55 = .ok (.iload 5, 2) := by decide +kernel
theorem dX5_canBe_57 : decode cX5_canBe 57 = .ok (.invokestatic 29, 3) := by decide +kernel
theorem dX5_canBe_60 : decode cX5_canBe 60 = .ok (.ifCond .eq 20, 3) := by decide +kernel
theorem dX5_canBe_63 : decode cX5_canBe 63 = .ok (.iload_n 3, 1) := by decide +kernel
theorem dX5_canBe_64 : decode cX5_canBe 64 = .ok (.iconst 5, 1) := by decide +kernel
theorem dX5_canBe_65 : decode cX5_canBe 65 = .ok (.if_icmp .ne 13, 3) := by decide +kernel
theorem dX5_canBe_68 : decode cX5_canBe 68 = .ok (.aload_n 0, 1) := by decide +kernel
theorem dX5_canBe_69 : decode cX5_canBe 69 = .ok (.iload 5, 2) := by decide +kernel
theorem dX5_canBe_71 : decode cX5_canBe 71 = .ok (.iload_n 2, 1) := by decide +kernel
theorem dX5_canBe_72 : decode cX5_canBe 72 = .ok (.invokevirtual 51, 3) := by decide +kernel
theorem dX5_canBe_75 : decode cX5_canBe 75 = .ok (.ifCond .ne 5, 3) := by decide +kernel
theorem dX5_canBe_78 : decode cX5_canBe 78 = .ok (.iconst 0, 1) := by decide +kernel
theorem dX5_canBe_79 : decode cX5_canBe 79 = .ok (.ireturn, 1) := by decide +kernel
theorem dX5_canBe_80 : decode cX5_canBe 80 = .ok (.iinc 4 1, 3) := by decide +kernel
theorem dX5_canBe_83 : decode cX5_canBe 83 = .ok (.goto (-57), 3) := by decide +kernel
theorem dX5_canBe_86 : decode cX5_canBe 86 = .ok (.iconst 1, 1) := by decide +kernel
theorem dX5_canBe_87 : decode cX5_canBe 87 = .ok (.ireturn, 1) := by decide +kernel
theorem gX5_canBe_0 {d : Nat} {M : ev_Mem} {Q : Option Value → ev_Mem → Prop} {x1 x2 : Int32} (h : (vp_in x1 24 ∧ ((((M.1 30 x1.toNatClampNeg) = 4) → (Q (some (.int 1)) M)) ∧ ((¬ (M.1 30 x1.toNatClampNeg) = 4) → (((¬ (M.1 30 x1.toNatClampNeg) = 6) → (Ev LX d mX5_canBe 26 [some (.ref 82), some (.int x1), some (.int x2), some (.int (M.1 30 x1.toNatClampNeg)), some (.int 0), none] [] M Q)) ∧ (((M.1 30 x1.toNatClampNeg) = 6) → (Q (some (.int 1)) M))))))) : Ev LX d mX5_canBe 0 [some (.ref 82), some (.int x1), some (.int x2), none, none, none] [] M Q := by
  refine ev_aload_n dX5_canBe_0 rfl ?_
  refine ev_getA dX5_canBe_1 fl_WithoutE_Sound_9 lx_82 rfl ?_
  refine ev_getA dX5_canBe_4 fl_WithoutE_Sound_33 lx_3 rfl ?_
  refine ev_iload_n dX5_canBe_7 rfl ?_
  obtain ⟨c, h⟩ := h
  refine ev_iald dX5_canBe_8 lx_30 c ?_
  refine ev_istore_n (ls2 := [some (.ref 82), some (.int x1), some (.int x2), some (.int (M.1 30 x1.toNatClampNeg)), none, none]) dX5_canBe_9 (Nat.le_of_ble_eq_true rfl) rfl ?_
  refine ev_iload_n dX5_canBe_10 rfl ?_
  refine ev_iconst (v := 4) dX5_canBe_11 (by decide) ?_
  refine ev_icmp_eq (tgt := 21) dX5_canBe_12 (by decide) (fun c => ?_) (fun c => ?_)
  · replace h := h.1 c
    refine ev_iconst (v := 1) dX5_canBe_21 (by decide) ?_
    exact ev_zret dX5_canBe_22 rfl (by decide) h
  · replace h := h.2 c
    refine ev_iload_n dX5_canBe_15 rfl ?_
    refine ev_bipush (v := 6) dX5_canBe_16 (by decide) ?_
    refine ev_icmp_ne (tgt := 23) dX5_canBe_18 (by decide) (fun c => ?_) (fun c => ?_)
    · replace h := h.1 c
      refine ev_iconst (v := 0) dX5_canBe_23 (by decide) ?_
      refine ev_istore (ls2 := [some (.ref 82), some (.int x1), some (.int x2), some (.int (M.1 30 x1.toNatClampNeg)), some (.int 0), none]) dX5_canBe_24 (Nat.le_of_ble_eq_true rfl) rfl ?_
      exact h
    · replace h := h.2 c
      refine ev_iconst (v := 1) dX5_canBe_21 (by decide) ?_
      exact ev_zret dX5_canBe_22 rfl (by decide) h
theorem gX5_canBe_26 {d : Nat} {M : ev_Mem} {Q : Option Value → ev_Mem → Prop} {x1 x2 x3 x4 : Int32} (h : (vp_in x1 24 ∧ ((((M.1 29 x1.toNatClampNeg) ≤ x4) → (Q (some (.int 1)) M)) ∧ ((¬ (M.1 29 x1.toNatClampNeg) ≤ x4) → (vp_in x1 24 ∧ (vp_in x4 9 ∧ (∀ v1 : Int32, v1 = M.1 (5 + x1.toNatClampNeg) x4.toNatClampNeg → ((((hs x2 v1) = false) → (Ev LX (d + 2) mX5_canBe 26 [some (.ref 82), some (.int x1), some (.int x2), some (.int x3), some (.int (x4 + 1)), none] [] M Q)) ∧ (((hs x2 v1) = true) → (((¬ x3 = 5) → (Q (some (.int 0)) M)) ∧ ((x3 = 5) → ((vp_in v1 26) ∧ ((((mnd (M.1 48) x2 v1) = true) → (Ev LX (d + 2) mX5_canBe 26 [some (.ref 82), some (.int x1), some (.int x2), some (.int x3), some (.int (x4 + 1)), none] [] M Q)) ∧ (((mnd (M.1 48) x2 v1) = false) → (Q (some (.int 0)) M))))))))))))))) : Ev LX (d + 2) mX5_canBe 26 [some (.ref 82), some (.int x1), some (.int x2), some (.int x3), some (.int x4), none] [] M Q := by
  refine ev_iload dX5_canBe_26 rfl ?_
  refine ev_aload_n dX5_canBe_28 rfl ?_
  refine ev_getA dX5_canBe_29 fl_WithoutE_Sound_9 lx_82 rfl ?_
  refine ev_getA dX5_canBe_32 fl_WithoutE_Sound_19 lx_3 rfl ?_
  refine ev_iload_n dX5_canBe_35 rfl ?_
  obtain ⟨c, h⟩ := h
  refine ev_iald dX5_canBe_36 lx_29 c ?_
  refine ev_icmp_ge (tgt := 86) dX5_canBe_37 (by decide) (fun c => ?_) (fun c => ?_)
  · replace h := h.1 c
    refine ev_iconst (v := 1) dX5_canBe_86 (by decide) ?_
    exact ev_zret dX5_canBe_87 rfl (by decide) h
  · replace h := h.2 c
    refine ev_aload_n dX5_canBe_40 rfl ?_
    refine ev_getA dX5_canBe_41 fl_WithoutE_Sound_9 lx_82 rfl ?_
    refine ev_getA dX5_canBe_44 fl_WithoutE_Sound_25 lx_3 rfl ?_
    refine ev_iload_n dX5_canBe_47 rfl ?_
    obtain ⟨b1, h⟩ := h
    refine ev_aald dX5_canBe_48 lx_4 (fun _ => rfl) rfl b1 ?_
    refine ev_iload dX5_canBe_49 rfl ?_
    obtain ⟨c, h⟩ := h
    refine ev_iald dX5_canBe_51 (lx_sp (ev_lt b1)) c ?_
    refine ev_istore (ls2 := [some (.ref 82), some (.int x1), some (.int x2), some (.int x3), some (.int x4), some (.int (M.1 (5 + x1.toNatClampNeg) x4.toNatClampNeg))]) dX5_canBe_52 (Nat.le_of_ble_eq_true rfl) rfl ?_
    generalize ev1 : M.1 (5 + x1.toNatClampNeg) x4.toNatClampNeg = v1
    replace h := h v1 ev1.symm
    refine ev_iload_n dX5_canBe_54 rfl ?_
    refine ev_iload dX5_canBe_55 rfl ?_
    refine ev_callN [.int x2, .int v1] dX5_canBe_57 ml_WithoutE_Sound_29 rfl (Nat.le_of_ble_eq_true rfl) (kX10_has) ?_
    rintro r9 M9 ⟨q1, q2⟩
    rw [q1, q2]
    show Ev LX (d + 2) mX5_canBe 60 [some (.ref 82), some (.int x1), some (.int x2), some (.int x3), some (.int x4), some (.int v1)] [(.int (bi (hs x2 v1)))] M Q
    refine ev_if_eq (tgt := 80) dX5_canBe_60 (by decide) (fun c => ?_) (fun c => ?_)
    · replace h := h.1 ((bi_0 _).mp c)
      refine ev_iinc (v := x4 + 1) (ls2 := [some (.ref 82), some (.int x1), some (.int x2), some (.int x3), some (.int (x4 + 1)), some (.int v1)]) dX5_canBe_80 rfl rfl rfl ?_
      refine ev_goto (tgt := 26) dX5_canBe_83 (by decide) ?_
      refine Ev.weak (ls := [some (.ref 82), some (.int x1), some (.int x2), some (.int x3), some (.int (x4 + 1)), none]) ⟨rfl, rfl, rfl, rfl, rfl, trivial⟩ ?_
      exact h
    · replace h := h.2 ((bi_n0 _).mp c)
      refine ev_iload_n dX5_canBe_63 rfl ?_
      refine ev_iconst (v := 5) dX5_canBe_64 (by decide) ?_
      refine ev_icmp_ne (tgt := 78) dX5_canBe_65 (by decide) (fun c => ?_) (fun c => ?_)
      · replace h := h.1 c
        refine ev_iconst (v := 0) dX5_canBe_78 (by decide) ?_
        exact ev_zret dX5_canBe_79 rfl (by decide) h
      · replace h := h.2 c
        refine ev_aload_n dX5_canBe_68 rfl ?_
        refine ev_iload dX5_canBe_69 rfl ?_
        refine ev_iload_n dX5_canBe_71 rfl ?_
        obtain ⟨p1, h⟩ := h
        refine ev_callV [.int v1, .int x2] dX5_canBe_72 ml_WithoutE_Sound_51 lx_82 rfl rfl (Nat.le_of_ble_eq_true rfl) (kX5_isMendable p1) ?_
        rintro r9 M9 ⟨q1, q2⟩
        rw [q1, q2]
        show Ev LX (d + 2) mX5_canBe 75 [some (.ref 82), some (.int x1), some (.int x2), some (.int x3), some (.int x4), some (.int v1)] [(.int (bi (mnd (M.1 48) x2 v1)))] M Q
        refine ev_if_ne (tgt := 80) dX5_canBe_75 (by decide) (fun c => ?_) (fun c => ?_)
        · replace h := h.1 ((bi_n0 _).mp c)
          refine ev_iinc (v := x4 + 1) (ls2 := [some (.ref 82), some (.int x1), some (.int x2), some (.int x3), some (.int (x4 + 1)), some (.int v1)]) dX5_canBe_80 rfl rfl rfl ?_
          refine ev_goto (tgt := 26) dX5_canBe_83 (by decide) ?_
          refine Ev.weak (ls := [some (.ref 82), some (.int x1), some (.int x2), some (.int x3), some (.int (x4 + 1)), none]) ⟨rfl, rfl, rfl, rfl, rfl, trivial⟩ ?_
          exact h
        · replace h := h.2 ((bi_0 _).mp c)
          refine ev_iconst (v := 0) dX5_canBe_78 (by decide) ?_
          exact ev_zret dX5_canBe_79 rfl (by decide) h
theorem dX11_isLost_0 : decode cX11_isLost 0 = .ok (.aload_n 0, 1) := by decide +kernel
theorem dX11_isLost_1 : decode cX11_isLost 1 = .ok (.getfield 7, 3) := by decide +kernel
theorem dX11_isLost_4 : decode cX11_isLost 4 = .ok (.bipush 9, 2) := by decide +kernel
theorem dX11_isLost_6 : decode cX11_isLost 6 = .ok (.iaload, 1) := by decide +kernel
theorem dX11_isLost_7 : decode cX11_isLost 7 = .ok (.iload_n 1, 1) := by decide +kernel
theorem dX11_isLost_8 : decode cX11_isLost 8 = .ok (.invokestatic 84, 3) := by decide +kernel
theorem dX11_isLost_11 : decode cX11_isLost 11 = .ok (.ireturn, 1) := by decide +kernel
theorem gX11_isLost_0 {d : Nat} {M : ev_Mem} {Q : Option Value → ev_Mem → Prop} {x1 : Int32} (h : (Q (some (.int (bi (hs (M.1 1 9) x1)))) M)) : Ev LM (d + 1) mX11_isLost 0 [some (.ref 0), some (.int x1)] [] M Q := by
  refine ev_aload_n dX11_isLost_0 rfl ?_
  refine ev_getA dX11_isLost_1 fl_WithoutEModel_7 lm_0 rfl ?_
  refine ev_bipush (v := 9) dX11_isLost_4 (by decide) ?_
  refine ev_iaN (j := 9) dX11_isLost_6 lm_1 (by decide) (by decide) ?_
  refine ev_iload_n dX11_isLost_7 rfl ?_
  refine ev_callS [.int (M.1 1 9), .int x1] dX11_isLost_8 ml_WithoutEModel_84 rfl (Nat.le_of_ble_eq_true rfl) (kX11_has) ?_
  rintro r9 M9 ⟨q1, q2⟩
  rw [q1, q2]
  show Ev LM (d + 1) mX11_isLost 11 [some (.ref 0), some (.int x1)] [(.int (bi (hs (M.1 1 9) x1)))] M Q
  exact ev_zret dX11_isLost_11 rfl (bi_nar _) h
