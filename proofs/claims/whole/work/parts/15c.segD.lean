theorem dX11_canBe_0 : decode cX11_canBe 0 = .ok (.aload_n 0, 1) := by decide +kernel
theorem dX11_canBe_1 : decode cX11_canBe 1 = .ok (.iload_n 1, 1) := by decide +kernel
theorem dX11_canBe_2 : decode cX11_canBe 2 = .ok (.iconst 0, 1) := by decide +kernel
theorem dX11_canBe_3 : decode cX11_canBe 3 = .ok (.invokevirtual 92, 3) := by decide +kernel
theorem dX11_canBe_6 : decode cX11_canBe 6 = .ok (.istore_n 2, 1) := by decide +kernel
theorem dX11_canBe_7 : decode cX11_canBe 7 = .ok (.iload_n 2, 1) := by decide +kernel
theorem dX11_canBe_8 : decode cX11_canBe 8 = .ok (.iconst 4, 1) := by decide +kernel
theorem dX11_canBe_9 : decode cX11_canBe 9 = .ok (.if_icmp .eq 9, 3) := by decide +kernel
theorem dX11_canBe_12 : decode cX11_canBe 12 = .ok (.iload_n 2, 1) := by decide +kernel
theorem dX11_canBe_13 : decode cX11_canBe 13 = .ok (.bipush 6, 2) := by decide +kernel
theorem dX11_canBe_15 : decode cX11_canBe 15 = .ok (.if_icmp .ne 5, 3) := by decide +kernel
theorem dX11_canBe_18 : decode cX11_canBe 18 = .ok (.iconst 1, 1) := by decide +kernel
theorem dX11_canBe_19 : decode cX11_canBe 19 = .ok (.ireturn, 1) := by decide +kernel
theorem dX11_canBe_20 : decode cX11_canBe 20 = .ok (.iload_n 2, 1) := by decide +kernel
theorem dX11_canBe_21 : decode cX11_canBe 21 = .ok (.iconst 5, 1) := by decide +kernel
theorem dX11_canBe_22 : decode cX11_canBe 22 = .ok (.if_icmp .eq 17, 3) := by decide +kernel
theorem dX11_canBe_25 : decode cX11_canBe 25 = .ok (.aload_n 0, 1) := by decide +kernel
theorem dX11_canBe_26 : decode cX11_canBe 26 = .ok (.iload_n 1, 1) := by decide +kernel
theorem dX11_canBe_27 : decode cX11_canBe 27 = .ok (.invokevirtual 96, 3) := by decide +kernel
theorem dX11_canBe_30 : decode cX11_canBe 30 = .ok (.ifCond .ne 7, 3) := by decide +kernel
theorem dX11_canBe_33 : decode cX11_canBe 33 = .ok (.iconst 1, 1) := by decide +kernel
theorem dX11_canBe_34 : decode cX11_canBe 34 = .ok (.goto 4, 3) := by decide +kernel
theorem dX11_canBe_37 : decode cX11_canBe 37 = .ok (.iconst 0, 1) := by decide +kernel
theorem dX11_canBe_38 : decode cX11_canBe 38 = .ok (.ireturn, 1) := by decide +kernel
theorem dX11_canBe_39 : decode cX11_canBe 39 = .ok (.iconst 0, 1) := by decide +kernel
theorem dX11_canBe_40 : decode cX11_canBe 40 = .ok (.istore_n 3, 1) := by decide +kernel
theorem dX11_canBe_41 : decode cX11_canBe 41 = .ok (.iload_n 3, 1) := by decide +kernel
theorem dX11_canBe_42 : decode cX11_canBe 42 = .ok (.aload_n 0, 1) := by decide +kernel
theorem dX11_canBe_43 : decode cX11_canBe 43 = .ok (.iload_n 1, 1) := by decide +kernel
theorem dX11_canBe_44 : decode cX11_canBe 44 = .ok (.iconst 3, 1) := by decide +kernel
theorem dX11_canBe_45 : decode cX11_canBe 45 = .ok (.invokevirtual 92, 3) := by decide +kernel
theorem dX11_canBe_48 : decode cX11_canBe 48 = .ok (.if_icmp .ge 41, 3) := by decide +kernel
theorem dX11_canBe_51 : decode cX11_canBe 51 = .ok (.aload_n 0, 1) := by decide +kernel
theorem dX11_canBe_52 : decode cX11_canBe 52 = .ok (.aload_n 0, 1) := by decide +kernel
theorem dX11_canBe_53 : decode cX11_canBe 53 = .ok (.iload_n 1, 1) := by decide +kernel
theorem dX11_canBe_54 : decode cX11_canBe 54 = .ok (.iconst 4, 1) := by decide +kernel
theorem dX11_canBe_55 : decode cX11_canBe 55 = .ok (.iload_n 3, 1) := by decide +kernel
theorem dX11_canBe_56 : decode cX11_canBe 56 = .ok (.iadd, 1) := by decide +kernel
theorem dX11_canBe_57 : decode cX11_canBe 57 = .ok (.invokevirtual 92, 3) := by decide +kernel
theorem dX11_canBe_60 : decode cX11_canBe 60 = .ok (.invokevirtual 88, 3) := by decide +kernel
theorem dX11_canBe_63 : decode cX11_canBe 63 = .ok (.ifCond .eq 20, 3) := by decide +kernel
theorem dX11_canBe_66 : decode cX11_canBe 66 = .ok (.aload_n 0, 1) := by decide +kernel
theorem dX11_canBe_67 : decode cX11_canBe 67 = .ok (.aload_n 0, 1) := by decide +kernel
theorem dX11_canBe_68 : decode cX11_canBe 68 = .ok (.iload_n 1, 1) := by decide +kernel
theorem dX11_canBe_69 : decode cX11_canBe 69 = .ok (.iconst 4, 1) := by decide +kernel
theorem dX11_canBe_70 : decode cX11_canBe 70 = .ok (.iload_n 3, 1) := by decide +kernel
theorem dX11_canBe_71 : decode cX11_canBe 71 = .ok (.iadd, 1) := by decide +kernel
theorem dX11_canBe_72 : decode cX11_canBe 72 = .ok (.invokevirtual 92, 3) := by decide +kernel
theorem dX11_canBe_75 : decode cX11_canBe 75 = .ok (.invokevirtual 100, 3) := by decide +kernel
theorem dX11_canBe_78 : decode cX11_canBe 78 = .ok (.ifCond .ne 5, 3) := by decide +kernel
theorem dX11_canBe_81 : decode cX11_canBe 81 = .ok (.iconst 0, 1) := by decide +kernel
theorem dX11_canBe_82 : decode cX11_canBe 82 = .ok (.ireturn, 1) := by decide +kernel
theorem dX11_canBe_83 : decode cX11_canBe 83 = .ok (.iinc 3 1, 3) := by decide +kernel
theorem dX11_canBe_86 : decode cX11_canBe 86 = .ok (.goto (-45), 3) := by decide +kernel
theorem dX11_canBe_89 : decode cX11_canBe 89 = .ok (.iconst 1, 1) := by decide +kernel
theorem dX11_canBe_90 : decode cX11_canBe 90 = .ok (.ireturn, 1) := by decide +kernel
theorem gX11_canBe_0 {d : Nat} {M : ev_Mem} {Q : Option Value → ev_Mem → Prop} {x1 : Int32} (h : ((vp_in (39 + 13 * x1 + (0 : Int32)) 3315) ∧ (∀ v1 : Int32, v1 = M.1 1 (39 + 13 * x1 + (0 : Int32)).toNatClampNeg → (((v1 = 4) → (Q (some (.int 1)) M)) ∧ ((¬ v1 = 4) → (((¬ v1 = 6) → (((v1 = 5) → (Ev LM (d + 3) mX11_canBe 41 [some (.ref 0), some (.int x1), none, some (.int 0)] [] M Q)) ∧ ((¬ v1 = 5) → ((wm M x1) ∧ (((¬ (nI (mH M x1)) = 0) → (Q (some (.int 0)) M)) ∧ (((nI (mH M x1)) = 0) → (Q (some (.int 1)) M))))))) ∧ ((v1 = 6) → (Q (some (.int 1)) M)))))))) : Ev LM (d + 3) mX11_canBe 0 [some (.ref 0), some (.int x1), none, none] [] M Q := by
  refine ev_aload_n dX11_canBe_0 rfl ?_
  refine ev_iload_n dX11_canBe_1 rfl ?_
  refine ev_iconst (v := 0) dX11_canBe_2 (by decide) ?_
  obtain ⟨p1, h⟩ := h
  refine ev_callV [.int x1, .int 0] dX11_canBe_3 ml_WithoutEModel_92 lm_0 rfl rfl (Nat.le_of_ble_eq_true rfl) (kX11_get p1) ?_
  rintro r9 M9 ⟨q1, q2⟩
  rw [q1, q2]
  show Ev LM (d + 3) mX11_canBe 6 [some (.ref 0), some (.int x1), none, none] [(.int (M.1 1 (39 + 13 * x1 + (0 : Int32)).toNatClampNeg))] M Q
  refine ev_istore_n (ls2 := [some (.ref 0), some (.int x1), some (.int (M.1 1 (39 + 13 * x1 + (0 : Int32)).toNatClampNeg)), none]) dX11_canBe_6 (Nat.le_of_ble_eq_true rfl) rfl ?_
  generalize ev1 : M.1 1 (39 + 13 * x1 + (0 : Int32)).toNatClampNeg = v1
  replace h := h v1 ev1.symm
  refine ev_iload_n dX11_canBe_7 rfl ?_
  refine ev_iconst (v := 4) dX11_canBe_8 (by decide) ?_
  refine ev_icmp_eq (tgt := 18) dX11_canBe_9 (by decide) (fun c => ?_) (fun c => ?_)
  · replace h := h.1 c
    refine ev_iconst (v := 1) dX11_canBe_18 (by decide) ?_
    exact ev_zret dX11_canBe_19 rfl (by decide) h
  · replace h := h.2 c
    refine ev_iload_n dX11_canBe_12 rfl ?_
    refine ev_bipush (v := 6) dX11_canBe_13 (by decide) ?_
    refine ev_icmp_ne (tgt := 20) dX11_canBe_15 (by decide) (fun c => ?_) (fun c => ?_)
    · replace h := h.1 c
      refine ev_iload_n dX11_canBe_20 rfl ?_
      refine ev_iconst (v := 5) dX11_canBe_21 (by decide) ?_
      refine ev_icmp_eq (tgt := 39) dX11_canBe_22 (by decide) (fun c => ?_) (fun c => ?_)
      · replace h := h.1 c
        refine ev_iconst (v := 0) dX11_canBe_39 (by decide) ?_
        refine ev_istore_n (ls2 := [some (.ref 0), some (.int x1), some (.int v1), some (.int 0)]) dX11_canBe_40 (Nat.le_of_ble_eq_true rfl) rfl ?_
        refine Ev.weak (ls := [some (.ref 0), some (.int x1), none, some (.int 0)]) ⟨rfl, rfl, rfl, trivial⟩ ?_
        exact h
      · replace h := h.2 c
        refine ev_aload_n dX11_canBe_25 rfl ?_
        refine ev_iload_n dX11_canBe_26 rfl ?_
        obtain ⟨p1, h⟩ := h
        refine ev_callV [.int x1] dX11_canBe_27 ml_WithoutEModel_96 lm_0 rfl rfl (Nat.le_of_ble_eq_true rfl) (kX11_holesOf p1) ?_
        rintro r9 M9 ⟨q1, q2⟩
        rw [q1, q2]
        show Ev LM (d + 3) mX11_canBe 30 [some (.ref 0), some (.int x1), some (.int v1), none] [(.int (nI (mH M x1)))] M Q
        refine ev_if_ne (tgt := 37) dX11_canBe_30 (by decide) (fun c => ?_) (fun c => ?_)
        · replace h := h.1 c
          refine ev_iconst (v := 0) dX11_canBe_37 (by decide) ?_
          exact ev_zret dX11_canBe_38 rfl (by decide) h
        · replace h := h.2 c
          refine ev_iconst (v := 1) dX11_canBe_33 (by decide) ?_
          refine ev_goto (tgt := 38) dX11_canBe_34 (by decide) ?_
          exact ev_zret dX11_canBe_38 rfl (by decide) h
    · replace h := h.2 c
      refine ev_iconst (v := 1) dX11_canBe_18 (by decide) ?_
      exact ev_zret dX11_canBe_19 rfl (by decide) h
theorem gX11_canBe_41 {d : Nat} {M : ev_Mem} {Q : Option Value → ev_Mem → Prop} {x1 x3 : Int32} (h : ((vp_in (39 + 13 * x1 + (3 : Int32)) 3315) ∧ ((((M.1 1 (39 + 13 * x1 + (3 : Int32)).toNatClampNeg) ≤ x3) → (Q (some (.int 1)) M)) ∧ ((¬ (M.1 1 (39 + 13 * x1 + (3 : Int32)).toNatClampNeg) ≤ x3) → ((vp_in (39 + 13 * x1 + (4 + x3)) 3315) ∧ ((((hs (M.1 1 9) (M.1 1 (39 + 13 * x1 + (4 + x3)).toNatClampNeg)) = false) → (Ev LM (d + 3) mX11_canBe 41 [some (.ref 0), some (.int x1), none, some (.int (x3 + 1))] [] M Q)) ∧ (((hs (M.1 1 9) (M.1 1 (39 + 13 * x1 + (4 + x3)).toNatClampNeg)) = true) → ((vp_in (39 + 13 * x1 + (4 + x3)) 3315) ∧ ((vp_in (399 + 2 * (M.1 1 (39 + 13 * x1 + (4 + x3)).toNatClampNeg)) 3315) ∧ ((((mdl (M.1 1 9) (M.1 1 (399 + 2 * (M.1 1 (39 + 13 * x1 + (4 + x3)).toNatClampNeg)).toNatClampNeg)) = true) → (Ev LM (d + 3) mX11_canBe 41 [some (.ref 0), some (.int x1), none, some (.int (x3 + 1))] [] M Q)) ∧ (((mdl (M.1 1 9) (M.1 1 (399 + 2 * (M.1 1 (39 + 13 * x1 + (4 + x3)).toNatClampNeg)).toNatClampNeg)) = false) → (Q (some (.int 0)) M)))))))))))) : Ev LM (d + 3) mX11_canBe 41 [some (.ref 0), some (.int x1), none, some (.int x3)] [] M Q := by
  refine ev_iload_n dX11_canBe_41 rfl ?_
  refine ev_aload_n dX11_canBe_42 rfl ?_
  refine ev_iload_n dX11_canBe_43 rfl ?_
  refine ev_iconst (v := 3) dX11_canBe_44 (by decide) ?_
  obtain ⟨p1, h⟩ := h
  refine ev_callV [.int x1, .int 3] dX11_canBe_45 ml_WithoutEModel_92 lm_0 rfl rfl (Nat.le_of_ble_eq_true rfl) (kX11_get p1) ?_
  rintro r9 M9 ⟨q1, q2⟩
  rw [q1, q2]
  show Ev LM (d + 3) mX11_canBe 48 [some (.ref 0), some (.int x1), none, some (.int x3)] [(.int (M.1 1 (39 + 13 * x1 + (3 : Int32)).toNatClampNeg)), (.int x3)] M Q
  refine ev_icmp_ge (tgt := 89) dX11_canBe_48 (by decide) (fun c => ?_) (fun c => ?_)
  · replace h := h.1 c
    refine ev_iconst (v := 1) dX11_canBe_89 (by decide) ?_
    exact ev_zret dX11_canBe_90 rfl (by decide) h
  · replace h := h.2 c
    refine ev_aload_n dX11_canBe_51 rfl ?_
    refine ev_aload_n dX11_canBe_52 rfl ?_
    refine ev_iload_n dX11_canBe_53 rfl ?_
    refine ev_iconst (v := 4) dX11_canBe_54 (by decide) ?_
    refine ev_iload_n dX11_canBe_55 rfl ?_
    refine ev_iadd dX11_canBe_56 ?_
    obtain ⟨p1, h⟩ := h
    refine ev_callV [.int x1, .int (4 + x3)] dX11_canBe_57 ml_WithoutEModel_92 lm_0 rfl rfl (Nat.le_of_ble_eq_true rfl) (kX11_get p1) ?_
    rintro r9 M9 ⟨q1, q2⟩
    rw [q1, q2]
    show Ev LM (d + 3) mX11_canBe 60 [some (.ref 0), some (.int x1), none, some (.int x3)] [(.int (M.1 1 (39 + 13 * x1 + (4 + x3)).toNatClampNeg)), (.ref 0)] M Q
    refine ev_callV [.int (M.1 1 (39 + 13 * x1 + (4 + x3)).toNatClampNeg)] dX11_canBe_60 ml_WithoutEModel_88 lm_0 rfl rfl (Nat.le_of_ble_eq_true rfl) (kX11_isLost) ?_
    rintro r9 M9 ⟨q1, q2⟩
    rw [q1, q2]
    show Ev LM (d + 3) mX11_canBe 63 [some (.ref 0), some (.int x1), none, some (.int x3)] [(.int (bi (hs (M.1 1 9) (M.1 1 (39 + 13 * x1 + (4 + x3)).toNatClampNeg))))] M Q
    refine ev_if_eq (tgt := 83) dX11_canBe_63 (by decide) (fun c => ?_) (fun c => ?_)
    · replace h := h.1 ((bi_0 _).mp c)
      refine ev_iinc (v := x3 + 1) (ls2 := [some (.ref 0), some (.int x1), none, some (.int (x3 + 1))]) dX11_canBe_83 rfl rfl rfl ?_
      refine ev_goto (tgt := 41) dX11_canBe_86 (by decide) ?_
      exact h
    · replace h := h.2 ((bi_n0 _).mp c)
      refine ev_aload_n dX11_canBe_66 rfl ?_
      refine ev_aload_n dX11_canBe_67 rfl ?_
      refine ev_iload_n dX11_canBe_68 rfl ?_
      refine ev_iconst (v := 4) dX11_canBe_69 (by decide) ?_
      refine ev_iload_n dX11_canBe_70 rfl ?_
      refine ev_iadd dX11_canBe_71 ?_
      obtain ⟨p1, h⟩ := h
      refine ev_callV [.int x1, .int (4 + x3)] dX11_canBe_72 ml_WithoutEModel_92 lm_0 rfl rfl (Nat.le_of_ble_eq_true rfl) (kX11_get p1) ?_
      rintro r9 M9 ⟨q1, q2⟩
      rw [q1, q2]
      show Ev LM (d + 3) mX11_canBe 75 [some (.ref 0), some (.int x1), none, some (.int x3)] [(.int (M.1 1 (39 + 13 * x1 + (4 + x3)).toNatClampNeg)), (.ref 0)] M Q
      obtain ⟨p1, h⟩ := h
      refine ev_callV [.int (M.1 1 (39 + 13 * x1 + (4 + x3)).toNatClampNeg)] dX11_canBe_75 ml_WithoutEModel_100 lm_0 rfl rfl (Nat.le_of_ble_eq_true rfl) (kX11_isMadeOfLeft p1) ?_
      rintro r9 M9 ⟨q1, q2⟩
      rw [q1, q2]
      show Ev LM (d + 3) mX11_canBe 78 [some (.ref 0), some (.int x1), none, some (.int x3)] [(.int (bi (mdl (M.1 1 9) (M.1 1 (399 + 2 * (M.1 1 (39 + 13 * x1 + (4 + x3)).toNatClampNeg)).toNatClampNeg))))] M Q
      refine ev_if_ne (tgt := 83) dX11_canBe_78 (by decide) (fun c => ?_) (fun c => ?_)
      · replace h := h.1 ((bi_n0 _).mp c)
        refine ev_iinc (v := x3 + 1) (ls2 := [some (.ref 0), some (.int x1), none, some (.int (x3 + 1))]) dX11_canBe_83 rfl rfl rfl ?_
        refine ev_goto (tgt := 41) dX11_canBe_86 (by decide) ?_
        exact h
      · replace h := h.2 ((bi_0 _).mp c)
        refine ev_iconst (v := 0) dX11_canBe_81 (by decide) ?_
        exact ev_zret dX11_canBe_82 rfl (by decide) h
theorem dX11_extraOf_0 : decode cX11_extraOf 0 = .ok (.iconst 0, 1) := by decide +kernel
theorem dX11_extraOf_1 : decode cX11_extraOf 1 = .ok (.istore_n 2, 1) := by decide +kernel
theorem dX11_extraOf_2 : decode cX11_extraOf 2 = .ok (.aload_n 0, 1) := by decide +kernel
theorem dX11_extraOf_3 : decode cX11_extraOf 3 = .ok (.iload_n 1, 1) := by decide +kernel
theorem dX11_extraOf_4 : decode cX11_extraOf 4 = .ok (.iconst 0, 1) := by decide +kernel
theorem dX11_extraOf_5 : decode cX11_extraOf 5 = .ok (.invokevirtual 92, 3) := by decide +kernel
theorem dX11_extraOf_8 : decode cX11_extraOf 8 = .ok (.tableswitch 105 3 6 #[103, 32, 38, 101], 32) := by decide +kernel
theorem dX11_extraOf_40 : decode cX11_extraOf 40 = .ok (.aload_n 0, 1) := by decide +kernel
theorem dX11_extraOf_41 : decode cX11_extraOf 41 = .ok (.iload_n 1, 1) := by decide +kernel
theorem dX11_extraOf_42 : decode cX11_extraOf 42 = .ok (.invokevirtual 96, 3) := by decide +kernel
theorem dX11_extraOf_45 : decode cX11_extraOf 45 = .ok (.ireturn, 1) := by decide +kernel
theorem dX11_extraOf_46 : decode cX11_extraOf 46 = .ok (.iconst 0, 1) := by decide +kernel
theorem dX11_extraOf_47 : decode cX11_extraOf 47 = .ok (.istore_n 3, 1) := by decide +kernel
theorem dX11_extraOf_48 : decode cX11_extraOf 48 = .ok (.iload_n 3, 1) := by decide +kernel
theorem dX11_extraOf_49 : decode cX11_extraOf 49 = .ok (.aload_n 0, 1) := by decide +kernel
theorem dX11_extraOf_50 : decode cX11_extraOf 50 = .ok (.iload_n 1, 1) := by decide +kernel
theorem dX11_extraOf_51 : decode cX11_extraOf 51 = .ok (.iconst 3, 1) := by decide +kernel
theorem dX11_extraOf_52 : decode cX11_extraOf 52 = .ok (.invokevirtual 92, 3) := by decide +kernel
theorem dX11_extraOf_55 : decode cX11_extraOf 55 = .ok (.if_icmp .ge 52, 3) := by decide +kernel
theorem dX11_extraOf_58 : decode cX11_extraOf 58 = .ok (.iload_n 2, 1) := by decide +kernel
theorem dX11_extraOf_59 : decode cX11_extraOf 59 = .ok (.aload_n 0, 1) := by decide +kernel
theorem dX11_extraOf_60 : decode cX11_extraOf 60 = .ok (.aload_n 0, 1) := by decide +kernel
theorem dX11_extraOf_61 : decode cX11_extraOf 61 = .ok (.iload_n 1, 1) := by decide +kernel
theorem dX11_extraOf_62 : decode cX11_extraOf 62 = .ok (.iconst 4, 1) := by decide +kernel
theorem dX11_extraOf_63 : decode cX11_extraOf 63 = .ok (.iload_n 3, 1) := by decide +kernel
theorem dX11_extraOf_64 : decode cX11_extraOf 64 = .ok (.iadd, 1) := by decide +kernel
theorem dX11_extraOf_65 : decode cX11_extraOf 65 = .ok (.invokevirtual 92, 3) := by decide +kernel
theorem dX11_extraOf_68 : decode cX11_extraOf 68 = .ok (.invokevirtual 88, 3) := by decide +kernel
theorem dX11_extraOf_71 : decode cX11_extraOf 71 = .ok (.ifCond .eq 27, 3) := by decide +kernel
theorem dX11_extraOf_74 : decode cX11_extraOf 74 = .ok (.aload_n 0, 1) := by decide +kernel
theorem dX11_extraOf_75 : decode cX11_extraOf 75 = .ok (.getfield 7, 3) := by decide +kernel
theorem dX11_extraOf_78 : decode cX11_extraOf 78 = .ok (.sipush 399, 3) := by decide +kernel
theorem dX11_extraOf_81 : decode cX11_extraOf 81 = .ok (.iconst 2, 1) := by decide +kernel
theorem dX11_extraOf_82 : decode cX11_extraOf 82 = .ok (.aload_n 0, 1) := by decide +kernel
theorem dX11_extraOf_83 : decode cX11_extraOf 83 = .ok (.iload_n 1, 1) := by decide +kernel
theorem dX11_extraOf_84 : decode cX11_extraOf 84 = .ok (.iconst 4, 1) := by decide +kernel
theorem dX11_extraOf_85 : decode cX11_extraOf 85 = .ok (.iload_n 3, 1) := by decide +kernel
theorem dX11_extraOf_86 : decode cX11_extraOf 86 = .ok (.iadd, 1) := by decide +kernel
theorem dX11_extraOf_87 : decode cX11_extraOf 87 = .ok (.invokevirtual 92, 3) := by decide +kernel
theorem dX11_extraOf_90 : decode cX11_extraOf 90 = .ok (.imul, 1) := by decide +kernel
theorem dX11_extraOf_91 : decode cX11_extraOf 91 = .ok (.iadd, 1) := by decide +kernel
theorem dX11_extraOf_92 : decode cX11_extraOf 92 = .ok (.iconst 1, 1) := by decide +kernel
theorem dX11_extraOf_93 : decode cX11_extraOf 93 = .ok (.iadd, 1) := by decide +kernel
theorem dX11_extraOf_94 : decode cX11_extraOf 94 = .ok (.iaload, 1) := by decide +kernel
theorem dX11_extraOf_95 : decode cX11_extraOf 95 = .ok (.goto 4, 3) := by decide +kernel
theorem dX11_extraOf_98 : decode cX11_extraOf 98 = .ok (.iconst 0, 1) := by decide +kernel
theorem dX11_extraOf_99 : decode cX11_extraOf 99 = .ok (.iadd, 1) := by decide +kernel
theorem dX11_extraOf_100 : decode cX11_extraOf 100 = .ok (.istore_n 2, 1) := by decide +kernel
theorem dX11_extraOf_101 : decode cX11_extraOf 101 = .ok (.iinc 3 1, 3) := by decide +kernel
theorem dX11_extraOf_104 : decode cX11_extraOf 104 = .ok (.goto (-56), 3) := by decide +kernel
theorem dX11_extraOf_107 : decode cX11_extraOf 107 = .ok (.iload_n 2, 1) := by decide +kernel
theorem dX11_extraOf_108 : decode cX11_extraOf 108 = .ok (.ireturn, 1) := by decide +kernel
theorem dX11_extraOf_109 : decode cX11_extraOf 109 = .ok (.iconst 0, 1) := by decide +kernel
theorem dX11_extraOf_110 : decode cX11_extraOf 110 = .ok (.ireturn, 1) := by decide +kernel
theorem dX11_extraOf_111 : decode cX11_extraOf 111 = .ok (.iconst 4, 1) := by decide +kernel
theorem dX11_extraOf_112 : decode cX11_extraOf 112 = .ok (.ireturn, 1) := by decide +kernel
theorem dX11_extraOf_113 : decode cX11_extraOf 113 = .ok (.aload_n 0, 1) := by decide +kernel
theorem dX11_extraOf_114 : decode cX11_extraOf 114 = .ok (.iload_n 1, 1) := by decide +kernel
theorem dX11_extraOf_115 : decode cX11_extraOf 115 = .ok (.iconst 0, 1) := by decide +kernel
theorem dX11_extraOf_116 : decode cX11_extraOf 116 = .ok (.invokevirtual 92, 3) := by decide +kernel
theorem dX11_extraOf_119 : decode cX11_extraOf 119 = .ok (.ireturn, 1) := by decide +kernel
theorem gX11_extraOf_0 {d : Nat} {M : ev_Mem} {Q : Option Value → ev_Mem → Prop} {x1 : Int32} (h : ((vp_in (39 + 13 * x1 + (0 : Int32)) 3315) ∧ ((((M.1 1 (39 + 13 * x1 + (0 : Int32)).toNatClampNeg) = 3) → (Q (some (.int 4)) M)) ∧ (((M.1 1 (39 + 13 * x1 + (0 : Int32)).toNatClampNeg) = 4) → ((wm M x1) ∧ (Q (some (.int (nI (mH M x1)))) M))) ∧ (((M.1 1 (39 + 13 * x1 + (0 : Int32)).toNatClampNeg) = 5) → (Ev LM (d + 3) mX11_extraOf 48 [some (.ref 0), some (.int x1), some (.int 0), some (.int 0)] [] M Q)) ∧ (((M.1 1 (39 + 13 * x1 + (0 : Int32)).toNatClampNeg) = 6) → (Q (some (.int 0)) M)) ∧ ((¬ (M.1 1 (39 + 13 * x1 + (0 : Int32)).toNatClampNeg) = 3 ∧ ¬ (M.1 1 (39 + 13 * x1 + (0 : Int32)).toNatClampNeg) = 4 ∧ ¬ (M.1 1 (39 + 13 * x1 + (0 : Int32)).toNatClampNeg) = 5 ∧ ¬ (M.1 1 (39 + 13 * x1 + (0 : Int32)).toNatClampNeg) = 6) → ((vp_in (39 + 13 * x1 + (0 : Int32)) 3315) ∧ (Q (some (.int (M.1 1 (39 + 13 * x1 + (0 : Int32)).toNatClampNeg))) M)))))) : Ev LM (d + 3) mX11_extraOf 0 [some (.ref 0), some (.int x1), none, none] [] M Q := by
  refine ev_iconst (v := 0) dX11_extraOf_0 (by decide) ?_
  refine ev_istore_n (ls2 := [some (.ref 0), some (.int x1), some (.int 0), none]) dX11_extraOf_1 (Nat.le_of_ble_eq_true rfl) rfl ?_
  refine ev_aload_n dX11_extraOf_2 rfl ?_
  refine ev_iload_n dX11_extraOf_3 rfl ?_
  refine ev_iconst (v := 0) dX11_extraOf_4 (by decide) ?_
  obtain ⟨p1, h⟩ := h
  refine ev_callV [.int x1, .int 0] dX11_extraOf_5 ml_WithoutEModel_92 lm_0 rfl rfl (Nat.le_of_ble_eq_true rfl) (kX11_get p1) ?_
  rintro r9 M9 ⟨q1, q2⟩
  rw [q1, q2]
  show Ev LM (d + 3) mX11_extraOf 8 [some (.ref 0), some (.int x1), some (.int 0), none] [(.int (M.1 1 (39 + 13 * x1 + (0 : Int32)).toNatClampNeg))] M Q
  obtain ⟨h0, h1, h2, h3, h4⟩ := h
  by_cases e0 : (M.1 1 (39 + 13 * x1 + (0 : Int32)).toNatClampNeg) = 3
  · replace h := h0 e0
    have hk : ∃ off : Int, ¬ ((M.1 1 (39 + 13 * x1 + (0 : Int32)).toNatClampNeg) : Int32).toInt < 3 ∧ ¬ 6 < ((M.1 1 (39 + 13 * x1 + (0 : Int32)).toNatClampNeg) : Int32).toInt ∧ #[103, 32, 38, 101][(((M.1 1 (39 + 13 * x1 + (0 : Int32)).toNatClampNeg) : Int32).toInt - 3).toNat]? = some off ∧ ((8 : Nat) : Int) + off = ((111 : Nat) : Int) := by
      have e := e0
      · rw [e]; exact ⟨103, by decide, by decide, by decide, by decide⟩
    obtain ⟨off, k1, k2, k3, k4⟩ := hk
    refine ev_tableIn (tgt := 111) dX11_extraOf_8 k1 k2 k3 k4 ?_
    refine ev_iconst (v := 4) dX11_extraOf_111 (by decide) ?_
    exact ev_iret dX11_extraOf_112 rfl h
  by_cases e1 : (M.1 1 (39 + 13 * x1 + (0 : Int32)).toNatClampNeg) = 4
  · replace h := h1 e1
    have hk : ∃ off : Int, ¬ ((M.1 1 (39 + 13 * x1 + (0 : Int32)).toNatClampNeg) : Int32).toInt < 3 ∧ ¬ 6 < ((M.1 1 (39 + 13 * x1 + (0 : Int32)).toNatClampNeg) : Int32).toInt ∧ #[103, 32, 38, 101][(((M.1 1 (39 + 13 * x1 + (0 : Int32)).toNatClampNeg) : Int32).toInt - 3).toNat]? = some off ∧ ((8 : Nat) : Int) + off = ((40 : Nat) : Int) := by
      have e := e1
      · rw [e]; exact ⟨32, by decide, by decide, by decide, by decide⟩
    obtain ⟨off, k1, k2, k3, k4⟩ := hk
    refine ev_tableIn (tgt := 40) dX11_extraOf_8 k1 k2 k3 k4 ?_
    refine ev_aload_n dX11_extraOf_40 rfl ?_
    refine ev_iload_n dX11_extraOf_41 rfl ?_
    obtain ⟨p1, h⟩ := h
    refine ev_callV [.int x1] dX11_extraOf_42 ml_WithoutEModel_96 lm_0 rfl rfl (Nat.le_of_ble_eq_true rfl) (kX11_holesOf p1) ?_
    rintro r9 M9 ⟨q1, q2⟩
    rw [q1, q2]
    show Ev LM (d + 3) mX11_extraOf 45 [some (.ref 0), some (.int x1), some (.int 0), none] [(.int (nI (mH M x1)))] M Q
    exact ev_iret dX11_extraOf_45 rfl h
  by_cases e2 : (M.1 1 (39 + 13 * x1 + (0 : Int32)).toNatClampNeg) = 5
  · replace h := h2 e2
    have hk : ∃ off : Int, ¬ ((M.1 1 (39 + 13 * x1 + (0 : Int32)).toNatClampNeg) : Int32).toInt < 3 ∧ ¬ 6 < ((M.1 1 (39 + 13 * x1 + (0 : Int32)).toNatClampNeg) : Int32).toInt ∧ #[103, 32, 38, 101][(((M.1 1 (39 + 13 * x1 + (0 : Int32)).toNatClampNeg) : Int32).toInt - 3).toNat]? = some off ∧ ((8 : Nat) : Int) + off = ((46 : Nat) : Int) := by
      have e := e2
      · rw [e]; exact ⟨38, by decide, by decide, by decide, by decide⟩
    obtain ⟨off, k1, k2, k3, k4⟩ := hk
    refine ev_tableIn (tgt := 46) dX11_extraOf_8 k1 k2 k3 k4 ?_
    refine ev_iconst (v := 0) dX11_extraOf_46 (by decide) ?_
    refine ev_istore_n (ls2 := [some (.ref 0), some (.int x1), some (.int 0), some (.int 0)]) dX11_extraOf_47 (Nat.le_of_ble_eq_true rfl) rfl ?_
    exact h
  by_cases e3 : (M.1 1 (39 + 13 * x1 + (0 : Int32)).toNatClampNeg) = 6
  · replace h := h3 e3
    have hk : ∃ off : Int, ¬ ((M.1 1 (39 + 13 * x1 + (0 : Int32)).toNatClampNeg) : Int32).toInt < 3 ∧ ¬ 6 < ((M.1 1 (39 + 13 * x1 + (0 : Int32)).toNatClampNeg) : Int32).toInt ∧ #[103, 32, 38, 101][(((M.1 1 (39 + 13 * x1 + (0 : Int32)).toNatClampNeg) : Int32).toInt - 3).toNat]? = some off ∧ ((8 : Nat) : Int) + off = ((109 : Nat) : Int) := by
      have e := e3
      · rw [e]; exact ⟨101, by decide, by decide, by decide, by decide⟩
    obtain ⟨off, k1, k2, k3, k4⟩ := hk
    refine ev_tableIn (tgt := 109) dX11_extraOf_8 k1 k2 k3 k4 ?_
    refine ev_iconst (v := 0) dX11_extraOf_109 (by decide) ?_
    exact ev_iret dX11_extraOf_110 rfl h
  replace h := h4 ⟨fun e => e0 (e), fun e => e1 (e), fun e => e2 (e), fun e => e3 (e)⟩
  have hk : (((M.1 1 (39 + 13 * x1 + (0 : Int32)).toNatClampNeg) : Int32).toInt < 3 ∨ 6 < ((M.1 1 (39 + 13 * x1 + (0 : Int32)).toNatClampNeg) : Int32).toInt) ∨ (False) := by
    have t : ∀ k : Int32, ¬ ((M.1 1 (39 + 13 * x1 + (0 : Int32)).toNatClampNeg) : Int32) = k → ((M.1 1 (39 + 13 * x1 + (0 : Int32)).toNatClampNeg) : Int32).toInt ≠ k.toInt := fun k hne e => hne (Int32.toInt_inj.mp e)
    have z3 : ((M.1 1 (39 + 13 * x1 + (0 : Int32)).toNatClampNeg) : Int32).toInt ≠ 3 := t 3 (fun e => by simp_all)
    have z4 : ((M.1 1 (39 + 13 * x1 + (0 : Int32)).toNatClampNeg) : Int32).toInt ≠ 4 := t 4 (fun e => by simp_all)
    have z5 : ((M.1 1 (39 + 13 * x1 + (0 : Int32)).toNatClampNeg) : Int32).toInt ≠ 5 := t 5 (fun e => by simp_all)
    have z6 : ((M.1 1 (39 + 13 * x1 + (0 : Int32)).toNatClampNeg) : Int32).toInt ≠ 6 := t 6 (fun e => by simp_all)
    omega
  replace hk := hk.elim id False.elim
  refine ev_tableOut (tgt := 113) dX11_extraOf_8 hk (by decide) ?_
  refine ev_aload_n dX11_extraOf_113 rfl ?_
  refine ev_iload_n dX11_extraOf_114 rfl ?_
  refine ev_iconst (v := 0) dX11_extraOf_115 (by decide) ?_
  obtain ⟨p1, h⟩ := h
  refine ev_callV [.int x1, .int 0] dX11_extraOf_116 ml_WithoutEModel_92 lm_0 rfl rfl (Nat.le_of_ble_eq_true rfl) (kX11_get p1) ?_
  rintro r9 M9 ⟨q1, q2⟩
  rw [q1, q2]
  show Ev LM (d + 3) mX11_extraOf 119 [some (.ref 0), some (.int x1), some (.int 0), none] [(.int (M.1 1 (39 + 13 * x1 + (0 : Int32)).toNatClampNeg))] M Q
  exact ev_iret dX11_extraOf_119 rfl h
theorem gX11_extraOf_48 {d : Nat} {M : ev_Mem} {Q : Option Value → ev_Mem → Prop} {x1 x2 x3 : Int32} (h : ((vp_in (39 + 13 * x1 + (3 : Int32)) 3315) ∧ ((((M.1 1 (39 + 13 * x1 + (3 : Int32)).toNatClampNeg) ≤ x3) → (Q (some (.int x2)) M)) ∧ ((¬ (M.1 1 (39 + 13 * x1 + (3 : Int32)).toNatClampNeg) ≤ x3) → ((vp_in (39 + 13 * x1 + (4 + x3)) 3315) ∧ ((((hs (M.1 1 9) (M.1 1 (39 + 13 * x1 + (4 + x3)).toNatClampNeg)) = false) → (Ev LM (d + 2) mX11_extraOf 48 [some (.ref 0), some (.int x1), some (.int (x2 + 0)), some (.int (x3 + 1))] [] M Q)) ∧ (((hs (M.1 1 9) (M.1 1 (39 + 13 * x1 + (4 + x3)).toNatClampNeg)) = true) → ((vp_in (39 + 13 * x1 + (4 + x3)) 3315) ∧ (vp_in ((399 + (2 * (M.1 1 (39 + 13 * x1 + (4 + x3)).toNatClampNeg))) + 1) 3315 ∧ (∀ v1 : Int32, v1 = x2 + (M.1 1 ((399 + (2 * (M.1 1 (39 + 13 * x1 + (4 + x3)).toNatClampNeg))) + 1).toNatClampNeg) → (Ev LM (d + 2) mX11_extraOf 48 [some (.ref 0), some (.int x1), some (.int v1), some (.int (x3 + 1))] [] M Q))))))))))) : Ev LM (d + 2) mX11_extraOf 48 [some (.ref 0), some (.int x1), some (.int x2), some (.int x3)] [] M Q := by
  refine ev_iload_n dX11_extraOf_48 rfl ?_
  refine ev_aload_n dX11_extraOf_49 rfl ?_
  refine ev_iload_n dX11_extraOf_50 rfl ?_
  refine ev_iconst (v := 3) dX11_extraOf_51 (by decide) ?_
  obtain ⟨p1, h⟩ := h
  refine ev_callV [.int x1, .int 3] dX11_extraOf_52 ml_WithoutEModel_92 lm_0 rfl rfl (Nat.le_of_ble_eq_true rfl) (kX11_get p1) ?_
  rintro r9 M9 ⟨q1, q2⟩
  rw [q1, q2]
  show Ev LM (d + 2) mX11_extraOf 55 [some (.ref 0), some (.int x1), some (.int x2), some (.int x3)] [(.int (M.1 1 (39 + 13 * x1 + (3 : Int32)).toNatClampNeg)), (.int x3)] M Q
  refine ev_icmp_ge (tgt := 107) dX11_extraOf_55 (by decide) (fun c => ?_) (fun c => ?_)
  · replace h := h.1 c
    refine ev_iload_n dX11_extraOf_107 rfl ?_
    exact ev_iret dX11_extraOf_108 rfl h
  · replace h := h.2 c
    refine ev_iload_n dX11_extraOf_58 rfl ?_
    refine ev_aload_n dX11_extraOf_59 rfl ?_
    refine ev_aload_n dX11_extraOf_60 rfl ?_
    refine ev_iload_n dX11_extraOf_61 rfl ?_
    refine ev_iconst (v := 4) dX11_extraOf_62 (by decide) ?_
    refine ev_iload_n dX11_extraOf_63 rfl ?_
    refine ev_iadd dX11_extraOf_64 ?_
    obtain ⟨p1, h⟩ := h
    refine ev_callV [.int x1, .int (4 + x3)] dX11_extraOf_65 ml_WithoutEModel_92 lm_0 rfl rfl (Nat.le_of_ble_eq_true rfl) (kX11_get p1) ?_
    rintro r9 M9 ⟨q1, q2⟩
    rw [q1, q2]
    show Ev LM (d + 2) mX11_extraOf 68 [some (.ref 0), some (.int x1), some (.int x2), some (.int x3)] [(.int (M.1 1 (39 + 13 * x1 + (4 + x3)).toNatClampNeg)), (.ref 0), (.int x2)] M Q
    refine ev_callV [.int (M.1 1 (39 + 13 * x1 + (4 + x3)).toNatClampNeg)] dX11_extraOf_68 ml_WithoutEModel_88 lm_0 rfl rfl (Nat.le_of_ble_eq_true rfl) (kX11_isLost) ?_
    rintro r9 M9 ⟨q1, q2⟩
    rw [q1, q2]
    show Ev LM (d + 2) mX11_extraOf 71 [some (.ref 0), some (.int x1), some (.int x2), some (.int x3)] [(.int (bi (hs (M.1 1 9) (M.1 1 (39 + 13 * x1 + (4 + x3)).toNatClampNeg)))), (.int x2)] M Q
    refine ev_if_eq (tgt := 98) dX11_extraOf_71 (by decide) (fun c => ?_) (fun c => ?_)
    · replace h := h.1 ((bi_0 _).mp c)
      refine ev_iconst (v := 0) dX11_extraOf_98 (by decide) ?_
      refine ev_iadd dX11_extraOf_99 ?_
      refine ev_istore_n (ls2 := [some (.ref 0), some (.int x1), some (.int (x2 + 0)), some (.int x3)]) dX11_extraOf_100 (Nat.le_of_ble_eq_true rfl) rfl ?_
      refine ev_iinc (v := x3 + 1) (ls2 := [some (.ref 0), some (.int x1), some (.int (x2 + 0)), some (.int (x3 + 1))]) dX11_extraOf_101 rfl rfl rfl ?_
      refine ev_goto (tgt := 48) dX11_extraOf_104 (by decide) ?_
      exact h
    · replace h := h.2 ((bi_n0 _).mp c)
      refine ev_aload_n dX11_extraOf_74 rfl ?_
      refine ev_getA dX11_extraOf_75 fl_WithoutEModel_7 lm_0 rfl ?_
      refine ev_sipush (v := 399) dX11_extraOf_78 (by decide) ?_
      refine ev_iconst (v := 2) dX11_extraOf_81 (by decide) ?_
      refine ev_aload_n dX11_extraOf_82 rfl ?_
      refine ev_iload_n dX11_extraOf_83 rfl ?_
      refine ev_iconst (v := 4) dX11_extraOf_84 (by decide) ?_
      refine ev_iload_n dX11_extraOf_85 rfl ?_
      refine ev_iadd dX11_extraOf_86 ?_
      obtain ⟨p1, h⟩ := h
      refine ev_callV [.int x1, .int (4 + x3)] dX11_extraOf_87 ml_WithoutEModel_92 lm_0 rfl rfl (Nat.le_of_ble_eq_true rfl) (kX11_get p1) ?_
      rintro r9 M9 ⟨q1, q2⟩
      rw [q1, q2]
      show Ev LM (d + 2) mX11_extraOf 90 [some (.ref 0), some (.int x1), some (.int x2), some (.int x3)] [(.int (M.1 1 (39 + 13 * x1 + (4 + x3)).toNatClampNeg)), (.int 2), (.int 399), (.ref 1), (.int x2)] M Q
      refine ev_imul dX11_extraOf_90 ?_
      refine ev_iadd dX11_extraOf_91 ?_
      refine ev_iconst (v := 1) dX11_extraOf_92 (by decide) ?_
      refine ev_iadd dX11_extraOf_93 ?_
      obtain ⟨c, h⟩ := h
      refine ev_iald dX11_extraOf_94 lm_1 c ?_
      refine ev_goto (tgt := 99) dX11_extraOf_95 (by decide) ?_
      refine ev_iadd dX11_extraOf_99 ?_
      refine ev_istore_n (ls2 := [some (.ref 0), some (.int x1), some (.int (x2 + (M.1 1 ((399 + (2 * (M.1 1 (39 + 13 * x1 + (4 + x3)).toNatClampNeg))) + 1).toNatClampNeg))), some (.int x3)]) dX11_extraOf_100 (Nat.le_of_ble_eq_true rfl) rfl ?_
      generalize ev1 : x2 + (M.1 1 ((399 + (2 * (M.1 1 (39 + 13 * x1 + (4 + x3)).toNatClampNeg))) + 1).toNatClampNeg) = v1
      replace h := h v1 ev1.symm
      refine ev_iinc (v := x3 + 1) (ls2 := [some (.ref 0), some (.int x1), some (.int v1), some (.int (x3 + 1))]) dX11_extraOf_101 rfl rfl rfl ?_
      refine ev_goto (tgt := 48) dX11_extraOf_104 (by decide) ?_
      exact h
theorem dX11_secondsOf_0 : decode cX11_secondsOf 0 = .ok (.aload_n 0, 1) := by decide +kernel
theorem dX11_secondsOf_1 : decode cX11_secondsOf 1 = .ok (.iload_n 1, 1) := by decide +kernel
theorem dX11_secondsOf_2 : decode cX11_secondsOf 2 = .ok (.iconst 0, 1) := by decide +kernel
theorem dX11_secondsOf_3 : decode cX11_secondsOf 3 = .ok (.invokevirtual 92, 3) := by decide +kernel
theorem dX11_secondsOf_6 : decode cX11_secondsOf 6 = .ok (.iconst 4, 1) := by decide +kernel
theorem dX11_secondsOf_7 : decode cX11_secondsOf 7 = .ok (.if_icmp .ne 14, 3) := by decide +kernel
theorem dX11_secondsOf_10 : decode cX11_secondsOf 10 = .ok (.bipush 6, 2) := by decide +kernel
theorem dX11_secondsOf_12 : decode cX11_secondsOf 12 = .ok (.aload_n 0, 1) := by decide +kernel
theorem dX11_secondsOf_13 : decode cX11_secondsOf 13 = .ok (.iload_n 1, 1) := by decide +kernel
theorem dX11_secondsOf_14 : decode cX11_secondsOf 14 = .ok (.invokevirtual 96, 3) := by decide +kernel
theorem dX11_secondsOf_17 : decode cX11_secondsOf 17 = .ok (.imul, 1) := by decide +kernel
theorem dX11_secondsOf_18 : decode cX11_secondsOf 18 = .ok (.goto 26, 3) := by decide +kernel
theorem dX11_secondsOf_21 : decode cX11_secondsOf 21 = .ok (.aload_n 0, 1) := by decide +kernel
theorem dX11_secondsOf_22 : decode cX11_secondsOf 22 = .ok (.iload_n 1, 1) := by decide +kernel
theorem dX11_secondsOf_23 : decode cX11_secondsOf 23 = .ok (.iconst 0, 1) := by decide +kernel
theorem dX11_secondsOf_24 : decode cX11_secondsOf 24 = .ok (.invokevirtual 92, 3) := by decide +kernel
theorem dX11_secondsOf_27 : decode cX11_secondsOf 27 = .ok (.bipush 6, 2) := by decide +kernel
theorem dX11_secondsOf_29 : decode cX11_secondsOf 29 = .ok (.if_icmp .ne 14, 3) := by decide +kernel
theorem dX11_secondsOf_32 : decode cX11_secondsOf 32 = .ok (.bipush 9, 2) := by decide +kernel
theorem dX11_secondsOf_34 : decode cX11_secondsOf 34 = .ok (.aload_n 0, 1) := by decide +kernel
theorem dX11_secondsOf_35 : decode cX11_secondsOf 35 = .ok (.iload_n 1, 1) := by decide +kernel
theorem dX11_secondsOf_36 : decode cX11_secondsOf 36 = .ok (.invokevirtual 96, 3) := by decide +kernel
theorem dX11_secondsOf_39 : decode cX11_secondsOf 39 = .ok (.imul, 1) := by decide +kernel
theorem dX11_secondsOf_40 : decode cX11_secondsOf 40 = .ok (.goto 4, 3) := by decide +kernel
theorem dX11_secondsOf_43 : decode cX11_secondsOf 43 = .ok (.iconst 0, 1) := by decide +kernel
theorem dX11_secondsOf_44 : decode cX11_secondsOf 44 = .ok (.ireturn, 1) := by decide +kernel
theorem gX11_secondsOf_0 {d : Nat} {M : ev_Mem} {Q : Option Value → ev_Mem → Prop} {x1 : Int32} (h : ((vp_in (39 + 13 * x1 + (0 : Int32)) 3315) ∧ (((¬ (M.1 1 (39 + 13 * x1 + (0 : Int32)).toNatClampNeg) = 4) → ((vp_in (39 + 13 * x1 + (0 : Int32)) 3315) ∧ (((¬ (M.1 1 (39 + 13 * x1 + (0 : Int32)).toNatClampNeg) = 6) → (Q (some (.int 0)) M)) ∧ (((M.1 1 (39 + 13 * x1 + (0 : Int32)).toNatClampNeg) = 6) → ((wm M x1) ∧ (Q (some (.int (9 * (nI (mH M x1))))) M)))))) ∧ (((M.1 1 (39 + 13 * x1 + (0 : Int32)).toNatClampNeg) = 4) → ((wm M x1) ∧ (Q (some (.int (6 * (nI (mH M x1))))) M)))))) : Ev LM (d + 3) mX11_secondsOf 0 [some (.ref 0), some (.int x1)] [] M Q := by
  refine ev_aload_n dX11_secondsOf_0 rfl ?_
  refine ev_iload_n dX11_secondsOf_1 rfl ?_
  refine ev_iconst (v := 0) dX11_secondsOf_2 (by decide) ?_
  obtain ⟨p1, h⟩ := h
  refine ev_callV [.int x1, .int 0] dX11_secondsOf_3 ml_WithoutEModel_92 lm_0 rfl rfl (Nat.le_of_ble_eq_true rfl) (kX11_get p1) ?_
  rintro r9 M9 ⟨q1, q2⟩
  rw [q1, q2]
  show Ev LM (d + 3) mX11_secondsOf 6 [some (.ref 0), some (.int x1)] [(.int (M.1 1 (39 + 13 * x1 + (0 : Int32)).toNatClampNeg))] M Q
  refine ev_iconst (v := 4) dX11_secondsOf_6 (by decide) ?_
  refine ev_icmp_ne (tgt := 21) dX11_secondsOf_7 (by decide) (fun c => ?_) (fun c => ?_)
  · replace h := h.1 c
    refine ev_aload_n dX11_secondsOf_21 rfl ?_
    refine ev_iload_n dX11_secondsOf_22 rfl ?_
    refine ev_iconst (v := 0) dX11_secondsOf_23 (by decide) ?_
    obtain ⟨p1, h⟩ := h
    refine ev_callV [.int x1, .int 0] dX11_secondsOf_24 ml_WithoutEModel_92 lm_0 rfl rfl (Nat.le_of_ble_eq_true rfl) (kX11_get p1) ?_
    rintro r9 M9 ⟨q1, q2⟩
    rw [q1, q2]
    show Ev LM (d + 3) mX11_secondsOf 27 [some (.ref 0), some (.int x1)] [(.int (M.1 1 (39 + 13 * x1 + (0 : Int32)).toNatClampNeg))] M Q
    refine ev_bipush (v := 6) dX11_secondsOf_27 (by decide) ?_
    refine ev_icmp_ne (tgt := 43) dX11_secondsOf_29 (by decide) (fun c => ?_) (fun c => ?_)
    · replace h := h.1 c
      refine ev_iconst (v := 0) dX11_secondsOf_43 (by decide) ?_
      exact ev_iret dX11_secondsOf_44 rfl h
    · replace h := h.2 c
      refine ev_bipush (v := 9) dX11_secondsOf_32 (by decide) ?_
      refine ev_aload_n dX11_secondsOf_34 rfl ?_
      refine ev_iload_n dX11_secondsOf_35 rfl ?_
      obtain ⟨p1, h⟩ := h
      refine ev_callV [.int x1] dX11_secondsOf_36 ml_WithoutEModel_96 lm_0 rfl rfl (Nat.le_of_ble_eq_true rfl) (kX11_holesOf p1) ?_
      rintro r9 M9 ⟨q1, q2⟩
      rw [q1, q2]
      show Ev LM (d + 3) mX11_secondsOf 39 [some (.ref 0), some (.int x1)] [(.int (nI (mH M x1))), (.int 9)] M Q
      refine ev_imul dX11_secondsOf_39 ?_
      refine ev_goto (tgt := 44) dX11_secondsOf_40 (by decide) ?_
      exact ev_iret dX11_secondsOf_44 rfl h
  · replace h := h.2 c
    refine ev_bipush (v := 6) dX11_secondsOf_10 (by decide) ?_
    refine ev_aload_n dX11_secondsOf_12 rfl ?_
    refine ev_iload_n dX11_secondsOf_13 rfl ?_
    obtain ⟨p1, h⟩ := h
    refine ev_callV [.int x1] dX11_secondsOf_14 ml_WithoutEModel_96 lm_0 rfl rfl (Nat.le_of_ble_eq_true rfl) (kX11_holesOf p1) ?_
    rintro r9 M9 ⟨q1, q2⟩
    rw [q1, q2]
    show Ev LM (d + 3) mX11_secondsOf 17 [some (.ref 0), some (.int x1)] [(.int (nI (mH M x1))), (.int 6)] M Q
    refine ev_imul dX11_secondsOf_17 ?_
    refine ev_goto (tgt := 44) dX11_secondsOf_18 (by decide) ?_
    exact ev_iret dX11_secondsOf_44 rfl h
