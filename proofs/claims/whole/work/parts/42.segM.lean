theorem dX11_nextOf_0 : decode cX11_nextOf 0 = .ok (.iconst (-1), 1) := by decide +kernel
theorem dX11_nextOf_1 : decode cX11_nextOf 1 = .ok (.istore 4, 2) := by decide +kernel
theorem dX11_nextOf_3 : decode cX11_nextOf 3 = .ok (.ldc_w 352, 3) := by decide +kernel
theorem dX11_nextOf_6 : decode cX11_nextOf 6 = .ok (.istore 5, 2) := by decide +kernel
theorem dX11_nextOf_8 : decode cX11_nextOf 8 = .ok (.iconst 0, 1) := by decide +kernel
theorem dX11_nextOf_9 : decode cX11_nextOf 9 = .ok (.istore 6, 2) := by decide +kernel
theorem dX11_nextOf_11 : decode cX11_nextOf 11 = .ok (.iload 6, 2) := by decide +kernel
theorem dX11_nextOf_13 : decode cX11_nextOf 13 = .ok (.aload_n 0, 1) := by decide +kernel
theorem dX11_nextOf_14 : decode cX11_nextOf 14 = .ok (.getfield 7, 3) := by decide +kernel
theorem dX11_nextOf_17 : decode cX11_nextOf 17 = .ok (.iconst 0, 1) := by decide +kernel
theorem dX11_nextOf_18 : decode cX11_nextOf 18 = .ok (.iaload, 1) := by decide +kernel
theorem dX11_nextOf_19 : decode cX11_nextOf 19 = .ok (.if_icmp .ge 72, 3) := by decide +kernel
theorem dX11_nextOf_22 : decode cX11_nextOf 22 = .ok (.aload_n 0, 1) := by decide +kernel
theorem dX11_nextOf_23 : decode cX11_nextOf 23 = .ok (.iload_n 1, 1) := by decide +kernel
theorem dX11_nextOf_24 : decode cX11_nextOf 24 = .ok (.iload_n 2, 1) := by decide +kernel
theorem dX11_nextOf_25 : decode cX11_nextOf 25 = .ok (.iload 6, 2) := by decide +kernel
theorem dX11_nextOf_27 : decode cX11_nextOf 27 = .ok (.invokevirtual 353, 3) := by decide +kernel
theorem dX11_nextOf_30 : decode cX11_nextOf 30 = .ok (.ifCond .ne 6, 3) := by decide +kernel
theorem dX11_nextOf_33 : decode cX11_nextOf 33 = .ok (.goto 52, 3) := by decide +kernel
theorem dX11_nextOf_36 : decode cX11_nextOf 36 = .ok (.aload_n 0, 1) := by decide +kernel
theorem dX11_nextOf_37 : decode cX11_nextOf 37 = .ok (.getfield 52, 3) := by decide +kernel
theorem dX11_nextOf_40 : decode cX11_nextOf 40 = .ok (.bipush 24, 2) := by decide +kernel
theorem dX11_nextOf_42 : decode cX11_nextOf 42 = .ok (.iload_n 2, 1) := by decide +kernel
theorem dX11_nextOf_43 : decode cX11_nextOf 43 = .ok (.imul, 1) := by decide +kernel
theorem dX11_nextOf_44 : decode cX11_nextOf 44 = .ok (.iload 6, 2) := by decide +kernel
theorem dX11_nextOf_46 : decode cX11_nextOf 46 = .ok (.iadd, 1) := by decide +kernel
theorem dX11_nextOf_47 : decode cX11_nextOf 47 = .ok (.iaload, 1) := by decide +kernel
theorem dX11_nextOf_48 : decode cX11_nextOf 48 = .ok (.iload_n 3, 1) := by decide +kernel
theorem dX11_nextOf_49 : decode cX11_nextOf 49 = .ok (.iconst (-1), 1) := by decide +kernel
theorem dX11_nextOf_50 : decode cX11_nextOf 50 = .ok (.if_icmp .ne 7, 3) := by decide +kernel
theorem dX11_nextOf_53 : decode cX11_nextOf 53 = .ok (.iconst 0, 1) := by decide +kernel
theorem dX11_nextOf_54 : decode cX11_nextOf 54 = .ok (.goto 10, 3) := by decide +kernel
theorem dX11_nextOf_57 : decode cX11_nextOf 57 = .ok (.aload_n 0, 1) := by decide +kernel
theorem dX11_nextOf_58 : decode cX11_nextOf 58 = .ok (.iload_n 3, 1) := by decide +kernel
theorem dX11_nextOf_59 : decode cX11_nextOf 59 = .ok (.iload 6, 2) := by decide +kernel
theorem dX11_nextOf_61 : decode cX11_nextOf 61 = .ok (.invokevirtual 356, 3) := by decide +kernel
theorem dX11_nextOf_64 : decode cX11_nextOf 64 = .ok (.iadd, 1) := by decide +kernel
theorem dX11_nextOf_65 : decode cX11_nextOf 65 = .ok (.istore 7, 2) := by decide +kernel
theorem dX11_nextOf_67 : decode cX11_nextOf 67 = .ok (.iload 7, 2) := by decide +kernel
theorem dX11_nextOf_69 : decode cX11_nextOf 69 = .ok (.iload 5, 2) := by decide +kernel
theorem dX11_nextOf_71 : decode cX11_nextOf 71 = .ok (.if_icmp .lt 6, 3) := by decide +kernel
theorem dX11_nextOf_74 : decode cX11_nextOf 74 = .ok (.goto 11, 3) := by decide +kernel
theorem dX11_nextOf_77 : decode cX11_nextOf 77 = .ok (.iload 7, 2) := by decide +kernel
theorem dX11_nextOf_79 : decode cX11_nextOf 79 = .ok (.istore 5, 2) := by decide +kernel
theorem dX11_nextOf_81 : decode cX11_nextOf 81 = .ok (.iload 6, 2) := by decide +kernel
theorem dX11_nextOf_83 : decode cX11_nextOf 83 = .ok (.istore 4, 2) := by decide +kernel
theorem dX11_nextOf_85 : decode cX11_nextOf 85 = .ok (.iinc 6 1, 3) := by decide +kernel
theorem dX11_nextOf_88 : decode cX11_nextOf 88 = .ok (.goto (-77), 3) := by decide +kernel
theorem dX11_nextOf_91 : decode cX11_nextOf 91 = .ok (.iload 4, 2) := by decide +kernel
theorem dX11_nextOf_93 : decode cX11_nextOf 93 = .ok (.ireturn, 1) := by decide +kernel
theorem gX11_nextOf_0 {d : Nat} {M : ev_Mem} {Q : Option Value → ev_Mem → Prop} {x1 x2 x3 : Int32} (h : (Ev LM d mX11_nextOf 11 [some (.ref 0), some (.int x1), some (.int x2), some (.int x3), some (.int (-1)), some (.int 1000000), some (.int 0), none] [] M Q)) : Ev LM d mX11_nextOf 0 [some (.ref 0), some (.int x1), some (.int x2), some (.int x3), none, none, none, none] [] M Q := by
  refine ev_iconst (v := -1) dX11_nextOf_0 (by decide) ?_
  refine ev_istore (ls2 := [some (.ref 0), some (.int x1), some (.int x2), some (.int x3), some (.int (-1)), none, none, none]) dX11_nextOf_1 (Nat.le_of_ble_eq_true rfl) rfl ?_
  refine ev_ldcw (v := 1000000) dX11_nextOf_3 cw_WithoutEModel_352 ?_
  refine ev_istore (ls2 := [some (.ref 0), some (.int x1), some (.int x2), some (.int x3), some (.int (-1)), some (.int 1000000), none, none]) dX11_nextOf_6 (Nat.le_of_ble_eq_true rfl) rfl ?_
  refine ev_iconst (v := 0) dX11_nextOf_8 (by decide) ?_
  refine ev_istore (ls2 := [some (.ref 0), some (.int x1), some (.int x2), some (.int x3), some (.int (-1)), some (.int 1000000), some (.int 0), none]) dX11_nextOf_9 (Nat.le_of_ble_eq_true rfl) rfl ?_
  exact h
theorem gX11_nextOf_11 {d : Nat} {M : ev_Mem} {Q : Option Value → ev_Mem → Prop} {x1 x2 x3 x4 x5 x6 : Int32} (h : ((((M.1 1 0) ≤ x6) → (Q (some (.int x4)) M)) ∧ ((¬ (M.1 1 0) ≤ x6) → ((vp_in x1 8 ∧ vp_in x2 5 ∧ vp_in x6 24) ∧ ((((atQ M x1 x2 x6) = true) → (vp_in ((24 * x2) + x6) 120 ∧ (((¬ x3 = (-1)) → ((vp_in x3 24 ∧ vp_in x6 24) ∧ (∀ v1 : Int32, v1 = (M.1 12 ((24 * x2) + x6).toNatClampNeg) + (bhd (M.1 1 (39 + 13 * x3 + 0).toNatClampNeg) (M.1 1 (39 + 13 * x6 + 0).toNatClampNeg) x3 x6) → (((v1 < x5) → (Ev LM (d + 2) mX11_nextOf 11 [some (.ref 0), some (.int x1), some (.int x2), some (.int x3), some (.int x6), some (.int v1), some (.int (x6 + 1)), none] [] M Q)) ∧ ((¬ v1 < x5) → (Ev LM (d + 2) mX11_nextOf 11 [some (.ref 0), some (.int x1), some (.int x2), some (.int x3), some (.int x4), some (.int x5), some (.int (x6 + 1)), none] [] M Q)))))) ∧ ((x3 = (-1)) → (∀ v2 : Int32, v2 = (M.1 12 ((24 * x2) + x6).toNatClampNeg) + 0 → (((v2 < x5) → (Ev LM (d + 2) mX11_nextOf 11 [some (.ref 0), some (.int x1), some (.int x2), some (.int x3), some (.int x6), some (.int v2), some (.int (x6 + 1)), none] [] M Q)) ∧ ((¬ v2 < x5) → (Ev LM (d + 2) mX11_nextOf 11 [some (.ref 0), some (.int x1), some (.int x2), some (.int x3), some (.int x4), some (.int x5), some (.int (x6 + 1)), none] [] M Q)))))))) ∧ (((atQ M x1 x2 x6) = false) → (Ev LM (d + 2) mX11_nextOf 11 [some (.ref 0), some (.int x1), some (.int x2), some (.int x3), some (.int x4), some (.int x5), some (.int (x6 + 1)), none] [] M Q))))))) : Ev LM (d + 2) mX11_nextOf 11 [some (.ref 0), some (.int x1), some (.int x2), some (.int x3), some (.int x4), some (.int x5), some (.int x6), none] [] M Q := by
  refine ev_iload dX11_nextOf_11 rfl ?_
  refine ev_aload_n dX11_nextOf_13 rfl ?_
  refine ev_getA dX11_nextOf_14 fl_WithoutEModel_7 lm_0 rfl ?_
  refine ev_iconst (v := 0) dX11_nextOf_17 (by decide) ?_
  refine ev_iaN (j := 0) dX11_nextOf_18 lm_1 (by decide) (by decide) ?_
  refine ev_icmp_ge (tgt := 91) dX11_nextOf_19 (by decide) (fun c => ?_) (fun c => ?_)
  · replace h := h.1 c
    refine ev_iload dX11_nextOf_91 rfl ?_
    exact ev_iret dX11_nextOf_93 rfl h
  · replace h := h.2 c
    refine ev_aload_n dX11_nextOf_22 rfl ?_
    refine ev_iload_n dX11_nextOf_23 rfl ?_
    refine ev_iload_n dX11_nextOf_24 rfl ?_
    refine ev_iload dX11_nextOf_25 rfl ?_
    obtain ⟨p1, h⟩ := h
    refine ev_callV [.int x1, .int x2, .int x6] dX11_nextOf_27 ml_WithoutEModel_353 lm_0 rfl rfl (Nat.le_of_ble_eq_true rfl) (qX11_isAt p1) ?_
    rintro zr zM ⟨q1, q2⟩
    rw [q1, q2]
    show Ev LM (d + 2) mX11_nextOf 30 [some (.ref 0), some (.int x1), some (.int x2), some (.int x3), some (.int x4), some (.int x5), some (.int x6), none] [(.int (bi (atQ M x1 x2 x6)))] M Q
    refine ev_if_ne (tgt := 36) dX11_nextOf_30 (by decide) (fun c => ?_) (fun c => ?_)
    · replace h := h.1 ((bi_n0 _).mp c)
      refine ev_aload_n dX11_nextOf_36 rfl ?_
      refine ev_getA dX11_nextOf_37 fl_WithoutEModel_52 lm_0 rfl ?_
      refine ev_bipush (v := 24) dX11_nextOf_40 (by decide) ?_
      refine ev_iload_n dX11_nextOf_42 rfl ?_
      refine ev_imul dX11_nextOf_43 ?_
      refine ev_iload dX11_nextOf_44 rfl ?_
      refine ev_iadd dX11_nextOf_46 ?_
      obtain ⟨c, h⟩ := h
      refine ev_iald dX11_nextOf_47 lm_12 c ?_
      refine ev_iload_n dX11_nextOf_48 rfl ?_
      refine ev_iconst (v := -1) dX11_nextOf_49 (by decide) ?_
      refine ev_icmp_ne (tgt := 57) dX11_nextOf_50 (by decide) (fun c => ?_) (fun c => ?_)
      · replace h := h.1 c
        refine ev_aload_n dX11_nextOf_57 rfl ?_
        refine ev_iload_n dX11_nextOf_58 rfl ?_
        refine ev_iload dX11_nextOf_59 rfl ?_
        obtain ⟨p1, h⟩ := h
        refine ev_callV [.int x3, .int x6] dX11_nextOf_61 ml_WithoutEModel_356 lm_0 rfl rfl (Nat.le_of_ble_eq_true rfl) (qX11_behind p1) ?_
        rintro zr zM ⟨q1, q2⟩
        rw [q1, q2]
        show Ev LM (d + 2) mX11_nextOf 64 [some (.ref 0), some (.int x1), some (.int x2), some (.int x3), some (.int x4), some (.int x5), some (.int x6), none] [(.int (bhd (M.1 1 (39 + 13 * x3 + 0).toNatClampNeg) (M.1 1 (39 + 13 * x6 + 0).toNatClampNeg) x3 x6)), (.int (M.1 12 ((24 * x2) + x6).toNatClampNeg))] M Q
        refine ev_iadd dX11_nextOf_64 ?_
        refine ev_istore (ls2 := [some (.ref 0), some (.int x1), some (.int x2), some (.int x3), some (.int x4), some (.int x5), some (.int x6), some (.int ((M.1 12 ((24 * x2) + x6).toNatClampNeg) + (bhd (M.1 1 (39 + 13 * x3 + 0).toNatClampNeg) (M.1 1 (39 + 13 * x6 + 0).toNatClampNeg) x3 x6)))]) dX11_nextOf_65 (Nat.le_of_ble_eq_true rfl) rfl ?_
        generalize ev1 : (M.1 12 ((24 * x2) + x6).toNatClampNeg) + (bhd (M.1 1 (39 + 13 * x3 + 0).toNatClampNeg) (M.1 1 (39 + 13 * x6 + 0).toNatClampNeg) x3 x6) = v1
        replace h := h v1 ev1.symm
        refine ev_iload dX11_nextOf_67 rfl ?_
        refine ev_iload dX11_nextOf_69 rfl ?_
        refine ev_icmp_lt (tgt := 77) dX11_nextOf_71 (by decide) (fun c => ?_) (fun c => ?_)
        · replace h := h.1 c
          refine ev_iload dX11_nextOf_77 rfl ?_
          refine ev_istore (ls2 := [some (.ref 0), some (.int x1), some (.int x2), some (.int x3), some (.int x4), some (.int v1), some (.int x6), some (.int v1)]) dX11_nextOf_79 (Nat.le_of_ble_eq_true rfl) rfl ?_
          refine ev_iload dX11_nextOf_81 rfl ?_
          refine ev_istore (ls2 := [some (.ref 0), some (.int x1), some (.int x2), some (.int x3), some (.int x6), some (.int v1), some (.int x6), some (.int v1)]) dX11_nextOf_83 (Nat.le_of_ble_eq_true rfl) rfl ?_
          refine ev_iinc (v := x6 + 1) (ls2 := [some (.ref 0), some (.int x1), some (.int x2), some (.int x3), some (.int x6), some (.int v1), some (.int (x6 + 1)), some (.int v1)]) dX11_nextOf_85 rfl rfl rfl ?_
          refine ev_goto (tgt := 11) dX11_nextOf_88 (by decide) ?_
          refine Ev.weak (ls := [some (.ref 0), some (.int x1), some (.int x2), some (.int x3), some (.int x6), some (.int v1), some (.int (x6 + 1)), none]) ⟨rfl, rfl, rfl, rfl, rfl, rfl, rfl, trivial⟩ ?_
          exact h
        · replace h := h.2 c
          refine ev_goto (tgt := 85) dX11_nextOf_74 (by decide) ?_
          refine ev_iinc (v := x6 + 1) (ls2 := [some (.ref 0), some (.int x1), some (.int x2), some (.int x3), some (.int x4), some (.int x5), some (.int (x6 + 1)), some (.int v1)]) dX11_nextOf_85 rfl rfl rfl ?_
          refine ev_goto (tgt := 11) dX11_nextOf_88 (by decide) ?_
          refine Ev.weak (ls := [some (.ref 0), some (.int x1), some (.int x2), some (.int x3), some (.int x4), some (.int x5), some (.int (x6 + 1)), none]) ⟨rfl, rfl, rfl, rfl, rfl, rfl, rfl, trivial⟩ ?_
          exact h
      · replace h := h.2 c
        refine ev_iconst (v := 0) dX11_nextOf_53 (by decide) ?_
        refine ev_goto (tgt := 64) dX11_nextOf_54 (by decide) ?_
        refine ev_iadd dX11_nextOf_64 ?_
        refine ev_istore (ls2 := [some (.ref 0), some (.int x1), some (.int x2), some (.int x3), some (.int x4), some (.int x5), some (.int x6), some (.int ((M.1 12 ((24 * x2) + x6).toNatClampNeg) + 0))]) dX11_nextOf_65 (Nat.le_of_ble_eq_true rfl) rfl ?_
        generalize ev2 : (M.1 12 ((24 * x2) + x6).toNatClampNeg) + 0 = v2
        replace h := h v2 ev2.symm
        refine ev_iload dX11_nextOf_67 rfl ?_
        refine ev_iload dX11_nextOf_69 rfl ?_
        refine ev_icmp_lt (tgt := 77) dX11_nextOf_71 (by decide) (fun c => ?_) (fun c => ?_)
        · replace h := h.1 c
          refine ev_iload dX11_nextOf_77 rfl ?_
          refine ev_istore (ls2 := [some (.ref 0), some (.int x1), some (.int x2), some (.int x3), some (.int x4), some (.int v2), some (.int x6), some (.int v2)]) dX11_nextOf_79 (Nat.le_of_ble_eq_true rfl) rfl ?_
          refine ev_iload dX11_nextOf_81 rfl ?_
          refine ev_istore (ls2 := [some (.ref 0), some (.int x1), some (.int x2), some (.int x3), some (.int x6), some (.int v2), some (.int x6), some (.int v2)]) dX11_nextOf_83 (Nat.le_of_ble_eq_true rfl) rfl ?_
          refine ev_iinc (v := x6 + 1) (ls2 := [some (.ref 0), some (.int x1), some (.int x2), some (.int x3), some (.int x6), some (.int v2), some (.int (x6 + 1)), some (.int v2)]) dX11_nextOf_85 rfl rfl rfl ?_
          refine ev_goto (tgt := 11) dX11_nextOf_88 (by decide) ?_
          refine Ev.weak (ls := [some (.ref 0), some (.int x1), some (.int x2), some (.int x3), some (.int x6), some (.int v2), some (.int (x6 + 1)), none]) ⟨rfl, rfl, rfl, rfl, rfl, rfl, rfl, trivial⟩ ?_
          exact h
        · replace h := h.2 c
          refine ev_goto (tgt := 85) dX11_nextOf_74 (by decide) ?_
          refine ev_iinc (v := x6 + 1) (ls2 := [some (.ref 0), some (.int x1), some (.int x2), some (.int x3), some (.int x4), some (.int x5), some (.int (x6 + 1)), some (.int v2)]) dX11_nextOf_85 rfl rfl rfl ?_
          refine ev_goto (tgt := 11) dX11_nextOf_88 (by decide) ?_
          refine Ev.weak (ls := [some (.ref 0), some (.int x1), some (.int x2), some (.int x3), some (.int x4), some (.int x5), some (.int (x6 + 1)), none]) ⟨rfl, rfl, rfl, rfl, rfl, rfl, rfl, trivial⟩ ?_
          exact h
    · replace h := h.2 ((bi_0 _).mp c)
      refine ev_goto (tgt := 85) dX11_nextOf_33 (by decide) ?_
      refine ev_iinc (v := x6 + 1) (ls2 := [some (.ref 0), some (.int x1), some (.int x2), some (.int x3), some (.int x4), some (.int x5), some (.int (x6 + 1)), none]) dX11_nextOf_85 rfl rfl rfl ?_
      refine ev_goto (tgt := 11) dX11_nextOf_88 (by decide) ?_
      exact h
