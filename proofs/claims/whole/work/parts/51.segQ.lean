theorem dX6_fillCosts_0 : decode cX6_fillCosts 0 = .ok (.aload_n 0, 1) := by decide +kernel
theorem dX6_fillCosts_1 : decode cX6_fillCosts 1 = .ok (.getfield 47, 3) := by decide +kernel
theorem dX6_fillCosts_4 : decode cX6_fillCosts 4 = .ok (.getfield 110, 3) := by decide +kernel
theorem dX6_fillCosts_7 : decode cX6_fillCosts 7 = .ok (.iload_n 1, 1) := by decide +kernel
theorem dX6_fillCosts_8 : decode cX6_fillCosts 8 = .ok (.aaload, 1) := by decide +kernel
theorem dX6_fillCosts_9 : decode cX6_fillCosts 9 = .ok (.iload_n 2, 1) := by decide +kernel
theorem dX6_fillCosts_10 : decode cX6_fillCosts 10 = .ok (.iaload, 1) := by decide +kernel
theorem dX6_fillCosts_11 : decode cX6_fillCosts 11 = .ok (.istore 4, 2) := by decide +kernel
theorem dX6_fillCosts_13 : decode cX6_fillCosts 13 = .ok (.iload_n 3, 1) := by decide +kernel
theorem dX6_fillCosts_14 : decode cX6_fillCosts 14 = .ok (.iconst (-1), 1) := by decide +kernel
theorem dX6_fillCosts_15 : decode cX6_fillCosts 15 = .ok (.if_icmp .eq 8, 3) := by decide +kernel
theorem dX6_fillCosts_18 : decode cX6_fillCosts 18 = .ok (.aload_n 0, 1) := by decide +kernel
theorem dX6_fillCosts_19 : decode cX6_fillCosts 19 = .ok (.iload_n 3, 1) := by decide +kernel
theorem dX6_fillCosts_20 : decode cX6_fillCosts 20 = .ok (.invokevirtual 113, 3) := by decide +kernel
theorem dX6_fillCosts_23 : decode cX6_fillCosts 23 = .ok (.iconst 0, 1) := by decide +kernel
theorem dX6_fillCosts_24 : decode cX6_fillCosts 24 = .ok (.istore 5, 2) := by decide +kernel
theorem dX6_fillCosts_26 : decode cX6_fillCosts 26 = .ok (.iload 5, 2) := by decide +kernel
theorem dX6_fillCosts_28 : decode cX6_fillCosts 28 = .ok (.aload_n 0, 1) := by decide +kernel
theorem dX6_fillCosts_29 : decode cX6_fillCosts 29 = .ok (.getfield 47, 3) := by decide +kernel
theorem dX6_fillCosts_32 : decode cX6_fillCosts 32 = .ok (.getfield 74, 3) := by decide +kernel
theorem dX6_fillCosts_35 : decode cX6_fillCosts 35 = .ok (.if_icmp .ge 88, 3) := by decide +kernel
theorem dX6_fillCosts_38 : decode cX6_fillCosts 38 = .ok (.ldc 104, 2) := by decide +kernel
theorem dX6_fillCosts_40 : decode cX6_fillCosts 40 = .ok (.istore 6, 2) := by decide +kernel
theorem dX6_fillCosts_42 : decode cX6_fillCosts 42 = .ok (.aload_n 0, 1) := by decide +kernel
theorem dX6_fillCosts_43 : decode cX6_fillCosts 43 = .ok (.getfield 9, 3) := by decide +kernel
theorem dX6_fillCosts_46 : decode cX6_fillCosts 46 = .ok (.iload 5, 2) := by decide +kernel
theorem dX6_fillCosts_48 : decode cX6_fillCosts 48 = .ok (.baload, 1) := by decide +kernel
theorem dX6_fillCosts_49 : decode cX6_fillCosts 49 = .ok (.ifCond .eq 52, 3) := by decide +kernel
theorem dX6_fillCosts_52 : decode cX6_fillCosts 52 = .ok (.aload_n 0, 1) := by decide +kernel
theorem dX6_fillCosts_53 : decode cX6_fillCosts 53 = .ok (.getfield 47, 3) := by decide +kernel
theorem dX6_fillCosts_56 : decode cX6_fillCosts 56 = .ok (.getfield 117, 3) := by decide +kernel
theorem dX6_fillCosts_59 : decode cX6_fillCosts 59 = .ok (.iload 5, 2) := by decide +kernel
theorem dX6_fillCosts_61 : decode cX6_fillCosts 61 = .ok (.iaload, 1) := by decide +kernel
theorem dX6_fillCosts_62 : decode cX6_fillCosts 62 = .ok (.iload 4, 2) := by decide +kernel
theorem dX6_fillCosts_64 : decode cX6_fillCosts 64 = .ok (.if_icmp .ne 37, 3) := by decide +kernel
theorem dX6_fillCosts_67 : decode cX6_fillCosts 67 = .ok (.aload_n 0, 1) := by decide +kernel
theorem dX6_fillCosts_68 : decode cX6_fillCosts 68 = .ok (.getfield 15, 3) := by decide +kernel
theorem dX6_fillCosts_71 : decode cX6_fillCosts 71 = .ok (.iload 5, 2) := by decide +kernel
theorem dX6_fillCosts_73 : decode cX6_fillCosts 73 = .ok (.iaload, 1) := by decide +kernel
theorem dX6_fillCosts_74 : decode cX6_fillCosts 74 = .ok (.iload_n 3, 1) := by decide +kernel
theorem dX6_fillCosts_75 : decode cX6_fillCosts 75 = .ok (.iconst (-1), 1) := by decide +kernel
theorem dX6_fillCosts_76 : decode cX6_fillCosts 76 = .ok (.if_icmp .ne 7, 3) := by decide +kernel
theorem dX6_fillCosts_79 : decode cX6_fillCosts 79 = .ok (.iconst 0, 1) := by decide +kernel
theorem dX6_fillCosts_80 : decode cX6_fillCosts 80 = .ok (.goto 18, 3) := by decide +kernel
theorem dX6_fillCosts_83 : decode cX6_fillCosts 83 = .ok (.aload_n 0, 1) := by decide +kernel
theorem dX6_fillCosts_84 : decode cX6_fillCosts 84 = .ok (.iload 5, 2) := by decide +kernel
theorem dX6_fillCosts_86 : decode cX6_fillCosts 86 = .ok (.aload_n 0, 1) := by decide +kernel
theorem dX6_fillCosts_87 : decode cX6_fillCosts 87 = .ok (.getfield 31, 3) := by decide +kernel
theorem dX6_fillCosts_90 : decode cX6_fillCosts 90 = .ok (.iload_n 3, 1) := by decide +kernel
theorem dX6_fillCosts_91 : decode cX6_fillCosts 91 = .ok (.aaload, 1) := by decide +kernel
theorem dX6_fillCosts_92 : decode cX6_fillCosts 92 = .ok (.iload 5, 2) := by decide +kernel
theorem dX6_fillCosts_94 : decode cX6_fillCosts 94 = .ok (.iaload, 1) := by decide +kernel
theorem dX6_fillCosts_95 : decode cX6_fillCosts 95 = .ok (.invokevirtual 120, 3) := by decide +kernel
theorem dX6_fillCosts_98 : decode cX6_fillCosts 98 = .ok (.iadd, 1) := by decide +kernel
theorem dX6_fillCosts_99 : decode cX6_fillCosts 99 = .ok (.istore 6, 2) := by decide +kernel
theorem dX6_fillCosts_101 : decode cX6_fillCosts 101 = .ok (.aload_n 0, 1) := by decide +kernel
theorem dX6_fillCosts_102 : decode cX6_fillCosts 102 = .ok (.getfield 31, 3) := by decide +kernel
theorem dX6_fillCosts_105 : decode cX6_fillCosts 105 = .ok (.iload_n 2, 1) := by decide +kernel
theorem dX6_fillCosts_106 : decode cX6_fillCosts 106 = .ok (.aaload, 1) := by decide +kernel
theorem dX6_fillCosts_107 : decode cX6_fillCosts 107 = .ok (.iload 5, 2) := by decide +kernel
theorem dX6_fillCosts_109 : decode cX6_fillCosts 109 = .ok (.ldc 104, 2) := by decide +kernel
theorem dX6_fillCosts_111 : decode cX6_fillCosts 111 = .ok (.iload 6, 2) := by decide +kernel
theorem dX6_fillCosts_113 : decode cX6_fillCosts 113 = .ok (.invokestatic 105, 3) := by decide +kernel
theorem dX6_fillCosts_116 : decode cX6_fillCosts 116 = .ok (.iastore, 1) := by decide +kernel
theorem dX6_fillCosts_117 : decode cX6_fillCosts 117 = .ok (.iinc 5 1, 3) := by decide +kernel
theorem dX6_fillCosts_120 : decode cX6_fillCosts 120 = .ok (.goto (-94), 3) := by decide +kernel
theorem dX6_fillCosts_123 : decode cX6_fillCosts 123 = .ok (.return_, 1) := by decide +kernel
theorem gX6_fillCosts_0 {d : Nat} {M : ev_Mem} {Q : Option Value → ev_Mem → Prop} {x1 x2 x3 : Int32} (h : (vp_in x1 8 ∧ (vp_in x2 5 ∧ (∀ v1 : Int32, v1 = M.1 (34 + x1.toNatClampNeg) x2.toNatClampNeg → (((x3 = (-1)) → (Ev LX (d + 1) mX6_fillCosts 26 [some (.ref 86), none, some (.int x2), some (.int x3), some (.int v1), some (.int 0), none] [] M Q)) ∧ ((¬ x3 = (-1)) → (∃ Q2 : Option Value → ev_Mem → Prop, Cl LX d mX6_seeCosts [.ref 86, .int x3] M Q2 ∧ ∀ (zr : Option Value) (zM : ev_Mem), Q2 zr zM → Ev LX (d + 1) mX6_fillCosts 23 [some (.ref 86), none, some (.int x2), some (.int x3), some (.int v1), none, none] (zr.toList ++ []) zM Q))))))) : Ev LX (d + 1) mX6_fillCosts 0 [some (.ref 86), some (.int x1), some (.int x2), some (.int x3), none, none, none] [] M Q := by
  refine ev_aload_n dX6_fillCosts_0 rfl ?_
  refine ev_getA dX6_fillCosts_1 fl_WithoutE_Speech_47 lx_86 rfl ?_
  refine ev_getA dX6_fillCosts_4 fl_WithoutE_Speech_110 lx_3 rfl ?_
  refine ev_iload_n dX6_fillCosts_7 rfl ?_
  obtain ⟨b1, h⟩ := h
  refine ev_aald dX6_fillCosts_8 lx_33 (fun _ => rfl) rfl b1 ?_
  refine ev_iload_n dX6_fillCosts_9 rfl ?_
  obtain ⟨c, h⟩ := h
  refine ev_iald dX6_fillCosts_10 (lx_ro (ev_lt b1)) c ?_
  refine ev_istore (ls2 := [some (.ref 86), some (.int x1), some (.int x2), some (.int x3), some (.int (M.1 (34 + x1.toNatClampNeg) x2.toNatClampNeg)), none, none]) dX6_fillCosts_11 (Nat.le_of_ble_eq_true rfl) rfl ?_
  generalize ev1 : M.1 (34 + x1.toNatClampNeg) x2.toNatClampNeg = v1
  replace h := h v1 ev1.symm
  refine ev_iload_n dX6_fillCosts_13 rfl ?_
  refine ev_iconst (v := -1) dX6_fillCosts_14 (by decide) ?_
  refine ev_icmp_eq (tgt := 23) dX6_fillCosts_15 (by decide) (fun c => ?_) (fun c => ?_)
  · replace h := h.1 c
    refine ev_iconst (v := 0) dX6_fillCosts_23 (by decide) ?_
    refine ev_istore (ls2 := [some (.ref 86), some (.int x1), some (.int x2), some (.int x3), some (.int v1), some (.int 0), none]) dX6_fillCosts_24 (Nat.le_of_ble_eq_true rfl) rfl ?_
    refine Ev.weak (ls := [some (.ref 86), none, some (.int x2), some (.int x3), some (.int v1), some (.int 0), none]) ⟨rfl, rfl, rfl, rfl, rfl, trivial⟩ ?_
    exact h
  · replace h := h.2 c
    refine ev_aload_n dX6_fillCosts_18 rfl ?_
    refine ev_iload_n dX6_fillCosts_19 rfl ?_
    obtain ⟨Q2, hc, h⟩ := h
    refine ev_callV [.int x3] dX6_fillCosts_20 ml_WithoutE_Speech_113 lx_86 rfl rfl (Nat.le_of_ble_eq_true rfl) hc (fun zr zM q => ?_)
    refine Ev.weak (ls := [some (.ref 86), none, some (.int x2), some (.int x3), some (.int v1), none, none]) ⟨rfl, rfl, rfl, rfl, trivial⟩ ?_
    exact h zr zM q
theorem gX6_fillCosts_26 {d : Nat} {M : ev_Mem} {Q : Option Value → ev_Mem → Prop} {x2 x3 x4 x5 : Int32} (h : ((((M.1 3 5) ≤ x5) → (Q none M)) ∧ ((¬ (M.1 3 5) ≤ x5) → (vp_in x5 24 ∧ ((((M.1 87 x5.toNatClampNeg) = 0) → (vp_in x2 5 ∧ (vp_in x5 24 ∧ (∀ M1 : ev_Mem, M1 = ev_wr M (92 + x2.toNatClampNeg) x5.toNatClampNeg (imin (1000000 : Int32) (1000000 : Int32)) → (Ev LX (d + 1) mX6_fillCosts 26 [some (.ref 86), none, some (.int x2), some (.int x3), some (.int x4), some (.int (x5 + 1)), none] [] M1 Q))))) ∧ ((¬ (M.1 87 x5.toNatClampNeg) = 0) → (vp_in x5 24 ∧ (((¬ (M.1 31 x5.toNatClampNeg) = x4) → (vp_in x2 5 ∧ (vp_in x5 24 ∧ (∀ M2 : ev_Mem, M2 = ev_wr M (92 + x2.toNatClampNeg) x5.toNatClampNeg (imin (1000000 : Int32) (1000000 : Int32)) → (Ev LX (d + 1) mX6_fillCosts 26 [some (.ref 86), none, some (.int x2), some (.int x3), some (.int x4), some (.int (x5 + 1)), none] [] M2 Q))))) ∧ (((M.1 31 x5.toNatClampNeg) = x4) → (vp_in x5 24 ∧ (((¬ x3 = (-1)) → (vp_in x3 5 ∧ (vp_in x5 24 ∧ (∃ Q2 : Option Value → ev_Mem → Prop, Cl LX d mX6_leastBeside [.ref 86, .int x5, .int (M.1 (92 + x3.toNatClampNeg) x5.toNatClampNeg)] M Q2 ∧ ∀ (zr : Option Value) (zM : ev_Mem), Q2 zr zM → Ev LX (d + 1) mX6_fillCosts 98 [some (.ref 86), none, some (.int x2), some (.int x3), some (.int x4), some (.int x5), none] (zr.toList ++ [(.int (M.1 88 x5.toNatClampNeg))]) zM Q)))) ∧ ((x3 = (-1)) → (Ev LX (d + 1) mX6_fillCosts 98 [some (.ref 86), none, some (.int x2), some (.int x3), some (.int x4), some (.int x5), none] [(.int 0), (.int (M.1 88 x5.toNatClampNeg))] M Q))))))))))))) : Ev LX (d + 1) mX6_fillCosts 26 [some (.ref 86), none, some (.int x2), some (.int x3), some (.int x4), some (.int x5), none] [] M Q := by
  refine ev_iload dX6_fillCosts_26 rfl ?_
  refine ev_aload_n dX6_fillCosts_28 rfl ?_
  refine ev_getA dX6_fillCosts_29 fl_WithoutE_Speech_47 lx_86 rfl ?_
  refine ev_getI dX6_fillCosts_32 fl_WithoutE_Speech_74 lx_3 rfl ?_
  refine ev_icmp_ge (tgt := 123) dX6_fillCosts_35 (by decide) (fun c => ?_) (fun c => ?_)
  · replace h := h.1 c
    exact ev_vret dX6_fillCosts_123 rfl h
  · replace h := h.2 c
    refine ev_ldc (v := 1000000) dX6_fillCosts_38 cw_WithoutE_Speech_104 ?_
    refine ev_istore (ls2 := [some (.ref 86), none, some (.int x2), some (.int x3), some (.int x4), some (.int x5), some (.int 1000000)]) dX6_fillCosts_40 (Nat.le_of_ble_eq_true rfl) rfl ?_
    refine ev_aload_n dX6_fillCosts_42 rfl ?_
    refine ev_getA dX6_fillCosts_43 fl_WithoutE_Speech_9 lx_86 rfl ?_
    refine ev_iload dX6_fillCosts_46 rfl ?_
    obtain ⟨c, h⟩ := h
    refine ev_zald dX6_fillCosts_48 lx_87 c ?_
    refine ev_if_eq (tgt := 101) dX6_fillCosts_49 (by decide) (fun c => ?_) (fun c => ?_)
    · replace h := h.1 c
      refine ev_aload_n dX6_fillCosts_101 rfl ?_
      refine ev_getA dX6_fillCosts_102 fl_WithoutE_Speech_31 lx_86 rfl ?_
      refine ev_iload_n dX6_fillCosts_105 rfl ?_
      obtain ⟨b1, h⟩ := h
      refine ev_aald dX6_fillCosts_106 lx_91 (fun _ => rfl) rfl b1 ?_
      refine ev_iload dX6_fillCosts_107 rfl ?_
      refine ev_ldc (v := 1000000) dX6_fillCosts_109 cw_WithoutE_Speech_104 ?_
      refine ev_iload dX6_fillCosts_111 rfl ?_
      refine ev_min dX6_fillCosts_113 ml_WithoutE_Speech_105 (by omega) (Nat.le_of_ble_eq_true rfl) ?_
      obtain ⟨c, h⟩ := h
      refine ev_iast dX6_fillCosts_116 (lx_co (ev_lt b1)) c ?_
      generalize eM1 : ev_wr M (92 + x2.toNatClampNeg) x5.toNatClampNeg (imin (1000000 : Int32) (1000000 : Int32)) = M1
      replace h := h M1 eM1.symm
      refine ev_iinc (v := x5 + 1) (ls2 := [some (.ref 86), none, some (.int x2), some (.int x3), some (.int x4), some (.int (x5 + 1)), some (.int 1000000)]) dX6_fillCosts_117 rfl rfl rfl ?_
      refine ev_goto (tgt := 26) dX6_fillCosts_120 (by decide) ?_
      refine Ev.weak (ls := [some (.ref 86), none, some (.int x2), some (.int x3), some (.int x4), some (.int (x5 + 1)), none]) ⟨rfl, rfl, rfl, rfl, rfl, trivial⟩ ?_
      exact h
    · replace h := h.2 c
      refine ev_aload_n dX6_fillCosts_52 rfl ?_
      refine ev_getA dX6_fillCosts_53 fl_WithoutE_Speech_47 lx_86 rfl ?_
      refine ev_getA dX6_fillCosts_56 fl_WithoutE_Speech_117 lx_3 rfl ?_
      refine ev_iload dX6_fillCosts_59 rfl ?_
      obtain ⟨c, h⟩ := h
      refine ev_iald dX6_fillCosts_61 lx_31 c ?_
      refine ev_iload dX6_fillCosts_62 rfl ?_
      refine ev_icmp_ne (tgt := 101) dX6_fillCosts_64 (by decide) (fun c => ?_) (fun c => ?_)
      · replace h := h.1 c
        refine ev_aload_n dX6_fillCosts_101 rfl ?_
        refine ev_getA dX6_fillCosts_102 fl_WithoutE_Speech_31 lx_86 rfl ?_
        refine ev_iload_n dX6_fillCosts_105 rfl ?_
        obtain ⟨b2, h⟩ := h
        refine ev_aald dX6_fillCosts_106 lx_91 (fun _ => rfl) rfl b2 ?_
        refine ev_iload dX6_fillCosts_107 rfl ?_
        refine ev_ldc (v := 1000000) dX6_fillCosts_109 cw_WithoutE_Speech_104 ?_
        refine ev_iload dX6_fillCosts_111 rfl ?_
        refine ev_min dX6_fillCosts_113 ml_WithoutE_Speech_105 (by omega) (Nat.le_of_ble_eq_true rfl) ?_
        obtain ⟨c, h⟩ := h
        refine ev_iast dX6_fillCosts_116 (lx_co (ev_lt b2)) c ?_
        generalize eM2 : ev_wr M (92 + x2.toNatClampNeg) x5.toNatClampNeg (imin (1000000 : Int32) (1000000 : Int32)) = M2
        replace h := h M2 eM2.symm
        refine ev_iinc (v := x5 + 1) (ls2 := [some (.ref 86), none, some (.int x2), some (.int x3), some (.int x4), some (.int (x5 + 1)), some (.int 1000000)]) dX6_fillCosts_117 rfl rfl rfl ?_
        refine ev_goto (tgt := 26) dX6_fillCosts_120 (by decide) ?_
        refine Ev.weak (ls := [some (.ref 86), none, some (.int x2), some (.int x3), some (.int x4), some (.int (x5 + 1)), none]) ⟨rfl, rfl, rfl, rfl, rfl, trivial⟩ ?_
        exact h
      · replace h := h.2 c
        refine ev_aload_n dX6_fillCosts_67 rfl ?_
        refine ev_getA dX6_fillCosts_68 fl_WithoutE_Speech_15 lx_86 rfl ?_
        refine ev_iload dX6_fillCosts_71 rfl ?_
        obtain ⟨c, h⟩ := h
        refine ev_iald dX6_fillCosts_73 lx_88 c ?_
        refine ev_iload_n dX6_fillCosts_74 rfl ?_
        refine ev_iconst (v := -1) dX6_fillCosts_75 (by decide) ?_
        refine ev_icmp_ne (tgt := 83) dX6_fillCosts_76 (by decide) (fun c => ?_) (fun c => ?_)
        · replace h := h.1 c
          refine ev_aload_n dX6_fillCosts_83 rfl ?_
          refine ev_iload dX6_fillCosts_84 rfl ?_
          refine ev_aload_n dX6_fillCosts_86 rfl ?_
          refine ev_getA dX6_fillCosts_87 fl_WithoutE_Speech_31 lx_86 rfl ?_
          refine ev_iload_n dX6_fillCosts_90 rfl ?_
          obtain ⟨b3, h⟩ := h
          refine ev_aald dX6_fillCosts_91 lx_91 (fun _ => rfl) rfl b3 ?_
          refine ev_iload dX6_fillCosts_92 rfl ?_
          obtain ⟨c, h⟩ := h
          refine ev_iald dX6_fillCosts_94 (lx_co (ev_lt b3)) c ?_
          obtain ⟨Q2, hc, h⟩ := h
          refine ev_callV [.int x5, .int (M.1 (92 + x3.toNatClampNeg) x5.toNatClampNeg)] dX6_fillCosts_95 ml_WithoutE_Speech_120 lx_86 rfl rfl (Nat.le_of_ble_eq_true rfl) hc (fun zr zM q => ?_)
          refine Ev.weak (ls := [some (.ref 86), none, some (.int x2), some (.int x3), some (.int x4), some (.int x5), none]) ⟨rfl, rfl, rfl, rfl, rfl, trivial⟩ ?_
          exact h zr zM q
        · replace h := h.2 c
          refine ev_iconst (v := 0) dX6_fillCosts_79 (by decide) ?_
          refine ev_goto (tgt := 98) dX6_fillCosts_80 (by decide) ?_
          refine Ev.weak (ls := [some (.ref 86), none, some (.int x2), some (.int x3), some (.int x4), some (.int x5), none]) ⟨rfl, rfl, rfl, rfl, rfl, trivial⟩ ?_
          exact h
theorem gX6_fillCosts_23 {d : Nat} {M : ev_Mem} {Q : Option Value → ev_Mem → Prop} {x2 x3 x4 : Int32} (h : (Ev LX d mX6_fillCosts 26 [some (.ref 86), none, some (.int x2), some (.int x3), some (.int x4), some (.int 0), none] [] M Q)) : Ev LX d mX6_fillCosts 23 [some (.ref 86), none, some (.int x2), some (.int x3), some (.int x4), none, none] [] M Q := by
  refine ev_iconst (v := 0) dX6_fillCosts_23 (by decide) ?_
  refine ev_istore (ls2 := [some (.ref 86), none, some (.int x2), some (.int x3), some (.int x4), some (.int 0), none]) dX6_fillCosts_24 (Nat.le_of_ble_eq_true rfl) rfl ?_
  exact h
theorem gX6_fillCosts_98 {d : Nat} {M : ev_Mem} {Q : Option Value → ev_Mem → Prop} {x2 x3 x4 x5 s0 s1 : Int32} (h : (vp_in x2 5 ∧ (vp_in x5 24 ∧ (∀ M1 : ev_Mem, M1 = ev_wr M (92 + x2.toNatClampNeg) x5.toNatClampNeg (imin (1000000 : Int32) (s1 + s0)) → (Ev LX (d + 1) mX6_fillCosts 26 [some (.ref 86), none, some (.int x2), some (.int x3), some (.int x4), some (.int (x5 + 1)), none] [] M1 Q))))) : Ev LX (d + 1) mX6_fillCosts 98 [some (.ref 86), none, some (.int x2), some (.int x3), some (.int x4), some (.int x5), none] [(.int s0), (.int s1)] M Q := by
  refine ev_iadd dX6_fillCosts_98 ?_
  refine ev_istore (ls2 := [some (.ref 86), none, some (.int x2), some (.int x3), some (.int x4), some (.int x5), some (.int (s1 + s0))]) dX6_fillCosts_99 (Nat.le_of_ble_eq_true rfl) rfl ?_
  refine ev_aload_n dX6_fillCosts_101 rfl ?_
  refine ev_getA dX6_fillCosts_102 fl_WithoutE_Speech_31 lx_86 rfl ?_
  refine ev_iload_n dX6_fillCosts_105 rfl ?_
  obtain ⟨b1, h⟩ := h
  refine ev_aald dX6_fillCosts_106 lx_91 (fun _ => rfl) rfl b1 ?_
  refine ev_iload dX6_fillCosts_107 rfl ?_
  refine ev_ldc (v := 1000000) dX6_fillCosts_109 cw_WithoutE_Speech_104 ?_
  refine ev_iload dX6_fillCosts_111 rfl ?_
  refine ev_min dX6_fillCosts_113 ml_WithoutE_Speech_105 (by omega) (Nat.le_of_ble_eq_true rfl) ?_
  obtain ⟨c, h⟩ := h
  refine ev_iast dX6_fillCosts_116 (lx_co (ev_lt b1)) c ?_
  generalize eM1 : ev_wr M (92 + x2.toNatClampNeg) x5.toNatClampNeg (imin (1000000 : Int32) (s1 + s0)) = M1
  replace h := h M1 eM1.symm
  refine ev_iinc (v := x5 + 1) (ls2 := [some (.ref 86), none, some (.int x2), some (.int x3), some (.int x4), some (.int (x5 + 1)), some (.int (s1 + s0))]) dX6_fillCosts_117 rfl rfl rfl ?_
  refine ev_goto (tgt := 26) dX6_fillCosts_120 (by decide) ?_
  refine Ev.weak (ls := [some (.ref 86), none, some (.int x2), some (.int x3), some (.int x4), some (.int (x5 + 1)), none]) ⟨rfl, rfl, rfl, rfl, rfl, trivial⟩ ?_
  exact h
theorem dX6_costOf_0 : decode cX6_costOf 0 = .ok (.aload_n 0, 1) := by decide +kernel
theorem dX6_costOf_1 : decode cX6_costOf 1 = .ok (.getfield 47, 3) := by decide +kernel
theorem dX6_costOf_4 : decode cX6_costOf 4 = .ok (.getfield 97, 3) := by decide +kernel
theorem dX6_costOf_7 : decode cX6_costOf 7 = .ok (.iload_n 1, 1) := by decide +kernel
theorem dX6_costOf_8 : decode cX6_costOf 8 = .ok (.iaload, 1) := by decide +kernel
theorem dX6_costOf_9 : decode cX6_costOf 9 = .ok (.iconst 1, 1) := by decide +kernel
theorem dX6_costOf_10 : decode cX6_costOf 10 = .ok (.isub, 1) := by decide +kernel
theorem dX6_costOf_11 : decode cX6_costOf 11 = .ok (.istore_n 2, 1) := by decide +kernel
theorem dX6_costOf_12 : decode cX6_costOf 12 = .ok (.iload_n 2, 1) := by decide +kernel
theorem dX6_costOf_13 : decode cX6_costOf 13 = .ok (.istore_n 3, 1) := by decide +kernel
theorem dX6_costOf_14 : decode cX6_costOf 14 = .ok (.iload_n 3, 1) := by decide +kernel
theorem dX6_costOf_15 : decode cX6_costOf 15 = .ok (.ifCond .lt 27, 3) := by decide +kernel
theorem dX6_costOf_18 : decode cX6_costOf 18 = .ok (.aload_n 0, 1) := by decide +kernel
theorem dX6_costOf_19 : decode cX6_costOf 19 = .ok (.iload_n 1, 1) := by decide +kernel
theorem dX6_costOf_20 : decode cX6_costOf 20 = .ok (.iload_n 3, 1) := by decide +kernel
theorem dX6_costOf_21 : decode cX6_costOf 21 = .ok (.iload_n 3, 1) := by decide +kernel
theorem dX6_costOf_22 : decode cX6_costOf 22 = .ok (.iload_n 2, 1) := by decide +kernel
theorem dX6_costOf_23 : decode cX6_costOf 23 = .ok (.if_icmp .ge 9, 3) := by decide +kernel
theorem dX6_costOf_26 : decode cX6_costOf 26 = .ok (.iload_n 3, 1) := by decide +kernel
theorem dX6_costOf_27 : decode cX6_costOf 27 = .ok (.iconst 1, 1) := by decide +kernel
theorem dX6_costOf_28 : decode cX6_costOf 28 = .ok (.iadd, 1) := by decide +kernel
theorem dX6_costOf_29 : decode cX6_costOf 29 = .ok (.goto 4, 3) := by decide +kernel
theorem dX6_costOf_32 : decode cX6_costOf 32 = .ok (.iconst (-1), 1) := by decide +kernel
theorem dX6_costOf_33 : decode cX6_costOf 33 = .ok (.invokevirtual 100, 3) := by decide +kernel
theorem dX6_costOf_36 : decode cX6_costOf 36 = .ok (.iinc 3 (-1), 3) := by decide +kernel
theorem dX6_costOf_39 : decode cX6_costOf 39 = .ok (.goto (-25), 3) := by decide +kernel
theorem dX6_costOf_42 : decode cX6_costOf 42 = .ok (.ldc 104, 2) := by decide +kernel
theorem dX6_costOf_44 : decode cX6_costOf 44 = .ok (.istore_n 3, 1) := by decide +kernel
theorem dX6_costOf_45 : decode cX6_costOf 45 = .ok (.iconst 0, 1) := by decide +kernel
theorem dX6_costOf_46 : decode cX6_costOf 46 = .ok (.istore 4, 2) := by decide +kernel
theorem dX6_costOf_48 : decode cX6_costOf 48 = .ok (.iload 4, 2) := by decide +kernel
theorem dX6_costOf_50 : decode cX6_costOf 50 = .ok (.aload_n 0, 1) := by decide +kernel
theorem dX6_costOf_51 : decode cX6_costOf 51 = .ok (.getfield 47, 3) := by decide +kernel
theorem dX6_costOf_54 : decode cX6_costOf 54 = .ok (.getfield 74, 3) := by decide +kernel
theorem dX6_costOf_57 : decode cX6_costOf 57 = .ok (.if_icmp .ge 23, 3) := by decide +kernel
theorem dX6_costOf_60 : decode cX6_costOf 60 = .ok (.iload_n 3, 1) := by decide +kernel
theorem dX6_costOf_61 : decode cX6_costOf 61 = .ok (.aload_n 0, 1) := by decide +kernel
theorem dX6_costOf_62 : decode cX6_costOf 62 = .ok (.getfield 31, 3) := by decide +kernel
theorem dX6_costOf_65 : decode cX6_costOf 65 = .ok (.iconst 0, 1) := by decide +kernel
theorem dX6_costOf_66 : decode cX6_costOf 66 = .ok (.aaload, 1) := by decide +kernel
theorem dX6_costOf_67 : decode cX6_costOf 67 = .ok (.iload 4, 2) := by decide +kernel
theorem dX6_costOf_69 : decode cX6_costOf 69 = .ok (.iaload, 1) := by decide +kernel
theorem dX6_costOf_70 : decode cX6_costOf 70 = .ok (.invokestatic 105, 3) := by decide +kernel
theorem dX6_costOf_73 : decode cX6_costOf 73 = .ok (.istore_n 3, 1) := by decide +kernel
theorem dX6_costOf_74 : decode cX6_costOf 74 = .ok (.iinc 4 1, 3) := by decide +kernel
theorem dX6_costOf_77 : decode cX6_costOf 77 = .ok (.goto (-29), 3) := by decide +kernel
theorem dX6_costOf_80 : decode cX6_costOf 80 = .ok (.iload_n 3, 1) := by decide +kernel
theorem dX6_costOf_81 : decode cX6_costOf 81 = .ok (.ireturn, 1) := by decide +kernel
theorem gX6_costOf_0 {d : Nat} {M : ev_Mem} {Q : Option Value → ev_Mem → Prop} {x1 : Int32} (h : (vp_in x1 8 ∧ (∀ v1 : Int32, v1 = (M.1 42 x1.toNatClampNeg) - 1 → (Ev LX d mX6_costOf 14 [some (.ref 86), some (.int x1), some (.int v1), some (.int v1), none] [] M Q)))) : Ev LX d mX6_costOf 0 [some (.ref 86), some (.int x1), none, none, none] [] M Q := by
  refine ev_aload_n dX6_costOf_0 rfl ?_
  refine ev_getA dX6_costOf_1 fl_WithoutE_Speech_47 lx_86 rfl ?_
  refine ev_getA dX6_costOf_4 fl_WithoutE_Speech_97 lx_3 rfl ?_
  refine ev_iload_n dX6_costOf_7 rfl ?_
  obtain ⟨c, h⟩ := h
  refine ev_iald dX6_costOf_8 lx_42 c ?_
  refine ev_iconst (v := 1) dX6_costOf_9 (by decide) ?_
  refine ev_isub dX6_costOf_10 ?_
  refine ev_istore_n (ls2 := [some (.ref 86), some (.int x1), some (.int ((M.1 42 x1.toNatClampNeg) - 1)), none, none]) dX6_costOf_11 (Nat.le_of_ble_eq_true rfl) rfl ?_
  generalize ev1 : (M.1 42 x1.toNatClampNeg) - 1 = v1
  replace h := h v1 ev1.symm
  refine ev_iload_n dX6_costOf_12 rfl ?_
  refine ev_istore_n (ls2 := [some (.ref 86), some (.int x1), some (.int v1), some (.int v1), none]) dX6_costOf_13 (Nat.le_of_ble_eq_true rfl) rfl ?_
  exact h
theorem gX6_costOf_14 {d : Nat} {M : ev_Mem} {Q : Option Value → ev_Mem → Prop} {x1 x2 x3 : Int32} (h : (((x3 < 0) → (Ev LX (d + 1) mX6_costOf 48 [some (.ref 86), none, none, some (.int 1000000), some (.int 0)] [] M Q)) ∧ ((¬ x3 < 0) → (((x2 ≤ x3) → (∃ Q2 : Option Value → ev_Mem → Prop, Cl LX d mX6_fillCosts [.ref 86, .int x1, .int x3, .int (-1)] M Q2 ∧ ∀ (zr : Option Value) (zM : ev_Mem), Q2 zr zM → Ev LX (d + 1) mX6_costOf 36 [some (.ref 86), some (.int x1), some (.int x2), some (.int x3), none] (zr.toList ++ []) zM Q)) ∧ ((¬ x2 ≤ x3) → (∃ Q2 : Option Value → ev_Mem → Prop, Cl LX d mX6_fillCosts [.ref 86, .int x1, .int x3, .int (x3 + 1)] M Q2 ∧ ∀ (zr : Option Value) (zM : ev_Mem), Q2 zr zM → Ev LX (d + 1) mX6_costOf 36 [some (.ref 86), some (.int x1), some (.int x2), some (.int x3), none] (zr.toList ++ []) zM Q)))))) : Ev LX (d + 1) mX6_costOf 14 [some (.ref 86), some (.int x1), some (.int x2), some (.int x3), none] [] M Q := by
  refine ev_iload_n dX6_costOf_14 rfl ?_
  refine ev_if_lt (tgt := 42) dX6_costOf_15 (by decide) (fun c => ?_) (fun c => ?_)
  · replace h := h.1 c
    refine ev_ldc (v := 1000000) dX6_costOf_42 cw_WithoutE_Speech_104 ?_
    refine ev_istore_n (ls2 := [some (.ref 86), some (.int x1), some (.int x2), some (.int 1000000), none]) dX6_costOf_44 (Nat.le_of_ble_eq_true rfl) rfl ?_
    refine ev_iconst (v := 0) dX6_costOf_45 (by decide) ?_
    refine ev_istore (ls2 := [some (.ref 86), some (.int x1), some (.int x2), some (.int 1000000), some (.int 0)]) dX6_costOf_46 (Nat.le_of_ble_eq_true rfl) rfl ?_
    refine Ev.weak (ls := [some (.ref 86), none, none, some (.int 1000000), some (.int 0)]) ⟨rfl, rfl, rfl, trivial⟩ ?_
    exact h
  · replace h := h.2 c
    refine ev_aload_n dX6_costOf_18 rfl ?_
    refine ev_iload_n dX6_costOf_19 rfl ?_
    refine ev_iload_n dX6_costOf_20 rfl ?_
    refine ev_iload_n dX6_costOf_21 rfl ?_
    refine ev_iload_n dX6_costOf_22 rfl ?_
    refine ev_icmp_ge (tgt := 32) dX6_costOf_23 (by decide) (fun c => ?_) (fun c => ?_)
    · replace h := h.1 c
      refine ev_iconst (v := -1) dX6_costOf_32 (by decide) ?_
      obtain ⟨Q2, hc, h⟩ := h
      refine ev_callV [.int x1, .int x3, .int (-1)] dX6_costOf_33 ml_WithoutE_Speech_100 lx_86 rfl rfl (Nat.le_of_ble_eq_true rfl) hc (fun zr zM q => ?_)
      exact h zr zM q
    · replace h := h.2 c
      refine ev_iload_n dX6_costOf_26 rfl ?_
      refine ev_iconst (v := 1) dX6_costOf_27 (by decide) ?_
      refine ev_iadd dX6_costOf_28 ?_
      refine ev_goto (tgt := 33) dX6_costOf_29 (by decide) ?_
      obtain ⟨Q2, hc, h⟩ := h
      refine ev_callV [.int x1, .int x3, .int (x3 + 1)] dX6_costOf_33 ml_WithoutE_Speech_100 lx_86 rfl rfl (Nat.le_of_ble_eq_true rfl) hc (fun zr zM q => ?_)
      exact h zr zM q
theorem gX6_costOf_48 {d : Nat} {M : ev_Mem} {Q : Option Value → ev_Mem → Prop} {x3 x4 : Int32} (h : ((((M.1 3 5) ≤ x4) → (Q (some (.int x3)) M)) ∧ ((¬ (M.1 3 5) ≤ x4) → (vp_in 0 5 ∧ (vp_in x4 24 ∧ (∀ v1 : Int32, v1 = imin x3 (M.1 (92 + (0 : Int32).toNatClampNeg) x4.toNatClampNeg) → (Ev LX (d + 1) mX6_costOf 48 [some (.ref 86), none, none, some (.int v1), some (.int (x4 + 1))] [] M Q))))))) : Ev LX (d + 1) mX6_costOf 48 [some (.ref 86), none, none, some (.int x3), some (.int x4)] [] M Q := by
  refine ev_iload dX6_costOf_48 rfl ?_
  refine ev_aload_n dX6_costOf_50 rfl ?_
  refine ev_getA dX6_costOf_51 fl_WithoutE_Speech_47 lx_86 rfl ?_
  refine ev_getI dX6_costOf_54 fl_WithoutE_Speech_74 lx_3 rfl ?_
  refine ev_icmp_ge (tgt := 80) dX6_costOf_57 (by decide) (fun c => ?_) (fun c => ?_)
  · replace h := h.1 c
    refine ev_iload_n dX6_costOf_80 rfl ?_
    exact ev_iret dX6_costOf_81 rfl h
  · replace h := h.2 c
    refine ev_iload_n dX6_costOf_60 rfl ?_
    refine ev_aload_n dX6_costOf_61 rfl ?_
    refine ev_getA dX6_costOf_62 fl_WithoutE_Speech_31 lx_86 rfl ?_
    refine ev_iconst (v := 0) dX6_costOf_65 (by decide) ?_
    obtain ⟨b1, h⟩ := h
    refine ev_aald dX6_costOf_66 lx_91 (fun _ => rfl) rfl b1 ?_
    refine ev_iload dX6_costOf_67 rfl ?_
    obtain ⟨c, h⟩ := h
    refine ev_iald dX6_costOf_69 (lx_co (ev_lt b1)) c ?_
    refine ev_min dX6_costOf_70 ml_WithoutE_Speech_105 (by omega) (Nat.le_of_ble_eq_true rfl) ?_
    refine ev_istore_n (ls2 := [some (.ref 86), none, none, some (.int (imin x3 (M.1 (92 + (0 : Int32).toNatClampNeg) x4.toNatClampNeg))), some (.int x4)]) dX6_costOf_73 (Nat.le_of_ble_eq_true rfl) rfl ?_
    generalize ev1 : imin x3 (M.1 (92 + (0 : Int32).toNatClampNeg) x4.toNatClampNeg) = v1
    replace h := h v1 ev1.symm
    refine ev_iinc (v := x4 + 1) (ls2 := [some (.ref 86), none, none, some (.int v1), some (.int (x4 + 1))]) dX6_costOf_74 rfl rfl rfl ?_
    refine ev_goto (tgt := 48) dX6_costOf_77 (by decide) ?_
    exact h
theorem gX6_costOf_36 {d : Nat} {M : ev_Mem} {Q : Option Value → ev_Mem → Prop} {x1 x2 x3 : Int32} (h : (Ev LX d mX6_costOf 14 [some (.ref 86), some (.int x1), some (.int x2), some (.int (x3 + (-1))), none] [] M Q)) : Ev LX d mX6_costOf 36 [some (.ref 86), some (.int x1), some (.int x2), some (.int x3), none] [] M Q := by
  refine ev_iinc (v := x3 + (-1)) (ls2 := [some (.ref 86), some (.int x1), some (.int x2), some (.int (x3 + (-1))), none]) dX6_costOf_36 rfl rfl rfl ?_
  refine ev_goto (tgt := 14) dX6_costOf_39 (by decide) ?_
  exact h
theorem dX6_costUpTo_0 : decode cX6_costUpTo 0 = .ok (.iconst 0, 1) := by decide +kernel
theorem dX6_costUpTo_1 : decode cX6_costUpTo 1 = .ok (.istore 4, 2) := by decide +kernel
theorem dX6_costUpTo_3 : decode cX6_costUpTo 3 = .ok (.iload 4, 2) := by decide +kernel
theorem dX6_costUpTo_5 : decode cX6_costUpTo 5 = .ok (.iload_n 2, 1) := by decide +kernel
theorem dX6_costUpTo_6 : decode cX6_costUpTo 6 = .ok (.if_icmp .gt 29, 3) := by decide +kernel
theorem dX6_costUpTo_9 : decode cX6_costUpTo 9 = .ok (.aload_n 0, 1) := by decide +kernel
theorem dX6_costUpTo_10 : decode cX6_costUpTo 10 = .ok (.iload_n 1, 1) := by decide +kernel
theorem dX6_costUpTo_11 : decode cX6_costUpTo 11 = .ok (.iload 4, 2) := by decide +kernel
theorem dX6_costUpTo_13 : decode cX6_costUpTo 13 = .ok (.iload 4, 2) := by decide +kernel
theorem dX6_costUpTo_15 : decode cX6_costUpTo 15 = .ok (.ifCond .le 10, 3) := by decide +kernel
theorem dX6_costUpTo_18 : decode cX6_costUpTo 18 = .ok (.iload 4, 2) := by decide +kernel
theorem dX6_costUpTo_20 : decode cX6_costUpTo 20 = .ok (.iconst 1, 1) := by decide +kernel
theorem dX6_costUpTo_21 : decode cX6_costUpTo 21 = .ok (.isub, 1) := by decide +kernel
theorem dX6_costUpTo_22 : decode cX6_costUpTo 22 = .ok (.goto 4, 3) := by decide +kernel
theorem dX6_costUpTo_25 : decode cX6_costUpTo 25 = .ok (.iconst (-1), 1) := by decide +kernel
theorem dX6_costUpTo_26 : decode cX6_costUpTo 26 = .ok (.invokevirtual 100, 3) := by decide +kernel
theorem dX6_costUpTo_29 : decode cX6_costUpTo 29 = .ok (.iinc 4 1, 3) := by decide +kernel
theorem dX6_costUpTo_32 : decode cX6_costUpTo 32 = .ok (.goto (-29), 3) := by decide +kernel
theorem dX6_costUpTo_35 : decode cX6_costUpTo 35 = .ok (.aload_n 0, 1) := by decide +kernel
theorem dX6_costUpTo_36 : decode cX6_costUpTo 36 = .ok (.getfield 31, 3) := by decide +kernel
theorem dX6_costUpTo_39 : decode cX6_costUpTo 39 = .ok (.iload_n 2, 1) := by decide +kernel
theorem dX6_costUpTo_40 : decode cX6_costUpTo 40 = .ok (.aaload, 1) := by decide +kernel
theorem dX6_costUpTo_41 : decode cX6_costUpTo 41 = .ok (.iload_n 3, 1) := by decide +kernel
theorem dX6_costUpTo_42 : decode cX6_costUpTo 42 = .ok (.iaload, 1) := by decide +kernel
theorem dX6_costUpTo_43 : decode cX6_costUpTo 43 = .ok (.ireturn, 1) := by decide +kernel
theorem gX6_costUpTo_0 {d : Nat} {M : ev_Mem} {Q : Option Value → ev_Mem → Prop} {x1 x2 x3 : Int32} (h : (Ev LX d mX6_costUpTo 3 [some (.ref 86), some (.int x1), some (.int x2), some (.int x3), some (.int 0)] [] M Q)) : Ev LX d mX6_costUpTo 0 [some (.ref 86), some (.int x1), some (.int x2), some (.int x3), none] [] M Q := by
  refine ev_iconst (v := 0) dX6_costUpTo_0 (by decide) ?_
  refine ev_istore (ls2 := [some (.ref 86), some (.int x1), some (.int x2), some (.int x3), some (.int 0)]) dX6_costUpTo_1 (Nat.le_of_ble_eq_true rfl) rfl ?_
  exact h
theorem gX6_costUpTo_3 {d : Nat} {M : ev_Mem} {Q : Option Value → ev_Mem → Prop} {x1 x2 x3 x4 : Int32} (h : (((x2 < x4) → (vp_in x2 5 ∧ (vp_in x3 24 ∧ (Q (some (.int (M.1 (92 + x2.toNatClampNeg) x3.toNatClampNeg))) M)))) ∧ ((¬ x2 < x4) → (((x4 ≤ 0) → (∃ Q2 : Option Value → ev_Mem → Prop, Cl LX d mX6_fillCosts [.ref 86, .int x1, .int x4, .int (-1)] M Q2 ∧ ∀ (zr : Option Value) (zM : ev_Mem), Q2 zr zM → Ev LX (d + 1) mX6_costUpTo 29 [some (.ref 86), some (.int x1), some (.int x2), some (.int x3), some (.int x4)] (zr.toList ++ []) zM Q)) ∧ ((¬ x4 ≤ 0) → (∃ Q2 : Option Value → ev_Mem → Prop, Cl LX d mX6_fillCosts [.ref 86, .int x1, .int x4, .int (x4 - 1)] M Q2 ∧ ∀ (zr : Option Value) (zM : ev_Mem), Q2 zr zM → Ev LX (d + 1) mX6_costUpTo 29 [some (.ref 86), some (.int x1), some (.int x2), some (.int x3), some (.int x4)] (zr.toList ++ []) zM Q)))))) : Ev LX (d + 1) mX6_costUpTo 3 [some (.ref 86), some (.int x1), some (.int x2), some (.int x3), some (.int x4)] [] M Q := by
  refine ev_iload dX6_costUpTo_3 rfl ?_
  refine ev_iload_n dX6_costUpTo_5 rfl ?_
  refine ev_icmp_gt (tgt := 35) dX6_costUpTo_6 (by decide) (fun c => ?_) (fun c => ?_)
  · replace h := h.1 c
    refine ev_aload_n dX6_costUpTo_35 rfl ?_
    refine ev_getA dX6_costUpTo_36 fl_WithoutE_Speech_31 lx_86 rfl ?_
    refine ev_iload_n dX6_costUpTo_39 rfl ?_
    obtain ⟨b1, h⟩ := h
    refine ev_aald dX6_costUpTo_40 lx_91 (fun _ => rfl) rfl b1 ?_
    refine ev_iload_n dX6_costUpTo_41 rfl ?_
    obtain ⟨c, h⟩ := h
    refine ev_iald dX6_costUpTo_42 (lx_co (ev_lt b1)) c ?_
    exact ev_iret dX6_costUpTo_43 rfl h
  · replace h := h.2 c
    refine ev_aload_n dX6_costUpTo_9 rfl ?_
    refine ev_iload_n dX6_costUpTo_10 rfl ?_
    refine ev_iload dX6_costUpTo_11 rfl ?_
    refine ev_iload dX6_costUpTo_13 rfl ?_
    refine ev_if_le (tgt := 25) dX6_costUpTo_15 (by decide) (fun c => ?_) (fun c => ?_)
    · replace h := h.1 c
      refine ev_iconst (v := -1) dX6_costUpTo_25 (by decide) ?_
      obtain ⟨Q2, hc, h⟩ := h
      refine ev_callV [.int x1, .int x4, .int (-1)] dX6_costUpTo_26 ml_WithoutE_Speech_100 lx_86 rfl rfl (Nat.le_of_ble_eq_true rfl) hc (fun zr zM q => ?_)
      exact h zr zM q
    · replace h := h.2 c
      refine ev_iload dX6_costUpTo_18 rfl ?_
      refine ev_iconst (v := 1) dX6_costUpTo_20 (by decide) ?_
      refine ev_isub dX6_costUpTo_21 ?_
      refine ev_goto (tgt := 26) dX6_costUpTo_22 (by decide) ?_
      obtain ⟨Q2, hc, h⟩ := h
      refine ev_callV [.int x1, .int x4, .int (x4 - 1)] dX6_costUpTo_26 ml_WithoutE_Speech_100 lx_86 rfl rfl (Nat.le_of_ble_eq_true rfl) hc (fun zr zM q => ?_)
      exact h zr zM q
theorem gX6_costUpTo_29 {d : Nat} {M : ev_Mem} {Q : Option Value → ev_Mem → Prop} {x1 x2 x3 x4 : Int32} (h : (Ev LX d mX6_costUpTo 3 [some (.ref 86), some (.int x1), some (.int x2), some (.int x3), some (.int (x4 + 1))] [] M Q)) : Ev LX d mX6_costUpTo 29 [some (.ref 86), some (.int x1), some (.int x2), some (.int x3), some (.int x4)] [] M Q := by
  refine ev_iinc (v := x4 + 1) (ls2 := [some (.ref 86), some (.int x1), some (.int x2), some (.int x3), some (.int (x4 + 1))]) dX6_costUpTo_29 rfl rfl rfl ?_
  refine ev_goto (tgt := 3) dX6_costUpTo_32 (by decide) ?_
  exact h
theorem dX6_speak_0 : decode cX6_speak 0 = .ok (.aload_n 0, 1) := by decide +kernel
theorem dX6_speak_1 : decode cX6_speak 1 = .ok (.iload_n 1, 1) := by decide +kernel
theorem dX6_speak_2 : decode cX6_speak 2 = .ok (.invokevirtual 139, 3) := by decide +kernel
theorem dX6_speak_5 : decode cX6_speak 5 = .ok (.istore_n 2, 1) := by decide +kernel
theorem dX6_speak_6 : decode cX6_speak 6 = .ok (.iload_n 2, 1) := by decide +kernel
theorem dX6_speak_7 : decode cX6_speak 7 = .ok (.ldc 104, 2) := by decide +kernel
theorem dX6_speak_9 : decode cX6_speak 9 = .ok (.if_icmp .lt 5, 3) := by decide +kernel
theorem dX6_speak_12 : decode cX6_speak 12 = .ok (.iconst 0, 1) := by decide +kernel
theorem dX6_speak_13 : decode cX6_speak 13 = .ok (.ireturn, 1) := by decide +kernel
theorem dX6_speak_14 : decode cX6_speak 14 = .ok (.aload_n 0, 1) := by decide +kernel
theorem dX6_speak_15 : decode cX6_speak 15 = .ok (.iload_n 2, 1) := by decide +kernel
theorem dX6_speak_16 : decode cX6_speak 16 = .ok (.putfield 142, 3) := by decide +kernel
theorem dX6_speak_19 : decode cX6_speak 19 = .ok (.aload_n 0, 1) := by decide +kernel
theorem dX6_speak_20 : decode cX6_speak 20 = .ok (.aload_n 0, 1) := by decide +kernel
theorem dX6_speak_21 : decode cX6_speak 21 = .ok (.getfield 47, 3) := by decide +kernel
theorem dX6_speak_24 : decode cX6_speak 24 = .ok (.getfield 97, 3) := by decide +kernel
theorem dX6_speak_27 : decode cX6_speak 27 = .ok (.iload_n 1, 1) := by decide +kernel
theorem dX6_speak_28 : decode cX6_speak 28 = .ok (.iaload, 1) := by decide +kernel
theorem dX6_speak_29 : decode cX6_speak 29 = .ok (.putfield 145, 3) := by decide +kernel
theorem dX6_speak_32 : decode cX6_speak 32 = .ok (.aload_n 0, 1) := by decide +kernel
theorem dX6_speak_33 : decode cX6_speak 33 = .ok (.iconst 0, 1) := by decide +kernel
theorem dX6_speak_34 : decode cX6_speak 34 = .ok (.putfield 147, 3) := by decide +kernel
theorem dX6_speak_37 : decode cX6_speak 37 = .ok (.aload_n 0, 1) := by decide +kernel
theorem dX6_speak_38 : decode cX6_speak 38 = .ok (.iconst 0, 1) := by decide +kernel
theorem dX6_speak_39 : decode cX6_speak 39 = .ok (.putfield 150, 3) := by decide +kernel
theorem dX6_speak_42 : decode cX6_speak 42 = .ok (.aload_n 0, 1) := by decide +kernel
theorem dX6_speak_43 : decode cX6_speak 43 = .ok (.iconst 0, 1) := by decide +kernel
theorem dX6_speak_44 : decode cX6_speak 44 = .ok (.putfield 153, 3) := by decide +kernel
theorem dX6_speak_47 : decode cX6_speak 47 = .ok (.iconst (-1), 1) := by decide +kernel
theorem dX6_speak_48 : decode cX6_speak 48 = .ok (.istore_n 3, 1) := by decide +kernel
theorem dX6_speak_49 : decode cX6_speak 49 = .ok (.iconst 0, 1) := by decide +kernel
theorem dX6_speak_50 : decode cX6_speak 50 = .ok (.istore 4, 2) := by decide +kernel
theorem dX6_speak_52 : decode cX6_speak 52 = .ok (.iload 4, 2) := by decide +kernel
theorem dX6_speak_54 : decode cX6_speak 54 = .ok (.aload_n 0, 1) := by decide +kernel
theorem dX6_speak_55 : decode cX6_speak 55 = .ok (.getfield 145, 3) := by decide +kernel
theorem dX6_speak_58 : decode cX6_speak 58 = .ok (.if_icmp .ge 107, 3) := by decide +kernel
theorem dX6_speak_61 : decode cX6_speak 61 = .ok (.aload_n 0, 1) := by decide +kernel
theorem dX6_speak_62 : decode cX6_speak 62 = .ok (.iload_n 3, 1) := by decide +kernel
theorem dX6_speak_63 : decode cX6_speak 63 = .ok (.iload 4, 2) := by decide +kernel
theorem dX6_speak_65 : decode cX6_speak 65 = .ok (.invokevirtual 156, 3) := by decide +kernel
theorem dX6_speak_68 : decode cX6_speak 68 = .ok (.istore 5, 2) := by decide +kernel
theorem dX6_speak_70 : decode cX6_speak 70 = .ok (.iload 5, 2) := by decide +kernel
theorem dX6_speak_72 : decode cX6_speak 72 = .ok (.iconst (-1), 1) := by decide +kernel
theorem dX6_speak_73 : decode cX6_speak 73 = .ok (.if_icmp .ne 5, 3) := by decide +kernel
theorem dX6_speak_76 : decode cX6_speak 76 = .ok (.iconst 0, 1) := by decide +kernel
theorem dX6_speak_77 : decode cX6_speak 77 = .ok (.ireturn, 1) := by decide +kernel
theorem dX6_speak_78 : decode cX6_speak 78 = .ok (.aload_n 0, 1) := by decide +kernel
theorem dX6_speak_79 : decode cX6_speak 79 = .ok (.getfield 44, 3) := by decide +kernel
theorem dX6_speak_82 : decode cX6_speak 82 = .ok (.iload 4, 2) := by decide +kernel
theorem dX6_speak_84 : decode cX6_speak 84 = .ok (.iload 5, 2) := by decide +kernel
theorem dX6_speak_86 : decode cX6_speak 86 = .ok (.iastore, 1) := by decide +kernel
theorem dX6_speak_87 : decode cX6_speak 87 = .ok (.aload_n 0, 1) := by decide +kernel
theorem dX6_speak_88 : decode cX6_speak 88 = .ok (.dup, 1) := by decide +kernel
theorem dX6_speak_89 : decode cX6_speak 89 = .ok (.getfield 147, 3) := by decide +kernel
theorem dX6_speak_92 : decode cX6_speak 92 = .ok (.aload_n 0, 1) := by decide +kernel
theorem dX6_speak_93 : decode cX6_speak 93 = .ok (.getfield 51, 3) := by decide +kernel
theorem dX6_speak_96 : decode cX6_speak 96 = .ok (.iload 5, 2) := by decide +kernel
theorem dX6_speak_98 : decode cX6_speak 98 = .ok (.aload_n 0, 1) := by decide +kernel
theorem dX6_speak_99 : decode cX6_speak 99 = .ok (.getfield 59, 3) := by decide +kernel
theorem dX6_speak_102 : decode cX6_speak 102 = .ok (.invokevirtual 159, 3) := by decide +kernel
theorem dX6_speak_105 : decode cX6_speak 105 = .ok (.iadd, 1) := by decide +kernel
theorem dX6_speak_106 : decode cX6_speak 106 = .ok (.putfield 147, 3) := by decide +kernel
theorem dX6_speak_109 : decode cX6_speak 109 = .ok (.aload_n 0, 1) := by decide +kernel
theorem dX6_speak_110 : decode cX6_speak 110 = .ok (.dup, 1) := by decide +kernel
theorem dX6_speak_111 : decode cX6_speak 111 = .ok (.getfield 150, 3) := by decide +kernel
theorem dX6_speak_114 : decode cX6_speak 114 = .ok (.aload_n 0, 1) := by decide +kernel
theorem dX6_speak_115 : decode cX6_speak 115 = .ok (.getfield 47, 3) := by decide +kernel
theorem dX6_speak_118 : decode cX6_speak 118 = .ok (.getfield 162, 3) := by decide +kernel
theorem dX6_speak_121 : decode cX6_speak 121 = .ok (.iload 5, 2) := by decide +kernel
theorem dX6_speak_123 : decode cX6_speak 123 = .ok (.iaload, 1) := by decide +kernel
theorem dX6_speak_124 : decode cX6_speak 124 = .ok (.iadd, 1) := by decide +kernel
theorem dX6_speak_125 : decode cX6_speak 125 = .ok (.putfield 150, 3) := by decide +kernel
theorem dX6_speak_128 : decode cX6_speak 128 = .ok (.aload_n 0, 1) := by decide +kernel
theorem dX6_speak_129 : decode cX6_speak 129 = .ok (.dup, 1) := by decide +kernel
theorem dX6_speak_130 : decode cX6_speak 130 = .ok (.getfield 153, 3) := by decide +kernel
theorem dX6_speak_133 : decode cX6_speak 133 = .ok (.aload_n 0, 1) := by decide +kernel
theorem dX6_speak_134 : decode cX6_speak 134 = .ok (.getfield 47, 3) := by decide +kernel
theorem dX6_speak_137 : decode cX6_speak 137 = .ok (.getfield 126, 3) := by decide +kernel
theorem dX6_speak_140 : decode cX6_speak 140 = .ok (.iload 5, 2) := by decide +kernel
theorem dX6_speak_142 : decode cX6_speak 142 = .ok (.iaload, 1) := by decide +kernel
theorem dX6_speak_143 : decode cX6_speak 143 = .ok (.iconst 2, 1) := by decide +kernel
theorem dX6_speak_144 : decode cX6_speak 144 = .ok (.if_icmp .ne 7, 3) := by decide +kernel
theorem dX6_speak_147 : decode cX6_speak 147 = .ok (.iconst 3, 1) := by decide +kernel
theorem dX6_speak_148 : decode cX6_speak 148 = .ok (.goto 4, 3) := by decide +kernel
theorem dX6_speak_151 : decode cX6_speak 151 = .ok (.iconst 2, 1) := by decide +kernel
theorem dX6_speak_152 : decode cX6_speak 152 = .ok (.iadd, 1) := by decide +kernel
theorem dX6_speak_153 : decode cX6_speak 153 = .ok (.putfield 153, 3) := by decide +kernel
theorem dX6_speak_156 : decode cX6_speak 156 = .ok (.iload 5, 2) := by decide +kernel
theorem dX6_speak_158 : decode cX6_speak 158 = .ok (.istore_n 3, 1) := by decide +kernel
theorem dX6_speak_159 : decode cX6_speak 159 = .ok (.iinc 4 1, 3) := by decide +kernel
theorem dX6_speak_162 : decode cX6_speak 162 = .ok (.goto (-110), 3) := by decide +kernel
theorem dX6_speak_165 : decode cX6_speak 165 = .ok (.iconst 1, 1) := by decide +kernel
theorem dX6_speak_166 : decode cX6_speak 166 = .ok (.ireturn, 1) := by decide +kernel
theorem gX6_speak_0 {d : Nat} {M : ev_Mem} {Q : Option Value → ev_Mem → Prop} {x1 : Int32} (h : (∃ Q2 : Option Value → ev_Mem → Prop, Cl LX d mX6_costOf [.ref 86, .int x1] M Q2 ∧ ∀ (zr : Option Value) (zM : ev_Mem), Q2 zr zM → Ev LX (d + 1) mX6_speak 5 [some (.ref 86), some (.int x1), none, none, none, none] (zr.toList ++ []) zM Q)) : Ev LX (d + 1) mX6_speak 0 [some (.ref 86), some (.int x1), none, none, none, none] [] M Q := by
  refine ev_aload_n dX6_speak_0 rfl ?_
  refine ev_iload_n dX6_speak_1 rfl ?_
  obtain ⟨Q2, hc, h⟩ := h
  refine ev_callV [.int x1] dX6_speak_2 ml_WithoutE_Speech_139 lx_86 rfl rfl (Nat.le_of_ble_eq_true rfl) hc (fun zr zM q => ?_)
  exact h zr zM q
theorem gX6_speak_5 {d : Nat} {M : ev_Mem} {Q : Option Value → ev_Mem → Prop} {x1 s0 : Int32} (h : (((s0 < 1000000) → (∀ M1 : ev_Mem, M1 = ev_wr M 86 14 s0 → (vp_in x1 8 ∧ (∀ M2 : ev_Mem, M2 = ev_wr M1 86 13 (M1.1 42 x1.toNatClampNeg) → (∀ M3 : ev_Mem, M3 = ev_wr M2 86 15 0 → (∀ M4 : ev_Mem, M4 = ev_wr M3 86 16 0 → (∀ M5 : ev_Mem, M5 = ev_wr M4 86 17 0 → (Ev LX d mX6_speak 52 [some (.ref 86), none, none, some (.int (-1)), some (.int 0), none] [] M5 Q)))))))) ∧ ((¬ s0 < 1000000) → (Q (some (.int 0)) M)))) : Ev LX d mX6_speak 5 [some (.ref 86), some (.int x1), none, none, none, none] [(.int s0)] M Q := by
  refine ev_istore_n (ls2 := [some (.ref 86), some (.int x1), some (.int s0), none, none, none]) dX6_speak_5 (Nat.le_of_ble_eq_true rfl) rfl ?_
  refine ev_iload_n dX6_speak_6 rfl ?_
  refine ev_ldc (v := 1000000) dX6_speak_7 cw_WithoutE_Speech_104 ?_
  refine ev_icmp_lt (tgt := 14) dX6_speak_9 (by decide) (fun c => ?_) (fun c => ?_)
  · replace h := h.1 c
    refine ev_aload_n dX6_speak_14 rfl ?_
    refine ev_iload_n dX6_speak_15 rfl ?_
    refine ev_putI dX6_speak_16 fp_WithoutE_Speech_142 lx_86 rfl rfl rfl ?_
    generalize eM1 : ev_wr M 86 14 s0 = M1
    replace h := h M1 eM1.symm
    refine ev_aload_n dX6_speak_19 rfl ?_
    refine ev_aload_n dX6_speak_20 rfl ?_
    refine ev_getA dX6_speak_21 fl_WithoutE_Speech_47 lx_86 rfl ?_
    refine ev_getA dX6_speak_24 fl_WithoutE_Speech_97 lx_3 rfl ?_
    refine ev_iload_n dX6_speak_27 rfl ?_
    obtain ⟨c, h⟩ := h
    refine ev_iald dX6_speak_28 lx_42 c ?_
    refine ev_putI dX6_speak_29 fp_WithoutE_Speech_145 lx_86 rfl rfl rfl ?_
    generalize eM2 : ev_wr M1 86 13 (M1.1 42 x1.toNatClampNeg) = M2
    replace h := h M2 eM2.symm
    refine ev_aload_n dX6_speak_32 rfl ?_
    refine ev_iconst (v := 0) dX6_speak_33 (by decide) ?_
    refine ev_putI dX6_speak_34 fp_WithoutE_Speech_147 lx_86 rfl rfl rfl ?_
    generalize eM3 : ev_wr M2 86 15 0 = M3
    replace h := h M3 eM3.symm
    refine ev_aload_n dX6_speak_37 rfl ?_
    refine ev_iconst (v := 0) dX6_speak_38 (by decide) ?_
    refine ev_putI dX6_speak_39 fp_WithoutE_Speech_150 lx_86 rfl rfl rfl ?_
    generalize eM4 : ev_wr M3 86 16 0 = M4
    replace h := h M4 eM4.symm
    refine ev_aload_n dX6_speak_42 rfl ?_
    refine ev_iconst (v := 0) dX6_speak_43 (by decide) ?_
    refine ev_putI dX6_speak_44 fp_WithoutE_Speech_153 lx_86 rfl rfl rfl ?_
    generalize eM5 : ev_wr M4 86 17 0 = M5
    replace h := h M5 eM5.symm
    refine ev_iconst (v := -1) dX6_speak_47 (by decide) ?_
    refine ev_istore_n (ls2 := [some (.ref 86), some (.int x1), some (.int s0), some (.int (-1)), none, none]) dX6_speak_48 (Nat.le_of_ble_eq_true rfl) rfl ?_
    refine ev_iconst (v := 0) dX6_speak_49 (by decide) ?_
    refine ev_istore (ls2 := [some (.ref 86), some (.int x1), some (.int s0), some (.int (-1)), some (.int 0), none]) dX6_speak_50 (Nat.le_of_ble_eq_true rfl) rfl ?_
    refine Ev.weak (ls := [some (.ref 86), none, none, some (.int (-1)), some (.int 0), none]) ⟨rfl, rfl, rfl, trivial⟩ ?_
    exact h
  · replace h := h.2 c
    refine ev_iconst (v := 0) dX6_speak_12 (by decide) ?_
    exact ev_zret dX6_speak_13 rfl (by decide) h
theorem gX6_speak_52 {d : Nat} {M : ev_Mem} {Q : Option Value → ev_Mem → Prop} {x3 x4 : Int32} (h : ((((M.1 86 13) ≤ x4) → (Q (some (.int 1)) M)) ∧ ((¬ (M.1 86 13) ≤ x4) → (∃ Q2 : Option Value → ev_Mem → Prop, Cl LX d mX6_lowestBehind [.ref 86, .int x3, .int x4] M Q2 ∧ ∀ (zr : Option Value) (zM : ev_Mem), Q2 zr zM → Ev LX (d + 1) mX6_speak 68 [some (.ref 86), none, none, none, some (.int x4), none] (zr.toList ++ []) zM Q)))) : Ev LX (d + 1) mX6_speak 52 [some (.ref 86), none, none, some (.int x3), some (.int x4), none] [] M Q := by
  refine ev_iload dX6_speak_52 rfl ?_
  refine ev_aload_n dX6_speak_54 rfl ?_
  refine ev_getI dX6_speak_55 fl_WithoutE_Speech_145 lx_86 rfl ?_
  refine ev_icmp_ge (tgt := 165) dX6_speak_58 (by decide) (fun c => ?_) (fun c => ?_)
  · replace h := h.1 c
    refine ev_iconst (v := 1) dX6_speak_165 (by decide) ?_
    exact ev_zret dX6_speak_166 rfl (by decide) h
  · replace h := h.2 c
    refine ev_aload_n dX6_speak_61 rfl ?_
    refine ev_iload_n dX6_speak_62 rfl ?_
    refine ev_iload dX6_speak_63 rfl ?_
    obtain ⟨Q2, hc, h⟩ := h
    refine ev_callV [.int x3, .int x4] dX6_speak_65 ml_WithoutE_Speech_156 lx_86 rfl rfl (Nat.le_of_ble_eq_true rfl) hc (fun zr zM q => ?_)
    refine Ev.weak (ls := [some (.ref 86), none, none, none, some (.int x4), none]) ⟨rfl, rfl, trivial⟩ ?_
    exact h zr zM q
theorem gX6_speak_68 {d : Nat} {M : ev_Mem} {Q : Option Value → ev_Mem → Prop} {x4 s0 : Int32} (h : (((¬ s0 = (-1)) → (vp_in x4 5 ∧ (∀ M1 : ev_Mem, M1 = ev_wr M 99 x4.toNatClampNeg s0 → ((wd M1 s0) ∧ (∀ M2 : ev_Mem, M2 = ev_wr M1 86 15 ((M1.1 86 15) + (xS M1 s0 (M1.1 86 3))) → (vp_in s0 24 ∧ (∀ M3 : ev_Mem, M3 = ev_wr M2 86 16 ((M2.1 86 16) + (M2.1 29 s0.toNatClampNeg)) → (vp_in s0 24 ∧ (((¬ (M3.1 30 s0.toNatClampNeg) = 2) → (∀ M4 : ev_Mem, M4 = ev_wr M3 86 17 ((M3.1 86 17) + 2) → (Ev LX (d + 3) mX6_speak 52 [some (.ref 86), none, none, some (.int s0), some (.int (x4 + 1)), none] [] M4 Q))) ∧ (((M3.1 30 s0.toNatClampNeg) = 2) → (∀ M5 : ev_Mem, M5 = ev_wr M3 86 17 ((M3.1 86 17) + 3) → (Ev LX (d + 3) mX6_speak 52 [some (.ref 86), none, none, some (.int s0), some (.int (x4 + 1)), none] [] M5 Q)))))))))))) ∧ ((s0 = (-1)) → (Q (some (.int 0)) M)))) : Ev LX (d + 3) mX6_speak 68 [some (.ref 86), none, none, none, some (.int x4), none] [(.int s0)] M Q := by
  refine ev_istore (ls2 := [some (.ref 86), none, none, none, some (.int x4), some (.int s0)]) dX6_speak_68 (Nat.le_of_ble_eq_true rfl) rfl ?_
  refine ev_iload dX6_speak_70 rfl ?_
  refine ev_iconst (v := -1) dX6_speak_72 (by decide) ?_
  refine ev_icmp_ne (tgt := 78) dX6_speak_73 (by decide) (fun c => ?_) (fun c => ?_)
  · replace h := h.1 c
    refine ev_aload_n dX6_speak_78 rfl ?_
    refine ev_getA dX6_speak_79 fl_WithoutE_Speech_44 lx_86 rfl ?_
    refine ev_iload dX6_speak_82 rfl ?_
    refine ev_iload dX6_speak_84 rfl ?_
    obtain ⟨c, h⟩ := h
    refine ev_iast dX6_speak_86 lx_99 c ?_
    generalize eM1 : ev_wr M 99 x4.toNatClampNeg s0 = M1
    replace h := h M1 eM1.symm
    refine ev_aload_n dX6_speak_87 rfl ?_
    refine ev_dup dX6_speak_88 rfl ?_
    refine ev_getI dX6_speak_89 fl_WithoutE_Speech_147 lx_86 rfl ?_
    refine ev_aload_n dX6_speak_92 rfl ?_
    refine ev_getA dX6_speak_93 fl_WithoutE_Speech_51 lx_86 rfl ?_
    refine ev_iload dX6_speak_96 rfl ?_
    refine ev_aload_n dX6_speak_98 rfl ?_
    refine ev_getI dX6_speak_99 fl_WithoutE_Speech_59 lx_86 rfl ?_
    obtain ⟨p1, h⟩ := h
    refine ev_callV [.int s0, .int (M1.1 86 3)] dX6_speak_102 ml_WithoutE_Speech_159 lx_82 rfl rfl (Nat.le_of_ble_eq_true rfl) (qX5_secondsOf p1) ?_
    rintro zr zM ⟨q1, q2⟩
    rw [q1, q2]
    show Ev LX (d + 3) mX6_speak 105 [some (.ref 86), none, none, none, some (.int x4), some (.int s0)] [(.int (xS M1 s0 (M1.1 86 3))), (.int (M1.1 86 15)), (.ref 86)] M1 Q
    refine ev_iadd dX6_speak_105 ?_
    refine ev_putI dX6_speak_106 fp_WithoutE_Speech_147 lx_86 rfl rfl rfl ?_
    generalize eM2 : ev_wr M1 86 15 ((M1.1 86 15) + (xS M1 s0 (M1.1 86 3))) = M2
    replace h := h M2 eM2.symm
    refine ev_aload_n dX6_speak_109 rfl ?_
    refine ev_dup dX6_speak_110 rfl ?_
    refine ev_getI dX6_speak_111 fl_WithoutE_Speech_150 lx_86 rfl ?_
    refine ev_aload_n dX6_speak_114 rfl ?_
    refine ev_getA dX6_speak_115 fl_WithoutE_Speech_47 lx_86 rfl ?_
    refine ev_getA dX6_speak_118 fl_WithoutE_Speech_162 lx_3 rfl ?_
    refine ev_iload dX6_speak_121 rfl ?_
    obtain ⟨c, h⟩ := h
    refine ev_iald dX6_speak_123 lx_29 c ?_
    refine ev_iadd dX6_speak_124 ?_
    refine ev_putI dX6_speak_125 fp_WithoutE_Speech_150 lx_86 rfl rfl rfl ?_
    generalize eM3 : ev_wr M2 86 16 ((M2.1 86 16) + (M2.1 29 s0.toNatClampNeg)) = M3
    replace h := h M3 eM3.symm
    refine ev_aload_n dX6_speak_128 rfl ?_
    refine ev_dup dX6_speak_129 rfl ?_
    refine ev_getI dX6_speak_130 fl_WithoutE_Speech_153 lx_86 rfl ?_
    refine ev_aload_n dX6_speak_133 rfl ?_
    refine ev_getA dX6_speak_134 fl_WithoutE_Speech_47 lx_86 rfl ?_
    refine ev_getA dX6_speak_137 fl_WithoutE_Speech_126 lx_3 rfl ?_
    refine ev_iload dX6_speak_140 rfl ?_
    obtain ⟨c, h⟩ := h
    refine ev_iald dX6_speak_142 lx_30 c ?_
    refine ev_iconst (v := 2) dX6_speak_143 (by decide) ?_
    refine ev_icmp_ne (tgt := 151) dX6_speak_144 (by decide) (fun c => ?_) (fun c => ?_)
    · replace h := h.1 c
      refine ev_iconst (v := 2) dX6_speak_151 (by decide) ?_
      refine ev_iadd dX6_speak_152 ?_
      refine ev_putI dX6_speak_153 fp_WithoutE_Speech_153 lx_86 rfl rfl rfl ?_
      generalize eM4 : ev_wr M3 86 17 ((M3.1 86 17) + 2) = M4
      replace h := h M4 eM4.symm
      refine ev_iload dX6_speak_156 rfl ?_
      refine ev_istore_n (ls2 := [some (.ref 86), none, none, some (.int s0), some (.int x4), some (.int s0)]) dX6_speak_158 (Nat.le_of_ble_eq_true rfl) rfl ?_
      refine ev_iinc (v := x4 + 1) (ls2 := [some (.ref 86), none, none, some (.int s0), some (.int (x4 + 1)), some (.int s0)]) dX6_speak_159 rfl rfl rfl ?_
      refine ev_goto (tgt := 52) dX6_speak_162 (by decide) ?_
      refine Ev.weak (ls := [some (.ref 86), none, none, some (.int s0), some (.int (x4 + 1)), none]) ⟨rfl, rfl, rfl, trivial⟩ ?_
      exact h
    · replace h := h.2 c
      refine ev_iconst (v := 3) dX6_speak_147 (by decide) ?_
      refine ev_goto (tgt := 152) dX6_speak_148 (by decide) ?_
      refine ev_iadd dX6_speak_152 ?_
      refine ev_putI dX6_speak_153 fp_WithoutE_Speech_153 lx_86 rfl rfl rfl ?_
      generalize eM5 : ev_wr M3 86 17 ((M3.1 86 17) + 3) = M5
      replace h := h M5 eM5.symm
      refine ev_iload dX6_speak_156 rfl ?_
      refine ev_istore_n (ls2 := [some (.ref 86), none, none, some (.int s0), some (.int x4), some (.int s0)]) dX6_speak_158 (Nat.le_of_ble_eq_true rfl) rfl ?_
      refine ev_iinc (v := x4 + 1) (ls2 := [some (.ref 86), none, none, some (.int s0), some (.int (x4 + 1)), some (.int s0)]) dX6_speak_159 rfl rfl rfl ?_
      refine ev_goto (tgt := 52) dX6_speak_162 (by decide) ?_
      refine Ev.weak (ls := [some (.ref 86), none, none, some (.int s0), some (.int (x4 + 1)), none]) ⟨rfl, rfl, rfl, trivial⟩ ?_
      exact h
  · replace h := h.2 c
    refine ev_iconst (v := 0) dX6_speak_76 (by decide) ?_
    exact ev_zret dX6_speak_77 rfl (by decide) h
theorem dX6_suppose_0 : decode cX6_suppose 0 = .ok (.aload_n 0, 1) := by decide +kernel
theorem dX6_suppose_1 : decode cX6_suppose 1 = .ok (.iload_n 2, 1) := by decide +kernel
theorem dX6_suppose_2 : decode cX6_suppose 2 = .ok (.putfield 59, 3) := by decide +kernel
theorem dX6_suppose_5 : decode cX6_suppose 5 = .ok (.iload_n 2, 1) := by decide +kernel
theorem dX6_suppose_6 : decode cX6_suppose 6 = .ok (.invokestatic 62, 3) := by decide +kernel
theorem dX6_suppose_9 : decode cX6_suppose 9 = .ok (.istore_n 3, 1) := by decide +kernel
theorem dX6_suppose_10 : decode cX6_suppose 10 = .ok (.iload_n 3, 1) := by decide +kernel
theorem dX6_suppose_11 : decode cX6_suppose 11 = .ok (.aload_n 0, 1) := by decide +kernel
theorem dX6_suppose_12 : decode cX6_suppose 12 = .ok (.getfield 25, 3) := by decide +kernel
theorem dX6_suppose_15 : decode cX6_suppose 15 = .ok (.if_icmp .eq 16, 3) := by decide +kernel
theorem dX6_suppose_18 : decode cX6_suppose 18 = .ok (.aload_n 0, 1) := by decide +kernel
theorem dX6_suppose_19 : decode cX6_suppose 19 = .ok (.getfield 19, 3) := by decide +kernel
theorem dX6_suppose_22 : decode cX6_suppose 22 = .ok (.iconst (-1), 1) := by decide +kernel
theorem dX6_suppose_23 : decode cX6_suppose 23 = .ok (.invokestatic 68, 3) := by decide +kernel
theorem dX6_suppose_26 : decode cX6_suppose 26 = .ok (.aload_n 0, 1) := by decide +kernel
theorem dX6_suppose_27 : decode cX6_suppose 27 = .ok (.iload_n 3, 1) := by decide +kernel
theorem dX6_suppose_28 : decode cX6_suppose 28 = .ok (.putfield 25, 3) := by decide +kernel
theorem dX6_suppose_31 : decode cX6_suppose 31 = .ok (.iconst 0, 1) := by decide +kernel
theorem dX6_suppose_32 : decode cX6_suppose 32 = .ok (.istore 4, 2) := by decide +kernel
theorem dX6_suppose_34 : decode cX6_suppose 34 = .ok (.iload 4, 2) := by decide +kernel
theorem dX6_suppose_36 : decode cX6_suppose 36 = .ok (.aload_n 0, 1) := by decide +kernel
theorem dX6_suppose_37 : decode cX6_suppose 37 = .ok (.getfield 47, 3) := by decide +kernel
theorem dX6_suppose_40 : decode cX6_suppose 40 = .ok (.getfield 74, 3) := by decide +kernel
theorem dX6_suppose_43 : decode cX6_suppose 43 = .ok (.if_icmp .ge 130, 3) := by decide +kernel
theorem dX6_suppose_46 : decode cX6_suppose 46 = .ok (.aload_n 0, 1) := by decide +kernel
theorem dX6_suppose_47 : decode cX6_suppose 47 = .ok (.getfield 9, 3) := by decide +kernel
theorem dX6_suppose_50 : decode cX6_suppose 50 = .ok (.iload 4, 2) := by decide +kernel
theorem dX6_suppose_52 : decode cX6_suppose 52 = .ok (.aload_n 0, 1) := by decide +kernel
theorem dX6_suppose_53 : decode cX6_suppose 53 = .ok (.getfield 51, 3) := by decide +kernel
theorem dX6_suppose_56 : decode cX6_suppose 56 = .ok (.iload 4, 2) := by decide +kernel
theorem dX6_suppose_58 : decode cX6_suppose 58 = .ok (.iload_n 2, 1) := by decide +kernel
theorem dX6_suppose_59 : decode cX6_suppose 59 = .ok (.invokevirtual 79, 3) := by decide +kernel
theorem dX6_suppose_62 : decode cX6_suppose 62 = .ok (.bastore, 1) := by decide +kernel
theorem dX6_suppose_63 : decode cX6_suppose 63 = .ok (.aload_n 0, 1) := by decide +kernel
theorem dX6_suppose_64 : decode cX6_suppose 64 = .ok (.getfield 9, 3) := by decide +kernel
theorem dX6_suppose_67 : decode cX6_suppose 67 = .ok (.iload 4, 2) := by decide +kernel
theorem dX6_suppose_69 : decode cX6_suppose 69 = .ok (.baload, 1) := by decide +kernel
theorem dX6_suppose_70 : decode cX6_suppose 70 = .ok (.ifCond .ne 6, 3) := by decide +kernel
theorem dX6_suppose_73 : decode cX6_suppose 73 = .ok (.goto 94, 3) := by decide +kernel
theorem dX6_suppose_76 : decode cX6_suppose 76 = .ok (.aload_n 0, 1) := by decide +kernel
theorem dX6_suppose_77 : decode cX6_suppose 77 = .ok (.getfield 51, 3) := by decide +kernel
theorem dX6_suppose_80 : decode cX6_suppose 80 = .ok (.iload 4, 2) := by decide +kernel
theorem dX6_suppose_82 : decode cX6_suppose 82 = .ok (.iload_n 2, 1) := by decide +kernel
theorem dX6_suppose_83 : decode cX6_suppose 83 = .ok (.invokevirtual 85, 3) := by decide +kernel
theorem dX6_suppose_86 : decode cX6_suppose 86 = .ok (.istore 5, 2) := by decide +kernel
theorem dX6_suppose_88 : decode cX6_suppose 88 = .ok (.aload_n 0, 1) := by decide +kernel
theorem dX6_suppose_89 : decode cX6_suppose 89 = .ok (.getfield 51, 3) := by decide +kernel
theorem dX6_suppose_92 : decode cX6_suppose 92 = .ok (.iload 4, 2) := by decide +kernel
theorem dX6_suppose_94 : decode cX6_suppose 94 = .ok (.iload_n 2, 1) := by decide +kernel
theorem dX6_suppose_95 : decode cX6_suppose 95 = .ok (.invokevirtual 89, 3) := by decide +kernel
theorem dX6_suppose_98 : decode cX6_suppose 98 = .ok (.istore 6, 2) := by decide +kernel
theorem dX6_suppose_100 : decode cX6_suppose 100 = .ok (.iload 4, 2) := by decide +kernel
theorem dX6_suppose_102 : decode cX6_suppose 102 = .ok (.bipush 10, 2) := by decide +kernel
theorem dX6_suppose_104 : decode cX6_suppose 104 = .ok (.imul, 1) := by decide +kernel
theorem dX6_suppose_105 : decode cX6_suppose 105 = .ok (.iload 5, 2) := by decide +kernel
theorem dX6_suppose_107 : decode cX6_suppose 107 = .ok (.iadd, 1) := by decide +kernel
theorem dX6_suppose_108 : decode cX6_suppose 108 = .ok (.istore 7, 2) := by decide +kernel
theorem dX6_suppose_110 : decode cX6_suppose 110 = .ok (.aload_n 0, 1) := by decide +kernel
theorem dX6_suppose_111 : decode cX6_suppose 111 = .ok (.getfield 19, 3) := by decide +kernel
theorem dX6_suppose_114 : decode cX6_suppose 114 = .ok (.iload 7, 2) := by decide +kernel
theorem dX6_suppose_116 : decode cX6_suppose 116 = .ok (.iaload, 1) := by decide +kernel
theorem dX6_suppose_117 : decode cX6_suppose 117 = .ok (.iload 6, 2) := by decide +kernel
theorem dX6_suppose_119 : decode cX6_suppose 119 = .ok (.if_icmp .eq 34, 3) := by decide +kernel
theorem dX6_suppose_122 : decode cX6_suppose 122 = .ok (.aload_n 0, 1) := by decide +kernel
theorem dX6_suppose_123 : decode cX6_suppose 123 = .ok (.getfield 19, 3) := by decide +kernel
theorem dX6_suppose_126 : decode cX6_suppose 126 = .ok (.iload 7, 2) := by decide +kernel
theorem dX6_suppose_128 : decode cX6_suppose 128 = .ok (.iload 6, 2) := by decide +kernel
theorem dX6_suppose_130 : decode cX6_suppose 130 = .ok (.iastore, 1) := by decide +kernel
theorem dX6_suppose_131 : decode cX6_suppose 131 = .ok (.aload_n 0, 1) := by decide +kernel
theorem dX6_suppose_132 : decode cX6_suppose 132 = .ok (.getfield 22, 3) := by decide +kernel
theorem dX6_suppose_135 : decode cX6_suppose 135 = .ok (.iload 7, 2) := by decide +kernel
theorem dX6_suppose_137 : decode cX6_suppose 137 = .ok (.aload_n 0, 1) := by decide +kernel
theorem dX6_suppose_138 : decode cX6_suppose 138 = .ok (.getfield 55, 3) := by decide +kernel
theorem dX6_suppose_141 : decode cX6_suppose 141 = .ok (.aload_n 1, 1) := by decide +kernel
theorem dX6_suppose_142 : decode cX6_suppose 142 = .ok (.iload 4, 2) := by decide +kernel
theorem dX6_suppose_144 : decode cX6_suppose 144 = .ok (.iload 5, 2) := by decide +kernel
theorem dX6_suppose_146 : decode cX6_suppose 146 = .ok (.iload 6, 2) := by decide +kernel
theorem dX6_suppose_148 : decode cX6_suppose 148 = .ok (.iload_n 3, 1) := by decide +kernel
theorem dX6_suppose_149 : decode cX6_suppose 149 = .ok (.invokevirtual 92, 3) := by decide +kernel
theorem dX6_suppose_152 : decode cX6_suppose 152 = .ok (.iastore, 1) := by decide +kernel
theorem dX6_suppose_153 : decode cX6_suppose 153 = .ok (.aload_n 0, 1) := by decide +kernel
theorem dX6_suppose_154 : decode cX6_suppose 154 = .ok (.getfield 15, 3) := by decide +kernel
theorem dX6_suppose_157 : decode cX6_suppose 157 = .ok (.iload 4, 2) := by decide +kernel
theorem dX6_suppose_159 : decode cX6_suppose 159 = .ok (.aload_n 0, 1) := by decide +kernel
theorem dX6_suppose_160 : decode cX6_suppose 160 = .ok (.getfield 22, 3) := by decide +kernel
theorem dX6_suppose_163 : decode cX6_suppose 163 = .ok (.iload 7, 2) := by decide +kernel
theorem dX6_suppose_165 : decode cX6_suppose 165 = .ok (.iaload, 1) := by decide +kernel
theorem dX6_suppose_166 : decode cX6_suppose 166 = .ok (.iastore, 1) := by decide +kernel
theorem dX6_suppose_167 : decode cX6_suppose 167 = .ok (.iinc 4 1, 3) := by decide +kernel
theorem dX6_suppose_170 : decode cX6_suppose 170 = .ok (.goto (-136), 3) := by decide +kernel
theorem dX6_suppose_173 : decode cX6_suppose 173 = .ok (.return_, 1) := by decide +kernel
theorem gX6_suppose_0 {d : Nat} {M : ev_Mem} {Q : Option Value → ev_Mem → Prop} {x2 : Int32} {k : Nat} (hk : ev_isT k) (h : (∀ M1 : ev_Mem, M1 = ev_wr M 86 3 x2 → ((((bc x2) = (M1.1 86 8)) → (Ev LX (d + 1) mX6_suppose 34 [some (.ref 86), some (.ref k), some (.int x2), some (.int (bc x2)), some (.int 0), none, none, none] [] M1 Q)) ∧ ((¬ (bc x2) = (M1.1 86 8)) → (∃ Q2 : Option Value → ev_Mem → Prop, Cl LX d mJ7_fill_53178 [.ref 89, .int (-1)] M1 Q2 ∧ ∀ (zr : Option Value) (zM : ev_Mem), Q2 zr zM → Ev LX (d + 1) mX6_suppose 26 [some (.ref 86), some (.ref k), some (.int x2), some (.int (bc x2)), none, none, none, none] (zr.toList ++ []) zM Q))))) : Ev LX (d + 1) mX6_suppose 0 [some (.ref 86), some (.ref k), some (.int x2), none, none, none, none, none] [] M Q := by
  refine ev_aload_n dX6_suppose_0 rfl ?_
  refine ev_iload_n dX6_suppose_1 rfl ?_
  refine ev_putI dX6_suppose_2 fp_WithoutE_Speech_59 lx_86 rfl rfl rfl ?_
  generalize eM1 : ev_wr M 86 3 x2 = M1
  replace h := h M1 eM1.symm
  refine ev_iload_n dX6_suppose_5 rfl ?_
  refine ev_callS [.int x2] dX6_suppose_6 ml_WithoutE_Speech_62 rfl (Nat.le_of_ble_eq_true rfl) (kJ6_bitCount) ?_
  rintro zr zM ⟨q1, q2⟩
  rw [q1, q2]
  show Ev LX (d + 1) mX6_suppose 9 [some (.ref 86), some (.ref k), some (.int x2), none, none, none, none, none] [(.int (bc x2))] M1 Q
  refine ev_istore_n (ls2 := [some (.ref 86), some (.ref k), some (.int x2), some (.int (bc x2)), none, none, none, none]) dX6_suppose_9 (Nat.le_of_ble_eq_true rfl) rfl ?_
  refine ev_iload_n dX6_suppose_10 rfl ?_
  refine ev_aload_n dX6_suppose_11 rfl ?_
  refine ev_getI dX6_suppose_12 fl_WithoutE_Speech_25 lx_86 rfl ?_
  refine ev_icmp_eq (tgt := 31) dX6_suppose_15 (by decide) (fun c => ?_) (fun c => ?_)
  · replace h := h.1 c
    refine ev_iconst (v := 0) dX6_suppose_31 (by decide) ?_
    refine ev_istore (ls2 := [some (.ref 86), some (.ref k), some (.int x2), some (.int (bc x2)), some (.int 0), none, none, none]) dX6_suppose_32 (Nat.le_of_ble_eq_true rfl) rfl ?_
    exact h
  · replace h := h.2 c
    refine ev_aload_n dX6_suppose_18 rfl ?_
    refine ev_getA dX6_suppose_19 fl_WithoutE_Speech_19 lx_86 rfl ?_
    refine ev_iconst (v := -1) dX6_suppose_22 (by decide) ?_
    obtain ⟨Q2, hc, h⟩ := h
    refine ev_callS [.ref 89, .int (-1)] dX6_suppose_23 ml_WithoutE_Speech_68 rfl (Nat.le_of_ble_eq_true rfl) hc (fun zr zM q => ?_)
    exact h zr zM q
theorem gX6_suppose_34 {d : Nat} {M : ev_Mem} {Q : Option Value → ev_Mem → Prop} {x2 x3 x4 : Int32} {k : Nat} (hk : ev_isT k) (h : ((((M.1 3 5) ≤ x4) → (Q none M)) ∧ ((¬ (M.1 3 5) ≤ x4) → ((wd M x4) ∧ (vp_in x4 24 ∧ (∀ M1 : ev_Mem, M1 = ev_wr M 87 x4.toNatClampNeg (bi (xC M x4 x2)) → (vp_in x4 24 ∧ (((¬ (M1.1 87 x4.toNatClampNeg) = 0) → ((wd M1 x4) ∧ ((wd M1 x4) ∧ (∀ v1 : Int32, v1 = (x4 * 10) + (nI (xH M1 x4 x2)) → (vp_in v1 240 ∧ ((((M1.1 89 v1.toNatClampNeg) = (xE M1 x4 x2)) → (vp_in v1 240 ∧ (vp_in x4 24 ∧ (∀ M2 : ev_Mem, M2 = ev_wr M1 88 x4.toNatClampNeg (M1.1 90 v1.toNatClampNeg) → (Ev LX (d + 3) mX6_suppose 34 [some (.ref 86), some (.ref k), some (.int x2), some (.int x3), some (.int (x4 + 1)), none, none, none] [] M2 Q))))) ∧ ((¬ (M1.1 89 v1.toNatClampNeg) = (xE M1 x4 x2)) → (vp_in v1 240 ∧ (∀ M3 : ev_Mem, M3 = ev_wr M1 89 v1.toNatClampNeg (xE M1 x4 x2) → (∃ Q2 : Option Value → ev_Mem → Prop, Cl LX (d + 2) mX1_stiffness [.ref 83, .ref k, .int x4, .int (nI (xH M1 x4 x2)), .int (xE M1 x4 x2), .int x3] M3 Q2 ∧ ∀ (zr : Option Value) (zM : ev_Mem), Q2 zr zM → Ev LX (d + 3) mX6_suppose 152 [some (.ref 86), some (.ref k), some (.int x2), some (.int x3), some (.int x4), none, none, some (.int v1)] (zr.toList ++ [(.int v1), (.ref 90)]) zM Q)))))))))) ∧ (((M1.1 87 x4.toNatClampNeg) = 0) → (Ev LX (d + 3) mX6_suppose 34 [some (.ref 86), some (.ref k), some (.int x2), some (.int x3), some (.int (x4 + 1)), none, none, none] [] M1 Q)))))))))) : Ev LX (d + 3) mX6_suppose 34 [some (.ref 86), some (.ref k), some (.int x2), some (.int x3), some (.int x4), none, none, none] [] M Q := by
  refine ev_iload dX6_suppose_34 rfl ?_
  refine ev_aload_n dX6_suppose_36 rfl ?_
  refine ev_getA dX6_suppose_37 fl_WithoutE_Speech_47 lx_86 rfl ?_
  refine ev_getI dX6_suppose_40 fl_WithoutE_Speech_74 lx_3 rfl ?_
  refine ev_icmp_ge (tgt := 173) dX6_suppose_43 (by decide) (fun c => ?_) (fun c => ?_)
  · replace h := h.1 c
    exact ev_vret dX6_suppose_173 rfl h
  · replace h := h.2 c
    refine ev_aload_n dX6_suppose_46 rfl ?_
    refine ev_getA dX6_suppose_47 fl_WithoutE_Speech_9 lx_86 rfl ?_
    refine ev_iload dX6_suppose_50 rfl ?_
    refine ev_aload_n dX6_suppose_52 rfl ?_
    refine ev_getA dX6_suppose_53 fl_WithoutE_Speech_51 lx_86 rfl ?_
    refine ev_iload dX6_suppose_56 rfl ?_
    refine ev_iload_n dX6_suppose_58 rfl ?_
    obtain ⟨p1, h⟩ := h
    refine ev_callV [.int x4, .int x2] dX6_suppose_59 ml_WithoutE_Speech_79 lx_82 rfl rfl (Nat.le_of_ble_eq_true rfl) (qX5_canBe p1) ?_
    rintro zr zM ⟨q1, q2⟩
    rw [q1, q2]
    show Ev LX (d + 3) mX6_suppose 62 [some (.ref 86), some (.ref k), some (.int x2), some (.int x3), some (.int x4), none, none, none] [(.int (bi (xC M x4 x2))), (.int x4), (.ref 87)] M Q
    obtain ⟨c, h⟩ := h
    refine ev_zast dX6_suppose_62 lx_87 c (bi_vn _) ?_
    generalize eM1 : ev_wr M 87 x4.toNatClampNeg (bi (xC M x4 x2)) = M1
    replace h := h M1 eM1.symm
    refine ev_aload_n dX6_suppose_63 rfl ?_
    refine ev_getA dX6_suppose_64 fl_WithoutE_Speech_9 lx_86 rfl ?_
    refine ev_iload dX6_suppose_67 rfl ?_
    obtain ⟨c, h⟩ := h
    refine ev_zald dX6_suppose_69 lx_87 c ?_
    refine ev_if_ne (tgt := 76) dX6_suppose_70 (by decide) (fun c => ?_) (fun c => ?_)
    · replace h := h.1 c
      refine ev_aload_n dX6_suppose_76 rfl ?_
      refine ev_getA dX6_suppose_77 fl_WithoutE_Speech_51 lx_86 rfl ?_
      refine ev_iload dX6_suppose_80 rfl ?_
      refine ev_iload_n dX6_suppose_82 rfl ?_
      obtain ⟨p1, h⟩ := h
      refine ev_callV [.int x4, .int x2] dX6_suppose_83 ml_WithoutE_Speech_85 lx_82 rfl rfl (Nat.le_of_ble_eq_true rfl) (qX5_holesOf p1) ?_
      rintro zr zM ⟨q1, q2⟩
      rw [q1, q2]
      show Ev LX (d + 3) mX6_suppose 86 [some (.ref 86), some (.ref k), some (.int x2), some (.int x3), some (.int x4), none, none, none] [(.int (nI (xH M1 x4 x2)))] M1 Q
      refine ev_istore (ls2 := [some (.ref 86), some (.ref k), some (.int x2), some (.int x3), some (.int x4), some (.int (nI (xH M1 x4 x2))), none, none]) dX6_suppose_86 (Nat.le_of_ble_eq_true rfl) rfl ?_
      refine ev_aload_n dX6_suppose_88 rfl ?_
      refine ev_getA dX6_suppose_89 fl_WithoutE_Speech_51 lx_86 rfl ?_
      refine ev_iload dX6_suppose_92 rfl ?_
      refine ev_iload_n dX6_suppose_94 rfl ?_
      obtain ⟨p1, h⟩ := h
      refine ev_callV [.int x4, .int x2] dX6_suppose_95 ml_WithoutE_Speech_89 lx_82 rfl rfl (Nat.le_of_ble_eq_true rfl) (qX5_extraOf p1) ?_
      rintro zr zM ⟨q1, q2⟩
      rw [q1, q2]
      show Ev LX (d + 3) mX6_suppose 98 [some (.ref 86), some (.ref k), some (.int x2), some (.int x3), some (.int x4), some (.int (nI (xH M1 x4 x2))), none, none] [(.int (xE M1 x4 x2))] M1 Q
      refine ev_istore (ls2 := [some (.ref 86), some (.ref k), some (.int x2), some (.int x3), some (.int x4), some (.int (nI (xH M1 x4 x2))), some (.int (xE M1 x4 x2)), none]) dX6_suppose_98 (Nat.le_of_ble_eq_true rfl) rfl ?_
      refine ev_iload dX6_suppose_100 rfl ?_
      refine ev_bipush (v := 10) dX6_suppose_102 (by decide) ?_
      refine ev_imul dX6_suppose_104 ?_
      refine ev_iload dX6_suppose_105 rfl ?_
      refine ev_iadd dX6_suppose_107 ?_
      refine ev_istore (ls2 := [some (.ref 86), some (.ref k), some (.int x2), some (.int x3), some (.int x4), some (.int (nI (xH M1 x4 x2))), some (.int (xE M1 x4 x2)), some (.int ((x4 * 10) + (nI (xH M1 x4 x2))))]) dX6_suppose_108 (Nat.le_of_ble_eq_true rfl) rfl ?_
      generalize ev1 : (x4 * 10) + (nI (xH M1 x4 x2)) = v1
      replace h := h v1 ev1.symm
      refine ev_aload_n dX6_suppose_110 rfl ?_
      refine ev_getA dX6_suppose_111 fl_WithoutE_Speech_19 lx_86 rfl ?_
      refine ev_iload dX6_suppose_114 rfl ?_
      obtain ⟨c, h⟩ := h
      refine ev_iald dX6_suppose_116 lx_89 c ?_
      refine ev_iload dX6_suppose_117 rfl ?_
      refine ev_icmp_eq (tgt := 153) dX6_suppose_119 (by decide) (fun c => ?_) (fun c => ?_)
      · replace h := h.1 c
        refine ev_aload_n dX6_suppose_153 rfl ?_
        refine ev_getA dX6_suppose_154 fl_WithoutE_Speech_15 lx_86 rfl ?_
        refine ev_iload dX6_suppose_157 rfl ?_
        refine ev_aload_n dX6_suppose_159 rfl ?_
        refine ev_getA dX6_suppose_160 fl_WithoutE_Speech_22 lx_86 rfl ?_
        refine ev_iload dX6_suppose_163 rfl ?_
        obtain ⟨c, h⟩ := h
        refine ev_iald dX6_suppose_165 lx_90 c ?_
        obtain ⟨c, h⟩ := h
        refine ev_iast dX6_suppose_166 lx_88 c ?_
        generalize eM2 : ev_wr M1 88 x4.toNatClampNeg (M1.1 90 v1.toNatClampNeg) = M2
        replace h := h M2 eM2.symm
        refine ev_iinc (v := x4 + 1) (ls2 := [some (.ref 86), some (.ref k), some (.int x2), some (.int x3), some (.int (x4 + 1)), some (.int (nI (xH M1 x4 x2))), some (.int (xE M1 x4 x2)), some (.int v1)]) dX6_suppose_167 rfl rfl rfl ?_
        refine ev_goto (tgt := 34) dX6_suppose_170 (by decide) ?_
        refine Ev.weak (ls := [some (.ref 86), some (.ref k), some (.int x2), some (.int x3), some (.int (x4 + 1)), none, none, none]) ⟨rfl, rfl, rfl, rfl, rfl, trivial⟩ ?_
        exact h
      · replace h := h.2 c
        refine ev_aload_n dX6_suppose_122 rfl ?_
        refine ev_getA dX6_suppose_123 fl_WithoutE_Speech_19 lx_86 rfl ?_
        refine ev_iload dX6_suppose_126 rfl ?_
        refine ev_iload dX6_suppose_128 rfl ?_
        obtain ⟨c, h⟩ := h
        refine ev_iast dX6_suppose_130 lx_89 c ?_
        generalize eM3 : ev_wr M1 89 v1.toNatClampNeg (xE M1 x4 x2) = M3
        replace h := h M3 eM3.symm
        refine ev_aload_n dX6_suppose_131 rfl ?_
        refine ev_getA dX6_suppose_132 fl_WithoutE_Speech_22 lx_86 rfl ?_
        refine ev_iload dX6_suppose_135 rfl ?_
        refine ev_aload_n dX6_suppose_137 rfl ?_
        refine ev_getA dX6_suppose_138 fl_WithoutE_Speech_55 lx_86 rfl ?_
        refine ev_aload_n dX6_suppose_141 rfl ?_
        refine ev_iload dX6_suppose_142 rfl ?_
        refine ev_iload dX6_suppose_144 rfl ?_
        refine ev_iload dX6_suppose_146 rfl ?_
        refine ev_iload_n dX6_suppose_148 rfl ?_
        obtain ⟨Q2, hc, h⟩ := h
        refine ev_callV [.ref k, .int x4, .int (nI (xH M1 x4 x2)), .int (xE M1 x4 x2), .int x3] dX6_suppose_149 ml_WithoutE_Speech_92 lx_83 rfl rfl (Nat.le_of_ble_eq_true rfl) hc (fun zr zM q => ?_)
        refine Ev.weak (ls := [some (.ref 86), some (.ref k), some (.int x2), some (.int x3), some (.int x4), none, none, some (.int v1)]) ⟨rfl, rfl, rfl, rfl, rfl, rfl, trivial⟩ ?_
        exact h zr zM q
    · replace h := h.2 c
      refine ev_goto (tgt := 167) dX6_suppose_73 (by decide) ?_
      refine ev_iinc (v := x4 + 1) (ls2 := [some (.ref 86), some (.ref k), some (.int x2), some (.int x3), some (.int (x4 + 1)), none, none, none]) dX6_suppose_167 rfl rfl rfl ?_
      refine ev_goto (tgt := 34) dX6_suppose_170 (by decide) ?_
      exact h
theorem gX6_suppose_26 {d : Nat} {M : ev_Mem} {Q : Option Value → ev_Mem → Prop} {x2 x3 : Int32} {k : Nat} (hk : ev_isT k) (h : (∀ M1 : ev_Mem, M1 = ev_wr M 86 8 x3 → (Ev LX d mX6_suppose 34 [some (.ref 86), some (.ref k), some (.int x2), some (.int x3), some (.int 0), none, none, none] [] M1 Q))) : Ev LX d mX6_suppose 26 [some (.ref 86), some (.ref k), some (.int x2), some (.int x3), none, none, none, none] [] M Q := by
  refine ev_aload_n dX6_suppose_26 rfl ?_
  refine ev_iload_n dX6_suppose_27 rfl ?_
  refine ev_putI dX6_suppose_28 fp_WithoutE_Speech_25 lx_86 rfl rfl rfl ?_
  generalize eM1 : ev_wr M 86 8 x3 = M1
  replace h := h M1 eM1.symm
  refine ev_iconst (v := 0) dX6_suppose_31 (by decide) ?_
  refine ev_istore (ls2 := [some (.ref 86), some (.ref k), some (.int x2), some (.int x3), some (.int 0), none, none, none]) dX6_suppose_32 (Nat.le_of_ble_eq_true rfl) rfl ?_
  exact h
theorem gX6_suppose_152 {d : Nat} {M : ev_Mem} {Q : Option Value → ev_Mem → Prop} {x2 x3 x4 x7 s0 s1 : Int32} {k : Nat} (hk : ev_isT k) (h : (vp_in s1 240 ∧ (∀ M1 : ev_Mem, M1 = ev_wr M 90 s1.toNatClampNeg s0 → (vp_in x7 240 ∧ (vp_in x4 24 ∧ (∀ M2 : ev_Mem, M2 = ev_wr M1 88 x4.toNatClampNeg (M1.1 90 x7.toNatClampNeg) → (Ev LX d mX6_suppose 34 [some (.ref 86), some (.ref k), some (.int x2), some (.int x3), some (.int (x4 + 1)), none, none, none] [] M2 Q))))))) : Ev LX d mX6_suppose 152 [some (.ref 86), some (.ref k), some (.int x2), some (.int x3), some (.int x4), none, none, some (.int x7)] [(.int s0), (.int s1), (.ref 90)] M Q := by
  obtain ⟨c, h⟩ := h
  refine ev_iast dX6_suppose_152 lx_90 c ?_
  generalize eM1 : ev_wr M 90 s1.toNatClampNeg s0 = M1
  replace h := h M1 eM1.symm
  refine ev_aload_n dX6_suppose_153 rfl ?_
  refine ev_getA dX6_suppose_154 fl_WithoutE_Speech_15 lx_86 rfl ?_
  refine ev_iload dX6_suppose_157 rfl ?_
  refine ev_aload_n dX6_suppose_159 rfl ?_
  refine ev_getA dX6_suppose_160 fl_WithoutE_Speech_22 lx_86 rfl ?_
  refine ev_iload dX6_suppose_163 rfl ?_
  obtain ⟨c, h⟩ := h
  refine ev_iald dX6_suppose_165 lx_90 c ?_
  obtain ⟨c, h⟩ := h
  refine ev_iast dX6_suppose_166 lx_88 c ?_
  generalize eM2 : ev_wr M1 88 x4.toNatClampNeg (M1.1 90 x7.toNatClampNeg) = M2
  replace h := h M2 eM2.symm
  refine ev_iinc (v := x4 + 1) (ls2 := [some (.ref 86), some (.ref k), some (.int x2), some (.int x3), some (.int (x4 + 1)), none, none, some (.int x7)]) dX6_suppose_167 rfl rfl rfl ?_
  refine ev_goto (tgt := 34) dX6_suppose_170 (by decide) ?_
  refine Ev.weak (ls := [some (.ref 86), some (.ref k), some (.int x2), some (.int x3), some (.int (x4 + 1)), none, none, none]) ⟨rfl, rfl, rfl, rfl, rfl, trivial⟩ ?_
  exact h
theorem gX6_supposeN_0 {d : Nat} {M : ev_Mem} {Q : Option Value → ev_Mem → Prop} {x2 : Int32} (h : (∀ M1 : ev_Mem, M1 = ev_wr M 86 3 x2 → ((((bc x2) = (M1.1 86 8)) → (Ev LX (d + 1) mX6_suppose 34 [some (.ref 86), some (.null), some (.int x2), some (.int (bc x2)), some (.int 0), none, none, none] [] M1 Q)) ∧ ((¬ (bc x2) = (M1.1 86 8)) → (∃ Q2 : Option Value → ev_Mem → Prop, Cl LX d mJ7_fill_53178 [.ref 89, .int (-1)] M1 Q2 ∧ ∀ (zr : Option Value) (zM : ev_Mem), Q2 zr zM → Ev LX (d + 1) mX6_suppose 26 [some (.ref 86), some (.null), some (.int x2), some (.int (bc x2)), none, none, none, none] (zr.toList ++ []) zM Q))))) : Ev LX (d + 1) mX6_suppose 0 [some (.ref 86), some (.null), some (.int x2), none, none, none, none, none] [] M Q := by
  refine ev_aload_n dX6_suppose_0 rfl ?_
  refine ev_iload_n dX6_suppose_1 rfl ?_
  refine ev_putI dX6_suppose_2 fp_WithoutE_Speech_59 lx_86 rfl rfl rfl ?_
  generalize eM1 : ev_wr M 86 3 x2 = M1
  replace h := h M1 eM1.symm
  refine ev_iload_n dX6_suppose_5 rfl ?_
  refine ev_callS [.int x2] dX6_suppose_6 ml_WithoutE_Speech_62 rfl (Nat.le_of_ble_eq_true rfl) (kJ6_bitCount) ?_
  rintro zr zM ⟨q1, q2⟩
  rw [q1, q2]
  show Ev LX (d + 1) mX6_suppose 9 [some (.ref 86), some (.null), some (.int x2), none, none, none, none, none] [(.int (bc x2))] M1 Q
  refine ev_istore_n (ls2 := [some (.ref 86), some (.null), some (.int x2), some (.int (bc x2)), none, none, none, none]) dX6_suppose_9 (Nat.le_of_ble_eq_true rfl) rfl ?_
  refine ev_iload_n dX6_suppose_10 rfl ?_
  refine ev_aload_n dX6_suppose_11 rfl ?_
  refine ev_getI dX6_suppose_12 fl_WithoutE_Speech_25 lx_86 rfl ?_
  refine ev_icmp_eq (tgt := 31) dX6_suppose_15 (by decide) (fun c => ?_) (fun c => ?_)
  · replace h := h.1 c
    refine ev_iconst (v := 0) dX6_suppose_31 (by decide) ?_
    refine ev_istore (ls2 := [some (.ref 86), some (.null), some (.int x2), some (.int (bc x2)), some (.int 0), none, none, none]) dX6_suppose_32 (Nat.le_of_ble_eq_true rfl) rfl ?_
    exact h
  · replace h := h.2 c
    refine ev_aload_n dX6_suppose_18 rfl ?_
    refine ev_getA dX6_suppose_19 fl_WithoutE_Speech_19 lx_86 rfl ?_
    refine ev_iconst (v := -1) dX6_suppose_22 (by decide) ?_
    obtain ⟨Q2, hc, h⟩ := h
    refine ev_callS [.ref 89, .int (-1)] dX6_suppose_23 ml_WithoutE_Speech_68 rfl (Nat.le_of_ble_eq_true rfl) hc (fun zr zM q => ?_)
    exact h zr zM q
theorem gX6_supposeN_34 {d : Nat} {M : ev_Mem} {Q : Option Value → ev_Mem → Prop} {x2 x3 x4 : Int32} (h : ((((M.1 3 5) ≤ x4) → (Q none M)) ∧ ((¬ (M.1 3 5) ≤ x4) → ((wd M x4) ∧ (vp_in x4 24 ∧ (∀ M1 : ev_Mem, M1 = ev_wr M 87 x4.toNatClampNeg (bi (xC M x4 x2)) → (vp_in x4 24 ∧ (((¬ (M1.1 87 x4.toNatClampNeg) = 0) → ((wd M1 x4) ∧ ((wd M1 x4) ∧ (∀ v1 : Int32, v1 = (x4 * 10) + (nI (xH M1 x4 x2)) → (vp_in v1 240 ∧ ((((M1.1 89 v1.toNatClampNeg) = (xE M1 x4 x2)) → (vp_in v1 240 ∧ (vp_in x4 24 ∧ (∀ M2 : ev_Mem, M2 = ev_wr M1 88 x4.toNatClampNeg (M1.1 90 v1.toNatClampNeg) → (Ev LX (d + 3) mX6_suppose 34 [some (.ref 86), some (.null), some (.int x2), some (.int x3), some (.int (x4 + 1)), none, none, none] [] M2 Q))))) ∧ ((¬ (M1.1 89 v1.toNatClampNeg) = (xE M1 x4 x2)) → (vp_in v1 240 ∧ (∀ M3 : ev_Mem, M3 = ev_wr M1 89 v1.toNatClampNeg (xE M1 x4 x2) → (∃ Q2 : Option Value → ev_Mem → Prop, Cl LX (d + 2) mX1_stiffness [.ref 83, .null, .int x4, .int (nI (xH M1 x4 x2)), .int (xE M1 x4 x2), .int x3] M3 Q2 ∧ ∀ (zr : Option Value) (zM : ev_Mem), Q2 zr zM → Ev LX (d + 3) mX6_suppose 152 [some (.ref 86), some (.null), some (.int x2), some (.int x3), some (.int x4), none, none, some (.int v1)] (zr.toList ++ [(.int v1), (.ref 90)]) zM Q)))))))))) ∧ (((M1.1 87 x4.toNatClampNeg) = 0) → (Ev LX (d + 3) mX6_suppose 34 [some (.ref 86), some (.null), some (.int x2), some (.int x3), some (.int (x4 + 1)), none, none, none] [] M1 Q)))))))))) : Ev LX (d + 3) mX6_suppose 34 [some (.ref 86), some (.null), some (.int x2), some (.int x3), some (.int x4), none, none, none] [] M Q := by
  refine ev_iload dX6_suppose_34 rfl ?_
  refine ev_aload_n dX6_suppose_36 rfl ?_
  refine ev_getA dX6_suppose_37 fl_WithoutE_Speech_47 lx_86 rfl ?_
  refine ev_getI dX6_suppose_40 fl_WithoutE_Speech_74 lx_3 rfl ?_
  refine ev_icmp_ge (tgt := 173) dX6_suppose_43 (by decide) (fun c => ?_) (fun c => ?_)
  · replace h := h.1 c
    exact ev_vret dX6_suppose_173 rfl h
  · replace h := h.2 c
    refine ev_aload_n dX6_suppose_46 rfl ?_
    refine ev_getA dX6_suppose_47 fl_WithoutE_Speech_9 lx_86 rfl ?_
    refine ev_iload dX6_suppose_50 rfl ?_
    refine ev_aload_n dX6_suppose_52 rfl ?_
    refine ev_getA dX6_suppose_53 fl_WithoutE_Speech_51 lx_86 rfl ?_
    refine ev_iload dX6_suppose_56 rfl ?_
    refine ev_iload_n dX6_suppose_58 rfl ?_
    obtain ⟨p1, h⟩ := h
    refine ev_callV [.int x4, .int x2] dX6_suppose_59 ml_WithoutE_Speech_79 lx_82 rfl rfl (Nat.le_of_ble_eq_true rfl) (qX5_canBe p1) ?_
    rintro zr zM ⟨q1, q2⟩
    rw [q1, q2]
    show Ev LX (d + 3) mX6_suppose 62 [some (.ref 86), some (.null), some (.int x2), some (.int x3), some (.int x4), none, none, none] [(.int (bi (xC M x4 x2))), (.int x4), (.ref 87)] M Q
    obtain ⟨c, h⟩ := h
    refine ev_zast dX6_suppose_62 lx_87 c (bi_vn _) ?_
    generalize eM1 : ev_wr M 87 x4.toNatClampNeg (bi (xC M x4 x2)) = M1
    replace h := h M1 eM1.symm
    refine ev_aload_n dX6_suppose_63 rfl ?_
    refine ev_getA dX6_suppose_64 fl_WithoutE_Speech_9 lx_86 rfl ?_
    refine ev_iload dX6_suppose_67 rfl ?_
    obtain ⟨c, h⟩ := h
    refine ev_zald dX6_suppose_69 lx_87 c ?_
    refine ev_if_ne (tgt := 76) dX6_suppose_70 (by decide) (fun c => ?_) (fun c => ?_)
    · replace h := h.1 c
      refine ev_aload_n dX6_suppose_76 rfl ?_
      refine ev_getA dX6_suppose_77 fl_WithoutE_Speech_51 lx_86 rfl ?_
      refine ev_iload dX6_suppose_80 rfl ?_
      refine ev_iload_n dX6_suppose_82 rfl ?_
      obtain ⟨p1, h⟩ := h
      refine ev_callV [.int x4, .int x2] dX6_suppose_83 ml_WithoutE_Speech_85 lx_82 rfl rfl (Nat.le_of_ble_eq_true rfl) (qX5_holesOf p1) ?_
      rintro zr zM ⟨q1, q2⟩
      rw [q1, q2]
      show Ev LX (d + 3) mX6_suppose 86 [some (.ref 86), some (.null), some (.int x2), some (.int x3), some (.int x4), none, none, none] [(.int (nI (xH M1 x4 x2)))] M1 Q
      refine ev_istore (ls2 := [some (.ref 86), some (.null), some (.int x2), some (.int x3), some (.int x4), some (.int (nI (xH M1 x4 x2))), none, none]) dX6_suppose_86 (Nat.le_of_ble_eq_true rfl) rfl ?_
      refine ev_aload_n dX6_suppose_88 rfl ?_
      refine ev_getA dX6_suppose_89 fl_WithoutE_Speech_51 lx_86 rfl ?_
      refine ev_iload dX6_suppose_92 rfl ?_
      refine ev_iload_n dX6_suppose_94 rfl ?_
      obtain ⟨p1, h⟩ := h
      refine ev_callV [.int x4, .int x2] dX6_suppose_95 ml_WithoutE_Speech_89 lx_82 rfl rfl (Nat.le_of_ble_eq_true rfl) (qX5_extraOf p1) ?_
      rintro zr zM ⟨q1, q2⟩
      rw [q1, q2]
      show Ev LX (d + 3) mX6_suppose 98 [some (.ref 86), some (.null), some (.int x2), some (.int x3), some (.int x4), some (.int (nI (xH M1 x4 x2))), none, none] [(.int (xE M1 x4 x2))] M1 Q
      refine ev_istore (ls2 := [some (.ref 86), some (.null), some (.int x2), some (.int x3), some (.int x4), some (.int (nI (xH M1 x4 x2))), some (.int (xE M1 x4 x2)), none]) dX6_suppose_98 (Nat.le_of_ble_eq_true rfl) rfl ?_
      refine ev_iload dX6_suppose_100 rfl ?_
      refine ev_bipush (v := 10) dX6_suppose_102 (by decide) ?_
      refine ev_imul dX6_suppose_104 ?_
      refine ev_iload dX6_suppose_105 rfl ?_
      refine ev_iadd dX6_suppose_107 ?_
      refine ev_istore (ls2 := [some (.ref 86), some (.null), some (.int x2), some (.int x3), some (.int x4), some (.int (nI (xH M1 x4 x2))), some (.int (xE M1 x4 x2)), some (.int ((x4 * 10) + (nI (xH M1 x4 x2))))]) dX6_suppose_108 (Nat.le_of_ble_eq_true rfl) rfl ?_
      generalize ev1 : (x4 * 10) + (nI (xH M1 x4 x2)) = v1
      replace h := h v1 ev1.symm
      refine ev_aload_n dX6_suppose_110 rfl ?_
      refine ev_getA dX6_suppose_111 fl_WithoutE_Speech_19 lx_86 rfl ?_
      refine ev_iload dX6_suppose_114 rfl ?_
      obtain ⟨c, h⟩ := h
      refine ev_iald dX6_suppose_116 lx_89 c ?_
      refine ev_iload dX6_suppose_117 rfl ?_
      refine ev_icmp_eq (tgt := 153) dX6_suppose_119 (by decide) (fun c => ?_) (fun c => ?_)
      · replace h := h.1 c
        refine ev_aload_n dX6_suppose_153 rfl ?_
        refine ev_getA dX6_suppose_154 fl_WithoutE_Speech_15 lx_86 rfl ?_
        refine ev_iload dX6_suppose_157 rfl ?_
        refine ev_aload_n dX6_suppose_159 rfl ?_
        refine ev_getA dX6_suppose_160 fl_WithoutE_Speech_22 lx_86 rfl ?_
        refine ev_iload dX6_suppose_163 rfl ?_
        obtain ⟨c, h⟩ := h
        refine ev_iald dX6_suppose_165 lx_90 c ?_
        obtain ⟨c, h⟩ := h
        refine ev_iast dX6_suppose_166 lx_88 c ?_
        generalize eM2 : ev_wr M1 88 x4.toNatClampNeg (M1.1 90 v1.toNatClampNeg) = M2
        replace h := h M2 eM2.symm
        refine ev_iinc (v := x4 + 1) (ls2 := [some (.ref 86), some (.null), some (.int x2), some (.int x3), some (.int (x4 + 1)), some (.int (nI (xH M1 x4 x2))), some (.int (xE M1 x4 x2)), some (.int v1)]) dX6_suppose_167 rfl rfl rfl ?_
        refine ev_goto (tgt := 34) dX6_suppose_170 (by decide) ?_
        refine Ev.weak (ls := [some (.ref 86), some (.null), some (.int x2), some (.int x3), some (.int (x4 + 1)), none, none, none]) ⟨rfl, rfl, rfl, rfl, rfl, trivial⟩ ?_
        exact h
      · replace h := h.2 c
        refine ev_aload_n dX6_suppose_122 rfl ?_
        refine ev_getA dX6_suppose_123 fl_WithoutE_Speech_19 lx_86 rfl ?_
        refine ev_iload dX6_suppose_126 rfl ?_
        refine ev_iload dX6_suppose_128 rfl ?_
        obtain ⟨c, h⟩ := h
        refine ev_iast dX6_suppose_130 lx_89 c ?_
        generalize eM3 : ev_wr M1 89 v1.toNatClampNeg (xE M1 x4 x2) = M3
        replace h := h M3 eM3.symm
        refine ev_aload_n dX6_suppose_131 rfl ?_
        refine ev_getA dX6_suppose_132 fl_WithoutE_Speech_22 lx_86 rfl ?_
        refine ev_iload dX6_suppose_135 rfl ?_
        refine ev_aload_n dX6_suppose_137 rfl ?_
        refine ev_getA dX6_suppose_138 fl_WithoutE_Speech_55 lx_86 rfl ?_
        refine ev_aload_nN dX6_suppose_141 rfl ?_
        refine ev_iload dX6_suppose_142 rfl ?_
        refine ev_iload dX6_suppose_144 rfl ?_
        refine ev_iload dX6_suppose_146 rfl ?_
        refine ev_iload_n dX6_suppose_148 rfl ?_
        obtain ⟨Q2, hc, h⟩ := h
        refine ev_callV [.null, .int x4, .int (nI (xH M1 x4 x2)), .int (xE M1 x4 x2), .int x3] dX6_suppose_149 ml_WithoutE_Speech_92 lx_83 rfl rfl (Nat.le_of_ble_eq_true rfl) hc (fun zr zM q => ?_)
        refine Ev.weak (ls := [some (.ref 86), some (.null), some (.int x2), some (.int x3), some (.int x4), none, none, some (.int v1)]) ⟨rfl, rfl, rfl, rfl, rfl, rfl, trivial⟩ ?_
        exact h zr zM q
    · replace h := h.2 c
      refine ev_goto (tgt := 167) dX6_suppose_73 (by decide) ?_
      refine ev_iinc (v := x4 + 1) (ls2 := [some (.ref 86), some (.null), some (.int x2), some (.int x3), some (.int (x4 + 1)), none, none, none]) dX6_suppose_167 rfl rfl rfl ?_
      refine ev_goto (tgt := 34) dX6_suppose_170 (by decide) ?_
      exact h
theorem gX6_supposeN_26 {d : Nat} {M : ev_Mem} {Q : Option Value → ev_Mem → Prop} {x2 x3 : Int32} (h : (∀ M1 : ev_Mem, M1 = ev_wr M 86 8 x3 → (Ev LX d mX6_suppose 34 [some (.ref 86), some (.null), some (.int x2), some (.int x3), some (.int 0), none, none, none] [] M1 Q))) : Ev LX d mX6_suppose 26 [some (.ref 86), some (.null), some (.int x2), some (.int x3), none, none, none, none] [] M Q := by
  refine ev_aload_n dX6_suppose_26 rfl ?_
  refine ev_iload_n dX6_suppose_27 rfl ?_
  refine ev_putI dX6_suppose_28 fp_WithoutE_Speech_25 lx_86 rfl rfl rfl ?_
  generalize eM1 : ev_wr M 86 8 x3 = M1
  replace h := h M1 eM1.symm
  refine ev_iconst (v := 0) dX6_suppose_31 (by decide) ?_
  refine ev_istore (ls2 := [some (.ref 86), some (.null), some (.int x2), some (.int x3), some (.int 0), none, none, none]) dX6_suppose_32 (Nat.le_of_ble_eq_true rfl) rfl ?_
  exact h
theorem gX6_supposeN_152 {d : Nat} {M : ev_Mem} {Q : Option Value → ev_Mem → Prop} {x2 x3 x4 x7 s0 s1 : Int32} (h : (vp_in s1 240 ∧ (∀ M1 : ev_Mem, M1 = ev_wr M 90 s1.toNatClampNeg s0 → (vp_in x7 240 ∧ (vp_in x4 24 ∧ (∀ M2 : ev_Mem, M2 = ev_wr M1 88 x4.toNatClampNeg (M1.1 90 x7.toNatClampNeg) → (Ev LX d mX6_suppose 34 [some (.ref 86), some (.null), some (.int x2), some (.int x3), some (.int (x4 + 1)), none, none, none] [] M2 Q))))))) : Ev LX d mX6_suppose 152 [some (.ref 86), some (.null), some (.int x2), some (.int x3), some (.int x4), none, none, some (.int x7)] [(.int s0), (.int s1), (.ref 90)] M Q := by
  obtain ⟨c, h⟩ := h
  refine ev_iast dX6_suppose_152 lx_90 c ?_
  generalize eM1 : ev_wr M 90 s1.toNatClampNeg s0 = M1
  replace h := h M1 eM1.symm
  refine ev_aload_n dX6_suppose_153 rfl ?_
  refine ev_getA dX6_suppose_154 fl_WithoutE_Speech_15 lx_86 rfl ?_
  refine ev_iload dX6_suppose_157 rfl ?_
  refine ev_aload_n dX6_suppose_159 rfl ?_
  refine ev_getA dX6_suppose_160 fl_WithoutE_Speech_22 lx_86 rfl ?_
  refine ev_iload dX6_suppose_163 rfl ?_
  obtain ⟨c, h⟩ := h
  refine ev_iald dX6_suppose_165 lx_90 c ?_
  obtain ⟨c, h⟩ := h
  refine ev_iast dX6_suppose_166 lx_88 c ?_
  generalize eM2 : ev_wr M1 88 x4.toNatClampNeg (M1.1 90 x7.toNatClampNeg) = M2
  replace h := h M2 eM2.symm
  refine ev_iinc (v := x4 + 1) (ls2 := [some (.ref 86), some (.null), some (.int x2), some (.int x3), some (.int (x4 + 1)), none, none, some (.int x7)]) dX6_suppose_167 rfl rfl rfl ?_
  refine ev_goto (tgt := 34) dX6_suppose_170 (by decide) ?_
  refine Ev.weak (ls := [some (.ref 86), some (.null), some (.int x2), some (.int x3), some (.int (x4 + 1)), none, none, none]) ⟨rfl, rfl, rfl, rfl, rfl, trivial⟩ ?_
  exact h
theorem dX6_press_0 : decode cX6_press 0 = .ok (.iconst 0, 1) := by decide +kernel
theorem dX6_press_1 : decode cX6_press 1 = .ok (.istore_n 2, 1) := by decide +kernel
theorem dX6_press_2 : decode cX6_press 2 = .ok (.iload_n 2, 1) := by decide +kernel
theorem dX6_press_3 : decode cX6_press 3 = .ok (.aload_n 0, 1) := by decide +kernel
theorem dX6_press_4 : decode cX6_press 4 = .ok (.getfield 145, 3) := by decide +kernel
theorem dX6_press_7 : decode cX6_press 7 = .ok (.if_icmp .ge 85, 3) := by decide +kernel
theorem dX6_press_10 : decode cX6_press 10 = .ok (.aload_n 0, 1) := by decide +kernel
theorem dX6_press_11 : decode cX6_press 11 = .ok (.getfield 44, 3) := by decide +kernel
theorem dX6_press_14 : decode cX6_press 14 = .ok (.iload_n 2, 1) := by decide +kernel
theorem dX6_press_15 : decode cX6_press 15 = .ok (.iaload, 1) := by decide +kernel
theorem dX6_press_16 : decode cX6_press 16 = .ok (.istore_n 3, 1) := by decide +kernel
theorem dX6_press_17 : decode cX6_press 17 = .ok (.iconst 0, 1) := by decide +kernel
theorem dX6_press_18 : decode cX6_press 18 = .ok (.istore 4, 2) := by decide +kernel
theorem dX6_press_20 : decode cX6_press 20 = .ok (.iload 4, 2) := by decide +kernel
theorem dX6_press_22 : decode cX6_press 22 = .ok (.aload_n 0, 1) := by decide +kernel
theorem dX6_press_23 : decode cX6_press 23 = .ok (.getfield 47, 3) := by decide +kernel
theorem dX6_press_26 : decode cX6_press 26 = .ok (.getfield 162, 3) := by decide +kernel
theorem dX6_press_29 : decode cX6_press 29 = .ok (.iload_n 3, 1) := by decide +kernel
theorem dX6_press_30 : decode cX6_press 30 = .ok (.iaload, 1) := by decide +kernel
theorem dX6_press_31 : decode cX6_press 31 = .ok (.if_icmp .ge 55, 3) := by decide +kernel
theorem dX6_press_34 : decode cX6_press 34 = .ok (.aload_n 0, 1) := by decide +kernel
theorem dX6_press_35 : decode cX6_press 35 = .ok (.getfield 51, 3) := by decide +kernel
theorem dX6_press_38 : decode cX6_press 38 = .ok (.iload_n 3, 1) := by decide +kernel
theorem dX6_press_39 : decode cX6_press 39 = .ok (.iload 4, 2) := by decide +kernel
theorem dX6_press_41 : decode cX6_press 41 = .ok (.aload_n 0, 1) := by decide +kernel
theorem dX6_press_42 : decode cX6_press 42 = .ok (.getfield 59, 3) := by decide +kernel
theorem dX6_press_45 : decode cX6_press 45 = .ok (.invokevirtual 168, 3) := by decide +kernel
theorem dX6_press_48 : decode cX6_press 48 = .ok (.istore 5, 2) := by decide +kernel
theorem dX6_press_50 : decode cX6_press 50 = .ok (.iload 5, 2) := by decide +kernel
theorem dX6_press_52 : decode cX6_press 52 = .ok (.ifCond .lt 28, 3) := by decide +kernel
theorem dX6_press_55 : decode cX6_press 55 = .ok (.iload 5, 2) := by decide +kernel
theorem dX6_press_57 : decode cX6_press 57 = .ok (.aload_n 1, 1) := by decide +kernel
theorem dX6_press_58 : decode cX6_press 58 = .ok (.arraylength, 1) := by decide +kernel
theorem dX6_press_59 : decode cX6_press 59 = .ok (.if_icmp .ge 21, 3) := by decide +kernel
theorem dX6_press_62 : decode cX6_press 62 = .ok (.aload_n 1, 1) := by decide +kernel
theorem dX6_press_63 : decode cX6_press 63 = .ok (.iload 5, 2) := by decide +kernel
theorem dX6_press_65 : decode cX6_press 65 = .ok (.iaload, 1) := by decide +kernel
theorem dX6_press_66 : decode cX6_press 66 = .ok (.sipush 9999, 3) := by decide +kernel
theorem dX6_press_69 : decode cX6_press 69 = .ok (.if_icmp .ge 11, 3) := by decide +kernel
theorem dX6_press_72 : decode cX6_press 72 = .ok (.aload_n 1, 1) := by decide +kernel
theorem dX6_press_73 : decode cX6_press 73 = .ok (.iload 5, 2) := by decide +kernel
theorem dX6_press_75 : decode cX6_press 75 = .ok (.dup2, 1) := by decide +kernel
theorem dX6_press_76 : decode cX6_press 76 = .ok (.iaload, 1) := by decide +kernel
theorem dX6_press_77 : decode cX6_press 77 = .ok (.iconst 1, 1) := by decide +kernel
theorem dX6_press_78 : decode cX6_press 78 = .ok (.iadd, 1) := by decide +kernel
theorem dX6_press_79 : decode cX6_press 79 = .ok (.iastore, 1) := by decide +kernel
theorem dX6_press_80 : decode cX6_press 80 = .ok (.iinc 4 1, 3) := by decide +kernel
theorem dX6_press_83 : decode cX6_press 83 = .ok (.goto (-63), 3) := by decide +kernel
theorem dX6_press_86 : decode cX6_press 86 = .ok (.iinc 2 1, 3) := by decide +kernel
theorem dX6_press_89 : decode cX6_press 89 = .ok (.goto (-87), 3) := by decide +kernel
theorem dX6_press_92 : decode cX6_press 92 = .ok (.return_, 1) := by decide +kernel
theorem gX6_pressu_0 {d : Nat} {M : ev_Mem} {Q : Option Value → ev_Mem → Prop} (h : (Ev LX d mX6_press 2 [some (.ref 86), some (.ref 44), some (.int 0), none, none, none] [] M Q)) : Ev LX d mX6_press 0 [some (.ref 86), some (.ref 44), none, none, none, none] [] M Q := by
  refine ev_iconst (v := 0) dX6_press_0 (by decide) ?_
  refine ev_istore_n (ls2 := [some (.ref 86), some (.ref 44), some (.int 0), none, none, none]) dX6_press_1 (Nat.le_of_ble_eq_true rfl) rfl ?_
  exact h
theorem gX6_pressu_2 {d : Nat} {M : ev_Mem} {Q : Option Value → ev_Mem → Prop} {x2 : Int32} (h : ((((M.1 86 13) ≤ x2) → (Q none M)) ∧ ((¬ (M.1 86 13) ≤ x2) → (vp_in x2 5 ∧ (Ev LX d mX6_press 20 [some (.ref 86), some (.ref 44), some (.int x2), some (.int (M.1 99 x2.toNatClampNeg)), some (.int 0), none] [] M Q))))) : Ev LX d mX6_press 2 [some (.ref 86), some (.ref 44), some (.int x2), none, none, none] [] M Q := by
  refine ev_iload_n dX6_press_2 rfl ?_
  refine ev_aload_n dX6_press_3 rfl ?_
  refine ev_getI dX6_press_4 fl_WithoutE_Speech_145 lx_86 rfl ?_
  refine ev_icmp_ge (tgt := 92) dX6_press_7 (by decide) (fun c => ?_) (fun c => ?_)
  · replace h := h.1 c
    exact ev_vret dX6_press_92 rfl h
  · replace h := h.2 c
    refine ev_aload_n dX6_press_10 rfl ?_
    refine ev_getA dX6_press_11 fl_WithoutE_Speech_44 lx_86 rfl ?_
    refine ev_iload_n dX6_press_14 rfl ?_
    obtain ⟨c, h⟩ := h
    refine ev_iald dX6_press_15 lx_99 c ?_
    refine ev_istore_n (ls2 := [some (.ref 86), some (.ref 44), some (.int x2), some (.int (M.1 99 x2.toNatClampNeg)), none, none]) dX6_press_16 (Nat.le_of_ble_eq_true rfl) rfl ?_
    refine ev_iconst (v := 0) dX6_press_17 (by decide) ?_
    refine ev_istore (ls2 := [some (.ref 86), some (.ref 44), some (.int x2), some (.int (M.1 99 x2.toNatClampNeg)), some (.int 0), none]) dX6_press_18 (Nat.le_of_ble_eq_true rfl) rfl ?_
    exact h
theorem gX6_pressu_20 {d : Nat} {M : ev_Mem} {Q : Option Value → ev_Mem → Prop} {x2 x3 x4 : Int32} (h : (vp_in x3 24 ∧ ((((M.1 29 x3.toNatClampNeg) ≤ x4) → (Ev LX (d + 1) mX6_press 2 [some (.ref 86), some (.ref 44), some (.int (x2 + 1)), none, none, none] [] M Q)) ∧ ((¬ (M.1 29 x3.toNatClampNeg) ≤ x4) → (∃ Q2 : Option Value → ev_Mem → Prop, Cl LX d mX5_keyFor [.ref 82, .int x3, .int x4, .int (M.1 86 3)] M Q2 ∧ ∀ (zr : Option Value) (zM : ev_Mem), Q2 zr zM → Ev LX (d + 1) mX6_press 48 [some (.ref 86), some (.ref 44), some (.int x2), some (.int x3), some (.int x4), none] (zr.toList ++ []) zM Q))))) : Ev LX (d + 1) mX6_press 20 [some (.ref 86), some (.ref 44), some (.int x2), some (.int x3), some (.int x4), none] [] M Q := by
  refine ev_iload dX6_press_20 rfl ?_
  refine ev_aload_n dX6_press_22 rfl ?_
  refine ev_getA dX6_press_23 fl_WithoutE_Speech_47 lx_86 rfl ?_
  refine ev_getA dX6_press_26 fl_WithoutE_Speech_162 lx_3 rfl ?_
  refine ev_iload_n dX6_press_29 rfl ?_
  obtain ⟨c, h⟩ := h
  refine ev_iald dX6_press_30 lx_29 c ?_
  refine ev_icmp_ge (tgt := 86) dX6_press_31 (by decide) (fun c => ?_) (fun c => ?_)
  · replace h := h.1 c
    refine ev_iinc (v := x2 + 1) (ls2 := [some (.ref 86), some (.ref 44), some (.int (x2 + 1)), some (.int x3), some (.int x4), none]) dX6_press_86 rfl rfl rfl ?_
    refine ev_goto (tgt := 2) dX6_press_89 (by decide) ?_
    refine Ev.weak (ls := [some (.ref 86), some (.ref 44), some (.int (x2 + 1)), none, none, none]) ⟨rfl, rfl, rfl, trivial⟩ ?_
    exact h
  · replace h := h.2 c
    refine ev_aload_n dX6_press_34 rfl ?_
    refine ev_getA dX6_press_35 fl_WithoutE_Speech_51 lx_86 rfl ?_
    refine ev_iload_n dX6_press_38 rfl ?_
    refine ev_iload dX6_press_39 rfl ?_
    refine ev_aload_n dX6_press_41 rfl ?_
    refine ev_getI dX6_press_42 fl_WithoutE_Speech_59 lx_86 rfl ?_
    obtain ⟨Q2, hc, h⟩ := h
    refine ev_callV [.int x3, .int x4, .int (M.1 86 3)] dX6_press_45 ml_WithoutE_Speech_168 lx_82 rfl rfl (Nat.le_of_ble_eq_true rfl) hc (fun zr zM q => ?_)
    exact h zr zM q
theorem gX6_pressu_48 {d : Nat} {M : ev_Mem} {Q : Option Value → ev_Mem → Prop} {x2 x3 x4 s0 : Int32} (h : (((s0 < 0) → (Ev LX d mX6_press 20 [some (.ref 86), some (.ref 44), some (.int x2), some (.int x3), some (.int (x4 + 1)), none] [] M Q)) ∧ ((¬ s0 < 0) → (((26 ≤ s0) → (Ev LX d mX6_press 20 [some (.ref 86), some (.ref 44), some (.int x2), some (.int x3), some (.int (x4 + 1)), none] [] M Q)) ∧ ((¬ 26 ≤ s0) → (vp_in s0 26 ∧ (((9999 ≤ (M.1 44 s0.toNatClampNeg)) → (Ev LX d mX6_press 20 [some (.ref 86), some (.ref 44), some (.int x2), some (.int x3), some (.int (x4 + 1)), none] [] M Q)) ∧ ((¬ 9999 ≤ (M.1 44 s0.toNatClampNeg)) → (vp_in s0 26 ∧ (vp_in s0 26 ∧ (∀ M1 : ev_Mem, M1 = ev_wr M 44 s0.toNatClampNeg ((M.1 44 s0.toNatClampNeg) + 1) → (Ev LX d mX6_press 20 [some (.ref 86), some (.ref 44), some (.int x2), some (.int x3), some (.int (x4 + 1)), none] [] M1 Q)))))))))))) : Ev LX d mX6_press 48 [some (.ref 86), some (.ref 44), some (.int x2), some (.int x3), some (.int x4), none] [(.int s0)] M Q := by
  refine ev_istore (ls2 := [some (.ref 86), some (.ref 44), some (.int x2), some (.int x3), some (.int x4), some (.int s0)]) dX6_press_48 (Nat.le_of_ble_eq_true rfl) rfl ?_
  refine ev_iload dX6_press_50 rfl ?_
  refine ev_if_lt (tgt := 80) dX6_press_52 (by decide) (fun c => ?_) (fun c => ?_)
  · replace h := h.1 c
    refine ev_iinc (v := x4 + 1) (ls2 := [some (.ref 86), some (.ref 44), some (.int x2), some (.int x3), some (.int (x4 + 1)), some (.int s0)]) dX6_press_80 rfl rfl rfl ?_
    refine ev_goto (tgt := 20) dX6_press_83 (by decide) ?_
    refine Ev.weak (ls := [some (.ref 86), some (.ref 44), some (.int x2), some (.int x3), some (.int (x4 + 1)), none]) ⟨rfl, rfl, rfl, rfl, rfl, trivial⟩ ?_
    exact h
  · replace h := h.2 c
    refine ev_iload dX6_press_55 rfl ?_
    refine ev_aload_n dX6_press_57 rfl ?_
    refine ev_alen (q := 0) (v := 26) dX6_press_58 lx_44 (fun _ => rfl) (by decide) ?_
    refine ev_icmp_ge (tgt := 80) dX6_press_59 (by decide) (fun c => ?_) (fun c => ?_)
    · replace h := h.1 c
      refine ev_iinc (v := x4 + 1) (ls2 := [some (.ref 86), some (.ref 44), some (.int x2), some (.int x3), some (.int (x4 + 1)), some (.int s0)]) dX6_press_80 rfl rfl rfl ?_
      refine ev_goto (tgt := 20) dX6_press_83 (by decide) ?_
      refine Ev.weak (ls := [some (.ref 86), some (.ref 44), some (.int x2), some (.int x3), some (.int (x4 + 1)), none]) ⟨rfl, rfl, rfl, rfl, rfl, trivial⟩ ?_
      exact h
    · replace h := h.2 c
      refine ev_aload_n dX6_press_62 rfl ?_
      refine ev_iload dX6_press_63 rfl ?_
      obtain ⟨c, h⟩ := h
      refine ev_iald dX6_press_65 lx_44 c ?_
      refine ev_sipush (v := 9999) dX6_press_66 (by decide) ?_
      refine ev_icmp_ge (tgt := 80) dX6_press_69 (by decide) (fun c => ?_) (fun c => ?_)
      · replace h := h.1 c
        refine ev_iinc (v := x4 + 1) (ls2 := [some (.ref 86), some (.ref 44), some (.int x2), some (.int x3), some (.int (x4 + 1)), some (.int s0)]) dX6_press_80 rfl rfl rfl ?_
        refine ev_goto (tgt := 20) dX6_press_83 (by decide) ?_
        refine Ev.weak (ls := [some (.ref 86), some (.ref 44), some (.int x2), some (.int x3), some (.int (x4 + 1)), none]) ⟨rfl, rfl, rfl, rfl, rfl, trivial⟩ ?_
        exact h
      · replace h := h.2 c
        refine ev_aload_n dX6_press_72 rfl ?_
        refine ev_iload dX6_press_73 rfl ?_
        refine ev_dup2 dX6_press_75 rfl rfl ?_
        obtain ⟨c, h⟩ := h
        refine ev_iald dX6_press_76 lx_44 c ?_
        refine ev_iconst (v := 1) dX6_press_77 (by decide) ?_
        refine ev_iadd dX6_press_78 ?_
        obtain ⟨c, h⟩ := h
        refine ev_iast dX6_press_79 lx_44 c ?_
        generalize eM1 : ev_wr M 44 s0.toNatClampNeg ((M.1 44 s0.toNatClampNeg) + 1) = M1
        replace h := h M1 eM1.symm
        refine ev_iinc (v := x4 + 1) (ls2 := [some (.ref 86), some (.ref 44), some (.int x2), some (.int x3), some (.int (x4 + 1)), some (.int s0)]) dX6_press_80 rfl rfl rfl ?_
        refine ev_goto (tgt := 20) dX6_press_83 (by decide) ?_
        refine Ev.weak (ls := [some (.ref 86), some (.ref 44), some (.int x2), some (.int x3), some (.int (x4 + 1)), none]) ⟨rfl, rfl, rfl, rfl, rfl, trivial⟩ ?_
        exact h
theorem gX6_pressp_0 {d : Nat} {M : ev_Mem} {Q : Option Value → ev_Mem → Prop} (h : (Ev LX d mX6_press 2 [some (.ref 86), some (.ref 119), some (.int 0), none, none, none] [] M Q)) : Ev LX d mX6_press 0 [some (.ref 86), some (.ref 119), none, none, none, none] [] M Q := by
  refine ev_iconst (v := 0) dX6_press_0 (by decide) ?_
  refine ev_istore_n (ls2 := [some (.ref 86), some (.ref 119), some (.int 0), none, none, none]) dX6_press_1 (Nat.le_of_ble_eq_true rfl) rfl ?_
  exact h
theorem gX6_pressp_2 {d : Nat} {M : ev_Mem} {Q : Option Value → ev_Mem → Prop} {x2 : Int32} (h : ((((M.1 86 13) ≤ x2) → (Q none M)) ∧ ((¬ (M.1 86 13) ≤ x2) → (vp_in x2 5 ∧ (Ev LX d mX6_press 20 [some (.ref 86), some (.ref 119), some (.int x2), some (.int (M.1 99 x2.toNatClampNeg)), some (.int 0), none] [] M Q))))) : Ev LX d mX6_press 2 [some (.ref 86), some (.ref 119), some (.int x2), none, none, none] [] M Q := by
  refine ev_iload_n dX6_press_2 rfl ?_
  refine ev_aload_n dX6_press_3 rfl ?_
  refine ev_getI dX6_press_4 fl_WithoutE_Speech_145 lx_86 rfl ?_
  refine ev_icmp_ge (tgt := 92) dX6_press_7 (by decide) (fun c => ?_) (fun c => ?_)
  · replace h := h.1 c
    exact ev_vret dX6_press_92 rfl h
  · replace h := h.2 c
    refine ev_aload_n dX6_press_10 rfl ?_
    refine ev_getA dX6_press_11 fl_WithoutE_Speech_44 lx_86 rfl ?_
    refine ev_iload_n dX6_press_14 rfl ?_
    obtain ⟨c, h⟩ := h
    refine ev_iald dX6_press_15 lx_99 c ?_
    refine ev_istore_n (ls2 := [some (.ref 86), some (.ref 119), some (.int x2), some (.int (M.1 99 x2.toNatClampNeg)), none, none]) dX6_press_16 (Nat.le_of_ble_eq_true rfl) rfl ?_
    refine ev_iconst (v := 0) dX6_press_17 (by decide) ?_
    refine ev_istore (ls2 := [some (.ref 86), some (.ref 119), some (.int x2), some (.int (M.1 99 x2.toNatClampNeg)), some (.int 0), none]) dX6_press_18 (Nat.le_of_ble_eq_true rfl) rfl ?_
    exact h
theorem gX6_pressp_20 {d : Nat} {M : ev_Mem} {Q : Option Value → ev_Mem → Prop} {x2 x3 x4 : Int32} (h : (vp_in x3 24 ∧ ((((M.1 29 x3.toNatClampNeg) ≤ x4) → (Ev LX (d + 1) mX6_press 2 [some (.ref 86), some (.ref 119), some (.int (x2 + 1)), none, none, none] [] M Q)) ∧ ((¬ (M.1 29 x3.toNatClampNeg) ≤ x4) → (∃ Q2 : Option Value → ev_Mem → Prop, Cl LX d mX5_keyFor [.ref 82, .int x3, .int x4, .int (M.1 86 3)] M Q2 ∧ ∀ (zr : Option Value) (zM : ev_Mem), Q2 zr zM → Ev LX (d + 1) mX6_press 48 [some (.ref 86), some (.ref 119), some (.int x2), some (.int x3), some (.int x4), none] (zr.toList ++ []) zM Q))))) : Ev LX (d + 1) mX6_press 20 [some (.ref 86), some (.ref 119), some (.int x2), some (.int x3), some (.int x4), none] [] M Q := by
  refine ev_iload dX6_press_20 rfl ?_
  refine ev_aload_n dX6_press_22 rfl ?_
  refine ev_getA dX6_press_23 fl_WithoutE_Speech_47 lx_86 rfl ?_
  refine ev_getA dX6_press_26 fl_WithoutE_Speech_162 lx_3 rfl ?_
  refine ev_iload_n dX6_press_29 rfl ?_
  obtain ⟨c, h⟩ := h
  refine ev_iald dX6_press_30 lx_29 c ?_
  refine ev_icmp_ge (tgt := 86) dX6_press_31 (by decide) (fun c => ?_) (fun c => ?_)
  · replace h := h.1 c
    refine ev_iinc (v := x2 + 1) (ls2 := [some (.ref 86), some (.ref 119), some (.int (x2 + 1)), some (.int x3), some (.int x4), none]) dX6_press_86 rfl rfl rfl ?_
    refine ev_goto (tgt := 2) dX6_press_89 (by decide) ?_
    refine Ev.weak (ls := [some (.ref 86), some (.ref 119), some (.int (x2 + 1)), none, none, none]) ⟨rfl, rfl, rfl, trivial⟩ ?_
    exact h
  · replace h := h.2 c
    refine ev_aload_n dX6_press_34 rfl ?_
    refine ev_getA dX6_press_35 fl_WithoutE_Speech_51 lx_86 rfl ?_
    refine ev_iload_n dX6_press_38 rfl ?_
    refine ev_iload dX6_press_39 rfl ?_
    refine ev_aload_n dX6_press_41 rfl ?_
    refine ev_getI dX6_press_42 fl_WithoutE_Speech_59 lx_86 rfl ?_
    obtain ⟨Q2, hc, h⟩ := h
    refine ev_callV [.int x3, .int x4, .int (M.1 86 3)] dX6_press_45 ml_WithoutE_Speech_168 lx_82 rfl rfl (Nat.le_of_ble_eq_true rfl) hc (fun zr zM q => ?_)
    exact h zr zM q
theorem gX6_pressp_48 {d : Nat} {M : ev_Mem} {Q : Option Value → ev_Mem → Prop} {x2 x3 x4 s0 : Int32} (h : (((s0 < 0) → (Ev LX d mX6_press 20 [some (.ref 86), some (.ref 119), some (.int x2), some (.int x3), some (.int (x4 + 1)), none] [] M Q)) ∧ ((¬ s0 < 0) → (((26 ≤ s0) → (Ev LX d mX6_press 20 [some (.ref 86), some (.ref 119), some (.int x2), some (.int x3), some (.int (x4 + 1)), none] [] M Q)) ∧ ((¬ 26 ≤ s0) → (vp_in s0 26 ∧ (((9999 ≤ (M.1 119 s0.toNatClampNeg)) → (Ev LX d mX6_press 20 [some (.ref 86), some (.ref 119), some (.int x2), some (.int x3), some (.int (x4 + 1)), none] [] M Q)) ∧ ((¬ 9999 ≤ (M.1 119 s0.toNatClampNeg)) → (vp_in s0 26 ∧ (vp_in s0 26 ∧ (∀ M1 : ev_Mem, M1 = ev_wr M 119 s0.toNatClampNeg ((M.1 119 s0.toNatClampNeg) + 1) → (Ev LX d mX6_press 20 [some (.ref 86), some (.ref 119), some (.int x2), some (.int x3), some (.int (x4 + 1)), none] [] M1 Q)))))))))))) : Ev LX d mX6_press 48 [some (.ref 86), some (.ref 119), some (.int x2), some (.int x3), some (.int x4), none] [(.int s0)] M Q := by
  refine ev_istore (ls2 := [some (.ref 86), some (.ref 119), some (.int x2), some (.int x3), some (.int x4), some (.int s0)]) dX6_press_48 (Nat.le_of_ble_eq_true rfl) rfl ?_
  refine ev_iload dX6_press_50 rfl ?_
  refine ev_if_lt (tgt := 80) dX6_press_52 (by decide) (fun c => ?_) (fun c => ?_)
  · replace h := h.1 c
    refine ev_iinc (v := x4 + 1) (ls2 := [some (.ref 86), some (.ref 119), some (.int x2), some (.int x3), some (.int (x4 + 1)), some (.int s0)]) dX6_press_80 rfl rfl rfl ?_
    refine ev_goto (tgt := 20) dX6_press_83 (by decide) ?_
    refine Ev.weak (ls := [some (.ref 86), some (.ref 119), some (.int x2), some (.int x3), some (.int (x4 + 1)), none]) ⟨rfl, rfl, rfl, rfl, rfl, trivial⟩ ?_
    exact h
  · replace h := h.2 c
    refine ev_iload dX6_press_55 rfl ?_
    refine ev_aload_n dX6_press_57 rfl ?_
    refine ev_alen (q := 0) (v := 26) dX6_press_58 lx_119 (fun _ => rfl) (by decide) ?_
    refine ev_icmp_ge (tgt := 80) dX6_press_59 (by decide) (fun c => ?_) (fun c => ?_)
    · replace h := h.1 c
      refine ev_iinc (v := x4 + 1) (ls2 := [some (.ref 86), some (.ref 119), some (.int x2), some (.int x3), some (.int (x4 + 1)), some (.int s0)]) dX6_press_80 rfl rfl rfl ?_
      refine ev_goto (tgt := 20) dX6_press_83 (by decide) ?_
      refine Ev.weak (ls := [some (.ref 86), some (.ref 119), some (.int x2), some (.int x3), some (.int (x4 + 1)), none]) ⟨rfl, rfl, rfl, rfl, rfl, trivial⟩ ?_
      exact h
    · replace h := h.2 c
      refine ev_aload_n dX6_press_62 rfl ?_
      refine ev_iload dX6_press_63 rfl ?_
      obtain ⟨c, h⟩ := h
      refine ev_iald dX6_press_65 lx_119 c ?_
      refine ev_sipush (v := 9999) dX6_press_66 (by decide) ?_
      refine ev_icmp_ge (tgt := 80) dX6_press_69 (by decide) (fun c => ?_) (fun c => ?_)
      · replace h := h.1 c
        refine ev_iinc (v := x4 + 1) (ls2 := [some (.ref 86), some (.ref 119), some (.int x2), some (.int x3), some (.int (x4 + 1)), some (.int s0)]) dX6_press_80 rfl rfl rfl ?_
        refine ev_goto (tgt := 20) dX6_press_83 (by decide) ?_
        refine Ev.weak (ls := [some (.ref 86), some (.ref 119), some (.int x2), some (.int x3), some (.int (x4 + 1)), none]) ⟨rfl, rfl, rfl, rfl, rfl, trivial⟩ ?_
        exact h
      · replace h := h.2 c
        refine ev_aload_n dX6_press_72 rfl ?_
        refine ev_iload dX6_press_73 rfl ?_
        refine ev_dup2 dX6_press_75 rfl rfl ?_
        obtain ⟨c, h⟩ := h
        refine ev_iald dX6_press_76 lx_119 c ?_
        refine ev_iconst (v := 1) dX6_press_77 (by decide) ?_
        refine ev_iadd dX6_press_78 ?_
        obtain ⟨c, h⟩ := h
        refine ev_iast dX6_press_79 lx_119 c ?_
        generalize eM1 : ev_wr M 119 s0.toNatClampNeg ((M.1 119 s0.toNatClampNeg) + 1) = M1
        replace h := h M1 eM1.symm
        refine ev_iinc (v := x4 + 1) (ls2 := [some (.ref 86), some (.ref 119), some (.int x2), some (.int x3), some (.int (x4 + 1)), some (.int s0)]) dX6_press_80 rfl rfl rfl ?_
        refine ev_goto (tgt := 20) dX6_press_83 (by decide) ?_
        refine Ev.weak (ls := [some (.ref 86), some (.ref 119), some (.int x2), some (.int x3), some (.int (x4 + 1)), none]) ⟨rfl, rfl, rfl, rfl, rfl, trivial⟩ ?_
        exact h
theorem gX6_supposeV_0 {d : Nat} {M : ev_Mem} {Q : Option Value → ev_Mem → Prop} {x2 : Int32} {v : Value} (hv : v = .null ∨ ∃ k, ev_isT k ∧ v = .ref k) (h : (∀ M1 : ev_Mem, M1 = ev_wr M 86 3 x2 → ((((bc x2) = (M1.1 86 8)) → (Ev LX (d + 1) mX6_suppose 34 [some (.ref 86), some (v), some (.int x2), some (.int (bc x2)), some (.int 0), none, none, none] [] M1 Q)) ∧ ((¬ (bc x2) = (M1.1 86 8)) → (∃ Q2 : Option Value → ev_Mem → Prop, Cl LX d mJ7_fill_53178 [.ref 89, .int (-1)] M1 Q2 ∧ ∀ (zr : Option Value) (zM : ev_Mem), Q2 zr zM → Ev LX (d + 1) mX6_suppose 26 [some (.ref 86), some (v), some (.int x2), some (.int (bc x2)), none, none, none, none] (zr.toList ++ []) zM Q))))) : Ev LX (d + 1) mX6_suppose 0 [some (.ref 86), some (v), some (.int x2), none, none, none, none, none] [] M Q := by
  rcases hv with rfl | ⟨k, hk, rfl⟩
  · exact gX6_supposeN_0 h
  · exact gX6_suppose_0 hk h
theorem gX6_supposeV_34 {d : Nat} {M : ev_Mem} {Q : Option Value → ev_Mem → Prop} {x2 x3 x4 : Int32} {v : Value} (hv : v = .null ∨ ∃ k, ev_isT k ∧ v = .ref k) (h : ((((M.1 3 5) ≤ x4) → (Q none M)) ∧ ((¬ (M.1 3 5) ≤ x4) → ((wd M x4) ∧ (vp_in x4 24 ∧ (∀ M1 : ev_Mem, M1 = ev_wr M 87 x4.toNatClampNeg (bi (xC M x4 x2)) → (vp_in x4 24 ∧ (((¬ (M1.1 87 x4.toNatClampNeg) = 0) → ((wd M1 x4) ∧ ((wd M1 x4) ∧ (∀ v1 : Int32, v1 = (x4 * 10) + (nI (xH M1 x4 x2)) → (vp_in v1 240 ∧ ((((M1.1 89 v1.toNatClampNeg) = (xE M1 x4 x2)) → (vp_in v1 240 ∧ (vp_in x4 24 ∧ (∀ M2 : ev_Mem, M2 = ev_wr M1 88 x4.toNatClampNeg (M1.1 90 v1.toNatClampNeg) → (Ev LX (d + 3) mX6_suppose 34 [some (.ref 86), some (v), some (.int x2), some (.int x3), some (.int (x4 + 1)), none, none, none] [] M2 Q))))) ∧ ((¬ (M1.1 89 v1.toNatClampNeg) = (xE M1 x4 x2)) → (vp_in v1 240 ∧ (∀ M3 : ev_Mem, M3 = ev_wr M1 89 v1.toNatClampNeg (xE M1 x4 x2) → (∃ Q2 : Option Value → ev_Mem → Prop, Cl LX (d + 2) mX1_stiffness [.ref 83, v, .int x4, .int (nI (xH M1 x4 x2)), .int (xE M1 x4 x2), .int x3] M3 Q2 ∧ ∀ (zr : Option Value) (zM : ev_Mem), Q2 zr zM → Ev LX (d + 3) mX6_suppose 152 [some (.ref 86), some (v), some (.int x2), some (.int x3), some (.int x4), none, none, some (.int v1)] (zr.toList ++ [(.int v1), (.ref 90)]) zM Q)))))))))) ∧ (((M1.1 87 x4.toNatClampNeg) = 0) → (Ev LX (d + 3) mX6_suppose 34 [some (.ref 86), some (v), some (.int x2), some (.int x3), some (.int (x4 + 1)), none, none, none] [] M1 Q)))))))))) : Ev LX (d + 3) mX6_suppose 34 [some (.ref 86), some (v), some (.int x2), some (.int x3), some (.int x4), none, none, none] [] M Q := by
  rcases hv with rfl | ⟨k, hk, rfl⟩
  · exact gX6_supposeN_34 h
  · exact gX6_suppose_34 hk h
theorem gX6_supposeV_26 {d : Nat} {M : ev_Mem} {Q : Option Value → ev_Mem → Prop} {x2 x3 : Int32} {v : Value} (hv : v = .null ∨ ∃ k, ev_isT k ∧ v = .ref k) (h : (∀ M1 : ev_Mem, M1 = ev_wr M 86 8 x3 → (Ev LX d mX6_suppose 34 [some (.ref 86), some (v), some (.int x2), some (.int x3), some (.int 0), none, none, none] [] M1 Q))) : Ev LX d mX6_suppose 26 [some (.ref 86), some (v), some (.int x2), some (.int x3), none, none, none, none] [] M Q := by
  rcases hv with rfl | ⟨k, hk, rfl⟩
  · exact gX6_supposeN_26 h
  · exact gX6_suppose_26 hk h
theorem gX6_supposeV_152 {d : Nat} {M : ev_Mem} {Q : Option Value → ev_Mem → Prop} {x2 x3 x4 x7 s0 s1 : Int32} {v : Value} (hv : v = .null ∨ ∃ k, ev_isT k ∧ v = .ref k) (h : (vp_in s1 240 ∧ (∀ M1 : ev_Mem, M1 = ev_wr M 90 s1.toNatClampNeg s0 → (vp_in x7 240 ∧ (vp_in x4 24 ∧ (∀ M2 : ev_Mem, M2 = ev_wr M1 88 x4.toNatClampNeg (M1.1 90 x7.toNatClampNeg) → (Ev LX d mX6_suppose 34 [some (.ref 86), some (v), some (.int x2), some (.int x3), some (.int (x4 + 1)), none, none, none] [] M2 Q))))))) : Ev LX d mX6_suppose 152 [some (.ref 86), some (v), some (.int x2), some (.int x3), some (.int x4), none, none, some (.int x7)] [(.int s0), (.int s1), (.ref 90)] M Q := by
  rcases hv with rfl | ⟨k, hk, rfl⟩
  · exact gX6_supposeN_152 h
  · exact gX6_suppose_152 hk h
