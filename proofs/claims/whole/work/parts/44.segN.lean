theorem dX11_layRests_0 : decode cX11_layRests 0 = .ok (.aload_n 0, 1) := by decide +kernel
theorem dX11_layRests_1 : decode cX11_layRests 1 = .ok (.iload_n 1, 1) := by decide +kernel
theorem dX11_layRests_2 : decode cX11_layRests 2 = .ok (.invokevirtual 359, 3) := by decide +kernel
theorem dX11_layRests_5 : decode cX11_layRests 5 = .ok (.iconst 1, 1) := by decide +kernel
theorem dX11_layRests_6 : decode cX11_layRests 6 = .ok (.isub, 1) := by decide +kernel
theorem dX11_layRests_7 : decode cX11_layRests 7 = .ok (.istore_n 2, 1) := by decide +kernel
theorem dX11_layRests_8 : decode cX11_layRests 8 = .ok (.iload_n 2, 1) := by decide +kernel
theorem dX11_layRests_9 : decode cX11_layRests 9 = .ok (.ifCond .lt 152, 3) := by decide +kernel
theorem dX11_layRests_12 : decode cX11_layRests 12 = .ok (.iconst 0, 1) := by decide +kernel
theorem dX11_layRests_13 : decode cX11_layRests 13 = .ok (.istore_n 3, 1) := by decide +kernel
theorem dX11_layRests_14 : decode cX11_layRests 14 = .ok (.iload_n 3, 1) := by decide +kernel
theorem dX11_layRests_15 : decode cX11_layRests 15 = .ok (.aload_n 0, 1) := by decide +kernel
theorem dX11_layRests_16 : decode cX11_layRests 16 = .ok (.getfield 7, 3) := by decide +kernel
theorem dX11_layRests_19 : decode cX11_layRests 19 = .ok (.iconst 0, 1) := by decide +kernel
theorem dX11_layRests_20 : decode cX11_layRests 20 = .ok (.iaload, 1) := by decide +kernel
theorem dX11_layRests_21 : decode cX11_layRests 21 = .ok (.if_icmp .ge 134, 3) := by decide +kernel
theorem dX11_layRests_24 : decode cX11_layRests 24 = .ok (.aload_n 0, 1) := by decide +kernel
theorem dX11_layRests_25 : decode cX11_layRests 25 = .ok (.iload_n 1, 1) := by decide +kernel
theorem dX11_layRests_26 : decode cX11_layRests 26 = .ok (.iload_n 2, 1) := by decide +kernel
theorem dX11_layRests_27 : decode cX11_layRests 27 = .ok (.iload_n 3, 1) := by decide +kernel
theorem dX11_layRests_28 : decode cX11_layRests 28 = .ok (.invokevirtual 353, 3) := by decide +kernel
theorem dX11_layRests_31 : decode cX11_layRests 31 = .ok (.ifCond .ne 6, 3) := by decide +kernel
theorem dX11_layRests_34 : decode cX11_layRests 34 = .ok (.goto 115, 3) := by decide +kernel
theorem dX11_layRests_37 : decode cX11_layRests 37 = .ok (.iload_n 2, 1) := by decide +kernel
theorem dX11_layRests_38 : decode cX11_layRests 38 = .ok (.iconst 1, 1) := by decide +kernel
theorem dX11_layRests_39 : decode cX11_layRests 39 = .ok (.iadd, 1) := by decide +kernel
theorem dX11_layRests_40 : decode cX11_layRests 40 = .ok (.aload_n 0, 1) := by decide +kernel
theorem dX11_layRests_41 : decode cX11_layRests 41 = .ok (.iload_n 1, 1) := by decide +kernel
theorem dX11_layRests_42 : decode cX11_layRests 42 = .ok (.invokevirtual 359, 3) := by decide +kernel
theorem dX11_layRests_45 : decode cX11_layRests 45 = .ok (.if_icmp .ne 7, 3) := by decide +kernel
theorem dX11_layRests_48 : decode cX11_layRests 48 = .ok (.iconst (-1), 1) := by decide +kernel
theorem dX11_layRests_49 : decode cX11_layRests 49 = .ok (.goto 12, 3) := by decide +kernel
theorem dX11_layRests_52 : decode cX11_layRests 52 = .ok (.aload_n 0, 1) := by decide +kernel
theorem dX11_layRests_53 : decode cX11_layRests 53 = .ok (.iload_n 1, 1) := by decide +kernel
theorem dX11_layRests_54 : decode cX11_layRests 54 = .ok (.iload_n 2, 1) := by decide +kernel
theorem dX11_layRests_55 : decode cX11_layRests 55 = .ok (.iconst 1, 1) := by decide +kernel
theorem dX11_layRests_56 : decode cX11_layRests 56 = .ok (.iadd, 1) := by decide +kernel
theorem dX11_layRests_57 : decode cX11_layRests 57 = .ok (.iload_n 3, 1) := by decide +kernel
theorem dX11_layRests_58 : decode cX11_layRests 58 = .ok (.invokevirtual 362, 3) := by decide +kernel
theorem dX11_layRests_61 : decode cX11_layRests 61 = .ok (.istore 4, 2) := by decide +kernel
theorem dX11_layRests_63 : decode cX11_layRests 63 = .ok (.iload_n 2, 1) := by decide +kernel
theorem dX11_layRests_64 : decode cX11_layRests 64 = .ok (.iconst 1, 1) := by decide +kernel
theorem dX11_layRests_65 : decode cX11_layRests 65 = .ok (.iadd, 1) := by decide +kernel
theorem dX11_layRests_66 : decode cX11_layRests 66 = .ok (.aload_n 0, 1) := by decide +kernel
theorem dX11_layRests_67 : decode cX11_layRests 67 = .ok (.iload_n 1, 1) := by decide +kernel
theorem dX11_layRests_68 : decode cX11_layRests 68 = .ok (.invokevirtual 359, 3) := by decide +kernel
theorem dX11_layRests_71 : decode cX11_layRests 71 = .ok (.if_icmp .ge 13, 3) := by decide +kernel
theorem dX11_layRests_74 : decode cX11_layRests 74 = .ok (.iload 4, 2) := by decide +kernel
theorem dX11_layRests_76 : decode cX11_layRests 76 = .ok (.iconst (-1), 1) := by decide +kernel
theorem dX11_layRests_77 : decode cX11_layRests 77 = .ok (.if_icmp .ne 7, 3) := by decide +kernel
theorem dX11_layRests_80 : decode cX11_layRests 80 = .ok (.iconst 1, 1) := by decide +kernel
theorem dX11_layRests_81 : decode cX11_layRests 81 = .ok (.goto 4, 3) := by decide +kernel
theorem dX11_layRests_84 : decode cX11_layRests 84 = .ok (.iconst 0, 1) := by decide +kernel
theorem dX11_layRests_85 : decode cX11_layRests 85 = .ok (.istore 5, 2) := by decide +kernel
theorem dX11_layRests_87 : decode cX11_layRests 87 = .ok (.aload_n 0, 1) := by decide +kernel
theorem dX11_layRests_88 : decode cX11_layRests 88 = .ok (.getfield 52, 3) := by decide +kernel
theorem dX11_layRests_91 : decode cX11_layRests 91 = .ok (.bipush 24, 2) := by decide +kernel
theorem dX11_layRests_93 : decode cX11_layRests 93 = .ok (.iload_n 2, 1) := by decide +kernel
theorem dX11_layRests_94 : decode cX11_layRests 94 = .ok (.imul, 1) := by decide +kernel
theorem dX11_layRests_95 : decode cX11_layRests 95 = .ok (.iload_n 3, 1) := by decide +kernel
theorem dX11_layRests_96 : decode cX11_layRests 96 = .ok (.iadd, 1) := by decide +kernel
theorem dX11_layRests_97 : decode cX11_layRests 97 = .ok (.iload 5, 2) := by decide +kernel
theorem dX11_layRests_99 : decode cX11_layRests 99 = .ok (.ifCond .eq 9, 3) := by decide +kernel
theorem dX11_layRests_102 : decode cX11_layRests 102 = .ok (.ldc_w 352, 3) := by decide +kernel
theorem dX11_layRests_105 : decode cX11_layRests 105 = .ok (.goto 43, 3) := by decide +kernel
theorem dX11_layRests_108 : decode cX11_layRests 108 = .ok (.aload_n 0, 1) := by decide +kernel
theorem dX11_layRests_109 : decode cX11_layRests 109 = .ok (.getfield 49, 3) := by decide +kernel
theorem dX11_layRests_112 : decode cX11_layRests 112 = .ok (.iload_n 3, 1) := by decide +kernel
theorem dX11_layRests_113 : decode cX11_layRests 113 = .ok (.iaload, 1) := by decide +kernel
theorem dX11_layRests_114 : decode cX11_layRests 114 = .ok (.iload 4, 2) := by decide +kernel
theorem dX11_layRests_116 : decode cX11_layRests 116 = .ok (.iconst (-1), 1) := by decide +kernel
theorem dX11_layRests_117 : decode cX11_layRests 117 = .ok (.if_icmp .ne 7, 3) := by decide +kernel
theorem dX11_layRests_120 : decode cX11_layRests 120 = .ok (.iconst 0, 1) := by decide +kernel
theorem dX11_layRests_121 : decode cX11_layRests 121 = .ok (.goto 26, 3) := by decide +kernel
theorem dX11_layRests_124 : decode cX11_layRests 124 = .ok (.aload_n 0, 1) := by decide +kernel
theorem dX11_layRests_125 : decode cX11_layRests 125 = .ok (.iload_n 3, 1) := by decide +kernel
theorem dX11_layRests_126 : decode cX11_layRests 126 = .ok (.iload 4, 2) := by decide +kernel
theorem dX11_layRests_128 : decode cX11_layRests 128 = .ok (.invokevirtual 356, 3) := by decide +kernel
theorem dX11_layRests_131 : decode cX11_layRests 131 = .ok (.aload_n 0, 1) := by decide +kernel
theorem dX11_layRests_132 : decode cX11_layRests 132 = .ok (.getfield 52, 3) := by decide +kernel
theorem dX11_layRests_135 : decode cX11_layRests 135 = .ok (.bipush 24, 2) := by decide +kernel
theorem dX11_layRests_137 : decode cX11_layRests 137 = .ok (.iload_n 2, 1) := by decide +kernel
theorem dX11_layRests_138 : decode cX11_layRests 138 = .ok (.imul, 1) := by decide +kernel
theorem dX11_layRests_139 : decode cX11_layRests 139 = .ok (.bipush 24, 2) := by decide +kernel
theorem dX11_layRests_141 : decode cX11_layRests 141 = .ok (.iadd, 1) := by decide +kernel
theorem dX11_layRests_142 : decode cX11_layRests 142 = .ok (.iload 4, 2) := by decide +kernel
theorem dX11_layRests_144 : decode cX11_layRests 144 = .ok (.iadd, 1) := by decide +kernel
theorem dX11_layRests_145 : decode cX11_layRests 145 = .ok (.iaload, 1) := by decide +kernel
theorem dX11_layRests_146 : decode cX11_layRests 146 = .ok (.iadd, 1) := by decide +kernel
theorem dX11_layRests_147 : decode cX11_layRests 147 = .ok (.iadd, 1) := by decide +kernel
theorem dX11_layRests_148 : decode cX11_layRests 148 = .ok (.iastore, 1) := by decide +kernel
theorem dX11_layRests_149 : decode cX11_layRests 149 = .ok (.iinc 3 1, 3) := by decide +kernel
theorem dX11_layRests_152 : decode cX11_layRests 152 = .ok (.goto (-138), 3) := by decide +kernel
theorem dX11_layRests_155 : decode cX11_layRests 155 = .ok (.iinc 2 (-1), 3) := by decide +kernel
theorem dX11_layRests_158 : decode cX11_layRests 158 = .ok (.goto (-150), 3) := by decide +kernel
theorem dX11_layRests_161 : decode cX11_layRests 161 = .ok (.return_, 1) := by decide +kernel
theorem gX11_layRests_0 {d : Nat} {M : ev_Mem} {Q : Option Value → ev_Mem → Prop} {x1 : Int32} (h : ((vp_in (351 + 6 * x1) 3315) ∧ (∀ v1 : Int32, v1 = (M.1 1 (351 + 6 * x1).toNatClampNeg) - 1 → (Ev LM (d + 1) mX11_layRests 8 [some (.ref 0), some (.int x1), some (.int v1), none, none, none] [] M Q)))) : Ev LM (d + 1) mX11_layRests 0 [some (.ref 0), some (.int x1), none, none, none, none] [] M Q := by
  refine ev_aload_n dX11_layRests_0 rfl ?_
  refine ev_iload_n dX11_layRests_1 rfl ?_
  obtain ⟨p1, h⟩ := h
  refine ev_callV [.int x1] dX11_layRests_2 ml_WithoutEModel_359 lm_0 rfl rfl (Nat.le_of_ble_eq_true rfl) (kX11_lengthOf p1) ?_
  rintro zr zM ⟨q1, q2⟩
  rw [q1, q2]
  show Ev LM (d + 1) mX11_layRests 5 [some (.ref 0), some (.int x1), none, none, none, none] [(.int (M.1 1 (351 + 6 * x1).toNatClampNeg))] M Q
  refine ev_iconst (v := 1) dX11_layRests_5 (by decide) ?_
  refine ev_isub dX11_layRests_6 ?_
  refine ev_istore_n (ls2 := [some (.ref 0), some (.int x1), some (.int ((M.1 1 (351 + 6 * x1).toNatClampNeg) - 1)), none, none, none]) dX11_layRests_7 (Nat.le_of_ble_eq_true rfl) rfl ?_
  generalize ev1 : (M.1 1 (351 + 6 * x1).toNatClampNeg) - 1 = v1
  replace h := h v1 ev1.symm
  exact h
theorem gX11_layRests_8 {d : Nat} {M : ev_Mem} {Q : Option Value → ev_Mem → Prop} {x1 x2 : Int32} (h : (((x2 < 0) → (Q none M)) ∧ ((¬ x2 < 0) → (Ev LM d mX11_layRests 14 [some (.ref 0), some (.int x1), some (.int x2), some (.int 0), none, none] [] M Q)))) : Ev LM d mX11_layRests 8 [some (.ref 0), some (.int x1), some (.int x2), none, none, none] [] M Q := by
  refine ev_iload_n dX11_layRests_8 rfl ?_
  refine ev_if_lt (tgt := 161) dX11_layRests_9 (by decide) (fun c => ?_) (fun c => ?_)
  · replace h := h.1 c
    exact ev_vret dX11_layRests_161 rfl h
  · replace h := h.2 c
    refine ev_iconst (v := 0) dX11_layRests_12 (by decide) ?_
    refine ev_istore_n (ls2 := [some (.ref 0), some (.int x1), some (.int x2), some (.int 0), none, none]) dX11_layRests_13 (Nat.le_of_ble_eq_true rfl) rfl ?_
    exact h
theorem gX11_layRests_14 {d : Nat} {M : ev_Mem} {Q : Option Value → ev_Mem → Prop} {x1 x2 x3 : Int32} (h : ((((M.1 1 0) ≤ x3) → (Ev LM (d + 2) mX11_layRests 8 [some (.ref 0), some (.int x1), some (.int (x2 + (-1))), none, none, none] [] M Q)) ∧ ((¬ (M.1 1 0) ≤ x3) → ((vp_in x1 8 ∧ vp_in x2 5 ∧ vp_in x3 24) ∧ ((((atQ M x1 x2 x3) = true) → ((vp_in (351 + 6 * x1) 3315) ∧ (((¬ (x2 + 1) = (M.1 1 (351 + 6 * x1).toNatClampNeg)) → (∃ Q2 : Option Value → ev_Mem → Prop, Cl LM (d + 1) mX11_nextOf [.ref 0, .int x1, .int (x2 + 1), .int x3] M Q2 ∧ ∀ (zr : Option Value) (zM : ev_Mem), Q2 zr zM → Ev LM (d + 2) mX11_layRests 61 [some (.ref 0), some (.int x1), some (.int x2), some (.int x3), none, none] (zr.toList ++ []) zM Q)) ∧ (((x2 + 1) = (M.1 1 (351 + 6 * x1).toNatClampNeg)) → (Ev LM (d + 2) mX11_layRests 61 [some (.ref 0), some (.int x1), some (.int x2), some (.int x3), none, none] [(.int (-1))] M Q))))) ∧ (((atQ M x1 x2 x3) = false) → (Ev LM (d + 2) mX11_layRests 14 [some (.ref 0), some (.int x1), some (.int x2), some (.int (x3 + 1)), none, none] [] M Q))))))) : Ev LM (d + 2) mX11_layRests 14 [some (.ref 0), some (.int x1), some (.int x2), some (.int x3), none, none] [] M Q := by
  refine ev_iload_n dX11_layRests_14 rfl ?_
  refine ev_aload_n dX11_layRests_15 rfl ?_
  refine ev_getA dX11_layRests_16 fl_WithoutEModel_7 lm_0 rfl ?_
  refine ev_iconst (v := 0) dX11_layRests_19 (by decide) ?_
  refine ev_iaN (j := 0) dX11_layRests_20 lm_1 (by decide) (by decide) ?_
  refine ev_icmp_ge (tgt := 155) dX11_layRests_21 (by decide) (fun c => ?_) (fun c => ?_)
  · replace h := h.1 c
    refine ev_iinc (v := x2 + (-1)) (ls2 := [some (.ref 0), some (.int x1), some (.int (x2 + (-1))), some (.int x3), none, none]) dX11_layRests_155 rfl rfl rfl ?_
    refine ev_goto (tgt := 8) dX11_layRests_158 (by decide) ?_
    refine Ev.weak (ls := [some (.ref 0), some (.int x1), some (.int (x2 + (-1))), none, none, none]) ⟨rfl, rfl, rfl, trivial⟩ ?_
    exact h
  · replace h := h.2 c
    refine ev_aload_n dX11_layRests_24 rfl ?_
    refine ev_iload_n dX11_layRests_25 rfl ?_
    refine ev_iload_n dX11_layRests_26 rfl ?_
    refine ev_iload_n dX11_layRests_27 rfl ?_
    obtain ⟨p1, h⟩ := h
    refine ev_callV [.int x1, .int x2, .int x3] dX11_layRests_28 ml_WithoutEModel_353 lm_0 rfl rfl (Nat.le_of_ble_eq_true rfl) (qX11_isAt p1) ?_
    rintro zr zM ⟨q1, q2⟩
    rw [q1, q2]
    show Ev LM (d + 2) mX11_layRests 31 [some (.ref 0), some (.int x1), some (.int x2), some (.int x3), none, none] [(.int (bi (atQ M x1 x2 x3)))] M Q
    refine ev_if_ne (tgt := 37) dX11_layRests_31 (by decide) (fun c => ?_) (fun c => ?_)
    · replace h := h.1 ((bi_n0 _).mp c)
      refine ev_iload_n dX11_layRests_37 rfl ?_
      refine ev_iconst (v := 1) dX11_layRests_38 (by decide) ?_
      refine ev_iadd dX11_layRests_39 ?_
      refine ev_aload_n dX11_layRests_40 rfl ?_
      refine ev_iload_n dX11_layRests_41 rfl ?_
      obtain ⟨p1, h⟩ := h
      refine ev_callV [.int x1] dX11_layRests_42 ml_WithoutEModel_359 lm_0 rfl rfl (Nat.le_of_ble_eq_true rfl) (kX11_lengthOf p1) ?_
      rintro zr zM ⟨q1, q2⟩
      rw [q1, q2]
      show Ev LM (d + 2) mX11_layRests 45 [some (.ref 0), some (.int x1), some (.int x2), some (.int x3), none, none] [(.int (M.1 1 (351 + 6 * x1).toNatClampNeg)), (.int (x2 + 1))] M Q
      refine ev_icmp_ne (tgt := 52) dX11_layRests_45 (by decide) (fun c => ?_) (fun c => ?_)
      · replace h := h.1 c
        refine ev_aload_n dX11_layRests_52 rfl ?_
        refine ev_iload_n dX11_layRests_53 rfl ?_
        refine ev_iload_n dX11_layRests_54 rfl ?_
        refine ev_iconst (v := 1) dX11_layRests_55 (by decide) ?_
        refine ev_iadd dX11_layRests_56 ?_
        refine ev_iload_n dX11_layRests_57 rfl ?_
        obtain ⟨Q2, hc, h⟩ := h
        refine ev_callV [.int x1, .int (x2 + 1), .int x3] dX11_layRests_58 ml_WithoutEModel_362 lm_0 rfl rfl (Nat.le_of_ble_eq_true rfl) hc (fun zr zM q => ?_)
        exact h zr zM q
      · replace h := h.2 c
        refine ev_iconst (v := -1) dX11_layRests_48 (by decide) ?_
        refine ev_goto (tgt := 61) dX11_layRests_49 (by decide) ?_
        exact h
    · replace h := h.2 ((bi_0 _).mp c)
      refine ev_goto (tgt := 149) dX11_layRests_34 (by decide) ?_
      refine ev_iinc (v := x3 + 1) (ls2 := [some (.ref 0), some (.int x1), some (.int x2), some (.int (x3 + 1)), none, none]) dX11_layRests_149 rfl rfl rfl ?_
      refine ev_goto (tgt := 14) dX11_layRests_152 (by decide) ?_
      exact h
theorem gX11_layRests_61 {d : Nat} {M : ev_Mem} {Q : Option Value → ev_Mem → Prop} {x1 x2 x3 s0 : Int32} (h : ((vp_in (351 + 6 * x1) 3315) ∧ ((((M.1 1 (351 + 6 * x1).toNatClampNeg) ≤ (x2 + 1)) → (vp_in x3 24 ∧ (((¬ s0 = (-1)) → ((vp_in x3 24 ∧ vp_in s0 24) ∧ (vp_in (((24 * x2) + 24) + s0) 120 ∧ (vp_in ((24 * x2) + x3) 120 ∧ (∀ M1 : ev_Mem, M1 = ev_wr M 12 ((24 * x2) + x3).toNatClampNeg ((M.1 11 x3.toNatClampNeg) + ((bhd (M.1 1 (39 + 13 * x3 + 0).toNatClampNeg) (M.1 1 (39 + 13 * s0 + 0).toNatClampNeg) x3 s0) + (M.1 12 (((24 * x2) + 24) + s0).toNatClampNeg))) → (Ev LM (d + 2) mX11_layRests 14 [some (.ref 0), some (.int x1), some (.int x2), some (.int (x3 + 1)), none, none] [] M1 Q)))))) ∧ ((s0 = (-1)) → (vp_in ((24 * x2) + x3) 120 ∧ (∀ M2 : ev_Mem, M2 = ev_wr M 12 ((24 * x2) + x3).toNatClampNeg ((M.1 11 x3.toNatClampNeg) + 0) → (Ev LM (d + 2) mX11_layRests 14 [some (.ref 0), some (.int x1), some (.int x2), some (.int (x3 + 1)), none, none] [] M2 Q))))))) ∧ ((¬ (M.1 1 (351 + 6 * x1).toNatClampNeg) ≤ (x2 + 1)) → (((¬ s0 = (-1)) → (vp_in x3 24 ∧ (((¬ s0 = (-1)) → ((vp_in x3 24 ∧ vp_in s0 24) ∧ (vp_in (((24 * x2) + 24) + s0) 120 ∧ (vp_in ((24 * x2) + x3) 120 ∧ (∀ M3 : ev_Mem, M3 = ev_wr M 12 ((24 * x2) + x3).toNatClampNeg ((M.1 11 x3.toNatClampNeg) + ((bhd (M.1 1 (39 + 13 * x3 + 0).toNatClampNeg) (M.1 1 (39 + 13 * s0 + 0).toNatClampNeg) x3 s0) + (M.1 12 (((24 * x2) + 24) + s0).toNatClampNeg))) → (Ev LM (d + 2) mX11_layRests 14 [some (.ref 0), some (.int x1), some (.int x2), some (.int (x3 + 1)), none, none] [] M3 Q)))))) ∧ ((s0 = (-1)) → (vp_in ((24 * x2) + x3) 120 ∧ (∀ M4 : ev_Mem, M4 = ev_wr M 12 ((24 * x2) + x3).toNatClampNeg ((M.1 11 x3.toNatClampNeg) + 0) → (Ev LM (d + 2) mX11_layRests 14 [some (.ref 0), some (.int x1), some (.int x2), some (.int (x3 + 1)), none, none] [] M4 Q))))))) ∧ ((s0 = (-1)) → (vp_in ((24 * x2) + x3) 120 ∧ (∀ M5 : ev_Mem, M5 = ev_wr M 12 ((24 * x2) + x3).toNatClampNeg 1000000 → (Ev LM (d + 2) mX11_layRests 14 [some (.ref 0), some (.int x1), some (.int x2), some (.int (x3 + 1)), none, none] [] M5 Q))))))))) : Ev LM (d + 2) mX11_layRests 61 [some (.ref 0), some (.int x1), some (.int x2), some (.int x3), none, none] [(.int s0)] M Q := by
  refine ev_istore (ls2 := [some (.ref 0), some (.int x1), some (.int x2), some (.int x3), some (.int s0), none]) dX11_layRests_61 (Nat.le_of_ble_eq_true rfl) rfl ?_
  refine ev_iload_n dX11_layRests_63 rfl ?_
  refine ev_iconst (v := 1) dX11_layRests_64 (by decide) ?_
  refine ev_iadd dX11_layRests_65 ?_
  refine ev_aload_n dX11_layRests_66 rfl ?_
  refine ev_iload_n dX11_layRests_67 rfl ?_
  obtain ⟨p1, h⟩ := h
  refine ev_callV [.int x1] dX11_layRests_68 ml_WithoutEModel_359 lm_0 rfl rfl (Nat.le_of_ble_eq_true rfl) (kX11_lengthOf p1) ?_
  rintro zr zM ⟨q1, q2⟩
  rw [q1, q2]
  show Ev LM (d + 2) mX11_layRests 71 [some (.ref 0), some (.int x1), some (.int x2), some (.int x3), some (.int s0), none] [(.int (M.1 1 (351 + 6 * x1).toNatClampNeg)), (.int (x2 + 1))] M Q
  refine ev_icmp_ge (tgt := 84) dX11_layRests_71 (by decide) (fun c => ?_) (fun c => ?_)
  · replace h := h.1 c
    refine ev_iconst (v := 0) dX11_layRests_84 (by decide) ?_
    refine ev_istore (ls2 := [some (.ref 0), some (.int x1), some (.int x2), some (.int x3), some (.int s0), some (.int 0)]) dX11_layRests_85 (Nat.le_of_ble_eq_true rfl) rfl ?_
    refine ev_aload_n dX11_layRests_87 rfl ?_
    refine ev_getA dX11_layRests_88 fl_WithoutEModel_52 lm_0 rfl ?_
    refine ev_bipush (v := 24) dX11_layRests_91 (by decide) ?_
    refine ev_iload_n dX11_layRests_93 rfl ?_
    refine ev_imul dX11_layRests_94 ?_
    refine ev_iload_n dX11_layRests_95 rfl ?_
    refine ev_iadd dX11_layRests_96 ?_
    refine ev_iload dX11_layRests_97 rfl ?_
    refine ev_if_eq (tgt := 108) dX11_layRests_99 (by decide) (fun _ => ?_) (fun c => absurd (by decide) c)
    refine ev_aload_n dX11_layRests_108 rfl ?_
    refine ev_getA dX11_layRests_109 fl_WithoutEModel_49 lm_0 rfl ?_
    refine ev_iload_n dX11_layRests_112 rfl ?_
    obtain ⟨c, h⟩ := h
    refine ev_iald dX11_layRests_113 lm_11 c ?_
    refine ev_iload dX11_layRests_114 rfl ?_
    refine ev_iconst (v := -1) dX11_layRests_116 (by decide) ?_
    refine ev_icmp_ne (tgt := 124) dX11_layRests_117 (by decide) (fun c => ?_) (fun c => ?_)
    · replace h := h.1 c
      refine ev_aload_n dX11_layRests_124 rfl ?_
      refine ev_iload_n dX11_layRests_125 rfl ?_
      refine ev_iload dX11_layRests_126 rfl ?_
      obtain ⟨p1, h⟩ := h
      refine ev_callV [.int x3, .int s0] dX11_layRests_128 ml_WithoutEModel_356 lm_0 rfl rfl (Nat.le_of_ble_eq_true rfl) (qX11_behind p1) ?_
      rintro zr zM ⟨q1, q2⟩
      rw [q1, q2]
      show Ev LM (d + 2) mX11_layRests 131 [some (.ref 0), some (.int x1), some (.int x2), some (.int x3), some (.int s0), some (.int 0)] [(.int (bhd (M.1 1 (39 + 13 * x3 + 0).toNatClampNeg) (M.1 1 (39 + 13 * s0 + 0).toNatClampNeg) x3 s0)), (.int (M.1 11 x3.toNatClampNeg)), (.int ((24 * x2) + x3)), (.ref 12)] M Q
      refine ev_aload_n dX11_layRests_131 rfl ?_
      refine ev_getA dX11_layRests_132 fl_WithoutEModel_52 lm_0 rfl ?_
      refine ev_bipush (v := 24) dX11_layRests_135 (by decide) ?_
      refine ev_iload_n dX11_layRests_137 rfl ?_
      refine ev_imul dX11_layRests_138 ?_
      refine ev_bipush (v := 24) dX11_layRests_139 (by decide) ?_
      refine ev_iadd dX11_layRests_141 ?_
      refine ev_iload dX11_layRests_142 rfl ?_
      refine ev_iadd dX11_layRests_144 ?_
      obtain ⟨c, h⟩ := h
      refine ev_iald dX11_layRests_145 lm_12 c ?_
      refine ev_iadd dX11_layRests_146 ?_
      refine ev_iadd dX11_layRests_147 ?_
      obtain ⟨c, h⟩ := h
      refine ev_iast dX11_layRests_148 lm_12 c ?_
      generalize eM1 : ev_wr M 12 ((24 * x2) + x3).toNatClampNeg ((M.1 11 x3.toNatClampNeg) + ((bhd (M.1 1 (39 + 13 * x3 + 0).toNatClampNeg) (M.1 1 (39 + 13 * s0 + 0).toNatClampNeg) x3 s0) + (M.1 12 (((24 * x2) + 24) + s0).toNatClampNeg))) = M1
      replace h := h M1 eM1.symm
      refine ev_iinc (v := x3 + 1) (ls2 := [some (.ref 0), some (.int x1), some (.int x2), some (.int (x3 + 1)), some (.int s0), some (.int 0)]) dX11_layRests_149 rfl rfl rfl ?_
      refine ev_goto (tgt := 14) dX11_layRests_152 (by decide) ?_
      refine Ev.weak (ls := [some (.ref 0), some (.int x1), some (.int x2), some (.int (x3 + 1)), none, none]) ⟨rfl, rfl, rfl, rfl, trivial⟩ ?_
      exact h
    · replace h := h.2 c
      refine ev_iconst (v := 0) dX11_layRests_120 (by decide) ?_
      refine ev_goto (tgt := 147) dX11_layRests_121 (by decide) ?_
      refine ev_iadd dX11_layRests_147 ?_
      obtain ⟨c, h⟩ := h
      refine ev_iast dX11_layRests_148 lm_12 c ?_
      generalize eM2 : ev_wr M 12 ((24 * x2) + x3).toNatClampNeg ((M.1 11 x3.toNatClampNeg) + 0) = M2
      replace h := h M2 eM2.symm
      refine ev_iinc (v := x3 + 1) (ls2 := [some (.ref 0), some (.int x1), some (.int x2), some (.int (x3 + 1)), some (.int s0), some (.int 0)]) dX11_layRests_149 rfl rfl rfl ?_
      refine ev_goto (tgt := 14) dX11_layRests_152 (by decide) ?_
      refine Ev.weak (ls := [some (.ref 0), some (.int x1), some (.int x2), some (.int (x3 + 1)), none, none]) ⟨rfl, rfl, rfl, rfl, trivial⟩ ?_
      exact h
  · replace h := h.2 c
    refine ev_iload dX11_layRests_74 rfl ?_
    refine ev_iconst (v := -1) dX11_layRests_76 (by decide) ?_
    refine ev_icmp_ne (tgt := 84) dX11_layRests_77 (by decide) (fun c => ?_) (fun c => ?_)
    · replace h := h.1 c
      refine ev_iconst (v := 0) dX11_layRests_84 (by decide) ?_
      refine ev_istore (ls2 := [some (.ref 0), some (.int x1), some (.int x2), some (.int x3), some (.int s0), some (.int 0)]) dX11_layRests_85 (Nat.le_of_ble_eq_true rfl) rfl ?_
      refine ev_aload_n dX11_layRests_87 rfl ?_
      refine ev_getA dX11_layRests_88 fl_WithoutEModel_52 lm_0 rfl ?_
      refine ev_bipush (v := 24) dX11_layRests_91 (by decide) ?_
      refine ev_iload_n dX11_layRests_93 rfl ?_
      refine ev_imul dX11_layRests_94 ?_
      refine ev_iload_n dX11_layRests_95 rfl ?_
      refine ev_iadd dX11_layRests_96 ?_
      refine ev_iload dX11_layRests_97 rfl ?_
      refine ev_if_eq (tgt := 108) dX11_layRests_99 (by decide) (fun _ => ?_) (fun c => absurd (by decide) c)
      refine ev_aload_n dX11_layRests_108 rfl ?_
      refine ev_getA dX11_layRests_109 fl_WithoutEModel_49 lm_0 rfl ?_
      refine ev_iload_n dX11_layRests_112 rfl ?_
      obtain ⟨c, h⟩ := h
      refine ev_iald dX11_layRests_113 lm_11 c ?_
      refine ev_iload dX11_layRests_114 rfl ?_
      refine ev_iconst (v := -1) dX11_layRests_116 (by decide) ?_
      refine ev_icmp_ne (tgt := 124) dX11_layRests_117 (by decide) (fun c => ?_) (fun c => ?_)
      · replace h := h.1 c
        refine ev_aload_n dX11_layRests_124 rfl ?_
        refine ev_iload_n dX11_layRests_125 rfl ?_
        refine ev_iload dX11_layRests_126 rfl ?_
        obtain ⟨p1, h⟩ := h
        refine ev_callV [.int x3, .int s0] dX11_layRests_128 ml_WithoutEModel_356 lm_0 rfl rfl (Nat.le_of_ble_eq_true rfl) (qX11_behind p1) ?_
        rintro zr zM ⟨q1, q2⟩
        rw [q1, q2]
        show Ev LM (d + 2) mX11_layRests 131 [some (.ref 0), some (.int x1), some (.int x2), some (.int x3), some (.int s0), some (.int 0)] [(.int (bhd (M.1 1 (39 + 13 * x3 + 0).toNatClampNeg) (M.1 1 (39 + 13 * s0 + 0).toNatClampNeg) x3 s0)), (.int (M.1 11 x3.toNatClampNeg)), (.int ((24 * x2) + x3)), (.ref 12)] M Q
        refine ev_aload_n dX11_layRests_131 rfl ?_
        refine ev_getA dX11_layRests_132 fl_WithoutEModel_52 lm_0 rfl ?_
        refine ev_bipush (v := 24) dX11_layRests_135 (by decide) ?_
        refine ev_iload_n dX11_layRests_137 rfl ?_
        refine ev_imul dX11_layRests_138 ?_
        refine ev_bipush (v := 24) dX11_layRests_139 (by decide) ?_
        refine ev_iadd dX11_layRests_141 ?_
        refine ev_iload dX11_layRests_142 rfl ?_
        refine ev_iadd dX11_layRests_144 ?_
        obtain ⟨c, h⟩ := h
        refine ev_iald dX11_layRests_145 lm_12 c ?_
        refine ev_iadd dX11_layRests_146 ?_
        refine ev_iadd dX11_layRests_147 ?_
        obtain ⟨c, h⟩ := h
        refine ev_iast dX11_layRests_148 lm_12 c ?_
        generalize eM3 : ev_wr M 12 ((24 * x2) + x3).toNatClampNeg ((M.1 11 x3.toNatClampNeg) + ((bhd (M.1 1 (39 + 13 * x3 + 0).toNatClampNeg) (M.1 1 (39 + 13 * s0 + 0).toNatClampNeg) x3 s0) + (M.1 12 (((24 * x2) + 24) + s0).toNatClampNeg))) = M3
        replace h := h M3 eM3.symm
        refine ev_iinc (v := x3 + 1) (ls2 := [some (.ref 0), some (.int x1), some (.int x2), some (.int (x3 + 1)), some (.int s0), some (.int 0)]) dX11_layRests_149 rfl rfl rfl ?_
        refine ev_goto (tgt := 14) dX11_layRests_152 (by decide) ?_
        refine Ev.weak (ls := [some (.ref 0), some (.int x1), some (.int x2), some (.int (x3 + 1)), none, none]) ⟨rfl, rfl, rfl, rfl, trivial⟩ ?_
        exact h
      · replace h := h.2 c
        refine ev_iconst (v := 0) dX11_layRests_120 (by decide) ?_
        refine ev_goto (tgt := 147) dX11_layRests_121 (by decide) ?_
        refine ev_iadd dX11_layRests_147 ?_
        obtain ⟨c, h⟩ := h
        refine ev_iast dX11_layRests_148 lm_12 c ?_
        generalize eM4 : ev_wr M 12 ((24 * x2) + x3).toNatClampNeg ((M.1 11 x3.toNatClampNeg) + 0) = M4
        replace h := h M4 eM4.symm
        refine ev_iinc (v := x3 + 1) (ls2 := [some (.ref 0), some (.int x1), some (.int x2), some (.int (x3 + 1)), some (.int s0), some (.int 0)]) dX11_layRests_149 rfl rfl rfl ?_
        refine ev_goto (tgt := 14) dX11_layRests_152 (by decide) ?_
        refine Ev.weak (ls := [some (.ref 0), some (.int x1), some (.int x2), some (.int (x3 + 1)), none, none]) ⟨rfl, rfl, rfl, rfl, trivial⟩ ?_
        exact h
    · replace h := h.2 c
      refine ev_iconst (v := 1) dX11_layRests_80 (by decide) ?_
      refine ev_goto (tgt := 85) dX11_layRests_81 (by decide) ?_
      refine ev_istore (ls2 := [some (.ref 0), some (.int x1), some (.int x2), some (.int x3), some (.int s0), some (.int 1)]) dX11_layRests_85 (Nat.le_of_ble_eq_true rfl) rfl ?_
      refine ev_aload_n dX11_layRests_87 rfl ?_
      refine ev_getA dX11_layRests_88 fl_WithoutEModel_52 lm_0 rfl ?_
      refine ev_bipush (v := 24) dX11_layRests_91 (by decide) ?_
      refine ev_iload_n dX11_layRests_93 rfl ?_
      refine ev_imul dX11_layRests_94 ?_
      refine ev_iload_n dX11_layRests_95 rfl ?_
      refine ev_iadd dX11_layRests_96 ?_
      refine ev_iload dX11_layRests_97 rfl ?_
      refine ev_if_eq (tgt := 108) dX11_layRests_99 (by decide) (fun c => absurd c (by decide)) (fun _ => ?_)
      refine ev_ldcw (v := 1000000) dX11_layRests_102 cw_WithoutEModel_352 ?_
      refine ev_goto (tgt := 148) dX11_layRests_105 (by decide) ?_
      obtain ⟨c, h⟩ := h
      refine ev_iast dX11_layRests_148 lm_12 c ?_
      generalize eM5 : ev_wr M 12 ((24 * x2) + x3).toNatClampNeg 1000000 = M5
      replace h := h M5 eM5.symm
      refine ev_iinc (v := x3 + 1) (ls2 := [some (.ref 0), some (.int x1), some (.int x2), some (.int (x3 + 1)), some (.int s0), some (.int 1)]) dX11_layRests_149 rfl rfl rfl ?_
      refine ev_goto (tgt := 14) dX11_layRests_152 (by decide) ?_
      refine Ev.weak (ls := [some (.ref 0), some (.int x1), some (.int x2), some (.int (x3 + 1)), none, none]) ⟨rfl, rfl, rfl, rfl, trivial⟩ ?_
      exact h
theorem dX11_leastOf_0 : decode cX11_leastOf 0 = .ok (.aload_n 0, 1) := by decide +kernel
theorem dX11_leastOf_1 : decode cX11_leastOf 1 = .ok (.iload_n 1, 1) := by decide +kernel
theorem dX11_leastOf_2 : decode cX11_leastOf 2 = .ok (.invokevirtual 365, 3) := by decide +kernel
theorem dX11_leastOf_5 : decode cX11_leastOf 5 = .ok (.aload_n 0, 1) := by decide +kernel
theorem dX11_leastOf_6 : decode cX11_leastOf 6 = .ok (.iload_n 1, 1) := by decide +kernel
theorem dX11_leastOf_7 : decode cX11_leastOf 7 = .ok (.iconst 0, 1) := by decide +kernel
theorem dX11_leastOf_8 : decode cX11_leastOf 8 = .ok (.iconst (-1), 1) := by decide +kernel
theorem dX11_leastOf_9 : decode cX11_leastOf 9 = .ok (.invokevirtual 362, 3) := by decide +kernel
theorem dX11_leastOf_12 : decode cX11_leastOf 12 = .ok (.istore_n 2, 1) := by decide +kernel
theorem dX11_leastOf_13 : decode cX11_leastOf 13 = .ok (.iload_n 2, 1) := by decide +kernel
theorem dX11_leastOf_14 : decode cX11_leastOf 14 = .ok (.iconst (-1), 1) := by decide +kernel
theorem dX11_leastOf_15 : decode cX11_leastOf 15 = .ok (.if_icmp .ne 5, 3) := by decide +kernel
theorem dX11_leastOf_18 : decode cX11_leastOf 18 = .ok (.iconst (-1), 1) := by decide +kernel
theorem dX11_leastOf_19 : decode cX11_leastOf 19 = .ok (.ireturn, 1) := by decide +kernel
theorem dX11_leastOf_20 : decode cX11_leastOf 20 = .ok (.aload_n 0, 1) := by decide +kernel
theorem dX11_leastOf_21 : decode cX11_leastOf 21 = .ok (.getfield 52, 3) := by decide +kernel
theorem dX11_leastOf_24 : decode cX11_leastOf 24 = .ok (.iload_n 2, 1) := by decide +kernel
theorem dX11_leastOf_25 : decode cX11_leastOf 25 = .ok (.iaload, 1) := by decide +kernel
theorem dX11_leastOf_26 : decode cX11_leastOf 26 = .ok (.istore_n 3, 1) := by decide +kernel
theorem dX11_leastOf_27 : decode cX11_leastOf 27 = .ok (.iconst 0, 1) := by decide +kernel
theorem dX11_leastOf_28 : decode cX11_leastOf 28 = .ok (.istore 4, 2) := by decide +kernel
theorem dX11_leastOf_30 : decode cX11_leastOf 30 = .ok (.iload 4, 2) := by decide +kernel
theorem dX11_leastOf_32 : decode cX11_leastOf 32 = .ok (.aload_n 0, 1) := by decide +kernel
theorem dX11_leastOf_33 : decode cX11_leastOf 33 = .ok (.iload_n 1, 1) := by decide +kernel
theorem dX11_leastOf_34 : decode cX11_leastOf 34 = .ok (.invokevirtual 359, 3) := by decide +kernel
theorem dX11_leastOf_37 : decode cX11_leastOf 37 = .ok (.if_icmp .ge 44, 3) := by decide +kernel
theorem dX11_leastOf_40 : decode cX11_leastOf 40 = .ok (.aload_n 0, 1) := by decide +kernel
theorem dX11_leastOf_41 : decode cX11_leastOf 41 = .ok (.getfield 55, 3) := by decide +kernel
theorem dX11_leastOf_44 : decode cX11_leastOf 44 = .ok (.iload 4, 2) := by decide +kernel
theorem dX11_leastOf_46 : decode cX11_leastOf 46 = .ok (.iload_n 2, 1) := by decide +kernel
theorem dX11_leastOf_47 : decode cX11_leastOf 47 = .ok (.iastore, 1) := by decide +kernel
theorem dX11_leastOf_48 : decode cX11_leastOf 48 = .ok (.iload 4, 2) := by decide +kernel
theorem dX11_leastOf_50 : decode cX11_leastOf 50 = .ok (.iconst 1, 1) := by decide +kernel
theorem dX11_leastOf_51 : decode cX11_leastOf 51 = .ok (.iadd, 1) := by decide +kernel
theorem dX11_leastOf_52 : decode cX11_leastOf 52 = .ok (.aload_n 0, 1) := by decide +kernel
theorem dX11_leastOf_53 : decode cX11_leastOf 53 = .ok (.iload_n 1, 1) := by decide +kernel
theorem dX11_leastOf_54 : decode cX11_leastOf 54 = .ok (.invokevirtual 359, 3) := by decide +kernel
theorem dX11_leastOf_57 : decode cX11_leastOf 57 = .ok (.if_icmp .ge 16, 3) := by decide +kernel
theorem dX11_leastOf_60 : decode cX11_leastOf 60 = .ok (.aload_n 0, 1) := by decide +kernel
theorem dX11_leastOf_61 : decode cX11_leastOf 61 = .ok (.iload_n 1, 1) := by decide +kernel
theorem dX11_leastOf_62 : decode cX11_leastOf 62 = .ok (.iload 4, 2) := by decide +kernel
theorem dX11_leastOf_64 : decode cX11_leastOf 64 = .ok (.iconst 1, 1) := by decide +kernel
theorem dX11_leastOf_65 : decode cX11_leastOf 65 = .ok (.iadd, 1) := by decide +kernel
theorem dX11_leastOf_66 : decode cX11_leastOf 66 = .ok (.iload_n 2, 1) := by decide +kernel
theorem dX11_leastOf_67 : decode cX11_leastOf 67 = .ok (.invokevirtual 362, 3) := by decide +kernel
theorem dX11_leastOf_70 : decode cX11_leastOf 70 = .ok (.goto 4, 3) := by decide +kernel
theorem dX11_leastOf_73 : decode cX11_leastOf 73 = .ok (.iconst (-1), 1) := by decide +kernel
theorem dX11_leastOf_74 : decode cX11_leastOf 74 = .ok (.istore_n 2, 1) := by decide +kernel
theorem dX11_leastOf_75 : decode cX11_leastOf 75 = .ok (.iinc 4 1, 3) := by decide +kernel
theorem dX11_leastOf_78 : decode cX11_leastOf 78 = .ok (.goto (-48), 3) := by decide +kernel
theorem dX11_leastOf_81 : decode cX11_leastOf 81 = .ok (.iload_n 3, 1) := by decide +kernel
theorem dX11_leastOf_82 : decode cX11_leastOf 82 = .ok (.ireturn, 1) := by decide +kernel
theorem gX11_leastOf_0 {d : Nat} {M : ev_Mem} {Q : Option Value → ev_Mem → Prop} {x1 : Int32} (h : (∃ Q2 : Option Value → ev_Mem → Prop, Cl LM d mX11_layRests [.ref 0, .int x1] M Q2 ∧ ∀ (zr : Option Value) (zM : ev_Mem), Q2 zr zM → Ev LM (d + 1) mX11_leastOf 5 [some (.ref 0), some (.int x1), none, none, none] (zr.toList ++ []) zM Q)) : Ev LM (d + 1) mX11_leastOf 0 [some (.ref 0), some (.int x1), none, none, none] [] M Q := by
  refine ev_aload_n dX11_leastOf_0 rfl ?_
  refine ev_iload_n dX11_leastOf_1 rfl ?_
  obtain ⟨Q2, hc, h⟩ := h
  refine ev_callV [.int x1] dX11_leastOf_2 ml_WithoutEModel_365 lm_0 rfl rfl (Nat.le_of_ble_eq_true rfl) hc (fun zr zM q => ?_)
  exact h zr zM q
theorem gX11_leastOf_5 {d : Nat} {M : ev_Mem} {Q : Option Value → ev_Mem → Prop} {x1 : Int32} (h : (∃ Q2 : Option Value → ev_Mem → Prop, Cl LM d mX11_nextOf [.ref 0, .int x1, .int 0, .int (-1)] M Q2 ∧ ∀ (zr : Option Value) (zM : ev_Mem), Q2 zr zM → Ev LM (d + 1) mX11_leastOf 12 [some (.ref 0), some (.int x1), none, none, none] (zr.toList ++ []) zM Q)) : Ev LM (d + 1) mX11_leastOf 5 [some (.ref 0), some (.int x1), none, none, none] [] M Q := by
  refine ev_aload_n dX11_leastOf_5 rfl ?_
  refine ev_iload_n dX11_leastOf_6 rfl ?_
  refine ev_iconst (v := 0) dX11_leastOf_7 (by decide) ?_
  refine ev_iconst (v := -1) dX11_leastOf_8 (by decide) ?_
  obtain ⟨Q2, hc, h⟩ := h
  refine ev_callV [.int x1, .int 0, .int (-1)] dX11_leastOf_9 ml_WithoutEModel_362 lm_0 rfl rfl (Nat.le_of_ble_eq_true rfl) hc (fun zr zM q => ?_)
  exact h zr zM q
theorem gX11_leastOf_12 {d : Nat} {M : ev_Mem} {Q : Option Value → ev_Mem → Prop} {x1 s0 : Int32} (h : (((¬ s0 = (-1)) → (vp_in s0 120 ∧ (Ev LM d mX11_leastOf 30 [some (.ref 0), some (.int x1), some (.int s0), some (.int (M.1 12 s0.toNatClampNeg)), some (.int 0)] [] M Q))) ∧ ((s0 = (-1)) → (Q (some (.int (-1))) M)))) : Ev LM d mX11_leastOf 12 [some (.ref 0), some (.int x1), none, none, none] [(.int s0)] M Q := by
  refine ev_istore_n (ls2 := [some (.ref 0), some (.int x1), some (.int s0), none, none]) dX11_leastOf_12 (Nat.le_of_ble_eq_true rfl) rfl ?_
  refine ev_iload_n dX11_leastOf_13 rfl ?_
  refine ev_iconst (v := -1) dX11_leastOf_14 (by decide) ?_
  refine ev_icmp_ne (tgt := 20) dX11_leastOf_15 (by decide) (fun c => ?_) (fun c => ?_)
  · replace h := h.1 c
    refine ev_aload_n dX11_leastOf_20 rfl ?_
    refine ev_getA dX11_leastOf_21 fl_WithoutEModel_52 lm_0 rfl ?_
    refine ev_iload_n dX11_leastOf_24 rfl ?_
    obtain ⟨c, h⟩ := h
    refine ev_iald dX11_leastOf_25 lm_12 c ?_
    refine ev_istore_n (ls2 := [some (.ref 0), some (.int x1), some (.int s0), some (.int (M.1 12 s0.toNatClampNeg)), none]) dX11_leastOf_26 (Nat.le_of_ble_eq_true rfl) rfl ?_
    refine ev_iconst (v := 0) dX11_leastOf_27 (by decide) ?_
    refine ev_istore (ls2 := [some (.ref 0), some (.int x1), some (.int s0), some (.int (M.1 12 s0.toNatClampNeg)), some (.int 0)]) dX11_leastOf_28 (Nat.le_of_ble_eq_true rfl) rfl ?_
    exact h
  · replace h := h.2 c
    refine ev_iconst (v := -1) dX11_leastOf_18 (by decide) ?_
    exact ev_iret dX11_leastOf_19 rfl h
theorem gX11_leastOf_30 {d : Nat} {M : ev_Mem} {Q : Option Value → ev_Mem → Prop} {x1 x2 x3 x4 : Int32} (h : ((vp_in (351 + 6 * x1) 3315) ∧ ((((M.1 1 (351 + 6 * x1).toNatClampNeg) ≤ x4) → (Q (some (.int x3)) M)) ∧ ((¬ (M.1 1 (351 + 6 * x1).toNatClampNeg) ≤ x4) → (vp_in x4 5 ∧ (∀ M1 : ev_Mem, M1 = ev_wr M 13 x4.toNatClampNeg x2 → ((vp_in (351 + 6 * x1) 3315) ∧ ((((M1.1 1 (351 + 6 * x1).toNatClampNeg) ≤ (x4 + 1)) → (Ev LM (d + 1) mX11_leastOf 30 [some (.ref 0), some (.int x1), some (.int (-1)), some (.int x3), some (.int (x4 + 1))] [] M1 Q)) ∧ ((¬ (M1.1 1 (351 + 6 * x1).toNatClampNeg) ≤ (x4 + 1)) → (∃ Q2 : Option Value → ev_Mem → Prop, Cl LM d mX11_nextOf [.ref 0, .int x1, .int (x4 + 1), .int x2] M1 Q2 ∧ ∀ (zr : Option Value) (zM : ev_Mem), Q2 zr zM → Ev LM (d + 1) mX11_leastOf 70 [some (.ref 0), some (.int x1), none, some (.int x3), some (.int x4)] (zr.toList ++ []) zM Q)))))))))) : Ev LM (d + 1) mX11_leastOf 30 [some (.ref 0), some (.int x1), some (.int x2), some (.int x3), some (.int x4)] [] M Q := by
  refine ev_iload dX11_leastOf_30 rfl ?_
  refine ev_aload_n dX11_leastOf_32 rfl ?_
  refine ev_iload_n dX11_leastOf_33 rfl ?_
  obtain ⟨p1, h⟩ := h
  refine ev_callV [.int x1] dX11_leastOf_34 ml_WithoutEModel_359 lm_0 rfl rfl (Nat.le_of_ble_eq_true rfl) (kX11_lengthOf p1) ?_
  rintro zr zM ⟨q1, q2⟩
  rw [q1, q2]
  show Ev LM (d + 1) mX11_leastOf 37 [some (.ref 0), some (.int x1), some (.int x2), some (.int x3), some (.int x4)] [(.int (M.1 1 (351 + 6 * x1).toNatClampNeg)), (.int x4)] M Q
  refine ev_icmp_ge (tgt := 81) dX11_leastOf_37 (by decide) (fun c => ?_) (fun c => ?_)
  · replace h := h.1 c
    refine ev_iload_n dX11_leastOf_81 rfl ?_
    exact ev_iret dX11_leastOf_82 rfl h
  · replace h := h.2 c
    refine ev_aload_n dX11_leastOf_40 rfl ?_
    refine ev_getA dX11_leastOf_41 fl_WithoutEModel_55 lm_0 rfl ?_
    refine ev_iload dX11_leastOf_44 rfl ?_
    refine ev_iload_n dX11_leastOf_46 rfl ?_
    obtain ⟨c, h⟩ := h
    refine ev_iast dX11_leastOf_47 lm_13 c ?_
    generalize eM1 : ev_wr M 13 x4.toNatClampNeg x2 = M1
    replace h := h M1 eM1.symm
    refine ev_iload dX11_leastOf_48 rfl ?_
    refine ev_iconst (v := 1) dX11_leastOf_50 (by decide) ?_
    refine ev_iadd dX11_leastOf_51 ?_
    refine ev_aload_n dX11_leastOf_52 rfl ?_
    refine ev_iload_n dX11_leastOf_53 rfl ?_
    obtain ⟨p1, h⟩ := h
    refine ev_callV [.int x1] dX11_leastOf_54 ml_WithoutEModel_359 lm_0 rfl rfl (Nat.le_of_ble_eq_true rfl) (kX11_lengthOf p1) ?_
    rintro zr zM ⟨q1, q2⟩
    rw [q1, q2]
    show Ev LM (d + 1) mX11_leastOf 57 [some (.ref 0), some (.int x1), some (.int x2), some (.int x3), some (.int x4)] [(.int (M1.1 1 (351 + 6 * x1).toNatClampNeg)), (.int (x4 + 1))] M1 Q
    refine ev_icmp_ge (tgt := 73) dX11_leastOf_57 (by decide) (fun c => ?_) (fun c => ?_)
    · replace h := h.1 c
      refine ev_iconst (v := -1) dX11_leastOf_73 (by decide) ?_
      refine ev_istore_n (ls2 := [some (.ref 0), some (.int x1), some (.int (-1)), some (.int x3), some (.int x4)]) dX11_leastOf_74 (Nat.le_of_ble_eq_true rfl) rfl ?_
      refine ev_iinc (v := x4 + 1) (ls2 := [some (.ref 0), some (.int x1), some (.int (-1)), some (.int x3), some (.int (x4 + 1))]) dX11_leastOf_75 rfl rfl rfl ?_
      refine ev_goto (tgt := 30) dX11_leastOf_78 (by decide) ?_
      exact h
    · replace h := h.2 c
      refine ev_aload_n dX11_leastOf_60 rfl ?_
      refine ev_iload_n dX11_leastOf_61 rfl ?_
      refine ev_iload dX11_leastOf_62 rfl ?_
      refine ev_iconst (v := 1) dX11_leastOf_64 (by decide) ?_
      refine ev_iadd dX11_leastOf_65 ?_
      refine ev_iload_n dX11_leastOf_66 rfl ?_
      obtain ⟨Q2, hc, h⟩ := h
      refine ev_callV [.int x1, .int (x4 + 1), .int x2] dX11_leastOf_67 ml_WithoutEModel_362 lm_0 rfl rfl (Nat.le_of_ble_eq_true rfl) hc (fun zr zM q => ?_)
      refine Ev.weak (ls := [some (.ref 0), some (.int x1), none, some (.int x3), some (.int x4)]) ⟨rfl, rfl, rfl, rfl, trivial⟩ ?_
      exact h zr zM q
theorem gX11_leastOf_70 {d : Nat} {M : ev_Mem} {Q : Option Value → ev_Mem → Prop} {x1 x3 x4 s0 : Int32} (h : (Ev LM d mX11_leastOf 30 [some (.ref 0), some (.int x1), some (.int s0), some (.int x3), some (.int (x4 + 1))] [] M Q)) : Ev LM d mX11_leastOf 70 [some (.ref 0), some (.int x1), none, some (.int x3), some (.int x4)] [(.int s0)] M Q := by
  refine ev_goto (tgt := 74) dX11_leastOf_70 (by decide) ?_
  refine ev_istore_n (ls2 := [some (.ref 0), some (.int x1), some (.int s0), some (.int x3), some (.int x4)]) dX11_leastOf_74 (Nat.le_of_ble_eq_true rfl) rfl ?_
  refine ev_iinc (v := x4 + 1) (ls2 := [some (.ref 0), some (.int x1), some (.int s0), some (.int x3), some (.int (x4 + 1))]) dX11_leastOf_75 rfl rfl rfl ?_
  refine ev_goto (tgt := 30) dX11_leastOf_78 (by decide) ?_
  exact h
