theorem dX4_advance_0 : decode cX4_advance 0 = .ok (.aload_n 0, 1) := by decide +kernel
theorem dX4_advance_1 : decode cX4_advance 1 = .ok (.getfield 35, 3) := by decide +kernel
theorem dX4_advance_4 : decode cX4_advance 4 = .ok (.aload_n 0, 1) := by decide +kernel
theorem dX4_advance_5 : decode cX4_advance 5 = .ok (.getfield 15, 3) := by decide +kernel
theorem dX4_advance_8 : decode cX4_advance 8 = .ok (.getfield 51, 3) := by decide +kernel
theorem dX4_advance_11 : decode cX4_advance 11 = .ok (.if_icmp .ge 50, 3) := by decide +kernel
theorem dX4_advance_14 : decode cX4_advance 14 = .ok (.aload_n 0, 1) := by decide +kernel
theorem dX4_advance_15 : decode cX4_advance 15 = .ok (.getfield 15, 3) := by decide +kernel
theorem dX4_advance_18 : decode cX4_advance 18 = .ok (.getfield 56, 3) := by decide +kernel
theorem dX4_advance_21 : decode cX4_advance 21 = .ok (.aload_n 0, 1) := by decide +kernel
theorem dX4_advance_22 : decode cX4_advance 22 = .ok (.getfield 35, 3) := by decide +kernel
theorem dX4_advance_25 : decode cX4_advance 25 = .ok (.iaload, 1) := by decide +kernel
theorem dX4_advance_26 : decode cX4_advance 26 = .ok (.bipush 32, 2) := by decide +kernel
theorem dX4_advance_28 : decode cX4_advance 28 = .ok (.if_icmp .eq 20, 3) := by decide +kernel
theorem dX4_advance_31 : decode cX4_advance 31 = .ok (.aload_n 0, 1) := by decide +kernel
theorem dX4_advance_32 : decode cX4_advance 32 = .ok (.getfield 15, 3) := by decide +kernel
theorem dX4_advance_35 : decode cX4_advance 35 = .ok (.getfield 56, 3) := by decide +kernel
theorem dX4_advance_38 : decode cX4_advance 38 = .ok (.aload_n 0, 1) := by decide +kernel
theorem dX4_advance_39 : decode cX4_advance 39 = .ok (.getfield 35, 3) := by decide +kernel
theorem dX4_advance_42 : decode cX4_advance 42 = .ok (.iaload, 1) := by decide +kernel
theorem dX4_advance_43 : decode cX4_advance 43 = .ok (.bipush 10, 2) := by decide +kernel
theorem dX4_advance_45 : decode cX4_advance 45 = .ok (.if_icmp .ne 16, 3) := by decide +kernel
theorem dX4_advance_48 : decode cX4_advance 48 = .ok (.aload_n 0, 1) := by decide +kernel
theorem dX4_advance_49 : decode cX4_advance 49 = .ok (.dup, 1) := by decide +kernel
theorem dX4_advance_50 : decode cX4_advance 50 = .ok (.getfield 35, 3) := by decide +kernel
theorem dX4_advance_53 : decode cX4_advance 53 = .ok (.iconst 1, 1) := by decide +kernel
theorem dX4_advance_54 : decode cX4_advance 54 = .ok (.iadd, 1) := by decide +kernel
theorem dX4_advance_55 : decode cX4_advance 55 = .ok (.putfield 35, 3) := by decide +kernel
theorem dX4_advance_58 : decode cX4_advance 58 = .ok (.goto (-58), 3) := by decide +kernel
theorem dX4_advance_61 : decode cX4_advance 61 = .ok (.aload_n 0, 1) := by decide +kernel
theorem dX4_advance_62 : decode cX4_advance 62 = .ok (.aload_n 0, 1) := by decide +kernel
theorem dX4_advance_63 : decode cX4_advance 63 = .ok (.getfield 35, 3) := by decide +kernel
theorem dX4_advance_66 : decode cX4_advance 66 = .ok (.putfield 48, 3) := by decide +kernel
theorem dX4_advance_69 : decode cX4_advance 69 = .ok (.aload_n 0, 1) := by decide +kernel
theorem dX4_advance_70 : decode cX4_advance 70 = .ok (.getfield 35, 3) := by decide +kernel
theorem dX4_advance_73 : decode cX4_advance 73 = .ok (.aload_n 0, 1) := by decide +kernel
theorem dX4_advance_74 : decode cX4_advance 74 = .ok (.getfield 15, 3) := by decide +kernel
theorem dX4_advance_77 : decode cX4_advance 77 = .ok (.getfield 51, 3) := by decide +kernel
theorem dX4_advance_80 : decode cX4_advance 80 = .ok (.if_icmp .lt 9, 3) := by decide +kernel
theorem dX4_advance_83 : decode cX4_advance 83 = .ok (.aload_n 0, 1) := by decide +kernel
theorem dX4_advance_84 : decode cX4_advance 84 = .ok (.iconst 0, 1) := by decide +kernel
theorem dX4_advance_85 : decode cX4_advance 85 = .ok (.putfield 41, 3) := by decide +kernel
theorem dX4_advance_88 : decode cX4_advance 88 = .ok (.return_, 1) := by decide +kernel
theorem dX4_advance_89 : decode cX4_advance 89 = .ok (.aload_n 0, 1) := by decide +kernel
theorem dX4_advance_90 : decode cX4_advance 90 = .ok (.aload_n 0, 1) := by decide +kernel
theorem dX4_advance_91 : decode cX4_advance 91 = .ok (.getfield 15, 3) := by decide +kernel
theorem dX4_advance_94 : decode cX4_advance 94 = .ok (.getfield 56, 3) := by decide +kernel
theorem dX4_advance_97 : decode cX4_advance 97 = .ok (.aload_n 0, 1) := by decide +kernel
theorem dX4_advance_98 : decode cX4_advance 98 = .ok (.getfield 35, 3) := by decide +kernel
theorem dX4_advance_101 : decode cX4_advance 101 = .ok (.iaload, 1) := by decide +kernel
theorem dX4_advance_102 : decode cX4_advance 102 = .ok (.invokestatic 60, 3) := by decide +kernel
theorem dX4_advance_105 : decode cX4_advance 105 = .ok (.putfield 41, 3) := by decide +kernel
theorem dX4_advance_108 : decode cX4_advance 108 = .ok (.aload_n 0, 1) := by decide +kernel
theorem dX4_advance_109 : decode cX4_advance 109 = .ok (.dup, 1) := by decide +kernel
theorem dX4_advance_110 : decode cX4_advance 110 = .ok (.getfield 35, 3) := by decide +kernel
theorem dX4_advance_113 : decode cX4_advance 113 = .ok (.iconst 1, 1) := by decide +kernel
theorem dX4_advance_114 : decode cX4_advance 114 = .ok (.iadd, 1) := by decide +kernel
theorem dX4_advance_115 : decode cX4_advance 115 = .ok (.putfield 35, 3) := by decide +kernel
theorem dX4_advance_118 : decode cX4_advance 118 = .ok (.aload_n 0, 1) := by decide +kernel
theorem dX4_advance_119 : decode cX4_advance 119 = .ok (.getfield 41, 3) := by decide +kernel
theorem dX4_advance_122 : decode cX4_advance 122 = .ok (.iconst 1, 1) := by decide +kernel
theorem dX4_advance_123 : decode cX4_advance 123 = .ok (.if_icmp .eq 11, 3) := by decide +kernel
theorem dX4_advance_126 : decode cX4_advance 126 = .ok (.aload_n 0, 1) := by decide +kernel
theorem dX4_advance_127 : decode cX4_advance 127 = .ok (.getfield 41, 3) := by decide +kernel
theorem dX4_advance_130 : decode cX4_advance 130 = .ok (.iconst 2, 1) := by decide +kernel
theorem dX4_advance_131 : decode cX4_advance 131 = .ok (.if_icmp .ne 52, 3) := by decide +kernel
theorem dX4_advance_134 : decode cX4_advance 134 = .ok (.aload_n 0, 1) := by decide +kernel
theorem dX4_advance_135 : decode cX4_advance 135 = .ok (.getfield 35, 3) := by decide +kernel
theorem dX4_advance_138 : decode cX4_advance 138 = .ok (.aload_n 0, 1) := by decide +kernel
theorem dX4_advance_139 : decode cX4_advance 139 = .ok (.getfield 15, 3) := by decide +kernel
theorem dX4_advance_142 : decode cX4_advance 142 = .ok (.getfield 51, 3) := by decide +kernel
theorem dX4_advance_145 : decode cX4_advance 145 = .ok (.if_icmp .ge 115, 3) := by decide +kernel
theorem dX4_advance_148 : decode cX4_advance 148 = .ok (.aload_n 0, 1) := by decide +kernel
theorem dX4_advance_149 : decode cX4_advance 149 = .ok (.getfield 15, 3) := by decide +kernel
theorem dX4_advance_152 : decode cX4_advance 152 = .ok (.getfield 56, 3) := by decide +kernel
theorem dX4_advance_155 : decode cX4_advance 155 = .ok (.aload_n 0, 1) := by decide +kernel
theorem dX4_advance_156 : decode cX4_advance 156 = .ok (.getfield 35, 3) := by decide +kernel
theorem dX4_advance_159 : decode cX4_advance 159 = .ok (.iaload, 1) := by decide +kernel
theorem dX4_advance_160 : decode cX4_advance 160 = .ok (.invokestatic 60, 3) := by decide +kernel
theorem dX4_advance_163 : decode cX4_advance 163 = .ok (.aload_n 0, 1) := by decide +kernel
theorem dX4_advance_164 : decode cX4_advance 164 = .ok (.getfield 41, 3) := by decide +kernel
theorem dX4_advance_167 : decode cX4_advance 167 = .ok (.if_icmp .ne 93, 3) := by decide +kernel
theorem dX4_advance_170 : decode cX4_advance 170 = .ok (.aload_n 0, 1) := by decide +kernel
theorem dX4_advance_171 : decode cX4_advance 171 = .ok (.dup, 1) := by decide +kernel
theorem dX4_advance_172 : decode cX4_advance 172 = .ok (.getfield 35, 3) := by decide +kernel
theorem dX4_advance_175 : decode cX4_advance 175 = .ok (.iconst 1, 1) := by decide +kernel
theorem dX4_advance_176 : decode cX4_advance 176 = .ok (.iadd, 1) := by decide +kernel
theorem dX4_advance_177 : decode cX4_advance 177 = .ok (.putfield 35, 3) := by decide +kernel
theorem dX4_advance_180 : decode cX4_advance 180 = .ok (.goto (-46), 3) := by decide +kernel
theorem dX4_advance_183 : decode cX4_advance 183 = .ok (.aload_n 0, 1) := by decide +kernel
theorem dX4_advance_184 : decode cX4_advance 184 = .ok (.getfield 41, 3) := by decide +kernel
theorem dX4_advance_187 : decode cX4_advance 187 = .ok (.bipush 60, 2) := by decide +kernel
theorem dX4_advance_189 : decode cX4_advance 189 = .ok (.if_icmp .eq 12, 3) := by decide +kernel
theorem dX4_advance_192 : decode cX4_advance 192 = .ok (.aload_n 0, 1) := by decide +kernel
theorem dX4_advance_193 : decode cX4_advance 193 = .ok (.getfield 41, 3) := by decide +kernel
theorem dX4_advance_196 : decode cX4_advance 196 = .ok (.bipush 62, 2) := by decide +kernel
theorem dX4_advance_198 : decode cX4_advance 198 = .ok (.if_icmp .ne 62, 3) := by decide +kernel
theorem dX4_advance_201 : decode cX4_advance 201 = .ok (.aload_n 0, 1) := by decide +kernel
theorem dX4_advance_202 : decode cX4_advance 202 = .ok (.getfield 35, 3) := by decide +kernel
theorem dX4_advance_205 : decode cX4_advance 205 = .ok (.aload_n 0, 1) := by decide +kernel
theorem dX4_advance_206 : decode cX4_advance 206 = .ok (.getfield 15, 3) := by decide +kernel
theorem dX4_advance_209 : decode cX4_advance 209 = .ok (.getfield 51, 3) := by decide +kernel
theorem dX4_advance_212 : decode cX4_advance 212 = .ok (.if_icmp .ge 48, 3) := by decide +kernel
theorem dX4_advance_215 : decode cX4_advance 215 = .ok (.aload_n 0, 1) := by decide +kernel
theorem dX4_advance_216 : decode cX4_advance 216 = .ok (.getfield 15, 3) := by decide +kernel
theorem dX4_advance_219 : decode cX4_advance 219 = .ok (.getfield 56, 3) := by decide +kernel
theorem dX4_advance_222 : decode cX4_advance 222 = .ok (.aload_n 0, 1) := by decide +kernel
theorem dX4_advance_223 : decode cX4_advance 223 = .ok (.getfield 35, 3) := by decide +kernel
theorem dX4_advance_226 : decode cX4_advance 226 = .ok (.iaload, 1) := by decide +kernel
theorem dX4_advance_227 : decode cX4_advance 227 = .ok (.bipush 61, 2) := by decide +kernel
theorem dX4_advance_229 : decode cX4_advance 229 = .ok (.if_icmp .ne 31, 3) := by decide +kernel
theorem dX4_advance_232 : decode cX4_advance 232 = .ok (.aload_n 0, 1) := by decide +kernel
theorem dX4_advance_233 : decode cX4_advance 233 = .ok (.aload_n 0, 1) := by decide +kernel
theorem dX4_advance_234 : decode cX4_advance 234 = .ok (.getfield 41, 3) := by decide +kernel
theorem dX4_advance_237 : decode cX4_advance 237 = .ok (.bipush 60, 2) := by decide +kernel
theorem dX4_advance_239 : decode cX4_advance 239 = .ok (.if_icmp .ne 7, 3) := by decide +kernel
theorem dX4_advance_242 : decode cX4_advance 242 = .ok (.iconst 4, 1) := by decide +kernel
theorem dX4_advance_243 : decode cX4_advance 243 = .ok (.goto 4, 3) := by decide +kernel
theorem dX4_advance_246 : decode cX4_advance 246 = .ok (.iconst 5, 1) := by decide +kernel
theorem dX4_advance_247 : decode cX4_advance 247 = .ok (.putfield 41, 3) := by decide +kernel
theorem dX4_advance_250 : decode cX4_advance 250 = .ok (.aload_n 0, 1) := by decide +kernel
theorem dX4_advance_251 : decode cX4_advance 251 = .ok (.dup, 1) := by decide +kernel
theorem dX4_advance_252 : decode cX4_advance 252 = .ok (.getfield 35, 3) := by decide +kernel
theorem dX4_advance_255 : decode cX4_advance 255 = .ok (.iconst 1, 1) := by decide +kernel
theorem dX4_advance_256 : decode cX4_advance 256 = .ok (.iadd, 1) := by decide +kernel
theorem dX4_advance_257 : decode cX4_advance 257 = .ok (.putfield 35, 3) := by decide +kernel
theorem dX4_advance_260 : decode cX4_advance 260 = .ok (.return_, 1) := by decide +kernel
theorem gX4_advance_0 {d : Nat} {M : ev_Mem} {Q : Option Value → ev_Mem → Prop} (h : ((((M.1 1 1) ≤ (M.1 81 7)) → (Ev LX d mX4_advance 61 [some (.ref 81)] [] M Q)) ∧ ((¬ (M.1 1 1) ≤ (M.1 81 7)) → (vp_in (M.1 81 7) 300 ∧ ((((M.1 2 (M.1 81 7).toNatClampNeg) = 32) → (∀ M1 : ev_Mem, M1 = ev_wr M 81 7 ((M.1 81 7) + 1) → (Ev LX d mX4_advance 0 [some (.ref 81)] [] M1 Q))) ∧ ((¬ (M.1 2 (M.1 81 7).toNatClampNeg) = 32) → (vp_in (M.1 81 7) 300 ∧ (((¬ (M.1 2 (M.1 81 7).toNatClampNeg) = 10) → (Ev LX d mX4_advance 61 [some (.ref 81)] [] M Q)) ∧ (((M.1 2 (M.1 81 7).toNatClampNeg) = 10) → (∀ M2 : ev_Mem, M2 = ev_wr M 81 7 ((M.1 81 7) + 1) → (Ev LX d mX4_advance 0 [some (.ref 81)] [] M2 Q))))))))))) : Ev LX d mX4_advance 0 [some (.ref 81)] [] M Q := by
  refine ev_aload_n dX4_advance_0 rfl ?_
  refine ev_getI dX4_advance_1 fl_WithoutE_Reader_35 lx_81 rfl ?_
  refine ev_aload_n dX4_advance_4 rfl ?_
  refine ev_getA dX4_advance_5 fl_WithoutE_Reader_15 lx_81 rfl ?_
  refine ev_getI dX4_advance_8 fl_WithoutE_Reader_51 lx_1 rfl ?_
  refine ev_icmp_ge (tgt := 61) dX4_advance_11 (by decide) (fun c => ?_) (fun c => ?_)
  · replace h := h.1 c
    exact h
  · replace h := h.2 c
    refine ev_aload_n dX4_advance_14 rfl ?_
    refine ev_getA dX4_advance_15 fl_WithoutE_Reader_15 lx_81 rfl ?_
    refine ev_getA dX4_advance_18 fl_WithoutE_Reader_56 lx_1 rfl ?_
    refine ev_aload_n dX4_advance_21 rfl ?_
    refine ev_getI dX4_advance_22 fl_WithoutE_Reader_35 lx_81 rfl ?_
    obtain ⟨c, h⟩ := h
    refine ev_iald dX4_advance_25 lx_2 c ?_
    refine ev_bipush (v := 32) dX4_advance_26 (by decide) ?_
    refine ev_icmp_eq (tgt := 48) dX4_advance_28 (by decide) (fun c => ?_) (fun c => ?_)
    · replace h := h.1 c
      refine ev_aload_n dX4_advance_48 rfl ?_
      refine ev_dup dX4_advance_49 rfl ?_
      refine ev_getI dX4_advance_50 fl_WithoutE_Reader_35 lx_81 rfl ?_
      refine ev_iconst (v := 1) dX4_advance_53 (by decide) ?_
      refine ev_iadd dX4_advance_54 ?_
      refine ev_putI dX4_advance_55 fp_WithoutE_Reader_35 lx_81 rfl rfl rfl ?_
      generalize eM1 : ev_wr M 81 7 ((M.1 81 7) + 1) = M1
      replace h := h M1 eM1.symm
      refine ev_goto (tgt := 0) dX4_advance_58 (by decide) ?_
      exact h
    · replace h := h.2 c
      refine ev_aload_n dX4_advance_31 rfl ?_
      refine ev_getA dX4_advance_32 fl_WithoutE_Reader_15 lx_81 rfl ?_
      refine ev_getA dX4_advance_35 fl_WithoutE_Reader_56 lx_1 rfl ?_
      refine ev_aload_n dX4_advance_38 rfl ?_
      refine ev_getI dX4_advance_39 fl_WithoutE_Reader_35 lx_81 rfl ?_
      obtain ⟨c, h⟩ := h
      refine ev_iald dX4_advance_42 lx_2 c ?_
      refine ev_bipush (v := 10) dX4_advance_43 (by decide) ?_
      refine ev_icmp_ne (tgt := 61) dX4_advance_45 (by decide) (fun c => ?_) (fun c => ?_)
      · replace h := h.1 c
        exact h
      · replace h := h.2 c
        refine ev_aload_n dX4_advance_48 rfl ?_
        refine ev_dup dX4_advance_49 rfl ?_
        refine ev_getI dX4_advance_50 fl_WithoutE_Reader_35 lx_81 rfl ?_
        refine ev_iconst (v := 1) dX4_advance_53 (by decide) ?_
        refine ev_iadd dX4_advance_54 ?_
        refine ev_putI dX4_advance_55 fp_WithoutE_Reader_35 lx_81 rfl rfl rfl ?_
        generalize eM2 : ev_wr M 81 7 ((M.1 81 7) + 1) = M2
        replace h := h M2 eM2.symm
        refine ev_goto (tgt := 0) dX4_advance_58 (by decide) ?_
        exact h
theorem gX4_advance_61 {d : Nat} {M : ev_Mem} {Q : Option Value → ev_Mem → Prop} (h : (∀ M1 : ev_Mem, M1 = ev_wr M 81 6 (M.1 81 7) → ((((M1.1 81 7) < (M1.1 1 1)) → (vp_in (M1.1 81 7) 300 ∧ ((upto (M1.1 2 (M1.1 81 7).toNatClampNeg) 255) ∧ (∀ M2 : ev_Mem, M2 = ev_wr M1 81 5 (soI (M1.1 2 (M1.1 81 7).toNatClampNeg)) → (∀ M3 : ev_Mem, M3 = ev_wr M2 81 7 ((M2.1 81 7) + 1) → ((((M3.1 81 5) = 1) → (Ev LX (d + 1) mX4_advance 134 [some (.ref 81)] [] M3 Q)) ∧ ((¬ (M3.1 81 5) = 1) → (((¬ (M3.1 81 5) = 2) → (Ev LX (d + 1) mX4_advance 183 [some (.ref 81)] [] M3 Q)) ∧ (((M3.1 81 5) = 2) → (Ev LX (d + 1) mX4_advance 134 [some (.ref 81)] [] M3 Q)))))))))) ∧ ((¬ (M1.1 81 7) < (M1.1 1 1)) → (∀ M4 : ev_Mem, M4 = ev_wr M1 81 5 0 → (Q none M4)))))) : Ev LX (d + 1) mX4_advance 61 [some (.ref 81)] [] M Q := by
  refine ev_aload_n dX4_advance_61 rfl ?_
  refine ev_aload_n dX4_advance_62 rfl ?_
  refine ev_getI dX4_advance_63 fl_WithoutE_Reader_35 lx_81 rfl ?_
  refine ev_putI dX4_advance_66 fp_WithoutE_Reader_48 lx_81 rfl rfl rfl ?_
  generalize eM1 : ev_wr M 81 6 (M.1 81 7) = M1
  replace h := h M1 eM1.symm
  refine ev_aload_n dX4_advance_69 rfl ?_
  refine ev_getI dX4_advance_70 fl_WithoutE_Reader_35 lx_81 rfl ?_
  refine ev_aload_n dX4_advance_73 rfl ?_
  refine ev_getA dX4_advance_74 fl_WithoutE_Reader_15 lx_81 rfl ?_
  refine ev_getI dX4_advance_77 fl_WithoutE_Reader_51 lx_1 rfl ?_
  refine ev_icmp_lt (tgt := 89) dX4_advance_80 (by decide) (fun c => ?_) (fun c => ?_)
  · replace h := h.1 c
    refine ev_aload_n dX4_advance_89 rfl ?_
    refine ev_aload_n dX4_advance_90 rfl ?_
    refine ev_getA dX4_advance_91 fl_WithoutE_Reader_15 lx_81 rfl ?_
    refine ev_getA dX4_advance_94 fl_WithoutE_Reader_56 lx_1 rfl ?_
    refine ev_aload_n dX4_advance_97 rfl ?_
    refine ev_getI dX4_advance_98 fl_WithoutE_Reader_35 lx_81 rfl ?_
    obtain ⟨c, h⟩ := h
    refine ev_iald dX4_advance_101 lx_2 c ?_
    obtain ⟨p1, h⟩ := h
    refine ev_callS [.int (M1.1 2 (M1.1 81 7).toNatClampNeg)] dX4_advance_102 ml_WithoutE_Reader_60 rfl (Nat.le_of_ble_eq_true rfl) (kX4_sortOf p1) ?_
    rintro zr zM ⟨q1, q2⟩
    rw [q1, q2]
    show Ev LX (d + 1) mX4_advance 105 [some (.ref 81)] [(.int (soI (M1.1 2 (M1.1 81 7).toNatClampNeg))), (.ref 81)] M1 Q
    refine ev_putI dX4_advance_105 fp_WithoutE_Reader_41 lx_81 rfl rfl rfl ?_
    generalize eM2 : ev_wr M1 81 5 (soI (M1.1 2 (M1.1 81 7).toNatClampNeg)) = M2
    replace h := h M2 eM2.symm
    refine ev_aload_n dX4_advance_108 rfl ?_
    refine ev_dup dX4_advance_109 rfl ?_
    refine ev_getI dX4_advance_110 fl_WithoutE_Reader_35 lx_81 rfl ?_
    refine ev_iconst (v := 1) dX4_advance_113 (by decide) ?_
    refine ev_iadd dX4_advance_114 ?_
    refine ev_putI dX4_advance_115 fp_WithoutE_Reader_35 lx_81 rfl rfl rfl ?_
    generalize eM3 : ev_wr M2 81 7 ((M2.1 81 7) + 1) = M3
    replace h := h M3 eM3.symm
    refine ev_aload_n dX4_advance_118 rfl ?_
    refine ev_getI dX4_advance_119 fl_WithoutE_Reader_41 lx_81 rfl ?_
    refine ev_iconst (v := 1) dX4_advance_122 (by decide) ?_
    refine ev_icmp_eq (tgt := 134) dX4_advance_123 (by decide) (fun c => ?_) (fun c => ?_)
    · replace h := h.1 c
      exact h
    · replace h := h.2 c
      refine ev_aload_n dX4_advance_126 rfl ?_
      refine ev_getI dX4_advance_127 fl_WithoutE_Reader_41 lx_81 rfl ?_
      refine ev_iconst (v := 2) dX4_advance_130 (by decide) ?_
      refine ev_icmp_ne (tgt := 183) dX4_advance_131 (by decide) (fun c => ?_) (fun c => ?_)
      · replace h := h.1 c
        exact h
      · replace h := h.2 c
        exact h
  · replace h := h.2 c
    refine ev_aload_n dX4_advance_83 rfl ?_
    refine ev_iconst (v := 0) dX4_advance_84 (by decide) ?_
    refine ev_putI dX4_advance_85 fp_WithoutE_Reader_41 lx_81 rfl rfl rfl ?_
    generalize eM4 : ev_wr M1 81 5 0 = M4
    replace h := h M4 eM4.symm
    exact ev_vret dX4_advance_88 rfl h
theorem gX4_advance_134 {d : Nat} {M : ev_Mem} {Q : Option Value → ev_Mem → Prop} (h : ((((M.1 1 1) ≤ (M.1 81 7)) → (Q none M)) ∧ ((¬ (M.1 1 1) ≤ (M.1 81 7)) → (vp_in (M.1 81 7) 300 ∧ ((upto (M.1 2 (M.1 81 7).toNatClampNeg) 255) ∧ (((¬ (soI (M.1 2 (M.1 81 7).toNatClampNeg)) = (M.1 81 5)) → (Q none M)) ∧ (((soI (M.1 2 (M.1 81 7).toNatClampNeg)) = (M.1 81 5)) → (∀ M1 : ev_Mem, M1 = ev_wr M 81 7 ((M.1 81 7) + 1) → (Ev LX (d + 1) mX4_advance 134 [some (.ref 81)] [] M1 Q))))))))) : Ev LX (d + 1) mX4_advance 134 [some (.ref 81)] [] M Q := by
  refine ev_aload_n dX4_advance_134 rfl ?_
  refine ev_getI dX4_advance_135 fl_WithoutE_Reader_35 lx_81 rfl ?_
  refine ev_aload_n dX4_advance_138 rfl ?_
  refine ev_getA dX4_advance_139 fl_WithoutE_Reader_15 lx_81 rfl ?_
  refine ev_getI dX4_advance_142 fl_WithoutE_Reader_51 lx_1 rfl ?_
  refine ev_icmp_ge (tgt := 260) dX4_advance_145 (by decide) (fun c => ?_) (fun c => ?_)
  · replace h := h.1 c
    exact ev_vret dX4_advance_260 rfl h
  · replace h := h.2 c
    refine ev_aload_n dX4_advance_148 rfl ?_
    refine ev_getA dX4_advance_149 fl_WithoutE_Reader_15 lx_81 rfl ?_
    refine ev_getA dX4_advance_152 fl_WithoutE_Reader_56 lx_1 rfl ?_
    refine ev_aload_n dX4_advance_155 rfl ?_
    refine ev_getI dX4_advance_156 fl_WithoutE_Reader_35 lx_81 rfl ?_
    obtain ⟨c, h⟩ := h
    refine ev_iald dX4_advance_159 lx_2 c ?_
    obtain ⟨p1, h⟩ := h
    refine ev_callS [.int (M.1 2 (M.1 81 7).toNatClampNeg)] dX4_advance_160 ml_WithoutE_Reader_60 rfl (Nat.le_of_ble_eq_true rfl) (kX4_sortOf p1) ?_
    rintro zr zM ⟨q1, q2⟩
    rw [q1, q2]
    show Ev LX (d + 1) mX4_advance 163 [some (.ref 81)] [(.int (soI (M.1 2 (M.1 81 7).toNatClampNeg)))] M Q
    refine ev_aload_n dX4_advance_163 rfl ?_
    refine ev_getI dX4_advance_164 fl_WithoutE_Reader_41 lx_81 rfl ?_
    refine ev_icmp_ne (tgt := 260) dX4_advance_167 (by decide) (fun c => ?_) (fun c => ?_)
    · replace h := h.1 c
      exact ev_vret dX4_advance_260 rfl h
    · replace h := h.2 c
      refine ev_aload_n dX4_advance_170 rfl ?_
      refine ev_dup dX4_advance_171 rfl ?_
      refine ev_getI dX4_advance_172 fl_WithoutE_Reader_35 lx_81 rfl ?_
      refine ev_iconst (v := 1) dX4_advance_175 (by decide) ?_
      refine ev_iadd dX4_advance_176 ?_
      refine ev_putI dX4_advance_177 fp_WithoutE_Reader_35 lx_81 rfl rfl rfl ?_
      generalize eM1 : ev_wr M 81 7 ((M.1 81 7) + 1) = M1
      replace h := h M1 eM1.symm
      refine ev_goto (tgt := 134) dX4_advance_180 (by decide) ?_
      exact h
theorem gX4_advance_183 {d : Nat} {M : ev_Mem} {Q : Option Value → ev_Mem → Prop} (h : ((((M.1 81 5) = 60) → (Ev LX d mX4_advance 201 [some (.ref 81)] [] M Q)) ∧ ((¬ (M.1 81 5) = 60) → (((¬ (M.1 81 5) = 62) → (Q none M)) ∧ (((M.1 81 5) = 62) → (Ev LX d mX4_advance 201 [some (.ref 81)] [] M Q)))))) : Ev LX d mX4_advance 183 [some (.ref 81)] [] M Q := by
  refine ev_aload_n dX4_advance_183 rfl ?_
  refine ev_getI dX4_advance_184 fl_WithoutE_Reader_41 lx_81 rfl ?_
  refine ev_bipush (v := 60) dX4_advance_187 (by decide) ?_
  refine ev_icmp_eq (tgt := 201) dX4_advance_189 (by decide) (fun c => ?_) (fun c => ?_)
  · replace h := h.1 c
    exact h
  · replace h := h.2 c
    refine ev_aload_n dX4_advance_192 rfl ?_
    refine ev_getI dX4_advance_193 fl_WithoutE_Reader_41 lx_81 rfl ?_
    refine ev_bipush (v := 62) dX4_advance_196 (by decide) ?_
    refine ev_icmp_ne (tgt := 260) dX4_advance_198 (by decide) (fun c => ?_) (fun c => ?_)
    · replace h := h.1 c
      exact ev_vret dX4_advance_260 rfl h
    · replace h := h.2 c
      exact h
theorem gX4_advance_201 {d : Nat} {M : ev_Mem} {Q : Option Value → ev_Mem → Prop} (h : ((((M.1 1 1) ≤ (M.1 81 7)) → (Q none M)) ∧ ((¬ (M.1 1 1) ≤ (M.1 81 7)) → (vp_in (M.1 81 7) 300 ∧ (((¬ (M.1 2 (M.1 81 7).toNatClampNeg) = 61) → (Q none M)) ∧ (((M.1 2 (M.1 81 7).toNatClampNeg) = 61) → (((¬ (M.1 81 5) = 60) → (∀ M1 : ev_Mem, M1 = ev_wr M 81 5 5 → (∀ M2 : ev_Mem, M2 = ev_wr M1 81 7 ((M1.1 81 7) + 1) → (Q none M2)))) ∧ (((M.1 81 5) = 60) → (∀ M3 : ev_Mem, M3 = ev_wr M 81 5 4 → (∀ M4 : ev_Mem, M4 = ev_wr M3 81 7 ((M3.1 81 7) + 1) → (Q none M4))))))))))) : Ev LX d mX4_advance 201 [some (.ref 81)] [] M Q := by
  refine ev_aload_n dX4_advance_201 rfl ?_
  refine ev_getI dX4_advance_202 fl_WithoutE_Reader_35 lx_81 rfl ?_
  refine ev_aload_n dX4_advance_205 rfl ?_
  refine ev_getA dX4_advance_206 fl_WithoutE_Reader_15 lx_81 rfl ?_
  refine ev_getI dX4_advance_209 fl_WithoutE_Reader_51 lx_1 rfl ?_
  refine ev_icmp_ge (tgt := 260) dX4_advance_212 (by decide) (fun c => ?_) (fun c => ?_)
  · replace h := h.1 c
    exact ev_vret dX4_advance_260 rfl h
  · replace h := h.2 c
    refine ev_aload_n dX4_advance_215 rfl ?_
    refine ev_getA dX4_advance_216 fl_WithoutE_Reader_15 lx_81 rfl ?_
    refine ev_getA dX4_advance_219 fl_WithoutE_Reader_56 lx_1 rfl ?_
    refine ev_aload_n dX4_advance_222 rfl ?_
    refine ev_getI dX4_advance_223 fl_WithoutE_Reader_35 lx_81 rfl ?_
    obtain ⟨c, h⟩ := h
    refine ev_iald dX4_advance_226 lx_2 c ?_
    refine ev_bipush (v := 61) dX4_advance_227 (by decide) ?_
    refine ev_icmp_ne (tgt := 260) dX4_advance_229 (by decide) (fun c => ?_) (fun c => ?_)
    · replace h := h.1 c
      exact ev_vret dX4_advance_260 rfl h
    · replace h := h.2 c
      refine ev_aload_n dX4_advance_232 rfl ?_
      refine ev_aload_n dX4_advance_233 rfl ?_
      refine ev_getI dX4_advance_234 fl_WithoutE_Reader_41 lx_81 rfl ?_
      refine ev_bipush (v := 60) dX4_advance_237 (by decide) ?_
      refine ev_icmp_ne (tgt := 246) dX4_advance_239 (by decide) (fun c => ?_) (fun c => ?_)
      · replace h := h.1 c
        refine ev_iconst (v := 5) dX4_advance_246 (by decide) ?_
        refine ev_putI dX4_advance_247 fp_WithoutE_Reader_41 lx_81 rfl rfl rfl ?_
        generalize eM1 : ev_wr M 81 5 5 = M1
        replace h := h M1 eM1.symm
        refine ev_aload_n dX4_advance_250 rfl ?_
        refine ev_dup dX4_advance_251 rfl ?_
        refine ev_getI dX4_advance_252 fl_WithoutE_Reader_35 lx_81 rfl ?_
        refine ev_iconst (v := 1) dX4_advance_255 (by decide) ?_
        refine ev_iadd dX4_advance_256 ?_
        refine ev_putI dX4_advance_257 fp_WithoutE_Reader_35 lx_81 rfl rfl rfl ?_
        generalize eM2 : ev_wr M1 81 7 ((M1.1 81 7) + 1) = M2
        replace h := h M2 eM2.symm
        exact ev_vret dX4_advance_260 rfl h
      · replace h := h.2 c
        refine ev_iconst (v := 4) dX4_advance_242 (by decide) ?_
        refine ev_goto (tgt := 247) dX4_advance_243 (by decide) ?_
        refine ev_putI dX4_advance_247 fp_WithoutE_Reader_41 lx_81 rfl rfl rfl ?_
        generalize eM3 : ev_wr M 81 5 4 = M3
        replace h := h M3 eM3.symm
        refine ev_aload_n dX4_advance_250 rfl ?_
        refine ev_dup dX4_advance_251 rfl ?_
        refine ev_getI dX4_advance_252 fl_WithoutE_Reader_35 lx_81 rfl ?_
        refine ev_iconst (v := 1) dX4_advance_255 (by decide) ?_
        refine ev_iadd dX4_advance_256 ?_
        refine ev_putI dX4_advance_257 fp_WithoutE_Reader_35 lx_81 rfl rfl rfl ?_
        generalize eM4 : ev_wr M3 81 7 ((M3.1 81 7) + 1) = M4
        replace h := h M4 eM4.symm
        exact ev_vret dX4_advance_260 rfl h
theorem dX4_number_0 : decode cX4_number 0 = .ok (.iconst 0, 1) := by decide +kernel
theorem dX4_number_1 : decode cX4_number 1 = .ok (.istore_n 1, 1) := by decide +kernel
theorem dX4_number_2 : decode cX4_number 2 = .ok (.aload_n 0, 1) := by decide +kernel
theorem dX4_number_3 : decode cX4_number 3 = .ok (.getfield 48, 3) := by decide +kernel
theorem dX4_number_6 : decode cX4_number 6 = .ok (.istore_n 2, 1) := by decide +kernel
theorem dX4_number_7 : decode cX4_number 7 = .ok (.iload_n 2, 1) := by decide +kernel
theorem dX4_number_8 : decode cX4_number 8 = .ok (.aload_n 0, 1) := by decide +kernel
theorem dX4_number_9 : decode cX4_number 9 = .ok (.getfield 35, 3) := by decide +kernel
theorem dX4_number_12 : decode cX4_number 12 = .ok (.if_icmp .ge 33, 3) := by decide +kernel
theorem dX4_number_15 : decode cX4_number 15 = .ok (.iload_n 1, 1) := by decide +kernel
theorem dX4_number_16 : decode cX4_number 16 = .ok (.bipush 10, 2) := by decide +kernel
theorem dX4_number_18 : decode cX4_number 18 = .ok (.imul, 1) := by decide +kernel
theorem dX4_number_19 : decode cX4_number 19 = .ok (.aload_n 0, 1) := by decide +kernel
theorem dX4_number_20 : decode cX4_number 20 = .ok (.getfield 15, 3) := by decide +kernel
theorem dX4_number_23 : decode cX4_number 23 = .ok (.getfield 56, 3) := by decide +kernel
theorem dX4_number_26 : decode cX4_number 26 = .ok (.iload_n 2, 1) := by decide +kernel
theorem dX4_number_27 : decode cX4_number 27 = .ok (.iaload, 1) := by decide +kernel
theorem dX4_number_28 : decode cX4_number 28 = .ok (.iadd, 1) := by decide +kernel
theorem dX4_number_29 : decode cX4_number 29 = .ok (.bipush 48, 2) := by decide +kernel
theorem dX4_number_31 : decode cX4_number 31 = .ok (.isub, 1) := by decide +kernel
theorem dX4_number_32 : decode cX4_number 32 = .ok (.sipush 10000, 3) := by decide +kernel
theorem dX4_number_35 : decode cX4_number 35 = .ok (.invokestatic 64, 3) := by decide +kernel
theorem dX4_number_38 : decode cX4_number 38 = .ok (.istore_n 1, 1) := by decide +kernel
theorem dX4_number_39 : decode cX4_number 39 = .ok (.iinc 2 1, 3) := by decide +kernel
theorem dX4_number_42 : decode cX4_number 42 = .ok (.goto (-35), 3) := by decide +kernel
theorem dX4_number_45 : decode cX4_number 45 = .ok (.iload_n 1, 1) := by decide +kernel
theorem dX4_number_46 : decode cX4_number 46 = .ok (.ireturn, 1) := by decide +kernel
theorem gX4_number_0 {d : Nat} {M : ev_Mem} {Q : Option Value → ev_Mem → Prop} (h : (Ev LX d mX4_number 7 [some (.ref 81), some (.int 0), some (.int (M.1 81 6))] [] M Q)) : Ev LX d mX4_number 0 [some (.ref 81), none, none] [] M Q := by
  refine ev_iconst (v := 0) dX4_number_0 (by decide) ?_
  refine ev_istore_n (ls2 := [some (.ref 81), some (.int 0), none]) dX4_number_1 (Nat.le_of_ble_eq_true rfl) rfl ?_
  refine ev_aload_n dX4_number_2 rfl ?_
  refine ev_getI dX4_number_3 fl_WithoutE_Reader_48 lx_81 rfl ?_
  refine ev_istore_n (ls2 := [some (.ref 81), some (.int 0), some (.int (M.1 81 6))]) dX4_number_6 (Nat.le_of_ble_eq_true rfl) rfl ?_
  exact h
theorem gX4_number_7 {d : Nat} {M : ev_Mem} {Q : Option Value → ev_Mem → Prop} {x1 x2 : Int32} (h : ((((M.1 81 7) ≤ x2) → (Q (some (.int x1)) M)) ∧ ((¬ (M.1 81 7) ≤ x2) → (vp_in x2 300 ∧ (∀ v1 : Int32, v1 = imin (((x1 * 10) + (M.1 2 x2.toNatClampNeg)) - 48) (10000 : Int32) → (Ev LX (d + 1) mX4_number 7 [some (.ref 81), some (.int v1), some (.int (x2 + 1))] [] M Q)))))) : Ev LX (d + 1) mX4_number 7 [some (.ref 81), some (.int x1), some (.int x2)] [] M Q := by
  refine ev_iload_n dX4_number_7 rfl ?_
  refine ev_aload_n dX4_number_8 rfl ?_
  refine ev_getI dX4_number_9 fl_WithoutE_Reader_35 lx_81 rfl ?_
  refine ev_icmp_ge (tgt := 45) dX4_number_12 (by decide) (fun c => ?_) (fun c => ?_)
  · replace h := h.1 c
    refine ev_iload_n dX4_number_45 rfl ?_
    exact ev_iret dX4_number_46 rfl h
  · replace h := h.2 c
    refine ev_iload_n dX4_number_15 rfl ?_
    refine ev_bipush (v := 10) dX4_number_16 (by decide) ?_
    refine ev_imul dX4_number_18 ?_
    refine ev_aload_n dX4_number_19 rfl ?_
    refine ev_getA dX4_number_20 fl_WithoutE_Reader_15 lx_81 rfl ?_
    refine ev_getA dX4_number_23 fl_WithoutE_Reader_56 lx_1 rfl ?_
    refine ev_iload_n dX4_number_26 rfl ?_
    obtain ⟨c, h⟩ := h
    refine ev_iald dX4_number_27 lx_2 c ?_
    refine ev_iadd dX4_number_28 ?_
    refine ev_bipush (v := 48) dX4_number_29 (by decide) ?_
    refine ev_isub dX4_number_31 ?_
    refine ev_sipush (v := 10000) dX4_number_32 (by decide) ?_
    refine ev_min dX4_number_35 ml_WithoutE_Reader_64 (by omega) (Nat.le_of_ble_eq_true rfl) ?_
    refine ev_istore_n (ls2 := [some (.ref 81), some (.int (imin (((x1 * 10) + (M.1 2 x2.toNatClampNeg)) - 48) (10000 : Int32))), some (.int x2)]) dX4_number_38 (Nat.le_of_ble_eq_true rfl) rfl ?_
    generalize ev1 : imin (((x1 * 10) + (M.1 2 x2.toNatClampNeg)) - 48) (10000 : Int32) = v1
    replace h := h v1 ev1.symm
    refine ev_iinc (v := x2 + 1) (ls2 := [some (.ref 81), some (.int v1), some (.int (x2 + 1))]) dX4_number_39 rfl rfl rfl ?_
    refine ev_goto (tgt := 7) dX4_number_42 (by decide) ?_
    exact h
theorem dX4_isToken_0 : decode cX4_isToken 0 = .ok (.aload_n 0, 1) := by decide +kernel
theorem dX4_isToken_1 : decode cX4_isToken 1 = .ok (.getfield 41, 3) := by decide +kernel
theorem dX4_isToken_4 : decode cX4_isToken 4 = .ok (.iconst 1, 1) := by decide +kernel
theorem dX4_isToken_5 : decode cX4_isToken 5 = .ok (.if_icmp .ne 19, 3) := by decide +kernel
theorem dX4_isToken_8 : decode cX4_isToken 8 = .ok (.aload_n 0, 1) := by decide +kernel
theorem dX4_isToken_9 : decode cX4_isToken 9 = .ok (.getfield 35, 3) := by decide +kernel
theorem dX4_isToken_12 : decode cX4_isToken 12 = .ok (.aload_n 0, 1) := by decide +kernel
theorem dX4_isToken_13 : decode cX4_isToken 13 = .ok (.getfield 48, 3) := by decide +kernel
theorem dX4_isToken_16 : decode cX4_isToken 16 = .ok (.isub, 1) := by decide +kernel
theorem dX4_isToken_17 : decode cX4_isToken 17 = .ok (.aload_n 1, 1) := by decide +kernel
theorem dX4_isToken_18 : decode cX4_isToken 18 = .ok (.invokevirtual 70, 3) := by decide +kernel
theorem dX4_isToken_21 : decode cX4_isToken 21 = .ok (.if_icmp .eq 5, 3) := by decide +kernel
theorem dX4_isToken_24 : decode cX4_isToken 24 = .ok (.iconst 0, 1) := by decide +kernel
theorem dX4_isToken_25 : decode cX4_isToken 25 = .ok (.ireturn, 1) := by decide +kernel
theorem dX4_isToken_26 : decode cX4_isToken 26 = .ok (.iconst 0, 1) := by decide +kernel
theorem dX4_isToken_27 : decode cX4_isToken 27 = .ok (.istore_n 2, 1) := by decide +kernel
theorem dX4_isToken_28 : decode cX4_isToken 28 = .ok (.iload_n 2, 1) := by decide +kernel
theorem dX4_isToken_29 : decode cX4_isToken 29 = .ok (.aload_n 1, 1) := by decide +kernel
theorem dX4_isToken_30 : decode cX4_isToken 30 = .ok (.invokevirtual 70, 3) := by decide +kernel
theorem dX4_isToken_33 : decode cX4_isToken 33 = .ok (.if_icmp .ge 33, 3) := by decide +kernel
theorem dX4_isToken_36 : decode cX4_isToken 36 = .ok (.aload_n 0, 1) := by decide +kernel
theorem dX4_isToken_37 : decode cX4_isToken 37 = .ok (.getfield 15, 3) := by decide +kernel
theorem dX4_isToken_40 : decode cX4_isToken 40 = .ok (.getfield 56, 3) := by decide +kernel
theorem dX4_isToken_43 : decode cX4_isToken 43 = .ok (.aload_n 0, 1) := by decide +kernel
theorem dX4_isToken_44 : decode cX4_isToken 44 = .ok (.getfield 48, 3) := by decide +kernel
theorem dX4_isToken_47 : decode cX4_isToken 47 = .ok (.iload_n 2, 1) := by decide +kernel
theorem dX4_isToken_48 : decode cX4_isToken 48 = .ok (.iadd, 1) := by decide +kernel
theorem dX4_isToken_49 : decode cX4_isToken 49 = .ok (.iaload, 1) := by decide +kernel
theorem dX4_isToken_50 : decode cX4_isToken 50 = .ok (.aload_n 1, 1) := by decide +kernel
theorem dX4_isToken_51 : decode cX4_isToken 51 = .ok (.iload_n 2, 1) := by decide +kernel
theorem dX4_isToken_52 : decode cX4_isToken 52 = .ok (.invokevirtual 75, 3) := by decide +kernel
theorem dX4_isToken_55 : decode cX4_isToken 55 = .ok (.if_icmp .eq 5, 3) := by decide +kernel
theorem dX4_isToken_58 : decode cX4_isToken 58 = .ok (.iconst 0, 1) := by decide +kernel
theorem dX4_isToken_59 : decode cX4_isToken 59 = .ok (.ireturn, 1) := by decide +kernel
theorem dX4_isToken_60 : decode cX4_isToken 60 = .ok (.iinc 2 1, 3) := by decide +kernel
theorem dX4_isToken_63 : decode cX4_isToken 63 = .ok (.goto (-35), 3) := by decide +kernel
theorem dX4_isToken_66 : decode cX4_isToken 66 = .ok (.iconst 1, 1) := by decide +kernel
theorem dX4_isToken_67 : decode cX4_isToken 67 = .ok (.ireturn, 1) := by decide +kernel
theorem gX4_isToken_0 {d : Nat} {M : ev_Mem} {Q : Option Value → ev_Mem → Prop} {si : Nat} (hsi : si < 15) (h : (((¬ (M.1 81 5) = 1) → (Q (some (.int 0)) M)) ∧ (((M.1 81 5) = 1) → (((((M.1 81 7) - (M.1 81 6)) = (nI (sxl si))) → (Ev LX (d + 2) mX4_isToken 28 [some (.ref 81), some (.ref (1010 + si)), some (.int 0)] [] M Q)) ∧ ((¬ ((M.1 81 7) - (M.1 81 6)) = (nI (sxl si))) → (Q (some (.int 0)) M)))))) : Ev LX (d + 2) mX4_isToken 0 [some (.ref 81), some (.ref (1010 + si)), none] [] M Q := by
  refine ev_aload_n dX4_isToken_0 rfl ?_
  refine ev_getI dX4_isToken_1 fl_WithoutE_Reader_41 lx_81 rfl ?_
  refine ev_iconst (v := 1) dX4_isToken_4 (by decide) ?_
  refine ev_icmp_ne (tgt := 24) dX4_isToken_5 (by decide) (fun c => ?_) (fun c => ?_)
  · replace h := h.1 c
    refine ev_iconst (v := 0) dX4_isToken_24 (by decide) ?_
    exact ev_zret dX4_isToken_25 rfl (by decide) h
  · replace h := h.2 c
    refine ev_aload_n dX4_isToken_8 rfl ?_
    refine ev_getI dX4_isToken_9 fl_WithoutE_Reader_35 lx_81 rfl ?_
    refine ev_aload_n dX4_isToken_12 rfl ?_
    refine ev_getI dX4_isToken_13 fl_WithoutE_Reader_48 lx_81 rfl ?_
    refine ev_isub dX4_isToken_16 ?_
    refine ev_aload_n dX4_isToken_17 rfl ?_
    refine ev_callVS (i := si) [] dX4_isToken_18 ml_WithoutE_Reader_70 hsi rfl rfl (Nat.le_of_ble_eq_true rfl) (kJ0_length hsi) ?_
    rintro zr zM ⟨q1, q2⟩
    rw [q1, q2]
    show Ev LX (d + 2) mX4_isToken 21 [some (.ref 81), some (.ref (1010 + si)), none] [(.int (nI (sxl si))), (.int ((M.1 81 7) - (M.1 81 6)))] M Q
    refine ev_icmp_eq (tgt := 26) dX4_isToken_21 (by decide) (fun c => ?_) (fun c => ?_)
    · replace h := h.1 c
      refine ev_iconst (v := 0) dX4_isToken_26 (by decide) ?_
      refine ev_istore_n (ls2 := [some (.ref 81), some (.ref (1010 + si)), some (.int 0)]) dX4_isToken_27 (Nat.le_of_ble_eq_true rfl) rfl ?_
      exact h
    · replace h := h.2 c
      refine ev_iconst (v := 0) dX4_isToken_24 (by decide) ?_
      exact ev_zret dX4_isToken_25 rfl (by decide) h
theorem gX4_isToken_28 {d : Nat} {M : ev_Mem} {Q : Option Value → ev_Mem → Prop} {x2 : Int32} {si : Nat} (hsi : si < 15) (h : ((((nI (sxl si)) ≤ x2) → (Q (some (.int 1)) M)) ∧ ((¬ (nI (sxl si)) ≤ x2) → (vp_in ((M.1 81 6) + x2) 300 ∧ ((vp_in x2 (sxl si)) ∧ ((((M.1 2 ((M.1 81 6) + x2).toNatClampNeg) = (nI (sxc si x2.toNatClampNeg))) → (Ev LX (d + 4) mX4_isToken 28 [some (.ref 81), some (.ref (1010 + si)), some (.int (x2 + 1))] [] M Q)) ∧ ((¬ (M.1 2 ((M.1 81 6) + x2).toNatClampNeg) = (nI (sxc si x2.toNatClampNeg))) → (Q (some (.int 0)) M)))))))) : Ev LX (d + 4) mX4_isToken 28 [some (.ref 81), some (.ref (1010 + si)), some (.int x2)] [] M Q := by
  refine ev_iload_n dX4_isToken_28 rfl ?_
  refine ev_aload_n dX4_isToken_29 rfl ?_
  refine ev_callVS (i := si) [] dX4_isToken_30 ml_WithoutE_Reader_70 hsi rfl rfl (Nat.le_of_ble_eq_true rfl) (kJ0_length hsi) ?_
  rintro zr zM ⟨q1, q2⟩
  rw [q1, q2]
  show Ev LX (d + 4) mX4_isToken 33 [some (.ref 81), some (.ref (1010 + si)), some (.int x2)] [(.int (nI (sxl si))), (.int x2)] M Q
  refine ev_icmp_ge (tgt := 66) dX4_isToken_33 (by decide) (fun c => ?_) (fun c => ?_)
  · replace h := h.1 c
    refine ev_iconst (v := 1) dX4_isToken_66 (by decide) ?_
    exact ev_zret dX4_isToken_67 rfl (by decide) h
  · replace h := h.2 c
    refine ev_aload_n dX4_isToken_36 rfl ?_
    refine ev_getA dX4_isToken_37 fl_WithoutE_Reader_15 lx_81 rfl ?_
    refine ev_getA dX4_isToken_40 fl_WithoutE_Reader_56 lx_1 rfl ?_
    refine ev_aload_n dX4_isToken_43 rfl ?_
    refine ev_getI dX4_isToken_44 fl_WithoutE_Reader_48 lx_81 rfl ?_
    refine ev_iload_n dX4_isToken_47 rfl ?_
    refine ev_iadd dX4_isToken_48 ?_
    obtain ⟨c, h⟩ := h
    refine ev_iald dX4_isToken_49 lx_2 c ?_
    refine ev_aload_n dX4_isToken_50 rfl ?_
    refine ev_iload_n dX4_isToken_51 rfl ?_
    obtain ⟨p1, h⟩ := h
    refine ev_callVS (i := si) [.int x2] dX4_isToken_52 ml_WithoutE_Reader_75 hsi rfl rfl (Nat.le_of_ble_eq_true rfl) (qJ0_charAt hsi p1) ?_
    rintro zr zM ⟨q1, q2⟩
    rw [q1, q2]
    show Ev LX (d + 4) mX4_isToken 55 [some (.ref 81), some (.ref (1010 + si)), some (.int x2)] [(.int (nI (sxc si x2.toNatClampNeg))), (.int (M.1 2 ((M.1 81 6) + x2).toNatClampNeg))] M Q
    refine ev_icmp_eq (tgt := 60) dX4_isToken_55 (by decide) (fun c => ?_) (fun c => ?_)
    · replace h := h.1 c
      refine ev_iinc (v := x2 + 1) (ls2 := [some (.ref 81), some (.ref (1010 + si)), some (.int (x2 + 1))]) dX4_isToken_60 rfl rfl rfl ?_
      refine ev_goto (tgt := 28) dX4_isToken_63 (by decide) ?_
      exact h
    · replace h := h.2 c
      refine ev_iconst (v := 0) dX4_isToken_58 (by decide) ?_
      exact ev_zret dX4_isToken_59 rfl (by decide) h
theorem dX4_rankIn_0 : decode cX4_rankIn 0 = .ok (.iconst 0, 1) := by decide +kernel
theorem dX4_rankIn_1 : decode cX4_rankIn 1 = .ok (.istore_n 2, 1) := by decide +kernel
theorem dX4_rankIn_2 : decode cX4_rankIn 2 = .ok (.aload_n 0, 1) := by decide +kernel
theorem dX4_rankIn_3 : decode cX4_rankIn 3 = .ok (.getfield 48, 3) := by decide +kernel
theorem dX4_rankIn_6 : decode cX4_rankIn 6 = .ok (.istore_n 3, 1) := by decide +kernel
theorem dX4_rankIn_7 : decode cX4_rankIn 7 = .ok (.aload_n 0, 1) := by decide +kernel
theorem dX4_rankIn_8 : decode cX4_rankIn 8 = .ok (.getfield 41, 3) := by decide +kernel
theorem dX4_rankIn_11 : decode cX4_rankIn 11 = .ok (.iconst 1, 1) := by decide +kernel
theorem dX4_rankIn_12 : decode cX4_rankIn 12 = .ok (.if_icmp .ne 7, 3) := by decide +kernel
theorem dX4_rankIn_15 : decode cX4_rankIn 15 = .ok (.iconst 1, 1) := by decide +kernel
theorem dX4_rankIn_16 : decode cX4_rankIn 16 = .ok (.goto 4, 3) := by decide +kernel
theorem dX4_rankIn_19 : decode cX4_rankIn 19 = .ok (.iconst 0, 1) := by decide +kernel
theorem dX4_rankIn_20 : decode cX4_rankIn 20 = .ok (.istore 4, 2) := by decide +kernel
theorem dX4_rankIn_22 : decode cX4_rankIn 22 = .ok (.iconst 0, 1) := by decide +kernel
theorem dX4_rankIn_23 : decode cX4_rankIn 23 = .ok (.istore 5, 2) := by decide +kernel
theorem dX4_rankIn_25 : decode cX4_rankIn 25 = .ok (.iload 5, 2) := by decide +kernel
theorem dX4_rankIn_27 : decode cX4_rankIn 27 = .ok (.aload_n 1, 1) := by decide +kernel
theorem dX4_rankIn_28 : decode cX4_rankIn 28 = .ok (.invokevirtual 70, 3) := by decide +kernel
theorem dX4_rankIn_31 : decode cX4_rankIn 31 = .ok (.if_icmp .ge 102, 3) := by decide +kernel
theorem dX4_rankIn_34 : decode cX4_rankIn 34 = .ok (.aload_n 1, 1) := by decide +kernel
theorem dX4_rankIn_35 : decode cX4_rankIn 35 = .ok (.iload 5, 2) := by decide +kernel
theorem dX4_rankIn_37 : decode cX4_rankIn 37 = .ok (.invokevirtual 75, 3) := by decide +kernel
theorem dX4_rankIn_40 : decode cX4_rankIn 40 = .ok (.bipush 32, 2) := by decide +kernel
theorem dX4_rankIn_42 : decode cX4_rankIn 42 = .ok (.if_icmp .ne 44, 3) := by decide +kernel
theorem dX4_rankIn_45 : decode cX4_rankIn 45 = .ok (.iload 4, 2) := by decide +kernel
theorem dX4_rankIn_47 : decode cX4_rankIn 47 = .ok (.ifCond .eq 13, 3) := by decide +kernel
theorem dX4_rankIn_50 : decode cX4_rankIn 50 = .ok (.iload_n 3, 1) := by decide +kernel
theorem dX4_rankIn_51 : decode cX4_rankIn 51 = .ok (.aload_n 0, 1) := by decide +kernel
theorem dX4_rankIn_52 : decode cX4_rankIn 52 = .ok (.getfield 35, 3) := by decide +kernel
theorem dX4_rankIn_55 : decode cX4_rankIn 55 = .ok (.if_icmp .ne 5, 3) := by decide +kernel
theorem dX4_rankIn_58 : decode cX4_rankIn 58 = .ok (.iload_n 2, 1) := by decide +kernel
theorem dX4_rankIn_59 : decode cX4_rankIn 59 = .ok (.ireturn, 1) := by decide +kernel
theorem dX4_rankIn_60 : decode cX4_rankIn 60 = .ok (.iinc 2 1, 3) := by decide +kernel
theorem dX4_rankIn_63 : decode cX4_rankIn 63 = .ok (.aload_n 0, 1) := by decide +kernel
theorem dX4_rankIn_64 : decode cX4_rankIn 64 = .ok (.getfield 48, 3) := by decide +kernel
theorem dX4_rankIn_67 : decode cX4_rankIn 67 = .ok (.istore_n 3, 1) := by decide +kernel
theorem dX4_rankIn_68 : decode cX4_rankIn 68 = .ok (.aload_n 0, 1) := by decide +kernel
theorem dX4_rankIn_69 : decode cX4_rankIn 69 = .ok (.getfield 41, 3) := by decide +kernel
theorem dX4_rankIn_72 : decode cX4_rankIn 72 = .ok (.iconst 1, 1) := by decide +kernel
theorem dX4_rankIn_73 : decode cX4_rankIn 73 = .ok (.if_icmp .ne 7, 3) := by decide +kernel
theorem dX4_rankIn_76 : decode cX4_rankIn 76 = .ok (.iconst 1, 1) := by decide +kernel
theorem dX4_rankIn_77 : decode cX4_rankIn 77 = .ok (.goto 4, 3) := by decide +kernel
theorem dX4_rankIn_80 : decode cX4_rankIn 80 = .ok (.iconst 0, 1) := by decide +kernel
theorem dX4_rankIn_81 : decode cX4_rankIn 81 = .ok (.istore 4, 2) := by decide +kernel
theorem dX4_rankIn_83 : decode cX4_rankIn 83 = .ok (.goto 44, 3) := by decide +kernel
theorem dX4_rankIn_86 : decode cX4_rankIn 86 = .ok (.iload 4, 2) := by decide +kernel
theorem dX4_rankIn_88 : decode cX4_rankIn 88 = .ok (.ifCond .eq 33, 3) := by decide +kernel
theorem dX4_rankIn_91 : decode cX4_rankIn 91 = .ok (.iload_n 3, 1) := by decide +kernel
theorem dX4_rankIn_92 : decode cX4_rankIn 92 = .ok (.aload_n 0, 1) := by decide +kernel
theorem dX4_rankIn_93 : decode cX4_rankIn 93 = .ok (.getfield 35, 3) := by decide +kernel
theorem dX4_rankIn_96 : decode cX4_rankIn 96 = .ok (.if_icmp .ge 25, 3) := by decide +kernel
theorem dX4_rankIn_99 : decode cX4_rankIn 99 = .ok (.aload_n 0, 1) := by decide +kernel
theorem dX4_rankIn_100 : decode cX4_rankIn 100 = .ok (.getfield 15, 3) := by decide +kernel
theorem dX4_rankIn_103 : decode cX4_rankIn 103 = .ok (.getfield 56, 3) := by decide +kernel
theorem dX4_rankIn_106 : decode cX4_rankIn 106 = .ok (.iload_n 3, 1) := by decide +kernel
theorem dX4_rankIn_107 : decode cX4_rankIn 107 = .ok (.iaload, 1) := by decide +kernel
theorem dX4_rankIn_108 : decode cX4_rankIn 108 = .ok (.aload_n 1, 1) := by decide +kernel
theorem dX4_rankIn_109 : decode cX4_rankIn 109 = .ok (.iload 5, 2) := by decide +kernel
theorem dX4_rankIn_111 : decode cX4_rankIn 111 = .ok (.invokevirtual 75, 3) := by decide +kernel
theorem dX4_rankIn_114 : decode cX4_rankIn 114 = .ok (.if_icmp .ne 7, 3) := by decide +kernel
theorem dX4_rankIn_117 : decode cX4_rankIn 117 = .ok (.iconst 1, 1) := by decide +kernel
theorem dX4_rankIn_118 : decode cX4_rankIn 118 = .ok (.goto 4, 3) := by decide +kernel
theorem dX4_rankIn_121 : decode cX4_rankIn 121 = .ok (.iconst 0, 1) := by decide +kernel
theorem dX4_rankIn_122 : decode cX4_rankIn 122 = .ok (.istore 4, 2) := by decide +kernel
theorem dX4_rankIn_124 : decode cX4_rankIn 124 = .ok (.iinc 3 1, 3) := by decide +kernel
theorem dX4_rankIn_127 : decode cX4_rankIn 127 = .ok (.iinc 5 1, 3) := by decide +kernel
theorem dX4_rankIn_130 : decode cX4_rankIn 130 = .ok (.goto (-105), 3) := by decide +kernel
theorem dX4_rankIn_133 : decode cX4_rankIn 133 = .ok (.iload 4, 2) := by decide +kernel
theorem dX4_rankIn_135 : decode cX4_rankIn 135 = .ok (.ifCond .eq 15, 3) := by decide +kernel
theorem dX4_rankIn_138 : decode cX4_rankIn 138 = .ok (.iload_n 3, 1) := by decide +kernel
theorem dX4_rankIn_139 : decode cX4_rankIn 139 = .ok (.aload_n 0, 1) := by decide +kernel
theorem dX4_rankIn_140 : decode cX4_rankIn 140 = .ok (.getfield 35, 3) := by decide +kernel
theorem dX4_rankIn_143 : decode cX4_rankIn 143 = .ok (.if_icmp .ne 7, 3) := by decide +kernel
theorem dX4_rankIn_146 : decode cX4_rankIn 146 = .ok (.iload_n 2, 1) := by decide +kernel
theorem dX4_rankIn_147 : decode cX4_rankIn 147 = .ok (.goto 4, 3) := by decide +kernel
theorem dX4_rankIn_150 : decode cX4_rankIn 150 = .ok (.iconst (-1), 1) := by decide +kernel
theorem dX4_rankIn_151 : decode cX4_rankIn 151 = .ok (.ireturn, 1) := by decide +kernel
theorem gX4_rankIn_0 {d : Nat} {M : ev_Mem} {Q : Option Value → ev_Mem → Prop} {si : Nat} (hsi : si < 15) (h : (((¬ (M.1 81 5) = 1) → (Ev LX d mX4_rankIn 25 [some (.ref 81), some (.ref (1010 + si)), some (.int 0), some (.int (M.1 81 6)), some (.int 0), some (.int 0)] [] M Q)) ∧ (((M.1 81 5) = 1) → (Ev LX d mX4_rankIn 25 [some (.ref 81), some (.ref (1010 + si)), some (.int 0), some (.int (M.1 81 6)), some (.int 1), some (.int 0)] [] M Q)))) : Ev LX d mX4_rankIn 0 [some (.ref 81), some (.ref (1010 + si)), none, none, none, none] [] M Q := by
  refine ev_iconst (v := 0) dX4_rankIn_0 (by decide) ?_
  refine ev_istore_n (ls2 := [some (.ref 81), some (.ref (1010 + si)), some (.int 0), none, none, none]) dX4_rankIn_1 (Nat.le_of_ble_eq_true rfl) rfl ?_
  refine ev_aload_n dX4_rankIn_2 rfl ?_
  refine ev_getI dX4_rankIn_3 fl_WithoutE_Reader_48 lx_81 rfl ?_
  refine ev_istore_n (ls2 := [some (.ref 81), some (.ref (1010 + si)), some (.int 0), some (.int (M.1 81 6)), none, none]) dX4_rankIn_6 (Nat.le_of_ble_eq_true rfl) rfl ?_
  refine ev_aload_n dX4_rankIn_7 rfl ?_
  refine ev_getI dX4_rankIn_8 fl_WithoutE_Reader_41 lx_81 rfl ?_
  refine ev_iconst (v := 1) dX4_rankIn_11 (by decide) ?_
  refine ev_icmp_ne (tgt := 19) dX4_rankIn_12 (by decide) (fun c => ?_) (fun c => ?_)
  · replace h := h.1 c
    refine ev_iconst (v := 0) dX4_rankIn_19 (by decide) ?_
    refine ev_istore (ls2 := [some (.ref 81), some (.ref (1010 + si)), some (.int 0), some (.int (M.1 81 6)), some (.int 0), none]) dX4_rankIn_20 (Nat.le_of_ble_eq_true rfl) rfl ?_
    refine ev_iconst (v := 0) dX4_rankIn_22 (by decide) ?_
    refine ev_istore (ls2 := [some (.ref 81), some (.ref (1010 + si)), some (.int 0), some (.int (M.1 81 6)), some (.int 0), some (.int 0)]) dX4_rankIn_23 (Nat.le_of_ble_eq_true rfl) rfl ?_
    exact h
  · replace h := h.2 c
    refine ev_iconst (v := 1) dX4_rankIn_15 (by decide) ?_
    refine ev_goto (tgt := 20) dX4_rankIn_16 (by decide) ?_
    refine ev_istore (ls2 := [some (.ref 81), some (.ref (1010 + si)), some (.int 0), some (.int (M.1 81 6)), some (.int 1), none]) dX4_rankIn_20 (Nat.le_of_ble_eq_true rfl) rfl ?_
    refine ev_iconst (v := 0) dX4_rankIn_22 (by decide) ?_
    refine ev_istore (ls2 := [some (.ref 81), some (.ref (1010 + si)), some (.int 0), some (.int (M.1 81 6)), some (.int 1), some (.int 0)]) dX4_rankIn_23 (Nat.le_of_ble_eq_true rfl) rfl ?_
    exact h
theorem gX4_rankIn_25 {d : Nat} {M : ev_Mem} {Q : Option Value → ev_Mem → Prop} {x2 x3 x4 x5 : Int32} {si : Nat} (hsi : si < 15) (h : ((((nI (sxl si)) ≤ x5) → (((x4 = 0) → (Q (some (.int (-1))) M)) ∧ ((¬ x4 = 0) → (((¬ x3 = (M.1 81 7)) → (Q (some (.int (-1))) M)) ∧ ((x3 = (M.1 81 7)) → (Q (some (.int x2)) M)))))) ∧ ((¬ (nI (sxl si)) ≤ x5) → ((vp_in x5 (sxl si)) ∧ (((¬ (nI (sxc si x5.toNatClampNeg)) = 32) → (((x4 = 0) → (Ev LX (d + 4) mX4_rankIn 25 [some (.ref 81), some (.ref (1010 + si)), some (.int x2), some (.int (x3 + 1)), some (.int 0), some (.int (x5 + 1))] [] M Q)) ∧ ((¬ x4 = 0) → ((((M.1 81 7) ≤ x3) → (Ev LX (d + 4) mX4_rankIn 25 [some (.ref 81), some (.ref (1010 + si)), some (.int x2), some (.int (x3 + 1)), some (.int 0), some (.int (x5 + 1))] [] M Q)) ∧ ((¬ (M.1 81 7) ≤ x3) → (vp_in x3 300 ∧ ((vp_in x5 (sxl si)) ∧ (((¬ (M.1 2 x3.toNatClampNeg) = (nI (sxc si x5.toNatClampNeg))) → (Ev LX (d + 4) mX4_rankIn 25 [some (.ref 81), some (.ref (1010 + si)), some (.int x2), some (.int (x3 + 1)), some (.int 0), some (.int (x5 + 1))] [] M Q)) ∧ (((M.1 2 x3.toNatClampNeg) = (nI (sxc si x5.toNatClampNeg))) → (Ev LX (d + 4) mX4_rankIn 25 [some (.ref 81), some (.ref (1010 + si)), some (.int x2), some (.int (x3 + 1)), some (.int 1), some (.int (x5 + 1))] [] M Q)))))))))) ∧ (((nI (sxc si x5.toNatClampNeg)) = 32) → (((x4 = 0) → (((¬ (M.1 81 5) = 1) → (Ev LX (d + 4) mX4_rankIn 25 [some (.ref 81), some (.ref (1010 + si)), some (.int (x2 + 1)), some (.int (M.1 81 6)), some (.int 0), some (.int (x5 + 1))] [] M Q)) ∧ (((M.1 81 5) = 1) → (Ev LX (d + 4) mX4_rankIn 25 [some (.ref 81), some (.ref (1010 + si)), some (.int (x2 + 1)), some (.int (M.1 81 6)), some (.int 1), some (.int (x5 + 1))] [] M Q)))) ∧ ((¬ x4 = 0) → (((¬ x3 = (M.1 81 7)) → (((¬ (M.1 81 5) = 1) → (Ev LX (d + 4) mX4_rankIn 25 [some (.ref 81), some (.ref (1010 + si)), some (.int (x2 + 1)), some (.int (M.1 81 6)), some (.int 0), some (.int (x5 + 1))] [] M Q)) ∧ (((M.1 81 5) = 1) → (Ev LX (d + 4) mX4_rankIn 25 [some (.ref 81), some (.ref (1010 + si)), some (.int (x2 + 1)), some (.int (M.1 81 6)), some (.int 1), some (.int (x5 + 1))] [] M Q)))) ∧ ((x3 = (M.1 81 7)) → (Q (some (.int x2)) M))))))))))) : Ev LX (d + 4) mX4_rankIn 25 [some (.ref 81), some (.ref (1010 + si)), some (.int x2), some (.int x3), some (.int x4), some (.int x5)] [] M Q := by
  refine ev_iload dX4_rankIn_25 rfl ?_
  refine ev_aload_n dX4_rankIn_27 rfl ?_
  refine ev_callVS (i := si) [] dX4_rankIn_28 ml_WithoutE_Reader_70 hsi rfl rfl (Nat.le_of_ble_eq_true rfl) (kJ0_length hsi) ?_
  rintro zr zM ⟨q1, q2⟩
  rw [q1, q2]
  show Ev LX (d + 4) mX4_rankIn 31 [some (.ref 81), some (.ref (1010 + si)), some (.int x2), some (.int x3), some (.int x4), some (.int x5)] [(.int (nI (sxl si))), (.int x5)] M Q
  refine ev_icmp_ge (tgt := 133) dX4_rankIn_31 (by decide) (fun c => ?_) (fun c => ?_)
  · replace h := h.1 c
    refine ev_iload dX4_rankIn_133 rfl ?_
    refine ev_if_eq (tgt := 150) dX4_rankIn_135 (by decide) (fun c => ?_) (fun c => ?_)
    · replace h := h.1 c
      refine ev_iconst (v := -1) dX4_rankIn_150 (by decide) ?_
      exact ev_iret dX4_rankIn_151 rfl h
    · replace h := h.2 c
      refine ev_iload_n dX4_rankIn_138 rfl ?_
      refine ev_aload_n dX4_rankIn_139 rfl ?_
      refine ev_getI dX4_rankIn_140 fl_WithoutE_Reader_35 lx_81 rfl ?_
      refine ev_icmp_ne (tgt := 150) dX4_rankIn_143 (by decide) (fun c => ?_) (fun c => ?_)
      · replace h := h.1 c
        refine ev_iconst (v := -1) dX4_rankIn_150 (by decide) ?_
        exact ev_iret dX4_rankIn_151 rfl h
      · replace h := h.2 c
        refine ev_iload_n dX4_rankIn_146 rfl ?_
        refine ev_goto (tgt := 151) dX4_rankIn_147 (by decide) ?_
        exact ev_iret dX4_rankIn_151 rfl h
  · replace h := h.2 c
    refine ev_aload_n dX4_rankIn_34 rfl ?_
    refine ev_iload dX4_rankIn_35 rfl ?_
    obtain ⟨p1, h⟩ := h
    refine ev_callVS (i := si) [.int x5] dX4_rankIn_37 ml_WithoutE_Reader_75 hsi rfl rfl (Nat.le_of_ble_eq_true rfl) (qJ0_charAt hsi p1) ?_
    rintro zr zM ⟨q1, q2⟩
    rw [q1, q2]
    show Ev LX (d + 4) mX4_rankIn 40 [some (.ref 81), some (.ref (1010 + si)), some (.int x2), some (.int x3), some (.int x4), some (.int x5)] [(.int (nI (sxc si x5.toNatClampNeg)))] M Q
    refine ev_bipush (v := 32) dX4_rankIn_40 (by decide) ?_
    refine ev_icmp_ne (tgt := 86) dX4_rankIn_42 (by decide) (fun c => ?_) (fun c => ?_)
    · replace h := h.1 c
      refine ev_iload dX4_rankIn_86 rfl ?_
      refine ev_if_eq (tgt := 121) dX4_rankIn_88 (by decide) (fun c => ?_) (fun c => ?_)
      · replace h := h.1 c
        refine ev_iconst (v := 0) dX4_rankIn_121 (by decide) ?_
        refine ev_istore (ls2 := [some (.ref 81), some (.ref (1010 + si)), some (.int x2), some (.int x3), some (.int 0), some (.int x5)]) dX4_rankIn_122 (Nat.le_of_ble_eq_true rfl) rfl ?_
        refine ev_iinc (v := x3 + 1) (ls2 := [some (.ref 81), some (.ref (1010 + si)), some (.int x2), some (.int (x3 + 1)), some (.int 0), some (.int x5)]) dX4_rankIn_124 rfl rfl rfl ?_
        refine ev_iinc (v := x5 + 1) (ls2 := [some (.ref 81), some (.ref (1010 + si)), some (.int x2), some (.int (x3 + 1)), some (.int 0), some (.int (x5 + 1))]) dX4_rankIn_127 rfl rfl rfl ?_
        refine ev_goto (tgt := 25) dX4_rankIn_130 (by decide) ?_
        exact h
      · replace h := h.2 c
        refine ev_iload_n dX4_rankIn_91 rfl ?_
        refine ev_aload_n dX4_rankIn_92 rfl ?_
        refine ev_getI dX4_rankIn_93 fl_WithoutE_Reader_35 lx_81 rfl ?_
        refine ev_icmp_ge (tgt := 121) dX4_rankIn_96 (by decide) (fun c => ?_) (fun c => ?_)
        · replace h := h.1 c
          refine ev_iconst (v := 0) dX4_rankIn_121 (by decide) ?_
          refine ev_istore (ls2 := [some (.ref 81), some (.ref (1010 + si)), some (.int x2), some (.int x3), some (.int 0), some (.int x5)]) dX4_rankIn_122 (Nat.le_of_ble_eq_true rfl) rfl ?_
          refine ev_iinc (v := x3 + 1) (ls2 := [some (.ref 81), some (.ref (1010 + si)), some (.int x2), some (.int (x3 + 1)), some (.int 0), some (.int x5)]) dX4_rankIn_124 rfl rfl rfl ?_
          refine ev_iinc (v := x5 + 1) (ls2 := [some (.ref 81), some (.ref (1010 + si)), some (.int x2), some (.int (x3 + 1)), some (.int 0), some (.int (x5 + 1))]) dX4_rankIn_127 rfl rfl rfl ?_
          refine ev_goto (tgt := 25) dX4_rankIn_130 (by decide) ?_
          exact h
        · replace h := h.2 c
          refine ev_aload_n dX4_rankIn_99 rfl ?_
          refine ev_getA dX4_rankIn_100 fl_WithoutE_Reader_15 lx_81 rfl ?_
          refine ev_getA dX4_rankIn_103 fl_WithoutE_Reader_56 lx_1 rfl ?_
          refine ev_iload_n dX4_rankIn_106 rfl ?_
          obtain ⟨c, h⟩ := h
          refine ev_iald dX4_rankIn_107 lx_2 c ?_
          refine ev_aload_n dX4_rankIn_108 rfl ?_
          refine ev_iload dX4_rankIn_109 rfl ?_
          obtain ⟨p1, h⟩ := h
          refine ev_callVS (i := si) [.int x5] dX4_rankIn_111 ml_WithoutE_Reader_75 hsi rfl rfl (Nat.le_of_ble_eq_true rfl) (qJ0_charAt hsi p1) ?_
          rintro zr zM ⟨q1, q2⟩
          rw [q1, q2]
          show Ev LX (d + 4) mX4_rankIn 114 [some (.ref 81), some (.ref (1010 + si)), some (.int x2), some (.int x3), some (.int x4), some (.int x5)] [(.int (nI (sxc si x5.toNatClampNeg))), (.int (M.1 2 x3.toNatClampNeg))] M Q
          refine ev_icmp_ne (tgt := 121) dX4_rankIn_114 (by decide) (fun c => ?_) (fun c => ?_)
          · replace h := h.1 c
            refine ev_iconst (v := 0) dX4_rankIn_121 (by decide) ?_
            refine ev_istore (ls2 := [some (.ref 81), some (.ref (1010 + si)), some (.int x2), some (.int x3), some (.int 0), some (.int x5)]) dX4_rankIn_122 (Nat.le_of_ble_eq_true rfl) rfl ?_
            refine ev_iinc (v := x3 + 1) (ls2 := [some (.ref 81), some (.ref (1010 + si)), some (.int x2), some (.int (x3 + 1)), some (.int 0), some (.int x5)]) dX4_rankIn_124 rfl rfl rfl ?_
            refine ev_iinc (v := x5 + 1) (ls2 := [some (.ref 81), some (.ref (1010 + si)), some (.int x2), some (.int (x3 + 1)), some (.int 0), some (.int (x5 + 1))]) dX4_rankIn_127 rfl rfl rfl ?_
            refine ev_goto (tgt := 25) dX4_rankIn_130 (by decide) ?_
            exact h
          · replace h := h.2 c
            refine ev_iconst (v := 1) dX4_rankIn_117 (by decide) ?_
            refine ev_goto (tgt := 122) dX4_rankIn_118 (by decide) ?_
            refine ev_istore (ls2 := [some (.ref 81), some (.ref (1010 + si)), some (.int x2), some (.int x3), some (.int 1), some (.int x5)]) dX4_rankIn_122 (Nat.le_of_ble_eq_true rfl) rfl ?_
            refine ev_iinc (v := x3 + 1) (ls2 := [some (.ref 81), some (.ref (1010 + si)), some (.int x2), some (.int (x3 + 1)), some (.int 1), some (.int x5)]) dX4_rankIn_124 rfl rfl rfl ?_
            refine ev_iinc (v := x5 + 1) (ls2 := [some (.ref 81), some (.ref (1010 + si)), some (.int x2), some (.int (x3 + 1)), some (.int 1), some (.int (x5 + 1))]) dX4_rankIn_127 rfl rfl rfl ?_
            refine ev_goto (tgt := 25) dX4_rankIn_130 (by decide) ?_
            exact h
    · replace h := h.2 c
      refine ev_iload dX4_rankIn_45 rfl ?_
      refine ev_if_eq (tgt := 60) dX4_rankIn_47 (by decide) (fun c => ?_) (fun c => ?_)
      · replace h := h.1 c
        refine ev_iinc (v := x2 + 1) (ls2 := [some (.ref 81), some (.ref (1010 + si)), some (.int (x2 + 1)), some (.int x3), some (.int x4), some (.int x5)]) dX4_rankIn_60 rfl rfl rfl ?_
        refine ev_aload_n dX4_rankIn_63 rfl ?_
        refine ev_getI dX4_rankIn_64 fl_WithoutE_Reader_48 lx_81 rfl ?_
        refine ev_istore_n (ls2 := [some (.ref 81), some (.ref (1010 + si)), some (.int (x2 + 1)), some (.int (M.1 81 6)), some (.int x4), some (.int x5)]) dX4_rankIn_67 (Nat.le_of_ble_eq_true rfl) rfl ?_
        refine ev_aload_n dX4_rankIn_68 rfl ?_
        refine ev_getI dX4_rankIn_69 fl_WithoutE_Reader_41 lx_81 rfl ?_
        refine ev_iconst (v := 1) dX4_rankIn_72 (by decide) ?_
        refine ev_icmp_ne (tgt := 80) dX4_rankIn_73 (by decide) (fun c => ?_) (fun c => ?_)
        · replace h := h.1 c
          refine ev_iconst (v := 0) dX4_rankIn_80 (by decide) ?_
          refine ev_istore (ls2 := [some (.ref 81), some (.ref (1010 + si)), some (.int (x2 + 1)), some (.int (M.1 81 6)), some (.int 0), some (.int x5)]) dX4_rankIn_81 (Nat.le_of_ble_eq_true rfl) rfl ?_
          refine ev_goto (tgt := 127) dX4_rankIn_83 (by decide) ?_
          refine ev_iinc (v := x5 + 1) (ls2 := [some (.ref 81), some (.ref (1010 + si)), some (.int (x2 + 1)), some (.int (M.1 81 6)), some (.int 0), some (.int (x5 + 1))]) dX4_rankIn_127 rfl rfl rfl ?_
          refine ev_goto (tgt := 25) dX4_rankIn_130 (by decide) ?_
          exact h
        · replace h := h.2 c
          refine ev_iconst (v := 1) dX4_rankIn_76 (by decide) ?_
          refine ev_goto (tgt := 81) dX4_rankIn_77 (by decide) ?_
          refine ev_istore (ls2 := [some (.ref 81), some (.ref (1010 + si)), some (.int (x2 + 1)), some (.int (M.1 81 6)), some (.int 1), some (.int x5)]) dX4_rankIn_81 (Nat.le_of_ble_eq_true rfl) rfl ?_
          refine ev_goto (tgt := 127) dX4_rankIn_83 (by decide) ?_
          refine ev_iinc (v := x5 + 1) (ls2 := [some (.ref 81), some (.ref (1010 + si)), some (.int (x2 + 1)), some (.int (M.1 81 6)), some (.int 1), some (.int (x5 + 1))]) dX4_rankIn_127 rfl rfl rfl ?_
          refine ev_goto (tgt := 25) dX4_rankIn_130 (by decide) ?_
          exact h
      · replace h := h.2 c
        refine ev_iload_n dX4_rankIn_50 rfl ?_
        refine ev_aload_n dX4_rankIn_51 rfl ?_
        refine ev_getI dX4_rankIn_52 fl_WithoutE_Reader_35 lx_81 rfl ?_
        refine ev_icmp_ne (tgt := 60) dX4_rankIn_55 (by decide) (fun c => ?_) (fun c => ?_)
        · replace h := h.1 c
          refine ev_iinc (v := x2 + 1) (ls2 := [some (.ref 81), some (.ref (1010 + si)), some (.int (x2 + 1)), some (.int x3), some (.int x4), some (.int x5)]) dX4_rankIn_60 rfl rfl rfl ?_
          refine ev_aload_n dX4_rankIn_63 rfl ?_
          refine ev_getI dX4_rankIn_64 fl_WithoutE_Reader_48 lx_81 rfl ?_
          refine ev_istore_n (ls2 := [some (.ref 81), some (.ref (1010 + si)), some (.int (x2 + 1)), some (.int (M.1 81 6)), some (.int x4), some (.int x5)]) dX4_rankIn_67 (Nat.le_of_ble_eq_true rfl) rfl ?_
          refine ev_aload_n dX4_rankIn_68 rfl ?_
          refine ev_getI dX4_rankIn_69 fl_WithoutE_Reader_41 lx_81 rfl ?_
          refine ev_iconst (v := 1) dX4_rankIn_72 (by decide) ?_
          refine ev_icmp_ne (tgt := 80) dX4_rankIn_73 (by decide) (fun c => ?_) (fun c => ?_)
          · replace h := h.1 c
            refine ev_iconst (v := 0) dX4_rankIn_80 (by decide) ?_
            refine ev_istore (ls2 := [some (.ref 81), some (.ref (1010 + si)), some (.int (x2 + 1)), some (.int (M.1 81 6)), some (.int 0), some (.int x5)]) dX4_rankIn_81 (Nat.le_of_ble_eq_true rfl) rfl ?_
            refine ev_goto (tgt := 127) dX4_rankIn_83 (by decide) ?_
            refine ev_iinc (v := x5 + 1) (ls2 := [some (.ref 81), some (.ref (1010 + si)), some (.int (x2 + 1)), some (.int (M.1 81 6)), some (.int 0), some (.int (x5 + 1))]) dX4_rankIn_127 rfl rfl rfl ?_
            refine ev_goto (tgt := 25) dX4_rankIn_130 (by decide) ?_
            exact h
          · replace h := h.2 c
            refine ev_iconst (v := 1) dX4_rankIn_76 (by decide) ?_
            refine ev_goto (tgt := 81) dX4_rankIn_77 (by decide) ?_
            refine ev_istore (ls2 := [some (.ref 81), some (.ref (1010 + si)), some (.int (x2 + 1)), some (.int (M.1 81 6)), some (.int 1), some (.int x5)]) dX4_rankIn_81 (Nat.le_of_ble_eq_true rfl) rfl ?_
            refine ev_goto (tgt := 127) dX4_rankIn_83 (by decide) ?_
            refine ev_iinc (v := x5 + 1) (ls2 := [some (.ref 81), some (.ref (1010 + si)), some (.int (x2 + 1)), some (.int (M.1 81 6)), some (.int 1), some (.int (x5 + 1))]) dX4_rankIn_127 rfl rfl rfl ?_
            refine ev_goto (tgt := 25) dX4_rankIn_130 (by decide) ?_
            exact h
        · replace h := h.2 c
          refine ev_iload_n dX4_rankIn_58 rfl ?_
          exact ev_iret dX4_rankIn_59 rfl h
theorem dX4_fail_0 : decode cX4_fail 0 = .ok (.aload_n 0, 1) := by decide +kernel
theorem dX4_fail_1 : decode cX4_fail 1 = .ok (.iload_n 1, 1) := by decide +kernel
theorem dX4_fail_2 : decode cX4_fail 2 = .ok (.putfield 32, 3) := by decide +kernel
theorem dX4_fail_5 : decode cX4_fail 5 = .ok (.aload_n 0, 1) := by decide +kernel
theorem dX4_fail_6 : decode cX4_fail 6 = .ok (.aload_n 0, 1) := by decide +kernel
theorem dX4_fail_7 : decode cX4_fail 7 = .ok (.getfield 48, 3) := by decide +kernel
theorem dX4_fail_10 : decode cX4_fail 10 = .ok (.putfield 9, 3) := by decide +kernel
theorem dX4_fail_13 : decode cX4_fail 13 = .ok (.iconst 0, 1) := by decide +kernel
theorem dX4_fail_14 : decode cX4_fail 14 = .ok (.ireturn, 1) := by decide +kernel
theorem gX4_fail_0 {d : Nat} {M : ev_Mem} {Q : Option Value → ev_Mem → Prop} {x1 : Int32} (h : (∀ M1 : ev_Mem, M1 = ev_wr M 81 3 x1 → (∀ M2 : ev_Mem, M2 = ev_wr M1 81 4 (M1.1 81 6) → (Q (some (.int 0)) M2)))) : Ev LX d mX4_fail 0 [some (.ref 81), some (.int x1)] [] M Q := by
  refine ev_aload_n dX4_fail_0 rfl ?_
  refine ev_iload_n dX4_fail_1 rfl ?_
  refine ev_putI dX4_fail_2 fp_WithoutE_Reader_32 lx_81 rfl rfl rfl ?_
  generalize eM1 : ev_wr M 81 3 x1 = M1
  replace h := h M1 eM1.symm
  refine ev_aload_n dX4_fail_5 rfl ?_
  refine ev_aload_n dX4_fail_6 rfl ?_
  refine ev_getI dX4_fail_7 fl_WithoutE_Reader_48 lx_81 rfl ?_
  refine ev_putI dX4_fail_10 fp_WithoutE_Reader_9 lx_81 rfl rfl rfl ?_
  generalize eM2 : ev_wr M1 81 4 (M1.1 81 6) = M2
  replace h := h M2 eM2.symm
  refine ev_iconst (v := 0) dX4_fail_13 (by decide) ?_
  exact ev_zret dX4_fail_14 rfl (by decide) h
theorem dX11_nextToken_0 : decode cX11_nextToken 0 = .ok (.aload_n 0, 1) := by decide +kernel
theorem dX11_nextToken_1 : decode cX11_nextToken 1 = .ok (.aload_n 0, 1) := by decide +kernel
theorem dX11_nextToken_2 : decode cX11_nextToken 2 = .ok (.getfield 110, 3) := by decide +kernel
theorem dX11_nextToken_5 : decode cX11_nextToken 5 = .ok (.invokevirtual 113, 3) := by decide +kernel
theorem dX11_nextToken_8 : decode cX11_nextToken 8 = .ok (.bipush 32, 2) := by decide +kernel
theorem dX11_nextToken_10 : decode cX11_nextToken 10 = .ok (.if_icmp .eq 16, 3) := by decide +kernel
theorem dX11_nextToken_13 : decode cX11_nextToken 13 = .ok (.aload_n 0, 1) := by decide +kernel
theorem dX11_nextToken_14 : decode cX11_nextToken 14 = .ok (.aload_n 0, 1) := by decide +kernel
theorem dX11_nextToken_15 : decode cX11_nextToken 15 = .ok (.getfield 110, 3) := by decide +kernel
theorem dX11_nextToken_18 : decode cX11_nextToken 18 = .ok (.invokevirtual 113, 3) := by decide +kernel
theorem dX11_nextToken_21 : decode cX11_nextToken 21 = .ok (.bipush 10, 2) := by decide +kernel
theorem dX11_nextToken_23 : decode cX11_nextToken 23 = .ok (.if_icmp .ne 16, 3) := by decide +kernel
theorem dX11_nextToken_26 : decode cX11_nextToken 26 = .ok (.aload_n 0, 1) := by decide +kernel
theorem dX11_nextToken_27 : decode cX11_nextToken 27 = .ok (.dup, 1) := by decide +kernel
theorem dX11_nextToken_28 : decode cX11_nextToken 28 = .ok (.getfield 110, 3) := by decide +kernel
theorem dX11_nextToken_31 : decode cX11_nextToken 31 = .ok (.iconst 1, 1) := by decide +kernel
theorem dX11_nextToken_32 : decode cX11_nextToken 32 = .ok (.iadd, 1) := by decide +kernel
theorem dX11_nextToken_33 : decode cX11_nextToken 33 = .ok (.putfield 110, 3) := by decide +kernel
theorem dX11_nextToken_36 : decode cX11_nextToken 36 = .ok (.goto (-36), 3) := by decide +kernel
theorem dX11_nextToken_39 : decode cX11_nextToken 39 = .ok (.aload_n 0, 1) := by decide +kernel
theorem dX11_nextToken_40 : decode cX11_nextToken 40 = .ok (.aload_n 0, 1) := by decide +kernel
theorem dX11_nextToken_41 : decode cX11_nextToken 41 = .ok (.getfield 110, 3) := by decide +kernel
theorem dX11_nextToken_44 : decode cX11_nextToken 44 = .ok (.putfield 116, 3) := by decide +kernel
theorem dX11_nextToken_47 : decode cX11_nextToken 47 = .ok (.aload_n 0, 1) := by decide +kernel
theorem dX11_nextToken_48 : decode cX11_nextToken 48 = .ok (.aload_n 0, 1) := by decide +kernel
theorem dX11_nextToken_49 : decode cX11_nextToken 49 = .ok (.getfield 110, 3) := by decide +kernel
theorem dX11_nextToken_52 : decode cX11_nextToken 52 = .ok (.invokevirtual 113, 3) := by decide +kernel
theorem dX11_nextToken_55 : decode cX11_nextToken 55 = .ok (.istore_n 1, 1) := by decide +kernel
theorem dX11_nextToken_56 : decode cX11_nextToken 56 = .ok (.iload_n 1, 1) := by decide +kernel
theorem dX11_nextToken_57 : decode cX11_nextToken 57 = .ok (.ifCond .ge 11, 3) := by decide +kernel
theorem dX11_nextToken_60 : decode cX11_nextToken 60 = .ok (.aload_n 0, 1) := by decide +kernel
theorem dX11_nextToken_61 : decode cX11_nextToken 61 = .ok (.iconst 0, 1) := by decide +kernel
theorem dX11_nextToken_62 : decode cX11_nextToken 62 = .ok (.putfield 119, 3) := by decide +kernel
theorem dX11_nextToken_65 : decode cX11_nextToken 65 = .ok (.goto 245, 3) := by decide +kernel
theorem dX11_nextToken_68 : decode cX11_nextToken 68 = .ok (.iload_n 1, 1) := by decide +kernel
theorem dX11_nextToken_69 : decode cX11_nextToken 69 = .ok (.invokestatic 122, 3) := by decide +kernel
theorem dX11_nextToken_72 : decode cX11_nextToken 72 = .ok (.ifCond .eq 79, 3) := by decide +kernel
theorem dX11_nextToken_75 : decode cX11_nextToken 75 = .ok (.aload_n 0, 1) := by decide +kernel
theorem dX11_nextToken_76 : decode cX11_nextToken 76 = .ok (.iconst 1, 1) := by decide +kernel
theorem dX11_nextToken_77 : decode cX11_nextToken 77 = .ok (.putfield 119, 3) := by decide +kernel
theorem dX11_nextToken_80 : decode cX11_nextToken 80 = .ok (.aload_n 0, 1) := by decide +kernel
theorem dX11_nextToken_81 : decode cX11_nextToken 81 = .ok (.iconst 0, 1) := by decide +kernel
theorem dX11_nextToken_82 : decode cX11_nextToken 82 = .ok (.putfield 125, 3) := by decide +kernel
theorem dX11_nextToken_85 : decode cX11_nextToken 85 = .ok (.aload_n 0, 1) := by decide +kernel
theorem dX11_nextToken_86 : decode cX11_nextToken 86 = .ok (.aload_n 0, 1) := by decide +kernel
theorem dX11_nextToken_87 : decode cX11_nextToken 87 = .ok (.getfield 110, 3) := by decide +kernel
theorem dX11_nextToken_90 : decode cX11_nextToken 90 = .ok (.invokevirtual 113, 3) := by decide +kernel
theorem dX11_nextToken_93 : decode cX11_nextToken 93 = .ok (.invokestatic 122, 3) := by decide +kernel
theorem dX11_nextToken_96 : decode cX11_nextToken 96 = .ok (.ifCond .eq 214, 3) := by decide +kernel
theorem dX11_nextToken_99 : decode cX11_nextToken 99 = .ok (.aload_n 0, 1) := by decide +kernel
theorem dX11_nextToken_100 : decode cX11_nextToken 100 = .ok (.aload_n 0, 1) := by decide +kernel
theorem dX11_nextToken_101 : decode cX11_nextToken 101 = .ok (.getfield 125, 3) := by decide +kernel
theorem dX11_nextToken_104 : decode cX11_nextToken 104 = .ok (.ldc 128, 2) := by decide +kernel
theorem dX11_nextToken_106 : decode cX11_nextToken 106 = .ok (.if_icmp .le 10, 3) := by decide +kernel
theorem dX11_nextToken_109 : decode cX11_nextToken 109 = .ok (.aload_n 0, 1) := by decide +kernel
theorem dX11_nextToken_110 : decode cX11_nextToken 110 = .ok (.getfield 125, 3) := by decide +kernel
theorem dX11_nextToken_113 : decode cX11_nextToken 113 = .ok (.goto 22, 3) := by decide +kernel
theorem dX11_nextToken_116 : decode cX11_nextToken 116 = .ok (.bipush 10, 2) := by decide +kernel
theorem dX11_nextToken_118 : decode cX11_nextToken 118 = .ok (.aload_n 0, 1) := by decide +kernel
theorem dX11_nextToken_119 : decode cX11_nextToken 119 = .ok (.getfield 125, 3) := by decide +kernel
theorem dX11_nextToken_122 : decode cX11_nextToken 122 = .ok (.imul, 1) := by decide +kernel
theorem dX11_nextToken_123 : decode cX11_nextToken 123 = .ok (.aload_n 0, 1) := by decide +kernel
theorem dX11_nextToken_124 : decode cX11_nextToken 124 = .ok (.aload_n 0, 1) := by decide +kernel
theorem dX11_nextToken_125 : decode cX11_nextToken 125 = .ok (.getfield 110, 3) := by decide +kernel
theorem dX11_nextToken_128 : decode cX11_nextToken 128 = .ok (.invokevirtual 113, 3) := by decide +kernel
theorem dX11_nextToken_131 : decode cX11_nextToken 131 = .ok (.iadd, 1) := by decide +kernel
theorem dX11_nextToken_132 : decode cX11_nextToken 132 = .ok (.bipush 48, 2) := by decide +kernel
theorem dX11_nextToken_134 : decode cX11_nextToken 134 = .ok (.isub, 1) := by decide +kernel
theorem dX11_nextToken_135 : decode cX11_nextToken 135 = .ok (.putfield 125, 3) := by decide +kernel
theorem dX11_nextToken_138 : decode cX11_nextToken 138 = .ok (.aload_n 0, 1) := by decide +kernel
theorem dX11_nextToken_139 : decode cX11_nextToken 139 = .ok (.dup, 1) := by decide +kernel
theorem dX11_nextToken_140 : decode cX11_nextToken 140 = .ok (.getfield 110, 3) := by decide +kernel
theorem dX11_nextToken_143 : decode cX11_nextToken 143 = .ok (.iconst 1, 1) := by decide +kernel
theorem dX11_nextToken_144 : decode cX11_nextToken 144 = .ok (.iadd, 1) := by decide +kernel
theorem dX11_nextToken_145 : decode cX11_nextToken 145 = .ok (.putfield 110, 3) := by decide +kernel
theorem dX11_nextToken_148 : decode cX11_nextToken 148 = .ok (.goto (-63), 3) := by decide +kernel
theorem dX11_nextToken_151 : decode cX11_nextToken 151 = .ok (.iload_n 1, 1) := by decide +kernel
theorem dX11_nextToken_152 : decode cX11_nextToken 152 = .ok (.invokestatic 129, 3) := by decide +kernel
theorem dX11_nextToken_155 : decode cX11_nextToken 155 = .ok (.ifCond .eq 79, 3) := by decide +kernel
theorem dX11_nextToken_158 : decode cX11_nextToken 158 = .ok (.aload_n 0, 1) := by decide +kernel
theorem dX11_nextToken_159 : decode cX11_nextToken 159 = .ok (.iconst 2, 1) := by decide +kernel
theorem dX11_nextToken_160 : decode cX11_nextToken 160 = .ok (.putfield 119, 3) := by decide +kernel
theorem dX11_nextToken_163 : decode cX11_nextToken 163 = .ok (.aload_n 0, 1) := by decide +kernel
theorem dX11_nextToken_164 : decode cX11_nextToken 164 = .ok (.lconst 0, 1) := by decide +kernel
theorem dX11_nextToken_165 : decode cX11_nextToken 165 = .ok (.putfield 132, 3) := by decide +kernel
theorem dX11_nextToken_168 : decode cX11_nextToken 168 = .ok (.aload_n 0, 1) := by decide +kernel
theorem dX11_nextToken_169 : decode cX11_nextToken 169 = .ok (.aload_n 0, 1) := by decide +kernel
theorem dX11_nextToken_170 : decode cX11_nextToken 170 = .ok (.getfield 110, 3) := by decide +kernel
theorem dX11_nextToken_173 : decode cX11_nextToken 173 = .ok (.invokevirtual 113, 3) := by decide +kernel
theorem dX11_nextToken_176 : decode cX11_nextToken 176 = .ok (.invokestatic 129, 3) := by decide +kernel
theorem dX11_nextToken_179 : decode cX11_nextToken 179 = .ok (.ifCond .eq 131, 3) := by decide +kernel
theorem dX11_nextToken_182 : decode cX11_nextToken 182 = .ok (.aload_n 0, 1) := by decide +kernel
theorem dX11_nextToken_183 : decode cX11_nextToken 183 = .ok (.aload_n 0, 1) := by decide +kernel
theorem dX11_nextToken_184 : decode cX11_nextToken 184 = .ok (.getfield 132, 3) := by decide +kernel
theorem dX11_nextToken_187 : decode cX11_nextToken 187 = .ok (.bipush 48, 2) := by decide +kernel
theorem dX11_nextToken_189 : decode cX11_nextToken 189 = .ok (.lshr, 1) := by decide +kernel
theorem dX11_nextToken_190 : decode cX11_nextToken 190 = .ok (.lconst 0, 1) := by decide +kernel
theorem dX11_nextToken_191 : decode cX11_nextToken 191 = .ok (.lcmp, 1) := by decide +kernel
theorem dX11_nextToken_192 : decode cX11_nextToken 192 = .ok (.ifCond .eq 9, 3) := by decide +kernel
theorem dX11_nextToken_195 : decode cX11_nextToken 195 = .ok (.ldc2_w 136, 3) := by decide +kernel
theorem dX11_nextToken_198 : decode cX11_nextToken 198 = .ok (.goto 20, 3) := by decide +kernel
theorem dX11_nextToken_201 : decode cX11_nextToken 201 = .ok (.aload_n 0, 1) := by decide +kernel
theorem dX11_nextToken_202 : decode cX11_nextToken 202 = .ok (.getfield 132, 3) := by decide +kernel
theorem dX11_nextToken_205 : decode cX11_nextToken 205 = .ok (.bipush 8, 2) := by decide +kernel
theorem dX11_nextToken_207 : decode cX11_nextToken 207 = .ok (.lshl, 1) := by decide +kernel
theorem dX11_nextToken_208 : decode cX11_nextToken 208 = .ok (.aload_n 0, 1) := by decide +kernel
theorem dX11_nextToken_209 : decode cX11_nextToken 209 = .ok (.aload_n 0, 1) := by decide +kernel
theorem dX11_nextToken_210 : decode cX11_nextToken 210 = .ok (.getfield 110, 3) := by decide +kernel
theorem dX11_nextToken_213 : decode cX11_nextToken 213 = .ok (.invokevirtual 113, 3) := by decide +kernel
theorem dX11_nextToken_216 : decode cX11_nextToken 216 = .ok (.i2l, 1) := by decide +kernel
theorem dX11_nextToken_217 : decode cX11_nextToken 217 = .ok (.lor, 1) := by decide +kernel
theorem dX11_nextToken_218 : decode cX11_nextToken 218 = .ok (.putfield 132, 3) := by decide +kernel
theorem dX11_nextToken_221 : decode cX11_nextToken 221 = .ok (.aload_n 0, 1) := by decide +kernel
theorem dX11_nextToken_222 : decode cX11_nextToken 222 = .ok (.dup, 1) := by decide +kernel
theorem dX11_nextToken_223 : decode cX11_nextToken 223 = .ok (.getfield 110, 3) := by decide +kernel
theorem dX11_nextToken_226 : decode cX11_nextToken 226 = .ok (.iconst 1, 1) := by decide +kernel
theorem dX11_nextToken_227 : decode cX11_nextToken 227 = .ok (.iadd, 1) := by decide +kernel
theorem dX11_nextToken_228 : decode cX11_nextToken 228 = .ok (.putfield 110, 3) := by decide +kernel
theorem dX11_nextToken_231 : decode cX11_nextToken 231 = .ok (.goto (-63), 3) := by decide +kernel
theorem dX11_nextToken_234 : decode cX11_nextToken 234 = .ok (.aload_n 0, 1) := by decide +kernel
theorem dX11_nextToken_235 : decode cX11_nextToken 235 = .ok (.iload_n 1, 1) := by decide +kernel
theorem dX11_nextToken_236 : decode cX11_nextToken 236 = .ok (.invokestatic 138, 3) := by decide +kernel
theorem dX11_nextToken_239 : decode cX11_nextToken 239 = .ok (.ifCond .eq 7, 3) := by decide +kernel
theorem dX11_nextToken_242 : decode cX11_nextToken 242 = .ok (.iload_n 1, 1) := by decide +kernel
theorem dX11_nextToken_243 : decode cX11_nextToken 243 = .ok (.goto 4, 3) := by decide +kernel
theorem dX11_nextToken_246 : decode cX11_nextToken 246 = .ok (.iconst 3, 1) := by decide +kernel
theorem dX11_nextToken_247 : decode cX11_nextToken 247 = .ok (.putfield 119, 3) := by decide +kernel
theorem dX11_nextToken_250 : decode cX11_nextToken 250 = .ok (.aload_n 0, 1) := by decide +kernel
theorem dX11_nextToken_251 : decode cX11_nextToken 251 = .ok (.dup, 1) := by decide +kernel
theorem dX11_nextToken_252 : decode cX11_nextToken 252 = .ok (.getfield 110, 3) := by decide +kernel
theorem dX11_nextToken_255 : decode cX11_nextToken 255 = .ok (.iconst 1, 1) := by decide +kernel
theorem dX11_nextToken_256 : decode cX11_nextToken 256 = .ok (.iadd, 1) := by decide +kernel
theorem dX11_nextToken_257 : decode cX11_nextToken 257 = .ok (.putfield 110, 3) := by decide +kernel
theorem dX11_nextToken_260 : decode cX11_nextToken 260 = .ok (.iload_n 1, 1) := by decide +kernel
theorem dX11_nextToken_261 : decode cX11_nextToken 261 = .ok (.bipush 60, 2) := by decide +kernel
theorem dX11_nextToken_263 : decode cX11_nextToken 263 = .ok (.if_icmp .eq 9, 3) := by decide +kernel
theorem dX11_nextToken_266 : decode cX11_nextToken 266 = .ok (.iload_n 1, 1) := by decide +kernel
theorem dX11_nextToken_267 : decode cX11_nextToken 267 = .ok (.bipush 62, 2) := by decide +kernel
theorem dX11_nextToken_269 : decode cX11_nextToken 269 = .ok (.if_icmp .ne 41, 3) := by decide +kernel
theorem dX11_nextToken_272 : decode cX11_nextToken 272 = .ok (.aload_n 0, 1) := by decide +kernel
theorem dX11_nextToken_273 : decode cX11_nextToken 273 = .ok (.aload_n 0, 1) := by decide +kernel
theorem dX11_nextToken_274 : decode cX11_nextToken 274 = .ok (.getfield 110, 3) := by decide +kernel
theorem dX11_nextToken_277 : decode cX11_nextToken 277 = .ok (.invokevirtual 113, 3) := by decide +kernel
theorem dX11_nextToken_280 : decode cX11_nextToken 280 = .ok (.bipush 61, 2) := by decide +kernel
theorem dX11_nextToken_282 : decode cX11_nextToken 282 = .ok (.if_icmp .ne 28, 3) := by decide +kernel
theorem dX11_nextToken_285 : decode cX11_nextToken 285 = .ok (.aload_n 0, 1) := by decide +kernel
theorem dX11_nextToken_286 : decode cX11_nextToken 286 = .ok (.iload_n 1, 1) := by decide +kernel
theorem dX11_nextToken_287 : decode cX11_nextToken 287 = .ok (.bipush 60, 2) := by decide +kernel
theorem dX11_nextToken_289 : decode cX11_nextToken 289 = .ok (.if_icmp .ne 7, 3) := by decide +kernel
theorem dX11_nextToken_292 : decode cX11_nextToken 292 = .ok (.iconst 4, 1) := by decide +kernel
theorem dX11_nextToken_293 : decode cX11_nextToken 293 = .ok (.goto 4, 3) := by decide +kernel
theorem dX11_nextToken_296 : decode cX11_nextToken 296 = .ok (.iconst 5, 1) := by decide +kernel
theorem dX11_nextToken_297 : decode cX11_nextToken 297 = .ok (.putfield 119, 3) := by decide +kernel
theorem dX11_nextToken_300 : decode cX11_nextToken 300 = .ok (.aload_n 0, 1) := by decide +kernel
theorem dX11_nextToken_301 : decode cX11_nextToken 301 = .ok (.dup, 1) := by decide +kernel
theorem dX11_nextToken_302 : decode cX11_nextToken 302 = .ok (.getfield 110, 3) := by decide +kernel
theorem dX11_nextToken_305 : decode cX11_nextToken 305 = .ok (.iconst 1, 1) := by decide +kernel
theorem dX11_nextToken_306 : decode cX11_nextToken 306 = .ok (.iadd, 1) := by decide +kernel
theorem dX11_nextToken_307 : decode cX11_nextToken 307 = .ok (.putfield 110, 3) := by decide +kernel
theorem dX11_nextToken_310 : decode cX11_nextToken 310 = .ok (.return_, 1) := by decide +kernel
theorem gX11_nextToken_0 {d : Nat} {M : ev_Mem} {Q : Option Value → ev_Mem → Prop} (h : ((baOK M (M.1 0 8)) ∧ ((((btA M (M.1 0 8)) = 32) → (∀ M1 : ev_Mem, M1 = ev_wr M 0 8 ((M.1 0 8) + 1) → (Ev LM (d + 1) mX11_nextToken 0 [some (.ref 0), none] [] M1 Q))) ∧ ((¬ (btA M (M.1 0 8)) = 32) → ((baOK M (M.1 0 8)) ∧ (((¬ (btA M (M.1 0 8)) = 10) → (Ev LM (d + 1) mX11_nextToken 39 [some (.ref 0), none] [] M Q)) ∧ (((btA M (M.1 0 8)) = 10) → (∀ M2 : ev_Mem, M2 = ev_wr M 0 8 ((M.1 0 8) + 1) → (Ev LM (d + 1) mX11_nextToken 0 [some (.ref 0), none] [] M2 Q))))))))) : Ev LM (d + 1) mX11_nextToken 0 [some (.ref 0), none] [] M Q := by
  refine ev_aload_n dX11_nextToken_0 rfl ?_
  refine ev_aload_n dX11_nextToken_1 rfl ?_
  refine ev_getI dX11_nextToken_2 fl_WithoutEModel_110 lm_0 rfl ?_
  obtain ⟨p1, h⟩ := h
  refine ev_callV [.int (M.1 0 8)] dX11_nextToken_5 ml_WithoutEModel_113 lm_0 rfl rfl (Nat.le_of_ble_eq_true rfl) (qX11_byteAt p1) ?_
  rintro zr zM ⟨q1, q2⟩
  rw [q1, q2]
  show Ev LM (d + 1) mX11_nextToken 8 [some (.ref 0), none] [(.int (btA M (M.1 0 8)))] M Q
  refine ev_bipush (v := 32) dX11_nextToken_8 (by decide) ?_
  refine ev_icmp_eq (tgt := 26) dX11_nextToken_10 (by decide) (fun c => ?_) (fun c => ?_)
  · replace h := h.1 c
    refine ev_aload_n dX11_nextToken_26 rfl ?_
    refine ev_dup dX11_nextToken_27 rfl ?_
    refine ev_getI dX11_nextToken_28 fl_WithoutEModel_110 lm_0 rfl ?_
    refine ev_iconst (v := 1) dX11_nextToken_31 (by decide) ?_
    refine ev_iadd dX11_nextToken_32 ?_
    refine ev_putI dX11_nextToken_33 fp_WithoutEModel_110 lm_0 rfl rfl rfl ?_
    generalize eM1 : ev_wr M 0 8 ((M.1 0 8) + 1) = M1
    replace h := h M1 eM1.symm
    refine ev_goto (tgt := 0) dX11_nextToken_36 (by decide) ?_
    exact h
  · replace h := h.2 c
    refine ev_aload_n dX11_nextToken_13 rfl ?_
    refine ev_aload_n dX11_nextToken_14 rfl ?_
    refine ev_getI dX11_nextToken_15 fl_WithoutEModel_110 lm_0 rfl ?_
    obtain ⟨p1, h⟩ := h
    refine ev_callV [.int (M.1 0 8)] dX11_nextToken_18 ml_WithoutEModel_113 lm_0 rfl rfl (Nat.le_of_ble_eq_true rfl) (qX11_byteAt p1) ?_
    rintro zr zM ⟨q1, q2⟩
    rw [q1, q2]
    show Ev LM (d + 1) mX11_nextToken 21 [some (.ref 0), none] [(.int (btA M (M.1 0 8)))] M Q
    refine ev_bipush (v := 10) dX11_nextToken_21 (by decide) ?_
    refine ev_icmp_ne (tgt := 39) dX11_nextToken_23 (by decide) (fun c => ?_) (fun c => ?_)
    · replace h := h.1 c
      exact h
    · replace h := h.2 c
      refine ev_aload_n dX11_nextToken_26 rfl ?_
      refine ev_dup dX11_nextToken_27 rfl ?_
      refine ev_getI dX11_nextToken_28 fl_WithoutEModel_110 lm_0 rfl ?_
      refine ev_iconst (v := 1) dX11_nextToken_31 (by decide) ?_
      refine ev_iadd dX11_nextToken_32 ?_
      refine ev_putI dX11_nextToken_33 fp_WithoutEModel_110 lm_0 rfl rfl rfl ?_
      generalize eM2 : ev_wr M 0 8 ((M.1 0 8) + 1) = M2
      replace h := h M2 eM2.symm
      refine ev_goto (tgt := 0) dX11_nextToken_36 (by decide) ?_
      exact h
theorem gX11_nextToken_39 {d : Nat} {M : ev_Mem} {Q : Option Value → ev_Mem → Prop} (h : (∀ M1 : ev_Mem, M1 = ev_wr M 0 9 (M.1 0 8) → ((baOK M1 (M1.1 0 8)) ∧ (((0 ≤ (btA M1 (M1.1 0 8))) → (Ev LM (d + 1) mX11_nextToken 68 [some (.ref 0), some (.int (btA M1 (M1.1 0 8)))] [] M1 Q)) ∧ ((¬ 0 ≤ (btA M1 (M1.1 0 8))) → (∀ M2 : ev_Mem, M2 = ev_wr M1 0 10 0 → (Q none M2))))))) : Ev LM (d + 1) mX11_nextToken 39 [some (.ref 0), none] [] M Q := by
  refine ev_aload_n dX11_nextToken_39 rfl ?_
  refine ev_aload_n dX11_nextToken_40 rfl ?_
  refine ev_getI dX11_nextToken_41 fl_WithoutEModel_110 lm_0 rfl ?_
  refine ev_putI dX11_nextToken_44 fp_WithoutEModel_116 lm_0 rfl rfl rfl ?_
  generalize eM1 : ev_wr M 0 9 (M.1 0 8) = M1
  replace h := h M1 eM1.symm
  refine ev_aload_n dX11_nextToken_47 rfl ?_
  refine ev_aload_n dX11_nextToken_48 rfl ?_
  refine ev_getI dX11_nextToken_49 fl_WithoutEModel_110 lm_0 rfl ?_
  obtain ⟨p1, h⟩ := h
  refine ev_callV [.int (M1.1 0 8)] dX11_nextToken_52 ml_WithoutEModel_113 lm_0 rfl rfl (Nat.le_of_ble_eq_true rfl) (qX11_byteAt p1) ?_
  rintro zr zM ⟨q1, q2⟩
  rw [q1, q2]
  show Ev LM (d + 1) mX11_nextToken 55 [some (.ref 0), none] [(.int (btA M1 (M1.1 0 8)))] M1 Q
  refine ev_istore_n (ls2 := [some (.ref 0), some (.int (btA M1 (M1.1 0 8)))]) dX11_nextToken_55 (Nat.le_of_ble_eq_true rfl) rfl ?_
  refine ev_iload_n dX11_nextToken_56 rfl ?_
  refine ev_if_ge (tgt := 68) dX11_nextToken_57 (by decide) (fun c => ?_) (fun c => ?_)
  · replace h := h.1 c
    exact h
  · replace h := h.2 c
    refine ev_aload_n dX11_nextToken_60 rfl ?_
    refine ev_iconst (v := 0) dX11_nextToken_61 (by decide) ?_
    refine ev_putI dX11_nextToken_62 fp_WithoutEModel_119 lm_0 rfl rfl rfl ?_
    generalize eM2 : ev_wr M1 0 10 0 = M2
    replace h := h M2 eM2.symm
    refine ev_goto (tgt := 310) dX11_nextToken_65 (by decide) ?_
    exact ev_vret dX11_nextToken_310 rfl h
theorem gX11_nextToken_68 {d : Nat} {M : ev_Mem} {Q : Option Value → ev_Mem → Prop} {x1 : Int32} (h : ((((iin x1 48 57) = false) → ((((ltq x1) = false) → ((((sgq x1) = false) → (∀ M1 : ev_Mem, M1 = ev_wr M 0 10 3 → (Ev LM (d + 1) mX11_nextToken 250 [some (.ref 0), some (.int x1)] [] M1 Q))) ∧ (((sgq x1) = true) → (∀ M2 : ev_Mem, M2 = ev_wr M 0 10 x1 → (Ev LM (d + 1) mX11_nextToken 250 [some (.ref 0), some (.int x1)] [] M2 Q))))) ∧ (((ltq x1) = true) → (∀ M3 : ev_Mem, M3 = ev_wr M 0 10 2 → (∀ M4 : ev_Mem, M4 = ev_wl M3 0 12 0 → (Ev LM (d + 1) mX11_nextToken 168 [some (.ref 0), none] [] M4 Q)))))) ∧ (((iin x1 48 57) = true) → (∀ M5 : ev_Mem, M5 = ev_wr M 0 10 1 → (∀ M6 : ev_Mem, M6 = ev_wr M5 0 11 0 → (Ev LM (d + 1) mX11_nextToken 85 [some (.ref 0), none] [] M6 Q)))))) : Ev LM (d + 1) mX11_nextToken 68 [some (.ref 0), some (.int x1)] [] M Q := by
  refine ev_iload_n dX11_nextToken_68 rfl ?_
  refine ev_callS [.int x1] dX11_nextToken_69 ml_WithoutEModel_122 rfl (Nat.le_of_ble_eq_true rfl) (kX11_isFigure) ?_
  rintro zr zM ⟨q1, q2⟩
  rw [q1, q2]
  show Ev LM (d + 1) mX11_nextToken 72 [some (.ref 0), some (.int x1)] [(.int (bi (iin x1 48 57)))] M Q
  refine ev_if_eq (tgt := 151) dX11_nextToken_72 (by decide) (fun c => ?_) (fun c => ?_)
  · replace h := h.1 ((bi_0 _).mp c)
    refine ev_iload_n dX11_nextToken_151 rfl ?_
    refine ev_callS [.int x1] dX11_nextToken_152 ml_WithoutEModel_129 rfl (Nat.le_of_ble_eq_true rfl) (kX11_isLetterByte) ?_
    rintro zr zM ⟨q1, q2⟩
    rw [q1, q2]
    show Ev LM (d + 1) mX11_nextToken 155 [some (.ref 0), some (.int x1)] [(.int (bi (ltq x1)))] M Q
    refine ev_if_eq (tgt := 234) dX11_nextToken_155 (by decide) (fun c => ?_) (fun c => ?_)
    · replace h := h.1 ((bi_0 _).mp c)
      refine ev_aload_n dX11_nextToken_234 rfl ?_
      refine ev_iload_n dX11_nextToken_235 rfl ?_
      refine ev_callS [.int x1] dX11_nextToken_236 ml_WithoutEModel_138 rfl (Nat.le_of_ble_eq_true rfl) (kX11_isSign) ?_
      rintro zr zM ⟨q1, q2⟩
      rw [q1, q2]
      show Ev LM (d + 1) mX11_nextToken 239 [some (.ref 0), some (.int x1)] [(.int (bi (sgq x1))), (.ref 0)] M Q
      refine ev_if_eq (tgt := 246) dX11_nextToken_239 (by decide) (fun c => ?_) (fun c => ?_)
      · replace h := h.1 ((bi_0 _).mp c)
        refine ev_iconst (v := 3) dX11_nextToken_246 (by decide) ?_
        refine ev_putI dX11_nextToken_247 fp_WithoutEModel_119 lm_0 rfl rfl rfl ?_
        generalize eM1 : ev_wr M 0 10 3 = M1
        replace h := h M1 eM1.symm
        exact h
      · replace h := h.2 ((bi_n0 _).mp c)
        refine ev_iload_n dX11_nextToken_242 rfl ?_
        refine ev_goto (tgt := 247) dX11_nextToken_243 (by decide) ?_
        refine ev_putI dX11_nextToken_247 fp_WithoutEModel_119 lm_0 rfl rfl rfl ?_
        generalize eM2 : ev_wr M 0 10 x1 = M2
        replace h := h M2 eM2.symm
        exact h
    · replace h := h.2 ((bi_n0 _).mp c)
      refine ev_aload_n dX11_nextToken_158 rfl ?_
      refine ev_iconst (v := 2) dX11_nextToken_159 (by decide) ?_
      refine ev_putI dX11_nextToken_160 fp_WithoutEModel_119 lm_0 rfl rfl rfl ?_
      generalize eM3 : ev_wr M 0 10 2 = M3
      replace h := h M3 eM3.symm
      refine ev_aload_n dX11_nextToken_163 rfl ?_
      refine ev_lconst (v := 0) dX11_nextToken_164 (by decide) ?_
      refine ev_putJ dX11_nextToken_165 fp_WithoutEModel_132 lm_0 rfl ?_
      generalize eM4 : ev_wl M3 0 12 0 = M4
      replace h := h M4 eM4.symm
      refine Ev.weak (ls := [some (.ref 0), none]) ⟨rfl, trivial⟩ ?_
      exact h
  · replace h := h.2 ((bi_n0 _).mp c)
    refine ev_aload_n dX11_nextToken_75 rfl ?_
    refine ev_iconst (v := 1) dX11_nextToken_76 (by decide) ?_
    refine ev_putI dX11_nextToken_77 fp_WithoutEModel_119 lm_0 rfl rfl rfl ?_
    generalize eM5 : ev_wr M 0 10 1 = M5
    replace h := h M5 eM5.symm
    refine ev_aload_n dX11_nextToken_80 rfl ?_
    refine ev_iconst (v := 0) dX11_nextToken_81 (by decide) ?_
    refine ev_putI dX11_nextToken_82 fp_WithoutEModel_125 lm_0 rfl rfl rfl ?_
    generalize eM6 : ev_wr M5 0 11 0 = M6
    replace h := h M6 eM6.symm
    refine Ev.weak (ls := [some (.ref 0), none]) ⟨rfl, trivial⟩ ?_
    exact h
theorem gX11_nextToken_250 {d : Nat} {M : ev_Mem} {Q : Option Value → ev_Mem → Prop} {x1 : Int32} (h : (∀ M1 : ev_Mem, M1 = ev_wr M 0 8 ((M.1 0 8) + 1) → (((x1 = 60) → (Ev LM d mX11_nextToken 272 [some (.ref 0), some (.int x1)] [] M1 Q)) ∧ ((¬ x1 = 60) → (((¬ x1 = 62) → (Q none M1)) ∧ ((x1 = 62) → (Ev LM d mX11_nextToken 272 [some (.ref 0), some (.int x1)] [] M1 Q))))))) : Ev LM d mX11_nextToken 250 [some (.ref 0), some (.int x1)] [] M Q := by
  refine ev_aload_n dX11_nextToken_250 rfl ?_
  refine ev_dup dX11_nextToken_251 rfl ?_
  refine ev_getI dX11_nextToken_252 fl_WithoutEModel_110 lm_0 rfl ?_
  refine ev_iconst (v := 1) dX11_nextToken_255 (by decide) ?_
  refine ev_iadd dX11_nextToken_256 ?_
  refine ev_putI dX11_nextToken_257 fp_WithoutEModel_110 lm_0 rfl rfl rfl ?_
  generalize eM1 : ev_wr M 0 8 ((M.1 0 8) + 1) = M1
  replace h := h M1 eM1.symm
  refine ev_iload_n dX11_nextToken_260 rfl ?_
  refine ev_bipush (v := 60) dX11_nextToken_261 (by decide) ?_
  refine ev_icmp_eq (tgt := 272) dX11_nextToken_263 (by decide) (fun c => ?_) (fun c => ?_)
  · replace h := h.1 c
    exact h
  · replace h := h.2 c
    refine ev_iload_n dX11_nextToken_266 rfl ?_
    refine ev_bipush (v := 62) dX11_nextToken_267 (by decide) ?_
    refine ev_icmp_ne (tgt := 310) dX11_nextToken_269 (by decide) (fun c => ?_) (fun c => ?_)
    · replace h := h.1 c
      exact ev_vret dX11_nextToken_310 rfl h
    · replace h := h.2 c
      exact h
theorem gX11_nextToken_168 {d : Nat} {M : ev_Mem} {Q : Option Value → ev_Mem → Prop} (h : ((baOK M (M.1 0 8)) ∧ ((((ltq (btA M (M.1 0 8))) = false) → (Q none M)) ∧ (((ltq (btA M (M.1 0 8))) = true) → ((((lg_cmp ((M.2 0 12) >>> (((48 : Int32)).toInt64 &&& 63)) 0) = 0) → ((baOK M (M.1 0 8)) ∧ (∀ M1 : ev_Mem, M1 = ev_wl M 0 12 (((M.2 0 12) <<< (((8 : Int32)).toInt64 &&& 63)) ||| ((btA M (M.1 0 8) : Int32).toInt64)) → (∀ M2 : ev_Mem, M2 = ev_wr M1 0 8 ((M1.1 0 8) + 1) → (Ev LM (d + 1) mX11_nextToken 168 [some (.ref 0), none] [] M2 Q))))) ∧ ((¬ (lg_cmp ((M.2 0 12) >>> (((48 : Int32)).toInt64 &&& 63)) 0) = 0) → (∀ M3 : ev_Mem, M3 = ev_wl M 0 12 1152921504606846976 → (∀ M4 : ev_Mem, M4 = ev_wr M3 0 8 ((M3.1 0 8) + 1) → (Ev LM (d + 1) mX11_nextToken 168 [some (.ref 0), none] [] M4 Q))))))))) : Ev LM (d + 1) mX11_nextToken 168 [some (.ref 0), none] [] M Q := by
  refine ev_aload_n dX11_nextToken_168 rfl ?_
  refine ev_aload_n dX11_nextToken_169 rfl ?_
  refine ev_getI dX11_nextToken_170 fl_WithoutEModel_110 lm_0 rfl ?_
  obtain ⟨p1, h⟩ := h
  refine ev_callV [.int (M.1 0 8)] dX11_nextToken_173 ml_WithoutEModel_113 lm_0 rfl rfl (Nat.le_of_ble_eq_true rfl) (qX11_byteAt p1) ?_
  rintro zr zM ⟨q1, q2⟩
  rw [q1, q2]
  show Ev LM (d + 1) mX11_nextToken 176 [some (.ref 0), none] [(.int (btA M (M.1 0 8)))] M Q
  refine ev_callS [.int (btA M (M.1 0 8))] dX11_nextToken_176 ml_WithoutEModel_129 rfl (Nat.le_of_ble_eq_true rfl) (kX11_isLetterByte) ?_
  rintro zr zM ⟨q1, q2⟩
  rw [q1, q2]
  show Ev LM (d + 1) mX11_nextToken 179 [some (.ref 0), none] [(.int (bi (ltq (btA M (M.1 0 8)))))] M Q
  refine ev_if_eq (tgt := 310) dX11_nextToken_179 (by decide) (fun c => ?_) (fun c => ?_)
  · replace h := h.1 ((bi_0 _).mp c)
    exact ev_vret dX11_nextToken_310 rfl h
  · replace h := h.2 ((bi_n0 _).mp c)
    refine ev_aload_n dX11_nextToken_182 rfl ?_
    refine ev_aload_n dX11_nextToken_183 rfl ?_
    refine ev_getJ dX11_nextToken_184 fl_WithoutEModel_132 lm_0 rfl ?_
    refine ev_bipush (v := 48) dX11_nextToken_187 (by decide) ?_
    refine ev_lshr dX11_nextToken_189 ?_
    refine ev_lconst (v := 0) dX11_nextToken_190 (by decide) ?_
    refine ev_lcmp dX11_nextToken_191 ?_
    refine ev_if_eq (tgt := 201) dX11_nextToken_192 (by decide) (fun c => ?_) (fun c => ?_)
    · replace h := h.1 c
      refine ev_aload_n dX11_nextToken_201 rfl ?_
      refine ev_getJ dX11_nextToken_202 fl_WithoutEModel_132 lm_0 rfl ?_
      refine ev_bipush (v := 8) dX11_nextToken_205 (by decide) ?_
      refine ev_lshl dX11_nextToken_207 ?_
      refine ev_aload_n dX11_nextToken_208 rfl ?_
      refine ev_aload_n dX11_nextToken_209 rfl ?_
      refine ev_getI dX11_nextToken_210 fl_WithoutEModel_110 lm_0 rfl ?_
      obtain ⟨p1, h⟩ := h
      refine ev_callV [.int (M.1 0 8)] dX11_nextToken_213 ml_WithoutEModel_113 lm_0 rfl rfl (Nat.le_of_ble_eq_true rfl) (qX11_byteAt p1) ?_
      rintro zr zM ⟨q1, q2⟩
      rw [q1, q2]
      show Ev LM (d + 1) mX11_nextToken 216 [some (.ref 0), none] [(.int (btA M (M.1 0 8))), (.long ((M.2 0 12) <<< (((8 : Int32)).toInt64 &&& 63))), (.ref 0)] M Q
      refine ev_i2l dX11_nextToken_216 ?_
      refine ev_lor dX11_nextToken_217 ?_
      refine ev_putJ dX11_nextToken_218 fp_WithoutEModel_132 lm_0 rfl ?_
      generalize eM1 : ev_wl M 0 12 (((M.2 0 12) <<< (((8 : Int32)).toInt64 &&& 63)) ||| ((btA M (M.1 0 8) : Int32).toInt64)) = M1
      replace h := h M1 eM1.symm
      refine ev_aload_n dX11_nextToken_221 rfl ?_
      refine ev_dup dX11_nextToken_222 rfl ?_
      refine ev_getI dX11_nextToken_223 fl_WithoutEModel_110 lm_0 rfl ?_
      refine ev_iconst (v := 1) dX11_nextToken_226 (by decide) ?_
      refine ev_iadd dX11_nextToken_227 ?_
      refine ev_putI dX11_nextToken_228 fp_WithoutEModel_110 lm_0 rfl rfl rfl ?_
      generalize eM2 : ev_wr M1 0 8 ((M1.1 0 8) + 1) = M2
      replace h := h M2 eM2.symm
      refine ev_goto (tgt := 168) dX11_nextToken_231 (by decide) ?_
      exact h
    · replace h := h.2 c
      refine ev_ldc2 (v := 1152921504606846976) dX11_nextToken_195 cw_WithoutEModel_136 ?_
      refine ev_goto (tgt := 218) dX11_nextToken_198 (by decide) ?_
      refine ev_putJ dX11_nextToken_218 fp_WithoutEModel_132 lm_0 rfl ?_
      generalize eM3 : ev_wl M 0 12 1152921504606846976 = M3
      replace h := h M3 eM3.symm
      refine ev_aload_n dX11_nextToken_221 rfl ?_
      refine ev_dup dX11_nextToken_222 rfl ?_
      refine ev_getI dX11_nextToken_223 fl_WithoutEModel_110 lm_0 rfl ?_
      refine ev_iconst (v := 1) dX11_nextToken_226 (by decide) ?_
      refine ev_iadd dX11_nextToken_227 ?_
      refine ev_putI dX11_nextToken_228 fp_WithoutEModel_110 lm_0 rfl rfl rfl ?_
      generalize eM4 : ev_wr M3 0 8 ((M3.1 0 8) + 1) = M4
      replace h := h M4 eM4.symm
      refine ev_goto (tgt := 168) dX11_nextToken_231 (by decide) ?_
      exact h
theorem gX11_nextToken_85 {d : Nat} {M : ev_Mem} {Q : Option Value → ev_Mem → Prop} (h : ((baOK M (M.1 0 8)) ∧ ((((iin (btA M (M.1 0 8)) 48 57) = false) → (Q none M)) ∧ (((iin (btA M (M.1 0 8)) 48 57) = true) → ((((M.1 0 11) ≤ 99999) → ((baOK M (M.1 0 8)) ∧ (∀ M1 : ev_Mem, M1 = ev_wr M 0 11 (((10 * (M.1 0 11)) + (btA M (M.1 0 8))) - 48) → (∀ M2 : ev_Mem, M2 = ev_wr M1 0 8 ((M1.1 0 8) + 1) → (Ev LM (d + 1) mX11_nextToken 85 [some (.ref 0), none] [] M2 Q))))) ∧ ((¬ (M.1 0 11) ≤ 99999) → (∀ M3 : ev_Mem, M3 = ev_wr M 0 11 (M.1 0 11) → (∀ M4 : ev_Mem, M4 = ev_wr M3 0 8 ((M3.1 0 8) + 1) → (Ev LM (d + 1) mX11_nextToken 85 [some (.ref 0), none] [] M4 Q))))))))) : Ev LM (d + 1) mX11_nextToken 85 [some (.ref 0), none] [] M Q := by
  refine ev_aload_n dX11_nextToken_85 rfl ?_
  refine ev_aload_n dX11_nextToken_86 rfl ?_
  refine ev_getI dX11_nextToken_87 fl_WithoutEModel_110 lm_0 rfl ?_
  obtain ⟨p1, h⟩ := h
  refine ev_callV [.int (M.1 0 8)] dX11_nextToken_90 ml_WithoutEModel_113 lm_0 rfl rfl (Nat.le_of_ble_eq_true rfl) (qX11_byteAt p1) ?_
  rintro zr zM ⟨q1, q2⟩
  rw [q1, q2]
  show Ev LM (d + 1) mX11_nextToken 93 [some (.ref 0), none] [(.int (btA M (M.1 0 8)))] M Q
  refine ev_callS [.int (btA M (M.1 0 8))] dX11_nextToken_93 ml_WithoutEModel_122 rfl (Nat.le_of_ble_eq_true rfl) (kX11_isFigure) ?_
  rintro zr zM ⟨q1, q2⟩
  rw [q1, q2]
  show Ev LM (d + 1) mX11_nextToken 96 [some (.ref 0), none] [(.int (bi (iin (btA M (M.1 0 8)) 48 57)))] M Q
  refine ev_if_eq (tgt := 310) dX11_nextToken_96 (by decide) (fun c => ?_) (fun c => ?_)
  · replace h := h.1 ((bi_0 _).mp c)
    exact ev_vret dX11_nextToken_310 rfl h
  · replace h := h.2 ((bi_n0 _).mp c)
    refine ev_aload_n dX11_nextToken_99 rfl ?_
    refine ev_aload_n dX11_nextToken_100 rfl ?_
    refine ev_getI dX11_nextToken_101 fl_WithoutEModel_125 lm_0 rfl ?_
    refine ev_ldc (v := 99999) dX11_nextToken_104 cw_WithoutEModel_128 ?_
    refine ev_icmp_le (tgt := 116) dX11_nextToken_106 (by decide) (fun c => ?_) (fun c => ?_)
    · replace h := h.1 c
      refine ev_bipush (v := 10) dX11_nextToken_116 (by decide) ?_
      refine ev_aload_n dX11_nextToken_118 rfl ?_
      refine ev_getI dX11_nextToken_119 fl_WithoutEModel_125 lm_0 rfl ?_
      refine ev_imul dX11_nextToken_122 ?_
      refine ev_aload_n dX11_nextToken_123 rfl ?_
      refine ev_aload_n dX11_nextToken_124 rfl ?_
      refine ev_getI dX11_nextToken_125 fl_WithoutEModel_110 lm_0 rfl ?_
      obtain ⟨p1, h⟩ := h
      refine ev_callV [.int (M.1 0 8)] dX11_nextToken_128 ml_WithoutEModel_113 lm_0 rfl rfl (Nat.le_of_ble_eq_true rfl) (qX11_byteAt p1) ?_
      rintro zr zM ⟨q1, q2⟩
      rw [q1, q2]
      show Ev LM (d + 1) mX11_nextToken 131 [some (.ref 0), none] [(.int (btA M (M.1 0 8))), (.int (10 * (M.1 0 11))), (.ref 0)] M Q
      refine ev_iadd dX11_nextToken_131 ?_
      refine ev_bipush (v := 48) dX11_nextToken_132 (by decide) ?_
      refine ev_isub dX11_nextToken_134 ?_
      refine ev_putI dX11_nextToken_135 fp_WithoutEModel_125 lm_0 rfl rfl rfl ?_
      generalize eM1 : ev_wr M 0 11 (((10 * (M.1 0 11)) + (btA M (M.1 0 8))) - 48) = M1
      replace h := h M1 eM1.symm
      refine ev_aload_n dX11_nextToken_138 rfl ?_
      refine ev_dup dX11_nextToken_139 rfl ?_
      refine ev_getI dX11_nextToken_140 fl_WithoutEModel_110 lm_0 rfl ?_
      refine ev_iconst (v := 1) dX11_nextToken_143 (by decide) ?_
      refine ev_iadd dX11_nextToken_144 ?_
      refine ev_putI dX11_nextToken_145 fp_WithoutEModel_110 lm_0 rfl rfl rfl ?_
      generalize eM2 : ev_wr M1 0 8 ((M1.1 0 8) + 1) = M2
      replace h := h M2 eM2.symm
      refine ev_goto (tgt := 85) dX11_nextToken_148 (by decide) ?_
      exact h
    · replace h := h.2 c
      refine ev_aload_n dX11_nextToken_109 rfl ?_
      refine ev_getI dX11_nextToken_110 fl_WithoutEModel_125 lm_0 rfl ?_
      refine ev_goto (tgt := 135) dX11_nextToken_113 (by decide) ?_
      refine ev_putI dX11_nextToken_135 fp_WithoutEModel_125 lm_0 rfl rfl rfl ?_
      generalize eM3 : ev_wr M 0 11 (M.1 0 11) = M3
      replace h := h M3 eM3.symm
      refine ev_aload_n dX11_nextToken_138 rfl ?_
      refine ev_dup dX11_nextToken_139 rfl ?_
      refine ev_getI dX11_nextToken_140 fl_WithoutEModel_110 lm_0 rfl ?_
      refine ev_iconst (v := 1) dX11_nextToken_143 (by decide) ?_
      refine ev_iadd dX11_nextToken_144 ?_
      refine ev_putI dX11_nextToken_145 fp_WithoutEModel_110 lm_0 rfl rfl rfl ?_
      generalize eM4 : ev_wr M3 0 8 ((M3.1 0 8) + 1) = M4
      replace h := h M4 eM4.symm
      refine ev_goto (tgt := 85) dX11_nextToken_148 (by decide) ?_
      exact h
theorem gX11_nextToken_272 {d : Nat} {M : ev_Mem} {Q : Option Value → ev_Mem → Prop} {x1 : Int32} (h : ((baOK M (M.1 0 8)) ∧ (((¬ (btA M (M.1 0 8)) = 61) → (Q none M)) ∧ (((btA M (M.1 0 8)) = 61) → (((¬ x1 = 60) → (∀ M1 : ev_Mem, M1 = ev_wr M 0 10 5 → (∀ M2 : ev_Mem, M2 = ev_wr M1 0 8 ((M1.1 0 8) + 1) → (Q none M2)))) ∧ ((x1 = 60) → (∀ M3 : ev_Mem, M3 = ev_wr M 0 10 4 → (∀ M4 : ev_Mem, M4 = ev_wr M3 0 8 ((M3.1 0 8) + 1) → (Q none M4))))))))) : Ev LM (d + 1) mX11_nextToken 272 [some (.ref 0), some (.int x1)] [] M Q := by
  refine ev_aload_n dX11_nextToken_272 rfl ?_
  refine ev_aload_n dX11_nextToken_273 rfl ?_
  refine ev_getI dX11_nextToken_274 fl_WithoutEModel_110 lm_0 rfl ?_
  obtain ⟨p1, h⟩ := h
  refine ev_callV [.int (M.1 0 8)] dX11_nextToken_277 ml_WithoutEModel_113 lm_0 rfl rfl (Nat.le_of_ble_eq_true rfl) (qX11_byteAt p1) ?_
  rintro zr zM ⟨q1, q2⟩
  rw [q1, q2]
  show Ev LM (d + 1) mX11_nextToken 280 [some (.ref 0), some (.int x1)] [(.int (btA M (M.1 0 8)))] M Q
  refine ev_bipush (v := 61) dX11_nextToken_280 (by decide) ?_
  refine ev_icmp_ne (tgt := 310) dX11_nextToken_282 (by decide) (fun c => ?_) (fun c => ?_)
  · replace h := h.1 c
    exact ev_vret dX11_nextToken_310 rfl h
  · replace h := h.2 c
    refine ev_aload_n dX11_nextToken_285 rfl ?_
    refine ev_iload_n dX11_nextToken_286 rfl ?_
    refine ev_bipush (v := 60) dX11_nextToken_287 (by decide) ?_
    refine ev_icmp_ne (tgt := 296) dX11_nextToken_289 (by decide) (fun c => ?_) (fun c => ?_)
    · replace h := h.1 c
      refine ev_iconst (v := 5) dX11_nextToken_296 (by decide) ?_
      refine ev_putI dX11_nextToken_297 fp_WithoutEModel_119 lm_0 rfl rfl rfl ?_
      generalize eM1 : ev_wr M 0 10 5 = M1
      replace h := h M1 eM1.symm
      refine ev_aload_n dX11_nextToken_300 rfl ?_
      refine ev_dup dX11_nextToken_301 rfl ?_
      refine ev_getI dX11_nextToken_302 fl_WithoutEModel_110 lm_0 rfl ?_
      refine ev_iconst (v := 1) dX11_nextToken_305 (by decide) ?_
      refine ev_iadd dX11_nextToken_306 ?_
      refine ev_putI dX11_nextToken_307 fp_WithoutEModel_110 lm_0 rfl rfl rfl ?_
      generalize eM2 : ev_wr M1 0 8 ((M1.1 0 8) + 1) = M2
      replace h := h M2 eM2.symm
      exact ev_vret dX11_nextToken_310 rfl h
    · replace h := h.2 c
      refine ev_iconst (v := 4) dX11_nextToken_292 (by decide) ?_
      refine ev_goto (tgt := 297) dX11_nextToken_293 (by decide) ?_
      refine ev_putI dX11_nextToken_297 fp_WithoutEModel_119 lm_0 rfl rfl rfl ?_
      generalize eM3 : ev_wr M 0 10 4 = M3
      replace h := h M3 eM3.symm
      refine ev_aload_n dX11_nextToken_300 rfl ?_
      refine ev_dup dX11_nextToken_301 rfl ?_
      refine ev_getI dX11_nextToken_302 fl_WithoutEModel_110 lm_0 rfl ?_
      refine ev_iconst (v := 1) dX11_nextToken_305 (by decide) ?_
      refine ev_iadd dX11_nextToken_306 ?_
      refine ev_putI dX11_nextToken_307 fp_WithoutEModel_110 lm_0 rfl rfl rfl ?_
      generalize eM4 : ev_wr M3 0 8 ((M3.1 0 8) + 1) = M4
      replace h := h M4 eM4.symm
      exact ev_vret dX11_nextToken_310 rfl h
