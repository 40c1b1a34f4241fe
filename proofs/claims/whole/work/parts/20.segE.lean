theorem dX1_run_0 : decode cX1_run 0 = .ok (.aload_n 0, 1) := by decide +kernel
theorem dX1_run_1 : decode cX1_run 1 = .ok (.getfield 9, 3) := by decide +kernel
theorem dX1_run_4 : decode cX1_run 4 = .ok (.iconst 0, 1) := by decide +kernel
theorem dX1_run_5 : decode cX1_run 5 = .ok (.aload_n 0, 1) := by decide +kernel
theorem dX1_run_6 : decode cX1_run 6 = .ok (.getfield 22, 3) := by decide +kernel
theorem dX1_run_9 : decode cX1_run 9 = .ok (.getfield 61, 3) := by decide +kernel
theorem dX1_run_12 : decode cX1_run 12 = .ok (.iastore, 1) := by decide +kernel
theorem dX1_run_13 : decode cX1_run 13 = .ok (.aload_n 0, 1) := by decide +kernel
theorem dX1_run_14 : decode cX1_run 14 = .ok (.iconst 0, 1) := by decide +kernel
theorem dX1_run_15 : decode cX1_run 15 = .ok (.putfield 65, 3) := by decide +kernel
theorem dX1_run_18 : decode cX1_run 18 = .ok (.iload_n 2, 1) := by decide +kernel
theorem dX1_run_19 : decode cX1_run 19 = .ok (.istore_n 3, 1) := by decide +kernel
theorem dX1_run_20 : decode cX1_run 20 = .ok (.iconst 0, 1) := by decide +kernel
theorem dX1_run_21 : decode cX1_run 21 = .ok (.istore 4, 2) := by decide +kernel
theorem dX1_run_23 : decode cX1_run 23 = .ok (.iload 4, 2) := by decide +kernel
theorem dX1_run_25 : decode cX1_run 25 = .ok (.sipush 300, 3) := by decide +kernel
theorem dX1_run_28 : decode cX1_run 28 = .ok (.if_icmp .ge 228, 3) := by decide +kernel
theorem dX1_run_31 : decode cX1_run 31 = .ok (.iload_n 3, 1) := by decide +kernel
theorem dX1_run_32 : decode cX1_run 32 = .ok (.ifCond .lt 224, 3) := by decide +kernel
theorem dX1_run_35 : decode cX1_run 35 = .ok (.iload_n 3, 1) := by decide +kernel
theorem dX1_run_36 : decode cX1_run 36 = .ok (.aload_n 1, 1) := by decide +kernel
theorem dX1_run_37 : decode cX1_run 37 = .ok (.getfield 68, 3) := by decide +kernel
theorem dX1_run_40 : decode cX1_run 40 = .ok (.if_icmp .ge 216, 3) := by decide +kernel
theorem dX1_run_43 : decode cX1_run 43 = .ok (.aload_n 1, 1) := by decide +kernel
theorem dX1_run_44 : decode cX1_run 44 = .ok (.getfield 71, 3) := by decide +kernel
theorem dX1_run_47 : decode cX1_run 47 = .ok (.iload_n 3, 1) := by decide +kernel
theorem dX1_run_48 : decode cX1_run 48 = .ok (.iaload, 1) := by decide +kernel
theorem dX1_run_49 : decode cX1_run 49 = .ok (.bipush 31, 2) := by decide +kernel
theorem dX1_run_51 : decode cX1_run 51 = .ok (.iand, 1) := by decide +kernel
theorem dX1_run_52 : decode cX1_run 52 = .ok (.istore 5, 2) := by decide +kernel
theorem dX1_run_54 : decode cX1_run 54 = .ok (.aload_n 1, 1) := by decide +kernel
theorem dX1_run_55 : decode cX1_run 55 = .ok (.getfield 71, 3) := by decide +kernel
theorem dX1_run_58 : decode cX1_run 58 = .ok (.iload_n 3, 1) := by decide +kernel
theorem dX1_run_59 : decode cX1_run 59 = .ok (.iaload, 1) := by decide +kernel
theorem dX1_run_60 : decode cX1_run 60 = .ok (.iconst 5, 1) := by decide +kernel
theorem dX1_run_61 : decode cX1_run 61 = .ok (.ishr, 1) := by decide +kernel
theorem dX1_run_62 : decode cX1_run 62 = .ok (.istore 6, 2) := by decide +kernel
theorem dX1_run_64 : decode cX1_run 64 = .ok (.iinc 3 1, 3) := by decide +kernel
theorem dX1_run_67 : decode cX1_run 67 = .ok (.iload 5, 2) := by decide +kernel
theorem dX1_run_69 : decode cX1_run 69 = .ok (.tableswitch 157 0 7 #[47, 52, 61, 94, 106, 121, 134, 151], 47) := by decide +kernel
theorem dX1_run_116 : decode cX1_run 116 = .ok (.aload_n 0, 1) := by decide +kernel
theorem dX1_run_117 : decode cX1_run 117 = .ok (.invokevirtual 74, 3) := by decide +kernel
theorem dX1_run_120 : decode cX1_run 120 = .ok (.ireturn, 1) := by decide +kernel
theorem dX1_run_121 : decode cX1_run 121 = .ok (.aload_n 0, 1) := by decide +kernel
theorem dX1_run_122 : decode cX1_run 122 = .ok (.iload 6, 2) := by decide +kernel
theorem dX1_run_124 : decode cX1_run 124 = .ok (.invokevirtual 78, 3) := by decide +kernel
theorem dX1_run_127 : decode cX1_run 127 = .ok (.goto 123, 3) := by decide +kernel
theorem dX1_run_130 : decode cX1_run 130 = .ok (.aload_n 0, 1) := by decide +kernel
theorem dX1_run_131 : decode cX1_run 131 = .ok (.iload 6, 2) := by decide +kernel
theorem dX1_run_133 : decode cX1_run 133 = .ok (.ifCond .lt 23, 3) := by decide +kernel
theorem dX1_run_136 : decode cX1_run 136 = .ok (.iload 6, 2) := by decide +kernel
theorem dX1_run_138 : decode cX1_run 138 = .ok (.aload_n 0, 1) := by decide +kernel
theorem dX1_run_139 : decode cX1_run 139 = .ok (.getfield 9, 3) := by decide +kernel
theorem dX1_run_142 : decode cX1_run 142 = .ok (.arraylength, 1) := by decide +kernel
theorem dX1_run_143 : decode cX1_run 143 = .ok (.if_icmp .ge 13, 3) := by decide +kernel
theorem dX1_run_146 : decode cX1_run 146 = .ok (.aload_n 0, 1) := by decide +kernel
theorem dX1_run_147 : decode cX1_run 147 = .ok (.getfield 9, 3) := by decide +kernel
theorem dX1_run_150 : decode cX1_run 150 = .ok (.iload 6, 2) := by decide +kernel
theorem dX1_run_152 : decode cX1_run 152 = .ok (.iaload, 1) := by decide +kernel
theorem dX1_run_153 : decode cX1_run 153 = .ok (.goto 4, 3) := by decide +kernel
theorem dX1_run_156 : decode cX1_run 156 = .ok (.iconst 0, 1) := by decide +kernel
theorem dX1_run_157 : decode cX1_run 157 = .ok (.invokevirtual 78, 3) := by decide +kernel
theorem dX1_run_160 : decode cX1_run 160 = .ok (.goto 90, 3) := by decide +kernel
theorem dX1_run_163 : decode cX1_run 163 = .ok (.aload_n 0, 1) := by decide +kernel
theorem dX1_run_164 : decode cX1_run 164 = .ok (.aload_n 0, 1) := by decide +kernel
theorem dX1_run_165 : decode cX1_run 165 = .ok (.invokevirtual 74, 3) := by decide +kernel
theorem dX1_run_168 : decode cX1_run 168 = .ok (.ineg, 1) := by decide +kernel
theorem dX1_run_169 : decode cX1_run 169 = .ok (.invokevirtual 78, 3) := by decide +kernel
theorem dX1_run_172 : decode cX1_run 172 = .ok (.goto 78, 3) := by decide +kernel
theorem dX1_run_175 : decode cX1_run 175 = .ok (.aload_n 0, 1) := by decide +kernel
theorem dX1_run_176 : decode cX1_run 176 = .ok (.aload_n 0, 1) := by decide +kernel
theorem dX1_run_177 : decode cX1_run 177 = .ok (.aload_n 0, 1) := by decide +kernel
theorem dX1_run_178 : decode cX1_run 178 = .ok (.invokevirtual 74, 3) := by decide +kernel
theorem dX1_run_181 : decode cX1_run 181 = .ok (.invokevirtual 82, 3) := by decide +kernel
theorem dX1_run_184 : decode cX1_run 184 = .ok (.invokevirtual 78, 3) := by decide +kernel
theorem dX1_run_187 : decode cX1_run 187 = .ok (.goto 63, 3) := by decide +kernel
theorem dX1_run_190 : decode cX1_run 190 = .ok (.aload_n 0, 1) := by decide +kernel
theorem dX1_run_191 : decode cX1_run 191 = .ok (.iconst 1, 1) := by decide +kernel
theorem dX1_run_192 : decode cX1_run 192 = .ok (.aload_n 0, 1) := by decide +kernel
theorem dX1_run_193 : decode cX1_run 193 = .ok (.invokevirtual 74, 3) := by decide +kernel
theorem dX1_run_196 : decode cX1_run 196 = .ok (.isub, 1) := by decide +kernel
theorem dX1_run_197 : decode cX1_run 197 = .ok (.invokevirtual 78, 3) := by decide +kernel
theorem dX1_run_200 : decode cX1_run 200 = .ok (.goto 50, 3) := by decide +kernel
theorem dX1_run_203 : decode cX1_run 203 = .ok (.aload_n 0, 1) := by decide +kernel
theorem dX1_run_204 : decode cX1_run 204 = .ok (.invokevirtual 74, 3) := by decide +kernel
theorem dX1_run_207 : decode cX1_run 207 = .ok (.ifCond .ne 8, 3) := by decide +kernel
theorem dX1_run_210 : decode cX1_run 210 = .ok (.iload 6, 2) := by decide +kernel
theorem dX1_run_212 : decode cX1_run 212 = .ok (.goto 4, 3) := by decide +kernel
theorem dX1_run_215 : decode cX1_run 215 = .ok (.iload_n 3, 1) := by decide +kernel
theorem dX1_run_216 : decode cX1_run 216 = .ok (.istore_n 3, 1) := by decide +kernel
theorem dX1_run_217 : decode cX1_run 217 = .ok (.goto 33, 3) := by decide +kernel
theorem dX1_run_220 : decode cX1_run 220 = .ok (.iload 6, 2) := by decide +kernel
theorem dX1_run_222 : decode cX1_run 222 = .ok (.istore_n 3, 1) := by decide +kernel
theorem dX1_run_223 : decode cX1_run 223 = .ok (.goto 27, 3) := by decide +kernel
theorem dX1_run_226 : decode cX1_run 226 = .ok (.aload_n 0, 1) := by decide +kernel
theorem dX1_run_227 : decode cX1_run 227 = .ok (.invokevirtual 74, 3) := by decide +kernel
theorem dX1_run_230 : decode cX1_run 230 = .ok (.istore 7, 2) := by decide +kernel
theorem dX1_run_232 : decode cX1_run 232 = .ok (.aload_n 0, 1) := by decide +kernel
theorem dX1_run_233 : decode cX1_run 233 = .ok (.iload 5, 2) := by decide +kernel
theorem dX1_run_235 : decode cX1_run 235 = .ok (.aload_n 0, 1) := by decide +kernel
theorem dX1_run_236 : decode cX1_run 236 = .ok (.invokevirtual 74, 3) := by decide +kernel
theorem dX1_run_239 : decode cX1_run 239 = .ok (.iload 7, 2) := by decide +kernel
theorem dX1_run_241 : decode cX1_run 241 = .ok (.invokestatic 85, 3) := by decide +kernel
theorem dX1_run_244 : decode cX1_run 244 = .ok (.invokestatic 89, 3) := by decide +kernel
theorem dX1_run_247 : decode cX1_run 247 = .ok (.invokevirtual 78, 3) := by decide +kernel
theorem dX1_run_250 : decode cX1_run 250 = .ok (.iinc 4 1, 3) := by decide +kernel
theorem dX1_run_253 : decode cX1_run 253 = .ok (.goto (-230), 3) := by decide +kernel
theorem dX1_run_256 : decode cX1_run 256 = .ok (.aload_n 0, 1) := by decide +kernel
theorem dX1_run_257 : decode cX1_run 257 = .ok (.invokevirtual 74, 3) := by decide +kernel
theorem dX1_run_260 : decode cX1_run 260 = .ok (.ireturn, 1) := by decide +kernel
theorem gX1_run_0 {d : Nat} {M : ev_Mem} {Q : Option Value → ev_Mem → Prop} {x2 : Int32} {k : Nat} (hk : ev_isT k) (h : (∀ M1 : ev_Mem, M1 = ev_wr M 84 0 (M.1 43 3) → (∀ M2 : ev_Mem, M2 = ev_wr M1 83 4 0 → (Ev LX d mX1_run 23 [some (.ref 83), some (.ref k), none, some (.int x2), some (.int 0), none, none, none] [] M2 Q)))) : Ev LX d mX1_run 0 [some (.ref 83), some (.ref k), some (.int x2), none, none, none, none, none] [] M Q := by
  refine ev_aload_n dX1_run_0 rfl ?_
  refine ev_getA dX1_run_1 fl_WithoutE_Laws_9 lx_83 rfl ?_
  refine ev_iconst (v := 0) dX1_run_4 (by decide) ?_
  refine ev_aload_n dX1_run_5 rfl ?_
  refine ev_getA dX1_run_6 fl_WithoutE_Laws_22 lx_83 rfl ?_
  refine ev_getI dX1_run_9 fl_WithoutE_Laws_61 lx_43 rfl ?_
  refine ev_isN (j := 0) dX1_run_12 lx_84 (by decide) (by decide) ?_
  generalize eM1 : ev_wr M 84 0 (M.1 43 3) = M1
  replace h := h M1 eM1.symm
  refine ev_aload_n dX1_run_13 rfl ?_
  refine ev_iconst (v := 0) dX1_run_14 (by decide) ?_
  refine ev_putI dX1_run_15 fp_WithoutE_Laws_65 lx_83 rfl rfl rfl ?_
  generalize eM2 : ev_wr M1 83 4 0 = M2
  replace h := h M2 eM2.symm
  refine ev_iload_n dX1_run_18 rfl ?_
  refine ev_istore_n (ls2 := [some (.ref 83), some (.ref k), some (.int x2), some (.int x2), none, none, none, none]) dX1_run_19 (Nat.le_of_ble_eq_true rfl) rfl ?_
  refine ev_iconst (v := 0) dX1_run_20 (by decide) ?_
  refine ev_istore (ls2 := [some (.ref 83), some (.ref k), some (.int x2), some (.int x2), some (.int 0), none, none, none]) dX1_run_21 (Nat.le_of_ble_eq_true rfl) rfl ?_
  refine Ev.weak (ls := [some (.ref 83), some (.ref k), none, some (.int x2), some (.int 0), none, none, none]) ⟨rfl, rfl, rfl, rfl, trivial⟩ ?_
  exact h
theorem gX1_run_23 {d : Nat} {M : ev_Mem} {Q : Option Value → ev_Mem → Prop} {x3 x4 : Int32} {k : Nat} (hk : ev_isT k) (h : (((300 ≤ x4) → ((hgp M) ∧ (∀ M1 : ev_Mem, M1 = popM M → (Q (some (.int (topV M))) M1)))) ∧ ((¬ 300 ≤ x4) → (((x3 < 0) → ((hgp M) ∧ (∀ M2 : ev_Mem, M2 = popM M → (Q (some (.int (topV M))) M2)))) ∧ ((¬ x3 < 0) → ((((M.1 k 1) ≤ x3) → ((hgp M) ∧ (∀ M3 : ev_Mem, M3 = popM M → (Q (some (.int (topV M))) M3)))) ∧ ((¬ (M.1 k 1) ≤ x3) → (vp_in x3 300 ∧ (∀ v1 : Int32, v1 = (M.1 (k + 1) x3.toNatClampNeg) &&& 31 → (vp_in x3 300 ∧ (∀ v2 : Int32, v2 = (M.1 (k + 1) x3.toNatClampNeg) >>> (5 &&& 31) → (((v1 = 0) → ((hgp M) ∧ (∀ M4 : ev_Mem, M4 = popM M → (Q (some (.int (topV M))) M4)))) ∧ ((v1 = 1) → ((hgt M 64) ∧ (∀ M5 : ev_Mem, M5 = pushM M v2 → (Ev LX (d + 1) mX1_run 23 [some (.ref 83), some (.ref k), none, some (.int (x3 + 1)), some (.int (x4 + 1)), none, none, none] [] M5 Q)))) ∧ ((v1 = 2) → (((v2 < 0) → ((hgt M 64) ∧ (∀ M6 : ev_Mem, M6 = pushM M (0 : Int32) → (Ev LX (d + 1) mX1_run 23 [some (.ref 83), some (.ref k), none, some (.int (x3 + 1)), some (.int (x4 + 1)), none, none, none] [] M6 Q)))) ∧ ((¬ v2 < 0) → (((12 ≤ v2) → ((hgt M 64) ∧ (∀ M7 : ev_Mem, M7 = pushM M (0 : Int32) → (Ev LX (d + 1) mX1_run 23 [some (.ref 83), some (.ref k), none, some (.int (x3 + 1)), some (.int (x4 + 1)), none, none, none] [] M7 Q)))) ∧ ((¬ 12 ≤ v2) → (vp_in v2 12 ∧ ((hgt M 64) ∧ (∀ M8 : ev_Mem, M8 = pushM M (M.1 84 v2.toNatClampNeg) → (Ev LX (d + 1) mX1_run 23 [some (.ref 83), some (.ref k), none, some (.int (x3 + 1)), some (.int (x4 + 1)), none, none, none] [] M8 Q))))))))) ∧ ((v1 = 3) → ((hgp M) ∧ (∀ M9 : ev_Mem, M9 = popM M → ((hgt M9 64) ∧ (∀ M10 : ev_Mem, M10 = pushM M9 (-(topV M)) → (Ev LX (d + 1) mX1_run 23 [some (.ref 83), some (.ref k), none, some (.int (x3 + 1)), some (.int (x4 + 1)), none, none, none] [] M10 Q)))))) ∧ ((v1 = 4) → ((hgp M) ∧ (∀ M11 : ev_Mem, M11 = popM M → ((hgt M11 64) ∧ (∀ M12 : ev_Mem, M12 = pushM M11 (if iin (topV M) 0 25 = true then M11.1 44 (topV M).toNatClampNeg else 0) → (Ev LX (d + 1) mX1_run 23 [some (.ref 83), some (.ref k), none, some (.int (x3 + 1)), some (.int (x4 + 1)), none, none, none] [] M12 Q)))))) ∧ ((v1 = 5) → ((hgp M) ∧ (∀ M13 : ev_Mem, M13 = popM M → ((hgt M13 64) ∧ (∀ M14 : ev_Mem, M14 = pushM M13 (1 - (topV M)) → (Ev LX (d + 1) mX1_run 23 [some (.ref 83), some (.ref k), none, some (.int (x3 + 1)), some (.int (x4 + 1)), none, none, none] [] M14 Q)))))) ∧ ((v1 = 6) → ((hgp M) ∧ (∀ M15 : ev_Mem, M15 = popM M → (((¬ (topV M) = 0) → (Ev LX (d + 1) mX1_run 23 [some (.ref 83), some (.ref k), none, some (.int (x3 + 1)), some (.int (x4 + 1)), none, none, none] [] M15 Q)) ∧ (((topV M) = 0) → (Ev LX (d + 1) mX1_run 23 [some (.ref 83), some (.ref k), none, some (.int v2), some (.int (x4 + 1)), none, none, none] [] M15 Q)))))) ∧ ((v1 = 7) → (Ev LX (d + 1) mX1_run 23 [some (.ref 83), some (.ref k), none, some (.int v2), some (.int (x4 + 1)), none, none, none] [] M Q)) ∧ ((¬ v1 = 0 ∧ ¬ v1 = 1 ∧ ¬ v1 = 2 ∧ ¬ v1 = 3 ∧ ¬ v1 = 4 ∧ ¬ v1 = 5 ∧ ¬ v1 = 6 ∧ ¬ v1 = 7) → ((hgp M) ∧ (∀ M16 : ev_Mem, M16 = popM M → ((hgp M16) ∧ (∀ M17 : ev_Mem, M17 = popM M16 → ((hgt M17 64) ∧ (∀ M18 : ev_Mem, M18 = pushM M17 ((clp (jn v1 (topV M16) (topV M))).toInt32) → (Ev LX (d + 1) mX1_run 23 [some (.ref 83), some (.ref k), none, some (.int (x3 + 1)), some (.int (x4 + 1)), none, none, none] [] M18 Q)))))))))))))))))))) : Ev LX (d + 1) mX1_run 23 [some (.ref 83), some (.ref k), none, some (.int x3), some (.int x4), none, none, none] [] M Q := by
  refine ev_iload dX1_run_23 rfl ?_
  refine ev_sipush (v := 300) dX1_run_25 (by decide) ?_
  refine ev_icmp_ge (tgt := 256) dX1_run_28 (by decide) (fun c => ?_) (fun c => ?_)
  · replace h := h.1 c
    refine ev_aload_n dX1_run_256 rfl ?_
    obtain ⟨p1, h⟩ := h
    refine ev_callV [] dX1_run_257 ml_WithoutE_Laws_74 lx_83 rfl rfl (Nat.le_of_ble_eq_true rfl) (qX1_pop p1) ?_
    rintro zr zM ⟨q1, q2⟩
    rw [q1, q2]
    generalize eM1 : popM M = M1
    replace h := h M1 eM1.symm
    show Ev LX (d + 1) mX1_run 260 [some (.ref 83), some (.ref k), none, some (.int x3), some (.int x4), none, none, none] [(.int (topV M))] M1 Q
    exact ev_iret dX1_run_260 rfl h
  · replace h := h.2 c
    refine ev_iload_n dX1_run_31 rfl ?_
    refine ev_if_lt (tgt := 256) dX1_run_32 (by decide) (fun c => ?_) (fun c => ?_)
    · replace h := h.1 c
      refine ev_aload_n dX1_run_256 rfl ?_
      obtain ⟨p1, h⟩ := h
      refine ev_callV [] dX1_run_257 ml_WithoutE_Laws_74 lx_83 rfl rfl (Nat.le_of_ble_eq_true rfl) (qX1_pop p1) ?_
      rintro zr zM ⟨q1, q2⟩
      rw [q1, q2]
      generalize eM2 : popM M = M2
      replace h := h M2 eM2.symm
      show Ev LX (d + 1) mX1_run 260 [some (.ref 83), some (.ref k), none, some (.int x3), some (.int x4), none, none, none] [(.int (topV M))] M2 Q
      exact ev_iret dX1_run_260 rfl h
    · replace h := h.2 c
      refine ev_iload_n dX1_run_35 rfl ?_
      refine ev_aload_n dX1_run_36 rfl ?_
      refine ev_getI dX1_run_37 fl_WithoutE_Laws_68 (lx_T hk) rfl ?_
      refine ev_icmp_ge (tgt := 256) dX1_run_40 (by decide) (fun c => ?_) (fun c => ?_)
      · replace h := h.1 c
        refine ev_aload_n dX1_run_256 rfl ?_
        obtain ⟨p1, h⟩ := h
        refine ev_callV [] dX1_run_257 ml_WithoutE_Laws_74 lx_83 rfl rfl (Nat.le_of_ble_eq_true rfl) (qX1_pop p1) ?_
        rintro zr zM ⟨q1, q2⟩
        rw [q1, q2]
        generalize eM3 : popM M = M3
        replace h := h M3 eM3.symm
        show Ev LX (d + 1) mX1_run 260 [some (.ref 83), some (.ref k), none, some (.int x3), some (.int x4), none, none, none] [(.int (topV M))] M3 Q
        exact ev_iret dX1_run_260 rfl h
      · replace h := h.2 c
        refine ev_aload_n dX1_run_43 rfl ?_
        refine ev_getA dX1_run_44 fl_WithoutE_Laws_71 (lx_T hk) rfl ?_
        refine ev_iload_n dX1_run_47 rfl ?_
        obtain ⟨c, h⟩ := h
        refine ev_iald dX1_run_48 (lx_T1 hk) c ?_
        refine ev_bipush (v := 31) dX1_run_49 (by decide) ?_
        refine ev_iand dX1_run_51 ?_
        refine ev_istore (ls2 := [some (.ref 83), some (.ref k), none, some (.int x3), some (.int x4), some (.int ((M.1 (k + 1) x3.toNatClampNeg) &&& 31)), none, none]) dX1_run_52 (Nat.le_of_ble_eq_true rfl) rfl ?_
        generalize ev1 : (M.1 (k + 1) x3.toNatClampNeg) &&& 31 = v1
        replace h := h v1 ev1.symm
        refine ev_aload_n dX1_run_54 rfl ?_
        refine ev_getA dX1_run_55 fl_WithoutE_Laws_71 (lx_T hk) rfl ?_
        refine ev_iload_n dX1_run_58 rfl ?_
        obtain ⟨c, h⟩ := h
        refine ev_iald dX1_run_59 (lx_T1 hk) c ?_
        refine ev_iconst (v := 5) dX1_run_60 (by decide) ?_
        refine ev_ishr dX1_run_61 ?_
        refine ev_istore (ls2 := [some (.ref 83), some (.ref k), none, some (.int x3), some (.int x4), some (.int v1), some (.int ((M.1 (k + 1) x3.toNatClampNeg) >>> (5 &&& 31))), none]) dX1_run_62 (Nat.le_of_ble_eq_true rfl) rfl ?_
        generalize ev2 : (M.1 (k + 1) x3.toNatClampNeg) >>> (5 &&& 31) = v2
        replace h := h v2 ev2.symm
        refine ev_iinc (v := x3 + 1) (ls2 := [some (.ref 83), some (.ref k), none, some (.int (x3 + 1)), some (.int x4), some (.int v1), some (.int v2), none]) dX1_run_64 rfl rfl rfl ?_
        refine ev_iload dX1_run_67 rfl ?_
        obtain ⟨h0, h1, h2, h3, h4, h5, h6, h7, h8⟩ := h
        by_cases e0 : v1 = 0
        · replace h := h0 e0
          have hk : ∃ off : Int, ¬ (v1 : Int32).toInt < 0 ∧ ¬ 7 < (v1 : Int32).toInt ∧ #[47, 52, 61, 94, 106, 121, 134, 151][((v1 : Int32).toInt - 0).toNat]? = some off ∧ ((69 : Nat) : Int) + off = ((116 : Nat) : Int) := by
            have e := e0
            · rw [e]; exact ⟨47, by decide, by decide, by decide, by decide⟩
          obtain ⟨off, k1, k2, k3, k4⟩ := hk
          refine ev_tableIn (tgt := 116) dX1_run_69 k1 k2 k3 k4 ?_
          refine ev_aload_n dX1_run_116 rfl ?_
          obtain ⟨p1, h⟩ := h
          refine ev_callV [] dX1_run_117 ml_WithoutE_Laws_74 lx_83 rfl rfl (Nat.le_of_ble_eq_true rfl) (qX1_pop p1) ?_
          rintro zr zM ⟨q1, q2⟩
          rw [q1, q2]
          generalize eM4 : popM M = M4
          replace h := h M4 eM4.symm
          show Ev LX (d + 1) mX1_run 120 [some (.ref 83), some (.ref k), none, some (.int (x3 + 1)), some (.int x4), some (.int v1), some (.int v2), none] [(.int (topV M))] M4 Q
          exact ev_iret dX1_run_120 rfl h
        by_cases e1 : v1 = 1
        · replace h := h1 e1
          have hk : ∃ off : Int, ¬ (v1 : Int32).toInt < 0 ∧ ¬ 7 < (v1 : Int32).toInt ∧ #[47, 52, 61, 94, 106, 121, 134, 151][((v1 : Int32).toInt - 0).toNat]? = some off ∧ ((69 : Nat) : Int) + off = ((121 : Nat) : Int) := by
            have e := e1
            · rw [e]; exact ⟨52, by decide, by decide, by decide, by decide⟩
          obtain ⟨off, k1, k2, k3, k4⟩ := hk
          refine ev_tableIn (tgt := 121) dX1_run_69 k1 k2 k3 k4 ?_
          refine ev_aload_n dX1_run_121 rfl ?_
          refine ev_iload dX1_run_122 rfl ?_
          obtain ⟨p1, h⟩ := h
          refine ev_callV [.int v2] dX1_run_124 ml_WithoutE_Laws_78 lx_83 rfl rfl (Nat.le_of_ble_eq_true rfl) (qX1_push p1) ?_
          rintro zr zM ⟨q1, q2⟩
          rw [q1, q2]
          generalize eM5 : pushM M v2 = M5
          replace h := h M5 eM5.symm
          show Ev LX (d + 1) mX1_run 127 [some (.ref 83), some (.ref k), none, some (.int (x3 + 1)), some (.int x4), some (.int v1), some (.int v2), none] [] M5 Q
          refine ev_goto (tgt := 250) dX1_run_127 (by decide) ?_
          refine ev_iinc (v := x4 + 1) (ls2 := [some (.ref 83), some (.ref k), none, some (.int (x3 + 1)), some (.int (x4 + 1)), some (.int v1), some (.int v2), none]) dX1_run_250 rfl rfl rfl ?_
          refine ev_goto (tgt := 23) dX1_run_253 (by decide) ?_
          refine Ev.weak (ls := [some (.ref 83), some (.ref k), none, some (.int (x3 + 1)), some (.int (x4 + 1)), none, none, none]) ⟨rfl, rfl, rfl, rfl, trivial⟩ ?_
          exact h
        by_cases e2 : v1 = 2
        · replace h := h2 e2
          have hk : ∃ off : Int, ¬ (v1 : Int32).toInt < 0 ∧ ¬ 7 < (v1 : Int32).toInt ∧ #[47, 52, 61, 94, 106, 121, 134, 151][((v1 : Int32).toInt - 0).toNat]? = some off ∧ ((69 : Nat) : Int) + off = ((130 : Nat) : Int) := by
            have e := e2
            · rw [e]; exact ⟨61, by decide, by decide, by decide, by decide⟩
          obtain ⟨off, k1, k2, k3, k4⟩ := hk
          refine ev_tableIn (tgt := 130) dX1_run_69 k1 k2 k3 k4 ?_
          refine ev_aload_n dX1_run_130 rfl ?_
          refine ev_iload dX1_run_131 rfl ?_
          refine ev_if_lt (tgt := 156) dX1_run_133 (by decide) (fun c => ?_) (fun c => ?_)
          · replace h := h.1 c
            refine ev_iconst (v := 0) dX1_run_156 (by decide) ?_
            obtain ⟨p1, h⟩ := h
            refine ev_callV [.int 0] dX1_run_157 ml_WithoutE_Laws_78 lx_83 rfl rfl (Nat.le_of_ble_eq_true rfl) (qX1_push p1) ?_
            rintro zr zM ⟨q1, q2⟩
            rw [q1, q2]
            generalize eM6 : pushM M (0 : Int32) = M6
            replace h := h M6 eM6.symm
            show Ev LX (d + 1) mX1_run 160 [some (.ref 83), some (.ref k), none, some (.int (x3 + 1)), some (.int x4), some (.int v1), some (.int v2), none] [] M6 Q
            refine ev_goto (tgt := 250) dX1_run_160 (by decide) ?_
            refine ev_iinc (v := x4 + 1) (ls2 := [some (.ref 83), some (.ref k), none, some (.int (x3 + 1)), some (.int (x4 + 1)), some (.int v1), some (.int v2), none]) dX1_run_250 rfl rfl rfl ?_
            refine ev_goto (tgt := 23) dX1_run_253 (by decide) ?_
            refine Ev.weak (ls := [some (.ref 83), some (.ref k), none, some (.int (x3 + 1)), some (.int (x4 + 1)), none, none, none]) ⟨rfl, rfl, rfl, rfl, trivial⟩ ?_
            exact h
          · replace h := h.2 c
            refine ev_iload dX1_run_136 rfl ?_
            refine ev_aload_n dX1_run_138 rfl ?_
            refine ev_getA dX1_run_139 fl_WithoutE_Laws_9 lx_83 rfl ?_
            refine ev_alen (q := 0) (v := 12) dX1_run_142 lx_84 (fun _ => rfl) (by decide) ?_
            refine ev_icmp_ge (tgt := 156) dX1_run_143 (by decide) (fun c => ?_) (fun c => ?_)
            · replace h := h.1 c
              refine ev_iconst (v := 0) dX1_run_156 (by decide) ?_
              obtain ⟨p1, h⟩ := h
              refine ev_callV [.int 0] dX1_run_157 ml_WithoutE_Laws_78 lx_83 rfl rfl (Nat.le_of_ble_eq_true rfl) (qX1_push p1) ?_
              rintro zr zM ⟨q1, q2⟩
              rw [q1, q2]
              generalize eM7 : pushM M (0 : Int32) = M7
              replace h := h M7 eM7.symm
              show Ev LX (d + 1) mX1_run 160 [some (.ref 83), some (.ref k), none, some (.int (x3 + 1)), some (.int x4), some (.int v1), some (.int v2), none] [] M7 Q
              refine ev_goto (tgt := 250) dX1_run_160 (by decide) ?_
              refine ev_iinc (v := x4 + 1) (ls2 := [some (.ref 83), some (.ref k), none, some (.int (x3 + 1)), some (.int (x4 + 1)), some (.int v1), some (.int v2), none]) dX1_run_250 rfl rfl rfl ?_
              refine ev_goto (tgt := 23) dX1_run_253 (by decide) ?_
              refine Ev.weak (ls := [some (.ref 83), some (.ref k), none, some (.int (x3 + 1)), some (.int (x4 + 1)), none, none, none]) ⟨rfl, rfl, rfl, rfl, trivial⟩ ?_
              exact h
            · replace h := h.2 c
              refine ev_aload_n dX1_run_146 rfl ?_
              refine ev_getA dX1_run_147 fl_WithoutE_Laws_9 lx_83 rfl ?_
              refine ev_iload dX1_run_150 rfl ?_
              obtain ⟨c, h⟩ := h
              refine ev_iald dX1_run_152 lx_84 c ?_
              refine ev_goto (tgt := 157) dX1_run_153 (by decide) ?_
              obtain ⟨p1, h⟩ := h
              refine ev_callV [.int (M.1 84 v2.toNatClampNeg)] dX1_run_157 ml_WithoutE_Laws_78 lx_83 rfl rfl (Nat.le_of_ble_eq_true rfl) (qX1_push p1) ?_
              rintro zr zM ⟨q1, q2⟩
              rw [q1, q2]
              generalize eM8 : pushM M (M.1 84 v2.toNatClampNeg) = M8
              replace h := h M8 eM8.symm
              show Ev LX (d + 1) mX1_run 160 [some (.ref 83), some (.ref k), none, some (.int (x3 + 1)), some (.int x4), some (.int v1), some (.int v2), none] [] M8 Q
              refine ev_goto (tgt := 250) dX1_run_160 (by decide) ?_
              refine ev_iinc (v := x4 + 1) (ls2 := [some (.ref 83), some (.ref k), none, some (.int (x3 + 1)), some (.int (x4 + 1)), some (.int v1), some (.int v2), none]) dX1_run_250 rfl rfl rfl ?_
              refine ev_goto (tgt := 23) dX1_run_253 (by decide) ?_
              refine Ev.weak (ls := [some (.ref 83), some (.ref k), none, some (.int (x3 + 1)), some (.int (x4 + 1)), none, none, none]) ⟨rfl, rfl, rfl, rfl, trivial⟩ ?_
              exact h
        by_cases e3 : v1 = 3
        · replace h := h3 e3
          have hk : ∃ off : Int, ¬ (v1 : Int32).toInt < 0 ∧ ¬ 7 < (v1 : Int32).toInt ∧ #[47, 52, 61, 94, 106, 121, 134, 151][((v1 : Int32).toInt - 0).toNat]? = some off ∧ ((69 : Nat) : Int) + off = ((163 : Nat) : Int) := by
            have e := e3
            · rw [e]; exact ⟨94, by decide, by decide, by decide, by decide⟩
          obtain ⟨off, k1, k2, k3, k4⟩ := hk
          refine ev_tableIn (tgt := 163) dX1_run_69 k1 k2 k3 k4 ?_
          refine ev_aload_n dX1_run_163 rfl ?_
          refine ev_aload_n dX1_run_164 rfl ?_
          obtain ⟨p1, h⟩ := h
          refine ev_callV [] dX1_run_165 ml_WithoutE_Laws_74 lx_83 rfl rfl (Nat.le_of_ble_eq_true rfl) (qX1_pop p1) ?_
          rintro zr zM ⟨q1, q2⟩
          rw [q1, q2]
          generalize eM9 : popM M = M9
          replace h := h M9 eM9.symm
          show Ev LX (d + 1) mX1_run 168 [some (.ref 83), some (.ref k), none, some (.int (x3 + 1)), some (.int x4), some (.int v1), some (.int v2), none] [(.int (topV M)), (.ref 83)] M9 Q
          refine ev_ineg dX1_run_168 ?_
          obtain ⟨p1, h⟩ := h
          refine ev_callV [.int (-(topV M))] dX1_run_169 ml_WithoutE_Laws_78 lx_83 rfl rfl (Nat.le_of_ble_eq_true rfl) (qX1_push p1) ?_
          rintro zr zM ⟨q1, q2⟩
          rw [q1, q2]
          generalize eM10 : pushM M9 (-(topV M)) = M10
          replace h := h M10 eM10.symm
          show Ev LX (d + 1) mX1_run 172 [some (.ref 83), some (.ref k), none, some (.int (x3 + 1)), some (.int x4), some (.int v1), some (.int v2), none] [] M10 Q
          refine ev_goto (tgt := 250) dX1_run_172 (by decide) ?_
          refine ev_iinc (v := x4 + 1) (ls2 := [some (.ref 83), some (.ref k), none, some (.int (x3 + 1)), some (.int (x4 + 1)), some (.int v1), some (.int v2), none]) dX1_run_250 rfl rfl rfl ?_
          refine ev_goto (tgt := 23) dX1_run_253 (by decide) ?_
          refine Ev.weak (ls := [some (.ref 83), some (.ref k), none, some (.int (x3 + 1)), some (.int (x4 + 1)), none, none, none]) ⟨rfl, rfl, rfl, rfl, trivial⟩ ?_
          exact h
        by_cases e4 : v1 = 4
        · replace h := h4 e4
          have hk : ∃ off : Int, ¬ (v1 : Int32).toInt < 0 ∧ ¬ 7 < (v1 : Int32).toInt ∧ #[47, 52, 61, 94, 106, 121, 134, 151][((v1 : Int32).toInt - 0).toNat]? = some off ∧ ((69 : Nat) : Int) + off = ((175 : Nat) : Int) := by
            have e := e4
            · rw [e]; exact ⟨106, by decide, by decide, by decide, by decide⟩
          obtain ⟨off, k1, k2, k3, k4⟩ := hk
          refine ev_tableIn (tgt := 175) dX1_run_69 k1 k2 k3 k4 ?_
          refine ev_aload_n dX1_run_175 rfl ?_
          refine ev_aload_n dX1_run_176 rfl ?_
          refine ev_aload_n dX1_run_177 rfl ?_
          obtain ⟨p1, h⟩ := h
          refine ev_callV [] dX1_run_178 ml_WithoutE_Laws_74 lx_83 rfl rfl (Nat.le_of_ble_eq_true rfl) (qX1_pop p1) ?_
          rintro zr zM ⟨q1, q2⟩
          rw [q1, q2]
          generalize eM11 : popM M = M11
          replace h := h M11 eM11.symm
          show Ev LX (d + 1) mX1_run 181 [some (.ref 83), some (.ref k), none, some (.int (x3 + 1)), some (.int x4), some (.int v1), some (.int v2), none] [(.int (topV M)), (.ref 83), (.ref 83)] M11 Q
          refine ev_callV [.int (topV M)] dX1_run_181 ml_WithoutE_Laws_82 lx_83 rfl rfl (Nat.le_of_ble_eq_true rfl) (kX1_usesOf) ?_
          rintro zr zM ⟨q1, q2⟩
          rw [q1, q2]
          show Ev LX (d + 1) mX1_run 184 [some (.ref 83), some (.ref k), none, some (.int (x3 + 1)), some (.int x4), some (.int v1), some (.int v2), none] [(.int (if iin (topV M) 0 25 = true then M11.1 44 (topV M).toNatClampNeg else 0)), (.ref 83)] M11 Q
          obtain ⟨p1, h⟩ := h
          refine ev_callV [.int (if iin (topV M) 0 25 = true then M11.1 44 (topV M).toNatClampNeg else 0)] dX1_run_184 ml_WithoutE_Laws_78 lx_83 rfl rfl (Nat.le_of_ble_eq_true rfl) (qX1_push p1) ?_
          rintro zr zM ⟨q1, q2⟩
          rw [q1, q2]
          generalize eM12 : pushM M11 (if iin (topV M) 0 25 = true then M11.1 44 (topV M).toNatClampNeg else 0) = M12
          replace h := h M12 eM12.symm
          show Ev LX (d + 1) mX1_run 187 [some (.ref 83), some (.ref k), none, some (.int (x3 + 1)), some (.int x4), some (.int v1), some (.int v2), none] [] M12 Q
          refine ev_goto (tgt := 250) dX1_run_187 (by decide) ?_
          refine ev_iinc (v := x4 + 1) (ls2 := [some (.ref 83), some (.ref k), none, some (.int (x3 + 1)), some (.int (x4 + 1)), some (.int v1), some (.int v2), none]) dX1_run_250 rfl rfl rfl ?_
          refine ev_goto (tgt := 23) dX1_run_253 (by decide) ?_
          refine Ev.weak (ls := [some (.ref 83), some (.ref k), none, some (.int (x3 + 1)), some (.int (x4 + 1)), none, none, none]) ⟨rfl, rfl, rfl, rfl, trivial⟩ ?_
          exact h
        by_cases e5 : v1 = 5
        · replace h := h5 e5
          have hk : ∃ off : Int, ¬ (v1 : Int32).toInt < 0 ∧ ¬ 7 < (v1 : Int32).toInt ∧ #[47, 52, 61, 94, 106, 121, 134, 151][((v1 : Int32).toInt - 0).toNat]? = some off ∧ ((69 : Nat) : Int) + off = ((190 : Nat) : Int) := by
            have e := e5
            · rw [e]; exact ⟨121, by decide, by decide, by decide, by decide⟩
          obtain ⟨off, k1, k2, k3, k4⟩ := hk
          refine ev_tableIn (tgt := 190) dX1_run_69 k1 k2 k3 k4 ?_
          refine ev_aload_n dX1_run_190 rfl ?_
          refine ev_iconst (v := 1) dX1_run_191 (by decide) ?_
          refine ev_aload_n dX1_run_192 rfl ?_
          obtain ⟨p1, h⟩ := h
          refine ev_callV [] dX1_run_193 ml_WithoutE_Laws_74 lx_83 rfl rfl (Nat.le_of_ble_eq_true rfl) (qX1_pop p1) ?_
          rintro zr zM ⟨q1, q2⟩
          rw [q1, q2]
          generalize eM13 : popM M = M13
          replace h := h M13 eM13.symm
          show Ev LX (d + 1) mX1_run 196 [some (.ref 83), some (.ref k), none, some (.int (x3 + 1)), some (.int x4), some (.int v1), some (.int v2), none] [(.int (topV M)), (.int 1), (.ref 83)] M13 Q
          refine ev_isub dX1_run_196 ?_
          obtain ⟨p1, h⟩ := h
          refine ev_callV [.int (1 - (topV M))] dX1_run_197 ml_WithoutE_Laws_78 lx_83 rfl rfl (Nat.le_of_ble_eq_true rfl) (qX1_push p1) ?_
          rintro zr zM ⟨q1, q2⟩
          rw [q1, q2]
          generalize eM14 : pushM M13 (1 - (topV M)) = M14
          replace h := h M14 eM14.symm
          show Ev LX (d + 1) mX1_run 200 [some (.ref 83), some (.ref k), none, some (.int (x3 + 1)), some (.int x4), some (.int v1), some (.int v2), none] [] M14 Q
          refine ev_goto (tgt := 250) dX1_run_200 (by decide) ?_
          refine ev_iinc (v := x4 + 1) (ls2 := [some (.ref 83), some (.ref k), none, some (.int (x3 + 1)), some (.int (x4 + 1)), some (.int v1), some (.int v2), none]) dX1_run_250 rfl rfl rfl ?_
          refine ev_goto (tgt := 23) dX1_run_253 (by decide) ?_
          refine Ev.weak (ls := [some (.ref 83), some (.ref k), none, some (.int (x3 + 1)), some (.int (x4 + 1)), none, none, none]) ⟨rfl, rfl, rfl, rfl, trivial⟩ ?_
          exact h
        by_cases e6 : v1 = 6
        · replace h := h6 e6
          have hk : ∃ off : Int, ¬ (v1 : Int32).toInt < 0 ∧ ¬ 7 < (v1 : Int32).toInt ∧ #[47, 52, 61, 94, 106, 121, 134, 151][((v1 : Int32).toInt - 0).toNat]? = some off ∧ ((69 : Nat) : Int) + off = ((203 : Nat) : Int) := by
            have e := e6
            · rw [e]; exact ⟨134, by decide, by decide, by decide, by decide⟩
          obtain ⟨off, k1, k2, k3, k4⟩ := hk
          refine ev_tableIn (tgt := 203) dX1_run_69 k1 k2 k3 k4 ?_
          refine ev_aload_n dX1_run_203 rfl ?_
          obtain ⟨p1, h⟩ := h
          refine ev_callV [] dX1_run_204 ml_WithoutE_Laws_74 lx_83 rfl rfl (Nat.le_of_ble_eq_true rfl) (qX1_pop p1) ?_
          rintro zr zM ⟨q1, q2⟩
          rw [q1, q2]
          generalize eM15 : popM M = M15
          replace h := h M15 eM15.symm
          show Ev LX (d + 1) mX1_run 207 [some (.ref 83), some (.ref k), none, some (.int (x3 + 1)), some (.int x4), some (.int v1), some (.int v2), none] [(.int (topV M))] M15 Q
          refine ev_if_ne (tgt := 215) dX1_run_207 (by decide) (fun c => ?_) (fun c => ?_)
          · replace h := h.1 c
            refine ev_iload_n dX1_run_215 rfl ?_
            refine ev_istore_n (ls2 := [some (.ref 83), some (.ref k), none, some (.int (x3 + 1)), some (.int x4), some (.int v1), some (.int v2), none]) dX1_run_216 (Nat.le_of_ble_eq_true rfl) rfl ?_
            refine ev_goto (tgt := 250) dX1_run_217 (by decide) ?_
            refine ev_iinc (v := x4 + 1) (ls2 := [some (.ref 83), some (.ref k), none, some (.int (x3 + 1)), some (.int (x4 + 1)), some (.int v1), some (.int v2), none]) dX1_run_250 rfl rfl rfl ?_
            refine ev_goto (tgt := 23) dX1_run_253 (by decide) ?_
            refine Ev.weak (ls := [some (.ref 83), some (.ref k), none, some (.int (x3 + 1)), some (.int (x4 + 1)), none, none, none]) ⟨rfl, rfl, rfl, rfl, trivial⟩ ?_
            exact h
          · replace h := h.2 c
            refine ev_iload dX1_run_210 rfl ?_
            refine ev_goto (tgt := 216) dX1_run_212 (by decide) ?_
            refine ev_istore_n (ls2 := [some (.ref 83), some (.ref k), none, some (.int v2), some (.int x4), some (.int v1), some (.int v2), none]) dX1_run_216 (Nat.le_of_ble_eq_true rfl) rfl ?_
            refine ev_goto (tgt := 250) dX1_run_217 (by decide) ?_
            refine ev_iinc (v := x4 + 1) (ls2 := [some (.ref 83), some (.ref k), none, some (.int v2), some (.int (x4 + 1)), some (.int v1), some (.int v2), none]) dX1_run_250 rfl rfl rfl ?_
            refine ev_goto (tgt := 23) dX1_run_253 (by decide) ?_
            refine Ev.weak (ls := [some (.ref 83), some (.ref k), none, some (.int v2), some (.int (x4 + 1)), none, none, none]) ⟨rfl, rfl, rfl, rfl, trivial⟩ ?_
            exact h
        by_cases e7 : v1 = 7
        · replace h := h7 e7
          have hk : ∃ off : Int, ¬ (v1 : Int32).toInt < 0 ∧ ¬ 7 < (v1 : Int32).toInt ∧ #[47, 52, 61, 94, 106, 121, 134, 151][((v1 : Int32).toInt - 0).toNat]? = some off ∧ ((69 : Nat) : Int) + off = ((220 : Nat) : Int) := by
            have e := e7
            · rw [e]; exact ⟨151, by decide, by decide, by decide, by decide⟩
          obtain ⟨off, k1, k2, k3, k4⟩ := hk
          refine ev_tableIn (tgt := 220) dX1_run_69 k1 k2 k3 k4 ?_
          refine ev_iload dX1_run_220 rfl ?_
          refine ev_istore_n (ls2 := [some (.ref 83), some (.ref k), none, some (.int v2), some (.int x4), some (.int v1), some (.int v2), none]) dX1_run_222 (Nat.le_of_ble_eq_true rfl) rfl ?_
          refine ev_goto (tgt := 250) dX1_run_223 (by decide) ?_
          refine ev_iinc (v := x4 + 1) (ls2 := [some (.ref 83), some (.ref k), none, some (.int v2), some (.int (x4 + 1)), some (.int v1), some (.int v2), none]) dX1_run_250 rfl rfl rfl ?_
          refine ev_goto (tgt := 23) dX1_run_253 (by decide) ?_
          refine Ev.weak (ls := [some (.ref 83), some (.ref k), none, some (.int v2), some (.int (x4 + 1)), none, none, none]) ⟨rfl, rfl, rfl, rfl, trivial⟩ ?_
          exact h
        replace h := h8 ⟨fun e => e0 (e), fun e => e1 (e), fun e => e2 (e), fun e => e3 (e), fun e => e4 (e), fun e => e5 (e), fun e => e6 (e), fun e => e7 (e)⟩
        have hk : ((v1 : Int32).toInt < 0 ∨ 7 < (v1 : Int32).toInt) ∨ (False) := by
          have t : ∀ k : Int32, ¬ (v1 : Int32) = k → (v1 : Int32).toInt ≠ k.toInt := fun k hne e => hne (Int32.toInt_inj.mp e)
          have z0 : (v1 : Int32).toInt ≠ 0 := t 0 (fun e => by simp_all)
          have z1 : (v1 : Int32).toInt ≠ 1 := t 1 (fun e => by simp_all)
          have z2 : (v1 : Int32).toInt ≠ 2 := t 2 (fun e => by simp_all)
          have z3 : (v1 : Int32).toInt ≠ 3 := t 3 (fun e => by simp_all)
          have z4 : (v1 : Int32).toInt ≠ 4 := t 4 (fun e => by simp_all)
          have z5 : (v1 : Int32).toInt ≠ 5 := t 5 (fun e => by simp_all)
          have z6 : (v1 : Int32).toInt ≠ 6 := t 6 (fun e => by simp_all)
          have z7 : (v1 : Int32).toInt ≠ 7 := t 7 (fun e => by simp_all)
          omega
        replace hk := hk.elim id False.elim
        refine ev_tableOut (tgt := 226) dX1_run_69 hk (by decide) ?_
        refine ev_aload_n dX1_run_226 rfl ?_
        obtain ⟨p1, h⟩ := h
        refine ev_callV [] dX1_run_227 ml_WithoutE_Laws_74 lx_83 rfl rfl (Nat.le_of_ble_eq_true rfl) (qX1_pop p1) ?_
        rintro zr zM ⟨q1, q2⟩
        rw [q1, q2]
        generalize eM16 : popM M = M16
        replace h := h M16 eM16.symm
        show Ev LX (d + 1) mX1_run 230 [some (.ref 83), some (.ref k), none, some (.int (x3 + 1)), some (.int x4), some (.int v1), some (.int v2), none] [(.int (topV M))] M16 Q
        refine ev_istore (ls2 := [some (.ref 83), some (.ref k), none, some (.int (x3 + 1)), some (.int x4), some (.int v1), some (.int v2), some (.int (topV M))]) dX1_run_230 (Nat.le_of_ble_eq_true rfl) rfl ?_
        refine ev_aload_n dX1_run_232 rfl ?_
        refine ev_iload dX1_run_233 rfl ?_
        refine ev_aload_n dX1_run_235 rfl ?_
        obtain ⟨p1, h⟩ := h
        refine ev_callV [] dX1_run_236 ml_WithoutE_Laws_74 lx_83 rfl rfl (Nat.le_of_ble_eq_true rfl) (qX1_pop p1) ?_
        rintro zr zM ⟨q1, q2⟩
        rw [q1, q2]
        generalize eM17 : popM M16 = M17
        replace h := h M17 eM17.symm
        show Ev LX (d + 1) mX1_run 239 [some (.ref 83), some (.ref k), none, some (.int (x3 + 1)), some (.int x4), some (.int v1), some (.int v2), some (.int (topV M))] [(.int (topV M16)), (.int v1), (.ref 83)] M17 Q
        refine ev_iload dX1_run_239 rfl ?_
        refine ev_callS [.int v1, .int (topV M16), .int (topV M)] dX1_run_241 ml_WithoutE_Laws_85 rfl (Nat.le_of_ble_eq_true rfl) (kX1_join) ?_
        rintro zr zM ⟨q1, q2⟩
        rw [q1, q2]
        show Ev LX (d + 1) mX1_run 244 [some (.ref 83), some (.ref k), none, some (.int (x3 + 1)), some (.int x4), some (.int v1), some (.int v2), some (.int (topV M))] [(.long (jn v1 (topV M16) (topV M))), (.ref 83)] M17 Q
        refine ev_callS [.long (jn v1 (topV M16) (topV M))] dX1_run_244 ml_WithoutE_Laws_89 rfl (Nat.le_of_ble_eq_true rfl) (kX1_clipped) ?_
        rintro zr zM ⟨q1, q2⟩
        rw [q1, q2]
        show Ev LX (d + 1) mX1_run 247 [some (.ref 83), some (.ref k), none, some (.int (x3 + 1)), some (.int x4), some (.int v1), some (.int v2), some (.int (topV M))] [(.int ((clp (jn v1 (topV M16) (topV M))).toInt32)), (.ref 83)] M17 Q
        obtain ⟨p1, h⟩ := h
        refine ev_callV [.int ((clp (jn v1 (topV M16) (topV M))).toInt32)] dX1_run_247 ml_WithoutE_Laws_78 lx_83 rfl rfl (Nat.le_of_ble_eq_true rfl) (qX1_push p1) ?_
        rintro zr zM ⟨q1, q2⟩
        rw [q1, q2]
        generalize eM18 : pushM M17 ((clp (jn v1 (topV M16) (topV M))).toInt32) = M18
        replace h := h M18 eM18.symm
        show Ev LX (d + 1) mX1_run 250 [some (.ref 83), some (.ref k), none, some (.int (x3 + 1)), some (.int x4), some (.int v1), some (.int v2), some (.int (topV M))] [] M18 Q
        refine ev_iinc (v := x4 + 1) (ls2 := [some (.ref 83), some (.ref k), none, some (.int (x3 + 1)), some (.int (x4 + 1)), some (.int v1), some (.int v2), some (.int (topV M))]) dX1_run_250 rfl rfl rfl ?_
        refine ev_goto (tgt := 23) dX1_run_253 (by decide) ?_
        refine Ev.weak (ls := [some (.ref 83), some (.ref k), none, some (.int (x3 + 1)), some (.int (x4 + 1)), none, none, none]) ⟨rfl, rfl, rfl, rfl, trivial⟩ ?_
        exact h
