theorem dX11_nameOf_0 : decode cX11_nameOf 0 = .ok (.aload_n 0, 1) := by decide +kernel
theorem dX11_nameOf_1 : decode cX11_nameOf 1 = .ok (.getfield 119, 3) := by decide +kernel
theorem dX11_nameOf_4 : decode cX11_nameOf 4 = .ok (.iconst 2, 1) := by decide +kernel
theorem dX11_nameOf_5 : decode cX11_nameOf 5 = .ok (.if_icmp .eq 5, 3) := by decide +kernel
theorem dX11_nameOf_8 : decode cX11_nameOf 8 = .ok (.iconst (-1), 1) := by decide +kernel
theorem dX11_nameOf_9 : decode cX11_nameOf 9 = .ok (.ireturn, 1) := by decide +kernel
theorem dX11_nameOf_10 : decode cX11_nameOf 10 = .ok (.aload_n 0, 1) := by decide +kernel
theorem dX11_nameOf_11 : decode cX11_nameOf 11 = .ok (.getfield 132, 3) := by decide +kernel
theorem dX11_nameOf_14 : decode cX11_nameOf 14 = .ok (.bipush 100, 2) := by decide +kernel
theorem dX11_nameOf_16 : decode cX11_nameOf 16 = .ok (.bipush 97, 2) := by decide +kernel
theorem dX11_nameOf_18 : decode cX11_nameOf 18 = .ok (.bipush 121, 2) := by decide +kernel
theorem dX11_nameOf_20 : decode cX11_nameOf 20 = .ok (.invokestatic 145, 3) := by decide +kernel
theorem dX11_nameOf_23 : decode cX11_nameOf 23 = .ok (.lcmp, 1) := by decide +kernel
theorem dX11_nameOf_24 : decode cX11_nameOf 24 = .ok (.ifCond .ne 5, 3) := by decide +kernel
theorem dX11_nameOf_27 : decode cX11_nameOf 27 = .ok (.iconst 0, 1) := by decide +kernel
theorem dX11_nameOf_28 : decode cX11_nameOf 28 = .ok (.ireturn, 1) := by decide +kernel
theorem dX11_nameOf_29 : decode cX11_nameOf 29 = .ok (.aload_n 0, 1) := by decide +kernel
theorem dX11_nameOf_30 : decode cX11_nameOf 30 = .ok (.getfield 132, 3) := by decide +kernel
theorem dX11_nameOf_33 : decode cX11_nameOf 33 = .ok (.bipush 108, 2) := by decide +kernel
theorem dX11_nameOf_35 : decode cX11_nameOf 35 = .ok (.bipush 111, 2) := by decide +kernel
theorem dX11_nameOf_37 : decode cX11_nameOf 37 = .ok (.bipush 115, 2) := by decide +kernel
theorem dX11_nameOf_39 : decode cX11_nameOf 39 = .ok (.bipush 116, 2) := by decide +kernel
theorem dX11_nameOf_41 : decode cX11_nameOf 41 = .ok (.invokestatic 149, 3) := by decide +kernel
theorem dX11_nameOf_44 : decode cX11_nameOf 44 = .ok (.lcmp, 1) := by decide +kernel
theorem dX11_nameOf_45 : decode cX11_nameOf 45 = .ok (.ifCond .ne 5, 3) := by decide +kernel
theorem dX11_nameOf_48 : decode cX11_nameOf 48 = .ok (.iconst 1, 1) := by decide +kernel
theorem dX11_nameOf_49 : decode cX11_nameOf 49 = .ok (.ireturn, 1) := by decide +kernel
theorem dX11_nameOf_50 : decode cX11_nameOf 50 = .ok (.aload_n 0, 1) := by decide +kernel
theorem dX11_nameOf_51 : decode cX11_nameOf 51 = .ok (.getfield 132, 3) := by decide +kernel
theorem dX11_nameOf_54 : decode cX11_nameOf 54 = .ok (.bipush 107, 2) := by decide +kernel
theorem dX11_nameOf_56 : decode cX11_nameOf 56 = .ok (.bipush 105, 2) := by decide +kernel
theorem dX11_nameOf_58 : decode cX11_nameOf 58 = .ok (.bipush 110, 2) := by decide +kernel
theorem dX11_nameOf_60 : decode cX11_nameOf 60 = .ok (.bipush 100, 2) := by decide +kernel
theorem dX11_nameOf_62 : decode cX11_nameOf 62 = .ok (.invokestatic 149, 3) := by decide +kernel
theorem dX11_nameOf_65 : decode cX11_nameOf 65 = .ok (.lcmp, 1) := by decide +kernel
theorem dX11_nameOf_66 : decode cX11_nameOf 66 = .ok (.ifCond .ne 5, 3) := by decide +kernel
theorem dX11_nameOf_69 : decode cX11_nameOf 69 = .ok (.iconst 2, 1) := by decide +kernel
theorem dX11_nameOf_70 : decode cX11_nameOf 70 = .ok (.ireturn, 1) := by decide +kernel
theorem dX11_nameOf_71 : decode cX11_nameOf 71 = .ok (.aload_n 0, 1) := by decide +kernel
theorem dX11_nameOf_72 : decode cX11_nameOf 72 = .ok (.getfield 132, 3) := by decide +kernel
theorem dX11_nameOf_75 : decode cX11_nameOf 75 = .ok (.bipush 116, 2) := by decide +kernel
theorem dX11_nameOf_77 : decode cX11_nameOf 77 = .ok (.bipush 111, 2) := by decide +kernel
theorem dX11_nameOf_79 : decode cX11_nameOf 79 = .ok (.bipush 108, 2) := by decide +kernel
theorem dX11_nameOf_81 : decode cX11_nameOf 81 = .ok (.bipush 100, 2) := by decide +kernel
theorem dX11_nameOf_83 : decode cX11_nameOf 83 = .ok (.invokestatic 149, 3) := by decide +kernel
theorem dX11_nameOf_86 : decode cX11_nameOf 86 = .ok (.lcmp, 1) := by decide +kernel
theorem dX11_nameOf_87 : decode cX11_nameOf 87 = .ok (.ifCond .ne 5, 3) := by decide +kernel
theorem dX11_nameOf_90 : decode cX11_nameOf 90 = .ok (.iconst 3, 1) := by decide +kernel
theorem dX11_nameOf_91 : decode cX11_nameOf 91 = .ok (.ireturn, 1) := by decide +kernel
theorem dX11_nameOf_92 : decode cX11_nameOf 92 = .ok (.aload_n 0, 1) := by decide +kernel
theorem dX11_nameOf_93 : decode cX11_nameOf 93 = .ok (.getfield 132, 3) := by decide +kernel
theorem dX11_nameOf_96 : decode cX11_nameOf 96 = .ok (.bipush 108, 2) := by decide +kernel
theorem dX11_nameOf_98 : decode cX11_nameOf 98 = .ok (.bipush 111, 2) := by decide +kernel
theorem dX11_nameOf_100 : decode cX11_nameOf 100 = .ok (.bipush 110, 2) := by decide +kernel
theorem dX11_nameOf_102 : decode cX11_nameOf 102 = .ok (.bipush 103, 2) := by decide +kernel
theorem dX11_nameOf_104 : decode cX11_nameOf 104 = .ok (.invokestatic 149, 3) := by decide +kernel
theorem dX11_nameOf_107 : decode cX11_nameOf 107 = .ok (.lcmp, 1) := by decide +kernel
theorem dX11_nameOf_108 : decode cX11_nameOf 108 = .ok (.ifCond .ne 5, 3) := by decide +kernel
theorem dX11_nameOf_111 : decode cX11_nameOf 111 = .ok (.iconst 4, 1) := by decide +kernel
theorem dX11_nameOf_112 : decode cX11_nameOf 112 = .ok (.ireturn, 1) := by decide +kernel
theorem dX11_nameOf_113 : decode cX11_nameOf 113 = .ok (.aload_n 0, 1) := by decide +kernel
theorem dX11_nameOf_114 : decode cX11_nameOf 114 = .ok (.getfield 132, 3) := by decide +kernel
theorem dX11_nameOf_117 : decode cX11_nameOf 117 = .ok (.bipush 104, 2) := by decide +kernel
theorem dX11_nameOf_119 : decode cX11_nameOf 119 = .ok (.bipush 111, 2) := by decide +kernel
theorem dX11_nameOf_121 : decode cX11_nameOf 121 = .ok (.bipush 108, 2) := by decide +kernel
theorem dX11_nameOf_123 : decode cX11_nameOf 123 = .ok (.bipush 101, 2) := by decide +kernel
theorem dX11_nameOf_125 : decode cX11_nameOf 125 = .ok (.bipush 115, 2) := by decide +kernel
theorem dX11_nameOf_127 : decode cX11_nameOf 127 = .ok (.invokestatic 153, 3) := by decide +kernel
theorem dX11_nameOf_130 : decode cX11_nameOf 130 = .ok (.lcmp, 1) := by decide +kernel
theorem dX11_nameOf_131 : decode cX11_nameOf 131 = .ok (.ifCond .ne 5, 3) := by decide +kernel
theorem dX11_nameOf_134 : decode cX11_nameOf 134 = .ok (.iconst 5, 1) := by decide +kernel
theorem dX11_nameOf_135 : decode cX11_nameOf 135 = .ok (.ireturn, 1) := by decide +kernel
theorem dX11_nameOf_136 : decode cX11_nameOf 136 = .ok (.aload_n 0, 1) := by decide +kernel
theorem dX11_nameOf_137 : decode cX11_nameOf 137 = .ok (.getfield 132, 3) := by decide +kernel
theorem dX11_nameOf_140 : decode cX11_nameOf 140 = .ok (.bipush 101, 2) := by decide +kernel
theorem dX11_nameOf_142 : decode cX11_nameOf 142 = .ok (.bipush 120, 2) := by decide +kernel
theorem dX11_nameOf_144 : decode cX11_nameOf 144 = .ok (.bipush 116, 2) := by decide +kernel
theorem dX11_nameOf_146 : decode cX11_nameOf 146 = .ok (.bipush 114, 2) := by decide +kernel
theorem dX11_nameOf_148 : decode cX11_nameOf 148 = .ok (.bipush 97, 2) := by decide +kernel
theorem dX11_nameOf_150 : decode cX11_nameOf 150 = .ok (.invokestatic 153, 3) := by decide +kernel
theorem dX11_nameOf_153 : decode cX11_nameOf 153 = .ok (.lcmp, 1) := by decide +kernel
theorem dX11_nameOf_154 : decode cX11_nameOf 154 = .ok (.ifCond .ne 6, 3) := by decide +kernel
theorem dX11_nameOf_157 : decode cX11_nameOf 157 = .ok (.bipush 6, 2) := by decide +kernel
theorem dX11_nameOf_159 : decode cX11_nameOf 159 = .ok (.ireturn, 1) := by decide +kernel
theorem dX11_nameOf_160 : decode cX11_nameOf 160 = .ok (.aload_n 0, 1) := by decide +kernel
theorem dX11_nameOf_161 : decode cX11_nameOf 161 = .ok (.getfield 132, 3) := by decide +kernel
theorem dX11_nameOf_164 : decode cX11_nameOf 164 = .ok (.bipush 108, 2) := by decide +kernel
theorem dX11_nameOf_166 : decode cX11_nameOf 166 = .ok (.bipush 101, 2) := by decide +kernel
theorem dX11_nameOf_168 : decode cX11_nameOf 168 = .ok (.bipush 116, 2) := by decide +kernel
theorem dX11_nameOf_170 : decode cX11_nameOf 170 = .ok (.bipush 116, 2) := by decide +kernel
theorem dX11_nameOf_172 : decode cX11_nameOf 172 = .ok (.bipush 101, 2) := by decide +kernel
theorem dX11_nameOf_174 : decode cX11_nameOf 174 = .ok (.bipush 114, 2) := by decide +kernel
theorem dX11_nameOf_176 : decode cX11_nameOf 176 = .ok (.invokestatic 163, 3) := by decide +kernel
theorem dX11_nameOf_179 : decode cX11_nameOf 179 = .ok (.lcmp, 1) := by decide +kernel
theorem dX11_nameOf_180 : decode cX11_nameOf 180 = .ok (.ifCond .ne 6, 3) := by decide +kernel
theorem dX11_nameOf_183 : decode cX11_nameOf 183 = .ok (.bipush 7, 2) := by decide +kernel
theorem dX11_nameOf_185 : decode cX11_nameOf 185 = .ok (.ireturn, 1) := by decide +kernel
theorem dX11_nameOf_186 : decode cX11_nameOf 186 = .ok (.aload_n 0, 1) := by decide +kernel
theorem dX11_nameOf_187 : decode cX11_nameOf 187 = .ok (.getfield 132, 3) := by decide +kernel
theorem dX11_nameOf_190 : decode cX11_nameOf 190 = .ok (.bipush 117, 2) := by decide +kernel
theorem dX11_nameOf_192 : decode cX11_nameOf 192 = .ok (.bipush 115, 2) := by decide +kernel
theorem dX11_nameOf_194 : decode cX11_nameOf 194 = .ok (.bipush 101, 2) := by decide +kernel
theorem dX11_nameOf_196 : decode cX11_nameOf 196 = .ok (.invokestatic 145, 3) := by decide +kernel
theorem dX11_nameOf_199 : decode cX11_nameOf 199 = .ok (.lcmp, 1) := by decide +kernel
theorem dX11_nameOf_200 : decode cX11_nameOf 200 = .ok (.ifCond .ne 6, 3) := by decide +kernel
theorem dX11_nameOf_203 : decode cX11_nameOf 203 = .ok (.bipush 8, 2) := by decide +kernel
theorem dX11_nameOf_205 : decode cX11_nameOf 205 = .ok (.ireturn, 1) := by decide +kernel
theorem dX11_nameOf_206 : decode cX11_nameOf 206 = .ok (.aload_n 0, 1) := by decide +kernel
theorem dX11_nameOf_207 : decode cX11_nameOf 207 = .ok (.getfield 132, 3) := by decide +kernel
theorem dX11_nameOf_210 : decode cX11_nameOf 210 = .ok (.bipush 108, 2) := by decide +kernel
theorem dX11_nameOf_212 : decode cX11_nameOf 212 = .ok (.bipush 105, 2) := by decide +kernel
theorem dX11_nameOf_214 : decode cX11_nameOf 214 = .ok (.bipush 110, 2) := by decide +kernel
theorem dX11_nameOf_216 : decode cX11_nameOf 216 = .ok (.bipush 101, 2) := by decide +kernel
theorem dX11_nameOf_218 : decode cX11_nameOf 218 = .ok (.invokestatic 149, 3) := by decide +kernel
theorem dX11_nameOf_221 : decode cX11_nameOf 221 = .ok (.lcmp, 1) := by decide +kernel
theorem dX11_nameOf_222 : decode cX11_nameOf 222 = .ok (.ifCond .ne 6, 3) := by decide +kernel
theorem dX11_nameOf_225 : decode cX11_nameOf 225 = .ok (.bipush 9, 2) := by decide +kernel
theorem dX11_nameOf_227 : decode cX11_nameOf 227 = .ok (.ireturn, 1) := by decide +kernel
theorem dX11_nameOf_228 : decode cX11_nameOf 228 = .ok (.aload_n 0, 1) := by decide +kernel
theorem dX11_nameOf_229 : decode cX11_nameOf 229 = .ok (.getfield 132, 3) := by decide +kernel
theorem dX11_nameOf_232 : decode cX11_nameOf 232 = .ok (.bipush 116, 2) := by decide +kernel
theorem dX11_nameOf_234 : decode cX11_nameOf 234 = .ok (.bipush 111, 2) := by decide +kernel
theorem dX11_nameOf_236 : decode cX11_nameOf 236 = .ok (.bipush 116, 2) := by decide +kernel
theorem dX11_nameOf_238 : decode cX11_nameOf 238 = .ok (.bipush 97, 2) := by decide +kernel
theorem dX11_nameOf_240 : decode cX11_nameOf 240 = .ok (.bipush 108, 2) := by decide +kernel
theorem dX11_nameOf_242 : decode cX11_nameOf 242 = .ok (.invokestatic 153, 3) := by decide +kernel
theorem dX11_nameOf_245 : decode cX11_nameOf 245 = .ok (.lcmp, 1) := by decide +kernel
theorem dX11_nameOf_246 : decode cX11_nameOf 246 = .ok (.ifCond .ne 8, 3) := by decide +kernel
theorem dX11_nameOf_249 : decode cX11_nameOf 249 = .ok (.bipush 10, 2) := by decide +kernel
theorem dX11_nameOf_251 : decode cX11_nameOf 251 = .ok (.goto 36, 3) := by decide +kernel
theorem dX11_nameOf_254 : decode cX11_nameOf 254 = .ok (.aload_n 0, 1) := by decide +kernel
theorem dX11_nameOf_255 : decode cX11_nameOf 255 = .ok (.bipush 115, 2) := by decide +kernel
theorem dX11_nameOf_257 : decode cX11_nameOf 257 = .ok (.bipush 101, 2) := by decide +kernel
theorem dX11_nameOf_259 : decode cX11_nameOf 259 = .ok (.bipush 99, 2) := by decide +kernel
theorem dX11_nameOf_261 : decode cX11_nameOf 261 = .ok (.bipush 111, 2) := by decide +kernel
theorem dX11_nameOf_263 : decode cX11_nameOf 263 = .ok (.invokestatic 149, 3) := by decide +kernel
theorem dX11_nameOf_266 : decode cX11_nameOf 266 = .ok (.bipush 110, 2) := by decide +kernel
theorem dX11_nameOf_268 : decode cX11_nameOf 268 = .ok (.bipush 100, 2) := by decide +kernel
theorem dX11_nameOf_270 : decode cX11_nameOf 270 = .ok (.bipush 115, 2) := by decide +kernel
theorem dX11_nameOf_272 : decode cX11_nameOf 272 = .ok (.invokestatic 145, 3) := by decide +kernel
theorem dX11_nameOf_275 : decode cX11_nameOf 275 = .ok (.invokevirtual 167, 3) := by decide +kernel
theorem dX11_nameOf_278 : decode cX11_nameOf 278 = .ok (.ifCond .eq 8, 3) := by decide +kernel
theorem dX11_nameOf_281 : decode cX11_nameOf 281 = .ok (.bipush 11, 2) := by decide +kernel
theorem dX11_nameOf_283 : decode cX11_nameOf 283 = .ok (.goto 4, 3) := by decide +kernel
theorem dX11_nameOf_286 : decode cX11_nameOf 286 = .ok (.iconst (-1), 1) := by decide +kernel
theorem dX11_nameOf_287 : decode cX11_nameOf 287 = .ok (.ireturn, 1) := by decide +kernel
theorem gX11_nameOf_0 {d : Nat} {M : ev_Mem} {Q : Option Value → ev_Mem → Prop} (h : ((((M.1 0 10) = 2) → (((¬ (lg_cmp (M.2 0 12) (w3f (100 : Int32) (97 : Int32) (121 : Int32))) = 0) → (((¬ (lg_cmp (M.2 0 12) (w4f (108 : Int32) (111 : Int32) (115 : Int32) (116 : Int32))) = 0) → (((¬ (lg_cmp (M.2 0 12) (w4f (107 : Int32) (105 : Int32) (110 : Int32) (100 : Int32))) = 0) → (((¬ (lg_cmp (M.2 0 12) (w4f (116 : Int32) (111 : Int32) (108 : Int32) (100 : Int32))) = 0) → (((¬ (lg_cmp (M.2 0 12) (w4f (108 : Int32) (111 : Int32) (110 : Int32) (103 : Int32))) = 0) → (((¬ (lg_cmp (M.2 0 12) (w5f (104 : Int32) (111 : Int32) (108 : Int32) (101 : Int32) (115 : Int32))) = 0) → (((¬ (lg_cmp (M.2 0 12) (w5f (101 : Int32) (120 : Int32) (116 : Int32) (114 : Int32) (97 : Int32))) = 0) → (((¬ (lg_cmp (M.2 0 12) (w6f (108 : Int32) (101 : Int32) (116 : Int32) (116 : Int32) (101 : Int32) (114 : Int32))) = 0) → (((¬ (lg_cmp (M.2 0 12) (w3f (117 : Int32) (115 : Int32) (101 : Int32))) = 0) → (((¬ (lg_cmp (M.2 0 12) (w4f (108 : Int32) (105 : Int32) (110 : Int32) (101 : Int32))) = 0) → (((¬ (lg_cmp (M.2 0 12) (w5f (116 : Int32) (111 : Int32) (116 : Int32) (97 : Int32) (108 : Int32))) = 0) → ((ilOK M) ∧ ((((isl M (w4f (115 : Int32) (101 : Int32) (99 : Int32) (111 : Int32)) (w3f (110 : Int32) (100 : Int32) (115 : Int32))) = false) → (Q (some (.int (-1))) M)) ∧ (((isl M (w4f (115 : Int32) (101 : Int32) (99 : Int32) (111 : Int32)) (w3f (110 : Int32) (100 : Int32) (115 : Int32))) = true) → (Q (some (.int 11)) M))))) ∧ (((lg_cmp (M.2 0 12) (w5f (116 : Int32) (111 : Int32) (116 : Int32) (97 : Int32) (108 : Int32))) = 0) → (Q (some (.int 10)) M)))) ∧ (((lg_cmp (M.2 0 12) (w4f (108 : Int32) (105 : Int32) (110 : Int32) (101 : Int32))) = 0) → (Q (some (.int 9)) M)))) ∧ (((lg_cmp (M.2 0 12) (w3f (117 : Int32) (115 : Int32) (101 : Int32))) = 0) → (Q (some (.int 8)) M)))) ∧ (((lg_cmp (M.2 0 12) (w6f (108 : Int32) (101 : Int32) (116 : Int32) (116 : Int32) (101 : Int32) (114 : Int32))) = 0) → (Q (some (.int 7)) M)))) ∧ (((lg_cmp (M.2 0 12) (w5f (101 : Int32) (120 : Int32) (116 : Int32) (114 : Int32) (97 : Int32))) = 0) → (Q (some (.int 6)) M)))) ∧ (((lg_cmp (M.2 0 12) (w5f (104 : Int32) (111 : Int32) (108 : Int32) (101 : Int32) (115 : Int32))) = 0) → (Q (some (.int 5)) M)))) ∧ (((lg_cmp (M.2 0 12) (w4f (108 : Int32) (111 : Int32) (110 : Int32) (103 : Int32))) = 0) → (Q (some (.int 4)) M)))) ∧ (((lg_cmp (M.2 0 12) (w4f (116 : Int32) (111 : Int32) (108 : Int32) (100 : Int32))) = 0) → (Q (some (.int 3)) M)))) ∧ (((lg_cmp (M.2 0 12) (w4f (107 : Int32) (105 : Int32) (110 : Int32) (100 : Int32))) = 0) → (Q (some (.int 2)) M)))) ∧ (((lg_cmp (M.2 0 12) (w4f (108 : Int32) (111 : Int32) (115 : Int32) (116 : Int32))) = 0) → (Q (some (.int 1)) M)))) ∧ (((lg_cmp (M.2 0 12) (w3f (100 : Int32) (97 : Int32) (121 : Int32))) = 0) → (Q (some (.int 0)) M)))) ∧ ((¬ (M.1 0 10) = 2) → (Q (some (.int (-1))) M)))) : Ev LM (d + 5) mX11_nameOf 0 [some (.ref 0)] [] M Q := by
  refine ev_aload_n dX11_nameOf_0 rfl ?_
  refine ev_getI dX11_nameOf_1 fl_WithoutEModel_119 lm_0 rfl ?_
  refine ev_iconst (v := 2) dX11_nameOf_4 (by decide) ?_
  refine ev_icmp_eq (tgt := 10) dX11_nameOf_5 (by decide) (fun c => ?_) (fun c => ?_)
  · replace h := h.1 c
    refine ev_aload_n dX11_nameOf_10 rfl ?_
    refine ev_getJ dX11_nameOf_11 fl_WithoutEModel_132 lm_0 rfl ?_
    refine ev_bipush (v := 100) dX11_nameOf_14 (by decide) ?_
    refine ev_bipush (v := 97) dX11_nameOf_16 (by decide) ?_
    refine ev_bipush (v := 121) dX11_nameOf_18 (by decide) ?_
    refine ev_callS [.int 100, .int 97, .int 121] dX11_nameOf_20 ml_WithoutEModel_145 rfl (Nat.le_of_ble_eq_true rfl) (kX11_w3) ?_
    rintro zr zM ⟨q1, q2⟩
    rw [q1, q2]
    show Ev LM (d + 5) mX11_nameOf 23 [some (.ref 0)] [(.long (w3f (100 : Int32) (97 : Int32) (121 : Int32))), (.long (M.2 0 12))] M Q
    refine ev_lcmp dX11_nameOf_23 ?_
    refine ev_if_ne (tgt := 29) dX11_nameOf_24 (by decide) (fun c => ?_) (fun c => ?_)
    · replace h := h.1 c
      refine ev_aload_n dX11_nameOf_29 rfl ?_
      refine ev_getJ dX11_nameOf_30 fl_WithoutEModel_132 lm_0 rfl ?_
      refine ev_bipush (v := 108) dX11_nameOf_33 (by decide) ?_
      refine ev_bipush (v := 111) dX11_nameOf_35 (by decide) ?_
      refine ev_bipush (v := 115) dX11_nameOf_37 (by decide) ?_
      refine ev_bipush (v := 116) dX11_nameOf_39 (by decide) ?_
      refine ev_callS [.int 108, .int 111, .int 115, .int 116] dX11_nameOf_41 ml_WithoutEModel_149 rfl (Nat.le_of_ble_eq_true rfl) (kX11_w4) ?_
      rintro zr zM ⟨q1, q2⟩
      rw [q1, q2]
      show Ev LM (d + 5) mX11_nameOf 44 [some (.ref 0)] [(.long (w4f (108 : Int32) (111 : Int32) (115 : Int32) (116 : Int32))), (.long (M.2 0 12))] M Q
      refine ev_lcmp dX11_nameOf_44 ?_
      refine ev_if_ne (tgt := 50) dX11_nameOf_45 (by decide) (fun c => ?_) (fun c => ?_)
      · replace h := h.1 c
        refine ev_aload_n dX11_nameOf_50 rfl ?_
        refine ev_getJ dX11_nameOf_51 fl_WithoutEModel_132 lm_0 rfl ?_
        refine ev_bipush (v := 107) dX11_nameOf_54 (by decide) ?_
        refine ev_bipush (v := 105) dX11_nameOf_56 (by decide) ?_
        refine ev_bipush (v := 110) dX11_nameOf_58 (by decide) ?_
        refine ev_bipush (v := 100) dX11_nameOf_60 (by decide) ?_
        refine ev_callS [.int 107, .int 105, .int 110, .int 100] dX11_nameOf_62 ml_WithoutEModel_149 rfl (Nat.le_of_ble_eq_true rfl) (kX11_w4) ?_
        rintro zr zM ⟨q1, q2⟩
        rw [q1, q2]
        show Ev LM (d + 5) mX11_nameOf 65 [some (.ref 0)] [(.long (w4f (107 : Int32) (105 : Int32) (110 : Int32) (100 : Int32))), (.long (M.2 0 12))] M Q
        refine ev_lcmp dX11_nameOf_65 ?_
        refine ev_if_ne (tgt := 71) dX11_nameOf_66 (by decide) (fun c => ?_) (fun c => ?_)
        · replace h := h.1 c
          refine ev_aload_n dX11_nameOf_71 rfl ?_
          refine ev_getJ dX11_nameOf_72 fl_WithoutEModel_132 lm_0 rfl ?_
          refine ev_bipush (v := 116) dX11_nameOf_75 (by decide) ?_
          refine ev_bipush (v := 111) dX11_nameOf_77 (by decide) ?_
          refine ev_bipush (v := 108) dX11_nameOf_79 (by decide) ?_
          refine ev_bipush (v := 100) dX11_nameOf_81 (by decide) ?_
          refine ev_callS [.int 116, .int 111, .int 108, .int 100] dX11_nameOf_83 ml_WithoutEModel_149 rfl (Nat.le_of_ble_eq_true rfl) (kX11_w4) ?_
          rintro zr zM ⟨q1, q2⟩
          rw [q1, q2]
          show Ev LM (d + 5) mX11_nameOf 86 [some (.ref 0)] [(.long (w4f (116 : Int32) (111 : Int32) (108 : Int32) (100 : Int32))), (.long (M.2 0 12))] M Q
          refine ev_lcmp dX11_nameOf_86 ?_
          refine ev_if_ne (tgt := 92) dX11_nameOf_87 (by decide) (fun c => ?_) (fun c => ?_)
          · replace h := h.1 c
            refine ev_aload_n dX11_nameOf_92 rfl ?_
            refine ev_getJ dX11_nameOf_93 fl_WithoutEModel_132 lm_0 rfl ?_
            refine ev_bipush (v := 108) dX11_nameOf_96 (by decide) ?_
            refine ev_bipush (v := 111) dX11_nameOf_98 (by decide) ?_
            refine ev_bipush (v := 110) dX11_nameOf_100 (by decide) ?_
            refine ev_bipush (v := 103) dX11_nameOf_102 (by decide) ?_
            refine ev_callS [.int 108, .int 111, .int 110, .int 103] dX11_nameOf_104 ml_WithoutEModel_149 rfl (Nat.le_of_ble_eq_true rfl) (kX11_w4) ?_
            rintro zr zM ⟨q1, q2⟩
            rw [q1, q2]
            show Ev LM (d + 5) mX11_nameOf 107 [some (.ref 0)] [(.long (w4f (108 : Int32) (111 : Int32) (110 : Int32) (103 : Int32))), (.long (M.2 0 12))] M Q
            refine ev_lcmp dX11_nameOf_107 ?_
            refine ev_if_ne (tgt := 113) dX11_nameOf_108 (by decide) (fun c => ?_) (fun c => ?_)
            · replace h := h.1 c
              refine ev_aload_n dX11_nameOf_113 rfl ?_
              refine ev_getJ dX11_nameOf_114 fl_WithoutEModel_132 lm_0 rfl ?_
              refine ev_bipush (v := 104) dX11_nameOf_117 (by decide) ?_
              refine ev_bipush (v := 111) dX11_nameOf_119 (by decide) ?_
              refine ev_bipush (v := 108) dX11_nameOf_121 (by decide) ?_
              refine ev_bipush (v := 101) dX11_nameOf_123 (by decide) ?_
              refine ev_bipush (v := 115) dX11_nameOf_125 (by decide) ?_
              refine ev_callS [.int 104, .int 111, .int 108, .int 101, .int 115] dX11_nameOf_127 ml_WithoutEModel_153 rfl (Nat.le_of_ble_eq_true rfl) (kX11_w5) ?_
              rintro zr zM ⟨q1, q2⟩
              rw [q1, q2]
              show Ev LM (d + 5) mX11_nameOf 130 [some (.ref 0)] [(.long (w5f (104 : Int32) (111 : Int32) (108 : Int32) (101 : Int32) (115 : Int32))), (.long (M.2 0 12))] M Q
              refine ev_lcmp dX11_nameOf_130 ?_
              refine ev_if_ne (tgt := 136) dX11_nameOf_131 (by decide) (fun c => ?_) (fun c => ?_)
              · replace h := h.1 c
                refine ev_aload_n dX11_nameOf_136 rfl ?_
                refine ev_getJ dX11_nameOf_137 fl_WithoutEModel_132 lm_0 rfl ?_
                refine ev_bipush (v := 101) dX11_nameOf_140 (by decide) ?_
                refine ev_bipush (v := 120) dX11_nameOf_142 (by decide) ?_
                refine ev_bipush (v := 116) dX11_nameOf_144 (by decide) ?_
                refine ev_bipush (v := 114) dX11_nameOf_146 (by decide) ?_
                refine ev_bipush (v := 97) dX11_nameOf_148 (by decide) ?_
                refine ev_callS [.int 101, .int 120, .int 116, .int 114, .int 97] dX11_nameOf_150 ml_WithoutEModel_153 rfl (Nat.le_of_ble_eq_true rfl) (kX11_w5) ?_
                rintro zr zM ⟨q1, q2⟩
                rw [q1, q2]
                show Ev LM (d + 5) mX11_nameOf 153 [some (.ref 0)] [(.long (w5f (101 : Int32) (120 : Int32) (116 : Int32) (114 : Int32) (97 : Int32))), (.long (M.2 0 12))] M Q
                refine ev_lcmp dX11_nameOf_153 ?_
                refine ev_if_ne (tgt := 160) dX11_nameOf_154 (by decide) (fun c => ?_) (fun c => ?_)
                · replace h := h.1 c
                  refine ev_aload_n dX11_nameOf_160 rfl ?_
                  refine ev_getJ dX11_nameOf_161 fl_WithoutEModel_132 lm_0 rfl ?_
                  refine ev_bipush (v := 108) dX11_nameOf_164 (by decide) ?_
                  refine ev_bipush (v := 101) dX11_nameOf_166 (by decide) ?_
                  refine ev_bipush (v := 116) dX11_nameOf_168 (by decide) ?_
                  refine ev_bipush (v := 116) dX11_nameOf_170 (by decide) ?_
                  refine ev_bipush (v := 101) dX11_nameOf_172 (by decide) ?_
                  refine ev_bipush (v := 114) dX11_nameOf_174 (by decide) ?_
                  refine ev_callS [.int 108, .int 101, .int 116, .int 116, .int 101, .int 114] dX11_nameOf_176 ml_WithoutEModel_163 rfl (Nat.le_of_ble_eq_true rfl) (kX11_w6) ?_
                  rintro zr zM ⟨q1, q2⟩
                  rw [q1, q2]
                  show Ev LM (d + 5) mX11_nameOf 179 [some (.ref 0)] [(.long (w6f (108 : Int32) (101 : Int32) (116 : Int32) (116 : Int32) (101 : Int32) (114 : Int32))), (.long (M.2 0 12))] M Q
                  refine ev_lcmp dX11_nameOf_179 ?_
                  refine ev_if_ne (tgt := 186) dX11_nameOf_180 (by decide) (fun c => ?_) (fun c => ?_)
                  · replace h := h.1 c
                    refine ev_aload_n dX11_nameOf_186 rfl ?_
                    refine ev_getJ dX11_nameOf_187 fl_WithoutEModel_132 lm_0 rfl ?_
                    refine ev_bipush (v := 117) dX11_nameOf_190 (by decide) ?_
                    refine ev_bipush (v := 115) dX11_nameOf_192 (by decide) ?_
                    refine ev_bipush (v := 101) dX11_nameOf_194 (by decide) ?_
                    refine ev_callS [.int 117, .int 115, .int 101] dX11_nameOf_196 ml_WithoutEModel_145 rfl (Nat.le_of_ble_eq_true rfl) (kX11_w3) ?_
                    rintro zr zM ⟨q1, q2⟩
                    rw [q1, q2]
                    show Ev LM (d + 5) mX11_nameOf 199 [some (.ref 0)] [(.long (w3f (117 : Int32) (115 : Int32) (101 : Int32))), (.long (M.2 0 12))] M Q
                    refine ev_lcmp dX11_nameOf_199 ?_
                    refine ev_if_ne (tgt := 206) dX11_nameOf_200 (by decide) (fun c => ?_) (fun c => ?_)
                    · replace h := h.1 c
                      refine ev_aload_n dX11_nameOf_206 rfl ?_
                      refine ev_getJ dX11_nameOf_207 fl_WithoutEModel_132 lm_0 rfl ?_
                      refine ev_bipush (v := 108) dX11_nameOf_210 (by decide) ?_
                      refine ev_bipush (v := 105) dX11_nameOf_212 (by decide) ?_
                      refine ev_bipush (v := 110) dX11_nameOf_214 (by decide) ?_
                      refine ev_bipush (v := 101) dX11_nameOf_216 (by decide) ?_
                      refine ev_callS [.int 108, .int 105, .int 110, .int 101] dX11_nameOf_218 ml_WithoutEModel_149 rfl (Nat.le_of_ble_eq_true rfl) (kX11_w4) ?_
                      rintro zr zM ⟨q1, q2⟩
                      rw [q1, q2]
                      show Ev LM (d + 5) mX11_nameOf 221 [some (.ref 0)] [(.long (w4f (108 : Int32) (105 : Int32) (110 : Int32) (101 : Int32))), (.long (M.2 0 12))] M Q
                      refine ev_lcmp dX11_nameOf_221 ?_
                      refine ev_if_ne (tgt := 228) dX11_nameOf_222 (by decide) (fun c => ?_) (fun c => ?_)
                      · replace h := h.1 c
                        refine ev_aload_n dX11_nameOf_228 rfl ?_
                        refine ev_getJ dX11_nameOf_229 fl_WithoutEModel_132 lm_0 rfl ?_
                        refine ev_bipush (v := 116) dX11_nameOf_232 (by decide) ?_
                        refine ev_bipush (v := 111) dX11_nameOf_234 (by decide) ?_
                        refine ev_bipush (v := 116) dX11_nameOf_236 (by decide) ?_
                        refine ev_bipush (v := 97) dX11_nameOf_238 (by decide) ?_
                        refine ev_bipush (v := 108) dX11_nameOf_240 (by decide) ?_
                        refine ev_callS [.int 116, .int 111, .int 116, .int 97, .int 108] dX11_nameOf_242 ml_WithoutEModel_153 rfl (Nat.le_of_ble_eq_true rfl) (kX11_w5) ?_
                        rintro zr zM ⟨q1, q2⟩
                        rw [q1, q2]
                        show Ev LM (d + 5) mX11_nameOf 245 [some (.ref 0)] [(.long (w5f (116 : Int32) (111 : Int32) (116 : Int32) (97 : Int32) (108 : Int32))), (.long (M.2 0 12))] M Q
                        refine ev_lcmp dX11_nameOf_245 ?_
                        refine ev_if_ne (tgt := 254) dX11_nameOf_246 (by decide) (fun c => ?_) (fun c => ?_)
                        · replace h := h.1 c
                          refine ev_aload_n dX11_nameOf_254 rfl ?_
                          refine ev_bipush (v := 115) dX11_nameOf_255 (by decide) ?_
                          refine ev_bipush (v := 101) dX11_nameOf_257 (by decide) ?_
                          refine ev_bipush (v := 99) dX11_nameOf_259 (by decide) ?_
                          refine ev_bipush (v := 111) dX11_nameOf_261 (by decide) ?_
                          refine ev_callS [.int 115, .int 101, .int 99, .int 111] dX11_nameOf_263 ml_WithoutEModel_149 rfl (Nat.le_of_ble_eq_true rfl) (kX11_w4) ?_
                          rintro zr zM ⟨q1, q2⟩
                          rw [q1, q2]
                          show Ev LM (d + 5) mX11_nameOf 266 [some (.ref 0)] [(.long (w4f (115 : Int32) (101 : Int32) (99 : Int32) (111 : Int32))), (.ref 0)] M Q
                          refine ev_bipush (v := 110) dX11_nameOf_266 (by decide) ?_
                          refine ev_bipush (v := 100) dX11_nameOf_268 (by decide) ?_
                          refine ev_bipush (v := 115) dX11_nameOf_270 (by decide) ?_
                          refine ev_callS [.int 110, .int 100, .int 115] dX11_nameOf_272 ml_WithoutEModel_145 rfl (Nat.le_of_ble_eq_true rfl) (kX11_w3) ?_
                          rintro zr zM ⟨q1, q2⟩
                          rw [q1, q2]
                          show Ev LM (d + 5) mX11_nameOf 275 [some (.ref 0)] [(.long (w3f (110 : Int32) (100 : Int32) (115 : Int32))), (.long (w4f (115 : Int32) (101 : Int32) (99 : Int32) (111 : Int32))), (.ref 0)] M Q
                          obtain ⟨p1, h⟩ := h
                          refine ev_callV [.long (w4f (115 : Int32) (101 : Int32) (99 : Int32) (111 : Int32)), .long (w3f (110 : Int32) (100 : Int32) (115 : Int32))] dX11_nameOf_275 ml_WithoutEModel_167 lm_0 rfl rfl (Nat.le_of_ble_eq_true rfl) (kX11_isLong p1) ?_
                          rintro zr zM ⟨q1, q2⟩
                          rw [q1, q2]
                          show Ev LM (d + 5) mX11_nameOf 278 [some (.ref 0)] [(.int (bi (isl M (w4f (115 : Int32) (101 : Int32) (99 : Int32) (111 : Int32)) (w3f (110 : Int32) (100 : Int32) (115 : Int32)))))] M Q
                          refine ev_if_eq (tgt := 286) dX11_nameOf_278 (by decide) (fun c => ?_) (fun c => ?_)
                          · replace h := h.1 ((bi_0 _).mp c)
                            refine ev_iconst (v := -1) dX11_nameOf_286 (by decide) ?_
                            exact ev_iret dX11_nameOf_287 rfl h
                          · replace h := h.2 ((bi_n0 _).mp c)
                            refine ev_bipush (v := 11) dX11_nameOf_281 (by decide) ?_
                            refine ev_goto (tgt := 287) dX11_nameOf_283 (by decide) ?_
                            exact ev_iret dX11_nameOf_287 rfl h
                        · replace h := h.2 c
                          refine ev_bipush (v := 10) dX11_nameOf_249 (by decide) ?_
                          refine ev_goto (tgt := 287) dX11_nameOf_251 (by decide) ?_
                          exact ev_iret dX11_nameOf_287 rfl h
                      · replace h := h.2 c
                        refine ev_bipush (v := 9) dX11_nameOf_225 (by decide) ?_
                        exact ev_iret dX11_nameOf_227 rfl h
                    · replace h := h.2 c
                      refine ev_bipush (v := 8) dX11_nameOf_203 (by decide) ?_
                      exact ev_iret dX11_nameOf_205 rfl h
                  · replace h := h.2 c
                    refine ev_bipush (v := 7) dX11_nameOf_183 (by decide) ?_
                    exact ev_iret dX11_nameOf_185 rfl h
                · replace h := h.2 c
                  refine ev_bipush (v := 6) dX11_nameOf_157 (by decide) ?_
                  exact ev_iret dX11_nameOf_159 rfl h
              · replace h := h.2 c
                refine ev_iconst (v := 5) dX11_nameOf_134 (by decide) ?_
                exact ev_iret dX11_nameOf_135 rfl h
            · replace h := h.2 c
              refine ev_iconst (v := 4) dX11_nameOf_111 (by decide) ?_
              exact ev_iret dX11_nameOf_112 rfl h
          · replace h := h.2 c
            refine ev_iconst (v := 3) dX11_nameOf_90 (by decide) ?_
            exact ev_iret dX11_nameOf_91 rfl h
        · replace h := h.2 c
          refine ev_iconst (v := 2) dX11_nameOf_69 (by decide) ?_
          exact ev_iret dX11_nameOf_70 rfl h
      · replace h := h.2 c
        refine ev_iconst (v := 1) dX11_nameOf_48 (by decide) ?_
        exact ev_iret dX11_nameOf_49 rfl h
    · replace h := h.2 c
      refine ev_iconst (v := 0) dX11_nameOf_27 (by decide) ?_
      exact ev_iret dX11_nameOf_28 rfl h
  · replace h := h.2 c
    refine ev_iconst (v := -1) dX11_nameOf_8 (by decide) ?_
    exact ev_iret dX11_nameOf_9 rfl h
theorem dX11_sortOf_0 : decode cX11_sortOf 0 = .ok (.aload_n 0, 1) := by decide +kernel
theorem dX11_sortOf_1 : decode cX11_sortOf 1 = .ok (.bipush 115, 2) := by decide +kernel
theorem dX11_sortOf_3 : decode cX11_sortOf 3 = .ok (.bipush 116, 2) := by decide +kernel
theorem dX11_sortOf_5 : decode cX11_sortOf 5 = .ok (.bipush 105, 2) := by decide +kernel
theorem dX11_sortOf_7 : decode cX11_sortOf 7 = .ok (.bipush 102, 2) := by decide +kernel
theorem dX11_sortOf_9 : decode cX11_sortOf 9 = .ok (.bipush 102, 2) := by decide +kernel
theorem dX11_sortOf_11 : decode cX11_sortOf 11 = .ok (.invokestatic 153, 3) := by decide +kernel
theorem dX11_sortOf_14 : decode cX11_sortOf 14 = .ok (.invokevirtual 213, 3) := by decide +kernel
theorem dX11_sortOf_17 : decode cX11_sortOf 17 = .ok (.ifCond .eq 5, 3) := by decide +kernel
theorem dX11_sortOf_20 : decode cX11_sortOf 20 = .ok (.iconst 0, 1) := by decide +kernel
theorem dX11_sortOf_21 : decode cX11_sortOf 21 = .ok (.ireturn, 1) := by decide +kernel
theorem dX11_sortOf_22 : decode cX11_sortOf 22 = .ok (.aload_n 0, 1) := by decide +kernel
theorem dX11_sortOf_23 : decode cX11_sortOf 23 = .ok (.bipush 119, 2) := by decide +kernel
theorem dX11_sortOf_25 : decode cX11_sortOf 25 = .ok (.bipush 101, 2) := by decide +kernel
theorem dX11_sortOf_27 : decode cX11_sortOf 27 = .ok (.bipush 97, 2) := by decide +kernel
theorem dX11_sortOf_29 : decode cX11_sortOf 29 = .ok (.bipush 114, 2) := by decide +kernel
theorem dX11_sortOf_31 : decode cX11_sortOf 31 = .ok (.bipush 115, 2) := by decide +kernel
theorem dX11_sortOf_33 : decode cX11_sortOf 33 = .ok (.invokestatic 153, 3) := by decide +kernel
theorem dX11_sortOf_36 : decode cX11_sortOf 36 = .ok (.invokevirtual 213, 3) := by decide +kernel
theorem dX11_sortOf_39 : decode cX11_sortOf 39 = .ok (.ifCond .eq 5, 3) := by decide +kernel
theorem dX11_sortOf_42 : decode cX11_sortOf 42 = .ok (.iconst 1, 1) := by decide +kernel
theorem dX11_sortOf_43 : decode cX11_sortOf 43 = .ok (.ireturn, 1) := by decide +kernel
theorem dX11_sortOf_44 : decode cX11_sortOf 44 = .ok (.aload_n 0, 1) := by decide +kernel
theorem dX11_sortOf_45 : decode cX11_sortOf 45 = .ok (.bipush 110, 2) := by decide +kernel
theorem dX11_sortOf_47 : decode cX11_sortOf 47 = .ok (.bipush 111, 2) := by decide +kernel
theorem dX11_sortOf_49 : decode cX11_sortOf 49 = .ok (.bipush 116, 2) := by decide +kernel
theorem dX11_sortOf_51 : decode cX11_sortOf 51 = .ok (.bipush 105, 2) := by decide +kernel
theorem dX11_sortOf_53 : decode cX11_sortOf 53 = .ok (.invokestatic 149, 3) := by decide +kernel
theorem dX11_sortOf_56 : decode cX11_sortOf 56 = .ok (.bipush 99, 2) := by decide +kernel
theorem dX11_sortOf_58 : decode cX11_sortOf 58 = .ok (.bipush 101, 2) := by decide +kernel
theorem dX11_sortOf_60 : decode cX11_sortOf 60 = .ok (.bipush 115, 2) := by decide +kernel
theorem dX11_sortOf_62 : decode cX11_sortOf 62 = .ok (.invokestatic 145, 3) := by decide +kernel
theorem dX11_sortOf_65 : decode cX11_sortOf 65 = .ok (.invokevirtual 167, 3) := by decide +kernel
theorem dX11_sortOf_68 : decode cX11_sortOf 68 = .ok (.ifCond .eq 5, 3) := by decide +kernel
theorem dX11_sortOf_71 : decode cX11_sortOf 71 = .ok (.iconst 2, 1) := by decide +kernel
theorem dX11_sortOf_72 : decode cX11_sortOf 72 = .ok (.ireturn, 1) := by decide +kernel
theorem dX11_sortOf_73 : decode cX11_sortOf 73 = .ok (.aload_n 0, 1) := by decide +kernel
theorem dX11_sortOf_74 : decode cX11_sortOf 74 = .ok (.bipush 119, 2) := by decide +kernel
theorem dX11_sortOf_76 : decode cX11_sortOf 76 = .ok (.bipush 111, 2) := by decide +kernel
theorem dX11_sortOf_78 : decode cX11_sortOf 78 = .ok (.bipush 114, 2) := by decide +kernel
theorem dX11_sortOf_80 : decode cX11_sortOf 80 = .ok (.bipush 100, 2) := by decide +kernel
theorem dX11_sortOf_82 : decode cX11_sortOf 82 = .ok (.invokestatic 149, 3) := by decide +kernel
theorem dX11_sortOf_85 : decode cX11_sortOf 85 = .ok (.invokevirtual 213, 3) := by decide +kernel
theorem dX11_sortOf_88 : decode cX11_sortOf 88 = .ok (.ifCond .eq 5, 3) := by decide +kernel
theorem dX11_sortOf_91 : decode cX11_sortOf 91 = .ok (.iconst 3, 1) := by decide +kernel
theorem dX11_sortOf_92 : decode cX11_sortOf 92 = .ok (.ireturn, 1) := by decide +kernel
theorem dX11_sortOf_93 : decode cX11_sortOf 93 = .ok (.aload_n 0, 1) := by decide +kernel
theorem dX11_sortOf_94 : decode cX11_sortOf 94 = .ok (.bipush 115, 2) := by decide +kernel
theorem dX11_sortOf_96 : decode cX11_sortOf 96 = .ok (.bipush 97, 2) := by decide +kernel
theorem dX11_sortOf_98 : decode cX11_sortOf 98 = .ok (.bipush 121, 2) := by decide +kernel
theorem dX11_sortOf_100 : decode cX11_sortOf 100 = .ok (.invokestatic 145, 3) := by decide +kernel
theorem dX11_sortOf_103 : decode cX11_sortOf 103 = .ok (.invokevirtual 213, 3) := by decide +kernel
theorem dX11_sortOf_106 : decode cX11_sortOf 106 = .ok (.ifCond .eq 5, 3) := by decide +kernel
theorem dX11_sortOf_109 : decode cX11_sortOf 109 = .ok (.iconst 4, 1) := by decide +kernel
theorem dX11_sortOf_110 : decode cX11_sortOf 110 = .ok (.ireturn, 1) := by decide +kernel
theorem dX11_sortOf_111 : decode cX11_sortOf 111 = .ok (.aload_n 0, 1) := by decide +kernel
theorem dX11_sortOf_112 : decode cX11_sortOf 112 = .ok (.bipush 109, 2) := by decide +kernel
theorem dX11_sortOf_114 : decode cX11_sortOf 114 = .ok (.bipush 97, 2) := by decide +kernel
theorem dX11_sortOf_116 : decode cX11_sortOf 116 = .ok (.bipush 107, 2) := by decide +kernel
theorem dX11_sortOf_118 : decode cX11_sortOf 118 = .ok (.bipush 101, 2) := by decide +kernel
theorem dX11_sortOf_120 : decode cX11_sortOf 120 = .ok (.invokestatic 149, 3) := by decide +kernel
theorem dX11_sortOf_123 : decode cX11_sortOf 123 = .ok (.invokevirtual 213, 3) := by decide +kernel
theorem dX11_sortOf_126 : decode cX11_sortOf 126 = .ok (.ifCond .eq 5, 3) := by decide +kernel
theorem dX11_sortOf_129 : decode cX11_sortOf 129 = .ok (.iconst 5, 1) := by decide +kernel
theorem dX11_sortOf_130 : decode cX11_sortOf 130 = .ok (.ireturn, 1) := by decide +kernel
theorem dX11_sortOf_131 : decode cX11_sortOf 131 = .ok (.aload_n 0, 1) := by decide +kernel
theorem dX11_sortOf_132 : decode cX11_sortOf 132 = .ok (.bipush 108, 2) := by decide +kernel
theorem dX11_sortOf_134 : decode cX11_sortOf 134 = .ok (.bipush 111, 2) := by decide +kernel
theorem dX11_sortOf_136 : decode cX11_sortOf 136 = .ok (.bipush 115, 2) := by decide +kernel
theorem dX11_sortOf_138 : decode cX11_sortOf 138 = .ok (.bipush 101, 2) := by decide +kernel
theorem dX11_sortOf_140 : decode cX11_sortOf 140 = .ok (.invokestatic 149, 3) := by decide +kernel
theorem dX11_sortOf_143 : decode cX11_sortOf 143 = .ok (.invokevirtual 213, 3) := by decide +kernel
theorem dX11_sortOf_146 : decode cX11_sortOf 146 = .ok (.ifCond .eq 6, 3) := by decide +kernel
theorem dX11_sortOf_149 : decode cX11_sortOf 149 = .ok (.bipush 6, 2) := by decide +kernel
theorem dX11_sortOf_151 : decode cX11_sortOf 151 = .ok (.ireturn, 1) := by decide +kernel
theorem dX11_sortOf_152 : decode cX11_sortOf 152 = .ok (.aload_n 0, 1) := by decide +kernel
theorem dX11_sortOf_153 : decode cX11_sortOf 153 = .ok (.bipush 116, 2) := by decide +kernel
theorem dX11_sortOf_155 : decode cX11_sortOf 155 = .ok (.bipush 117, 2) := by decide +kernel
theorem dX11_sortOf_157 : decode cX11_sortOf 157 = .ok (.bipush 114, 2) := by decide +kernel
theorem dX11_sortOf_159 : decode cX11_sortOf 159 = .ok (.bipush 110, 2) := by decide +kernel
theorem dX11_sortOf_161 : decode cX11_sortOf 161 = .ok (.invokestatic 149, 3) := by decide +kernel
theorem dX11_sortOf_164 : decode cX11_sortOf 164 = .ok (.invokevirtual 213, 3) := by decide +kernel
theorem dX11_sortOf_167 : decode cX11_sortOf 167 = .ok (.ifCond .eq 6, 3) := by decide +kernel
theorem dX11_sortOf_170 : decode cX11_sortOf 170 = .ok (.bipush 7, 2) := by decide +kernel
theorem dX11_sortOf_172 : decode cX11_sortOf 172 = .ok (.ireturn, 1) := by decide +kernel
theorem dX11_sortOf_173 : decode cX11_sortOf 173 = .ok (.aload_n 0, 1) := by decide +kernel
theorem dX11_sortOf_174 : decode cX11_sortOf 174 = .ok (.bipush 119, 2) := by decide +kernel
theorem dX11_sortOf_176 : decode cX11_sortOf 176 = .ok (.bipush 114, 2) := by decide +kernel
theorem dX11_sortOf_178 : decode cX11_sortOf 178 = .ok (.bipush 105, 2) := by decide +kernel
theorem dX11_sortOf_180 : decode cX11_sortOf 180 = .ok (.bipush 116, 2) := by decide +kernel
theorem dX11_sortOf_182 : decode cX11_sortOf 182 = .ok (.bipush 101, 2) := by decide +kernel
theorem dX11_sortOf_184 : decode cX11_sortOf 184 = .ok (.invokestatic 153, 3) := by decide +kernel
theorem dX11_sortOf_187 : decode cX11_sortOf 187 = .ok (.invokevirtual 213, 3) := by decide +kernel
theorem dX11_sortOf_190 : decode cX11_sortOf 190 = .ok (.ifCond .eq 8, 3) := by decide +kernel
theorem dX11_sortOf_193 : decode cX11_sortOf 193 = .ok (.bipush 8, 2) := by decide +kernel
theorem dX11_sortOf_195 : decode cX11_sortOf 195 = .ok (.goto 27, 3) := by decide +kernel
theorem dX11_sortOf_198 : decode cX11_sortOf 198 = .ok (.aload_n 0, 1) := by decide +kernel
theorem dX11_sortOf_199 : decode cX11_sortOf 199 = .ok (.bipush 119, 2) := by decide +kernel
theorem dX11_sortOf_201 : decode cX11_sortOf 201 = .ok (.bipush 101, 2) := by decide +kernel
theorem dX11_sortOf_203 : decode cX11_sortOf 203 = .ok (.bipush 101, 2) := by decide +kernel
theorem dX11_sortOf_205 : decode cX11_sortOf 205 = .ok (.bipush 107, 2) := by decide +kernel
theorem dX11_sortOf_207 : decode cX11_sortOf 207 = .ok (.invokestatic 149, 3) := by decide +kernel
theorem dX11_sortOf_210 : decode cX11_sortOf 210 = .ok (.invokevirtual 213, 3) := by decide +kernel
theorem dX11_sortOf_213 : decode cX11_sortOf 213 = .ok (.ifCond .eq 8, 3) := by decide +kernel
theorem dX11_sortOf_216 : decode cX11_sortOf 216 = .ok (.bipush 9, 2) := by decide +kernel
theorem dX11_sortOf_218 : decode cX11_sortOf 218 = .ok (.goto 4, 3) := by decide +kernel
theorem dX11_sortOf_221 : decode cX11_sortOf 221 = .ok (.iconst (-1), 1) := by decide +kernel
theorem dX11_sortOf_222 : decode cX11_sortOf 222 = .ok (.ireturn, 1) := by decide +kernel
theorem gX11_sortOf_0 {d : Nat} {M : ev_Mem} {Q : Option Value → ev_Mem → Prop} (h : ((((isw M (w5f (115 : Int32) (116 : Int32) (105 : Int32) (102 : Int32) (102 : Int32))) = false) → ((((isw M (w5f (119 : Int32) (101 : Int32) (97 : Int32) (114 : Int32) (115 : Int32))) = false) → ((ilOK M) ∧ ((((isl M (w4f (110 : Int32) (111 : Int32) (116 : Int32) (105 : Int32)) (w3f (99 : Int32) (101 : Int32) (115 : Int32))) = false) → ((((isw M (w4f (119 : Int32) (111 : Int32) (114 : Int32) (100 : Int32))) = false) → ((((isw M (w3f (115 : Int32) (97 : Int32) (121 : Int32))) = false) → ((((isw M (w4f (109 : Int32) (97 : Int32) (107 : Int32) (101 : Int32))) = false) → ((((isw M (w4f (108 : Int32) (111 : Int32) (115 : Int32) (101 : Int32))) = false) → ((((isw M (w4f (116 : Int32) (117 : Int32) (114 : Int32) (110 : Int32))) = false) → ((((isw M (w5f (119 : Int32) (114 : Int32) (105 : Int32) (116 : Int32) (101 : Int32))) = false) → ((((isw M (w4f (119 : Int32) (101 : Int32) (101 : Int32) (107 : Int32))) = false) → (Q (some (.int (-1))) M)) ∧ (((isw M (w4f (119 : Int32) (101 : Int32) (101 : Int32) (107 : Int32))) = true) → (Q (some (.int 9)) M)))) ∧ (((isw M (w5f (119 : Int32) (114 : Int32) (105 : Int32) (116 : Int32) (101 : Int32))) = true) → (Q (some (.int 8)) M)))) ∧ (((isw M (w4f (116 : Int32) (117 : Int32) (114 : Int32) (110 : Int32))) = true) → (Q (some (.int 7)) M)))) ∧ (((isw M (w4f (108 : Int32) (111 : Int32) (115 : Int32) (101 : Int32))) = true) → (Q (some (.int 6)) M)))) ∧ (((isw M (w4f (109 : Int32) (97 : Int32) (107 : Int32) (101 : Int32))) = true) → (Q (some (.int 5)) M)))) ∧ (((isw M (w3f (115 : Int32) (97 : Int32) (121 : Int32))) = true) → (Q (some (.int 4)) M)))) ∧ (((isw M (w4f (119 : Int32) (111 : Int32) (114 : Int32) (100 : Int32))) = true) → (Q (some (.int 3)) M)))) ∧ (((isl M (w4f (110 : Int32) (111 : Int32) (116 : Int32) (105 : Int32)) (w3f (99 : Int32) (101 : Int32) (115 : Int32))) = true) → (Q (some (.int 2)) M))))) ∧ (((isw M (w5f (119 : Int32) (101 : Int32) (97 : Int32) (114 : Int32) (115 : Int32))) = true) → (Q (some (.int 1)) M)))) ∧ (((isw M (w5f (115 : Int32) (116 : Int32) (105 : Int32) (102 : Int32) (102 : Int32))) = true) → (Q (some (.int 0)) M)))) : Ev LM (d + 4) mX11_sortOf 0 [some (.ref 0)] [] M Q := by
  refine ev_aload_n dX11_sortOf_0 rfl ?_
  refine ev_bipush (v := 115) dX11_sortOf_1 (by decide) ?_
  refine ev_bipush (v := 116) dX11_sortOf_3 (by decide) ?_
  refine ev_bipush (v := 105) dX11_sortOf_5 (by decide) ?_
  refine ev_bipush (v := 102) dX11_sortOf_7 (by decide) ?_
  refine ev_bipush (v := 102) dX11_sortOf_9 (by decide) ?_
  refine ev_callS [.int 115, .int 116, .int 105, .int 102, .int 102] dX11_sortOf_11 ml_WithoutEModel_153 rfl (Nat.le_of_ble_eq_true rfl) (kX11_w5) ?_
  rintro zr zM ⟨q1, q2⟩
  rw [q1, q2]
  show Ev LM (d + 4) mX11_sortOf 14 [some (.ref 0)] [(.long (w5f (115 : Int32) (116 : Int32) (105 : Int32) (102 : Int32) (102 : Int32))), (.ref 0)] M Q
  refine ev_callV [.long (w5f (115 : Int32) (116 : Int32) (105 : Int32) (102 : Int32) (102 : Int32))] dX11_sortOf_14 ml_WithoutEModel_213 lm_0 rfl rfl (Nat.le_of_ble_eq_true rfl) (kX11_isWord) ?_
  rintro zr zM ⟨q1, q2⟩
  rw [q1, q2]
  show Ev LM (d + 4) mX11_sortOf 17 [some (.ref 0)] [(.int (bi (isw M (w5f (115 : Int32) (116 : Int32) (105 : Int32) (102 : Int32) (102 : Int32)))))] M Q
  refine ev_if_eq (tgt := 22) dX11_sortOf_17 (by decide) (fun c => ?_) (fun c => ?_)
  · replace h := h.1 ((bi_0 _).mp c)
    refine ev_aload_n dX11_sortOf_22 rfl ?_
    refine ev_bipush (v := 119) dX11_sortOf_23 (by decide) ?_
    refine ev_bipush (v := 101) dX11_sortOf_25 (by decide) ?_
    refine ev_bipush (v := 97) dX11_sortOf_27 (by decide) ?_
    refine ev_bipush (v := 114) dX11_sortOf_29 (by decide) ?_
    refine ev_bipush (v := 115) dX11_sortOf_31 (by decide) ?_
    refine ev_callS [.int 119, .int 101, .int 97, .int 114, .int 115] dX11_sortOf_33 ml_WithoutEModel_153 rfl (Nat.le_of_ble_eq_true rfl) (kX11_w5) ?_
    rintro zr zM ⟨q1, q2⟩
    rw [q1, q2]
    show Ev LM (d + 4) mX11_sortOf 36 [some (.ref 0)] [(.long (w5f (119 : Int32) (101 : Int32) (97 : Int32) (114 : Int32) (115 : Int32))), (.ref 0)] M Q
    refine ev_callV [.long (w5f (119 : Int32) (101 : Int32) (97 : Int32) (114 : Int32) (115 : Int32))] dX11_sortOf_36 ml_WithoutEModel_213 lm_0 rfl rfl (Nat.le_of_ble_eq_true rfl) (kX11_isWord) ?_
    rintro zr zM ⟨q1, q2⟩
    rw [q1, q2]
    show Ev LM (d + 4) mX11_sortOf 39 [some (.ref 0)] [(.int (bi (isw M (w5f (119 : Int32) (101 : Int32) (97 : Int32) (114 : Int32) (115 : Int32)))))] M Q
    refine ev_if_eq (tgt := 44) dX11_sortOf_39 (by decide) (fun c => ?_) (fun c => ?_)
    · replace h := h.1 ((bi_0 _).mp c)
      refine ev_aload_n dX11_sortOf_44 rfl ?_
      refine ev_bipush (v := 110) dX11_sortOf_45 (by decide) ?_
      refine ev_bipush (v := 111) dX11_sortOf_47 (by decide) ?_
      refine ev_bipush (v := 116) dX11_sortOf_49 (by decide) ?_
      refine ev_bipush (v := 105) dX11_sortOf_51 (by decide) ?_
      refine ev_callS [.int 110, .int 111, .int 116, .int 105] dX11_sortOf_53 ml_WithoutEModel_149 rfl (Nat.le_of_ble_eq_true rfl) (kX11_w4) ?_
      rintro zr zM ⟨q1, q2⟩
      rw [q1, q2]
      show Ev LM (d + 4) mX11_sortOf 56 [some (.ref 0)] [(.long (w4f (110 : Int32) (111 : Int32) (116 : Int32) (105 : Int32))), (.ref 0)] M Q
      refine ev_bipush (v := 99) dX11_sortOf_56 (by decide) ?_
      refine ev_bipush (v := 101) dX11_sortOf_58 (by decide) ?_
      refine ev_bipush (v := 115) dX11_sortOf_60 (by decide) ?_
      refine ev_callS [.int 99, .int 101, .int 115] dX11_sortOf_62 ml_WithoutEModel_145 rfl (Nat.le_of_ble_eq_true rfl) (kX11_w3) ?_
      rintro zr zM ⟨q1, q2⟩
      rw [q1, q2]
      show Ev LM (d + 4) mX11_sortOf 65 [some (.ref 0)] [(.long (w3f (99 : Int32) (101 : Int32) (115 : Int32))), (.long (w4f (110 : Int32) (111 : Int32) (116 : Int32) (105 : Int32))), (.ref 0)] M Q
      obtain ⟨p1, h⟩ := h
      refine ev_callV [.long (w4f (110 : Int32) (111 : Int32) (116 : Int32) (105 : Int32)), .long (w3f (99 : Int32) (101 : Int32) (115 : Int32))] dX11_sortOf_65 ml_WithoutEModel_167 lm_0 rfl rfl (Nat.le_of_ble_eq_true rfl) (kX11_isLong p1) ?_
      rintro zr zM ⟨q1, q2⟩
      rw [q1, q2]
      show Ev LM (d + 4) mX11_sortOf 68 [some (.ref 0)] [(.int (bi (isl M (w4f (110 : Int32) (111 : Int32) (116 : Int32) (105 : Int32)) (w3f (99 : Int32) (101 : Int32) (115 : Int32)))))] M Q
      refine ev_if_eq (tgt := 73) dX11_sortOf_68 (by decide) (fun c => ?_) (fun c => ?_)
      · replace h := h.1 ((bi_0 _).mp c)
        refine ev_aload_n dX11_sortOf_73 rfl ?_
        refine ev_bipush (v := 119) dX11_sortOf_74 (by decide) ?_
        refine ev_bipush (v := 111) dX11_sortOf_76 (by decide) ?_
        refine ev_bipush (v := 114) dX11_sortOf_78 (by decide) ?_
        refine ev_bipush (v := 100) dX11_sortOf_80 (by decide) ?_
        refine ev_callS [.int 119, .int 111, .int 114, .int 100] dX11_sortOf_82 ml_WithoutEModel_149 rfl (Nat.le_of_ble_eq_true rfl) (kX11_w4) ?_
        rintro zr zM ⟨q1, q2⟩
        rw [q1, q2]
        show Ev LM (d + 4) mX11_sortOf 85 [some (.ref 0)] [(.long (w4f (119 : Int32) (111 : Int32) (114 : Int32) (100 : Int32))), (.ref 0)] M Q
        refine ev_callV [.long (w4f (119 : Int32) (111 : Int32) (114 : Int32) (100 : Int32))] dX11_sortOf_85 ml_WithoutEModel_213 lm_0 rfl rfl (Nat.le_of_ble_eq_true rfl) (kX11_isWord) ?_
        rintro zr zM ⟨q1, q2⟩
        rw [q1, q2]
        show Ev LM (d + 4) mX11_sortOf 88 [some (.ref 0)] [(.int (bi (isw M (w4f (119 : Int32) (111 : Int32) (114 : Int32) (100 : Int32)))))] M Q
        refine ev_if_eq (tgt := 93) dX11_sortOf_88 (by decide) (fun c => ?_) (fun c => ?_)
        · replace h := h.1 ((bi_0 _).mp c)
          refine ev_aload_n dX11_sortOf_93 rfl ?_
          refine ev_bipush (v := 115) dX11_sortOf_94 (by decide) ?_
          refine ev_bipush (v := 97) dX11_sortOf_96 (by decide) ?_
          refine ev_bipush (v := 121) dX11_sortOf_98 (by decide) ?_
          refine ev_callS [.int 115, .int 97, .int 121] dX11_sortOf_100 ml_WithoutEModel_145 rfl (Nat.le_of_ble_eq_true rfl) (kX11_w3) ?_
          rintro zr zM ⟨q1, q2⟩
          rw [q1, q2]
          show Ev LM (d + 4) mX11_sortOf 103 [some (.ref 0)] [(.long (w3f (115 : Int32) (97 : Int32) (121 : Int32))), (.ref 0)] M Q
          refine ev_callV [.long (w3f (115 : Int32) (97 : Int32) (121 : Int32))] dX11_sortOf_103 ml_WithoutEModel_213 lm_0 rfl rfl (Nat.le_of_ble_eq_true rfl) (kX11_isWord) ?_
          rintro zr zM ⟨q1, q2⟩
          rw [q1, q2]
          show Ev LM (d + 4) mX11_sortOf 106 [some (.ref 0)] [(.int (bi (isw M (w3f (115 : Int32) (97 : Int32) (121 : Int32)))))] M Q
          refine ev_if_eq (tgt := 111) dX11_sortOf_106 (by decide) (fun c => ?_) (fun c => ?_)
          · replace h := h.1 ((bi_0 _).mp c)
            refine ev_aload_n dX11_sortOf_111 rfl ?_
            refine ev_bipush (v := 109) dX11_sortOf_112 (by decide) ?_
            refine ev_bipush (v := 97) dX11_sortOf_114 (by decide) ?_
            refine ev_bipush (v := 107) dX11_sortOf_116 (by decide) ?_
            refine ev_bipush (v := 101) dX11_sortOf_118 (by decide) ?_
            refine ev_callS [.int 109, .int 97, .int 107, .int 101] dX11_sortOf_120 ml_WithoutEModel_149 rfl (Nat.le_of_ble_eq_true rfl) (kX11_w4) ?_
            rintro zr zM ⟨q1, q2⟩
            rw [q1, q2]
            show Ev LM (d + 4) mX11_sortOf 123 [some (.ref 0)] [(.long (w4f (109 : Int32) (97 : Int32) (107 : Int32) (101 : Int32))), (.ref 0)] M Q
            refine ev_callV [.long (w4f (109 : Int32) (97 : Int32) (107 : Int32) (101 : Int32))] dX11_sortOf_123 ml_WithoutEModel_213 lm_0 rfl rfl (Nat.le_of_ble_eq_true rfl) (kX11_isWord) ?_
            rintro zr zM ⟨q1, q2⟩
            rw [q1, q2]
            show Ev LM (d + 4) mX11_sortOf 126 [some (.ref 0)] [(.int (bi (isw M (w4f (109 : Int32) (97 : Int32) (107 : Int32) (101 : Int32)))))] M Q
            refine ev_if_eq (tgt := 131) dX11_sortOf_126 (by decide) (fun c => ?_) (fun c => ?_)
            · replace h := h.1 ((bi_0 _).mp c)
              refine ev_aload_n dX11_sortOf_131 rfl ?_
              refine ev_bipush (v := 108) dX11_sortOf_132 (by decide) ?_
              refine ev_bipush (v := 111) dX11_sortOf_134 (by decide) ?_
              refine ev_bipush (v := 115) dX11_sortOf_136 (by decide) ?_
              refine ev_bipush (v := 101) dX11_sortOf_138 (by decide) ?_
              refine ev_callS [.int 108, .int 111, .int 115, .int 101] dX11_sortOf_140 ml_WithoutEModel_149 rfl (Nat.le_of_ble_eq_true rfl) (kX11_w4) ?_
              rintro zr zM ⟨q1, q2⟩
              rw [q1, q2]
              show Ev LM (d + 4) mX11_sortOf 143 [some (.ref 0)] [(.long (w4f (108 : Int32) (111 : Int32) (115 : Int32) (101 : Int32))), (.ref 0)] M Q
              refine ev_callV [.long (w4f (108 : Int32) (111 : Int32) (115 : Int32) (101 : Int32))] dX11_sortOf_143 ml_WithoutEModel_213 lm_0 rfl rfl (Nat.le_of_ble_eq_true rfl) (kX11_isWord) ?_
              rintro zr zM ⟨q1, q2⟩
              rw [q1, q2]
              show Ev LM (d + 4) mX11_sortOf 146 [some (.ref 0)] [(.int (bi (isw M (w4f (108 : Int32) (111 : Int32) (115 : Int32) (101 : Int32)))))] M Q
              refine ev_if_eq (tgt := 152) dX11_sortOf_146 (by decide) (fun c => ?_) (fun c => ?_)
              · replace h := h.1 ((bi_0 _).mp c)
                refine ev_aload_n dX11_sortOf_152 rfl ?_
                refine ev_bipush (v := 116) dX11_sortOf_153 (by decide) ?_
                refine ev_bipush (v := 117) dX11_sortOf_155 (by decide) ?_
                refine ev_bipush (v := 114) dX11_sortOf_157 (by decide) ?_
                refine ev_bipush (v := 110) dX11_sortOf_159 (by decide) ?_
                refine ev_callS [.int 116, .int 117, .int 114, .int 110] dX11_sortOf_161 ml_WithoutEModel_149 rfl (Nat.le_of_ble_eq_true rfl) (kX11_w4) ?_
                rintro zr zM ⟨q1, q2⟩
                rw [q1, q2]
                show Ev LM (d + 4) mX11_sortOf 164 [some (.ref 0)] [(.long (w4f (116 : Int32) (117 : Int32) (114 : Int32) (110 : Int32))), (.ref 0)] M Q
                refine ev_callV [.long (w4f (116 : Int32) (117 : Int32) (114 : Int32) (110 : Int32))] dX11_sortOf_164 ml_WithoutEModel_213 lm_0 rfl rfl (Nat.le_of_ble_eq_true rfl) (kX11_isWord) ?_
                rintro zr zM ⟨q1, q2⟩
                rw [q1, q2]
                show Ev LM (d + 4) mX11_sortOf 167 [some (.ref 0)] [(.int (bi (isw M (w4f (116 : Int32) (117 : Int32) (114 : Int32) (110 : Int32)))))] M Q
                refine ev_if_eq (tgt := 173) dX11_sortOf_167 (by decide) (fun c => ?_) (fun c => ?_)
                · replace h := h.1 ((bi_0 _).mp c)
                  refine ev_aload_n dX11_sortOf_173 rfl ?_
                  refine ev_bipush (v := 119) dX11_sortOf_174 (by decide) ?_
                  refine ev_bipush (v := 114) dX11_sortOf_176 (by decide) ?_
                  refine ev_bipush (v := 105) dX11_sortOf_178 (by decide) ?_
                  refine ev_bipush (v := 116) dX11_sortOf_180 (by decide) ?_
                  refine ev_bipush (v := 101) dX11_sortOf_182 (by decide) ?_
                  refine ev_callS [.int 119, .int 114, .int 105, .int 116, .int 101] dX11_sortOf_184 ml_WithoutEModel_153 rfl (Nat.le_of_ble_eq_true rfl) (kX11_w5) ?_
                  rintro zr zM ⟨q1, q2⟩
                  rw [q1, q2]
                  show Ev LM (d + 4) mX11_sortOf 187 [some (.ref 0)] [(.long (w5f (119 : Int32) (114 : Int32) (105 : Int32) (116 : Int32) (101 : Int32))), (.ref 0)] M Q
                  refine ev_callV [.long (w5f (119 : Int32) (114 : Int32) (105 : Int32) (116 : Int32) (101 : Int32))] dX11_sortOf_187 ml_WithoutEModel_213 lm_0 rfl rfl (Nat.le_of_ble_eq_true rfl) (kX11_isWord) ?_
                  rintro zr zM ⟨q1, q2⟩
                  rw [q1, q2]
                  show Ev LM (d + 4) mX11_sortOf 190 [some (.ref 0)] [(.int (bi (isw M (w5f (119 : Int32) (114 : Int32) (105 : Int32) (116 : Int32) (101 : Int32)))))] M Q
                  refine ev_if_eq (tgt := 198) dX11_sortOf_190 (by decide) (fun c => ?_) (fun c => ?_)
                  · replace h := h.1 ((bi_0 _).mp c)
                    refine ev_aload_n dX11_sortOf_198 rfl ?_
                    refine ev_bipush (v := 119) dX11_sortOf_199 (by decide) ?_
                    refine ev_bipush (v := 101) dX11_sortOf_201 (by decide) ?_
                    refine ev_bipush (v := 101) dX11_sortOf_203 (by decide) ?_
                    refine ev_bipush (v := 107) dX11_sortOf_205 (by decide) ?_
                    refine ev_callS [.int 119, .int 101, .int 101, .int 107] dX11_sortOf_207 ml_WithoutEModel_149 rfl (Nat.le_of_ble_eq_true rfl) (kX11_w4) ?_
                    rintro zr zM ⟨q1, q2⟩
                    rw [q1, q2]
                    show Ev LM (d + 4) mX11_sortOf 210 [some (.ref 0)] [(.long (w4f (119 : Int32) (101 : Int32) (101 : Int32) (107 : Int32))), (.ref 0)] M Q
                    refine ev_callV [.long (w4f (119 : Int32) (101 : Int32) (101 : Int32) (107 : Int32))] dX11_sortOf_210 ml_WithoutEModel_213 lm_0 rfl rfl (Nat.le_of_ble_eq_true rfl) (kX11_isWord) ?_
                    rintro zr zM ⟨q1, q2⟩
                    rw [q1, q2]
                    show Ev LM (d + 4) mX11_sortOf 213 [some (.ref 0)] [(.int (bi (isw M (w4f (119 : Int32) (101 : Int32) (101 : Int32) (107 : Int32)))))] M Q
                    refine ev_if_eq (tgt := 221) dX11_sortOf_213 (by decide) (fun c => ?_) (fun c => ?_)
                    · replace h := h.1 ((bi_0 _).mp c)
                      refine ev_iconst (v := -1) dX11_sortOf_221 (by decide) ?_
                      exact ev_iret dX11_sortOf_222 rfl h
                    · replace h := h.2 ((bi_n0 _).mp c)
                      refine ev_bipush (v := 9) dX11_sortOf_216 (by decide) ?_
                      refine ev_goto (tgt := 222) dX11_sortOf_218 (by decide) ?_
                      exact ev_iret dX11_sortOf_222 rfl h
                  · replace h := h.2 ((bi_n0 _).mp c)
                    refine ev_bipush (v := 8) dX11_sortOf_193 (by decide) ?_
                    refine ev_goto (tgt := 222) dX11_sortOf_195 (by decide) ?_
                    exact ev_iret dX11_sortOf_222 rfl h
                · replace h := h.2 ((bi_n0 _).mp c)
                  refine ev_bipush (v := 7) dX11_sortOf_170 (by decide) ?_
                  exact ev_iret dX11_sortOf_172 rfl h
              · replace h := h.2 ((bi_n0 _).mp c)
                refine ev_bipush (v := 6) dX11_sortOf_149 (by decide) ?_
                exact ev_iret dX11_sortOf_151 rfl h
            · replace h := h.2 ((bi_n0 _).mp c)
              refine ev_iconst (v := 5) dX11_sortOf_129 (by decide) ?_
              exact ev_iret dX11_sortOf_130 rfl h
          · replace h := h.2 ((bi_n0 _).mp c)
            refine ev_iconst (v := 4) dX11_sortOf_109 (by decide) ?_
            exact ev_iret dX11_sortOf_110 rfl h
        · replace h := h.2 ((bi_n0 _).mp c)
          refine ev_iconst (v := 3) dX11_sortOf_91 (by decide) ?_
          exact ev_iret dX11_sortOf_92 rfl h
      · replace h := h.2 ((bi_n0 _).mp c)
        refine ev_iconst (v := 2) dX11_sortOf_71 (by decide) ?_
        exact ev_iret dX11_sortOf_72 rfl h
    · replace h := h.2 ((bi_n0 _).mp c)
      refine ev_iconst (v := 1) dX11_sortOf_42 (by decide) ?_
      exact ev_iret dX11_sortOf_43 rfl h
  · replace h := h.2 ((bi_n0 _).mp c)
    refine ev_iconst (v := 0) dX11_sortOf_20 (by decide) ?_
    exact ev_iret dX11_sortOf_21 rfl h
