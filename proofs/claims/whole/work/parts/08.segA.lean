theorem dX10_isLetter_0 : decode cX10_isLetter 0 = .ok (.iload_n 0, 1) := by decide +kernel
theorem dX10_isLetter_1 : decode cX10_isLetter 1 = .ok (.ifCond .lt 13, 3) := by decide +kernel
theorem dX10_isLetter_4 : decode cX10_isLetter 4 = .ok (.iload_n 0, 1) := by decide +kernel
theorem dX10_isLetter_5 : decode cX10_isLetter 5 = .ok (.bipush 26, 2) := by decide +kernel
theorem dX10_isLetter_7 : decode cX10_isLetter 7 = .ok (.if_icmp .ge 7, 3) := by decide +kernel
theorem dX10_isLetter_10 : decode cX10_isLetter 10 = .ok (.iconst 1, 1) := by decide +kernel
theorem dX10_isLetter_11 : decode cX10_isLetter 11 = .ok (.goto 4, 3) := by decide +kernel
theorem dX10_isLetter_14 : decode cX10_isLetter 14 = .ok (.iconst 0, 1) := by decide +kernel
theorem dX10_isLetter_15 : decode cX10_isLetter 15 = .ok (.ireturn, 1) := by decide +kernel
theorem gX10_isLetter_0 {d : Nat} {M : ev_Mem} {Q : Option Value → ev_Mem → Prop} {x0 : Int32} (h : (((x0 < 0) → (Q (some (.int 0)) M)) ∧ ((¬ x0 < 0) → (((26 ≤ x0) → (Q (some (.int 0)) M)) ∧ ((¬ 26 ≤ x0) → (Q (some (.int 1)) M)))))) : Ev LX d mX10_isLetter 0 [some (.int x0)] [] M Q := by
  refine ev_iload_n dX10_isLetter_0 rfl ?_
  refine ev_if_lt (tgt := 14) dX10_isLetter_1 (by decide) (fun c => ?_) (fun c => ?_)
  · replace h := h.1 c
    refine ev_iconst (v := 0) dX10_isLetter_14 (by decide) ?_
    exact ev_zret dX10_isLetter_15 rfl (by decide) h
  · replace h := h.2 c
    refine ev_iload_n dX10_isLetter_4 rfl ?_
    refine ev_bipush (v := 26) dX10_isLetter_5 (by decide) ?_
    refine ev_icmp_ge (tgt := 14) dX10_isLetter_7 (by decide) (fun c => ?_) (fun c => ?_)
    · replace h := h.1 c
      refine ev_iconst (v := 0) dX10_isLetter_14 (by decide) ?_
      exact ev_zret dX10_isLetter_15 rfl (by decide) h
    · replace h := h.2 c
      refine ev_iconst (v := 1) dX10_isLetter_10 (by decide) ?_
      refine ev_goto (tgt := 15) dX10_isLetter_11 (by decide) ?_
      exact ev_zret dX10_isLetter_15 rfl (by decide) h
theorem dX10_isSense_0 : decode cX10_isSense 0 = .ok (.iload_n 0, 1) := by decide +kernel
theorem dX10_isSense_1 : decode cX10_isSense 1 = .ok (.ifCond .lt 13, 3) := by decide +kernel
theorem dX10_isSense_4 : decode cX10_isSense 4 = .ok (.iload_n 0, 1) := by decide +kernel
theorem dX10_isSense_5 : decode cX10_isSense 5 = .ok (.bipush 12, 2) := by decide +kernel
theorem dX10_isSense_7 : decode cX10_isSense 7 = .ok (.if_icmp .ge 7, 3) := by decide +kernel
theorem dX10_isSense_10 : decode cX10_isSense 10 = .ok (.iconst 1, 1) := by decide +kernel
theorem dX10_isSense_11 : decode cX10_isSense 11 = .ok (.goto 4, 3) := by decide +kernel
theorem dX10_isSense_14 : decode cX10_isSense 14 = .ok (.iconst 0, 1) := by decide +kernel
theorem dX10_isSense_15 : decode cX10_isSense 15 = .ok (.ireturn, 1) := by decide +kernel
theorem gX10_isSense_0 {d : Nat} {M : ev_Mem} {Q : Option Value → ev_Mem → Prop} {x0 : Int32} (h : (((x0 < 0) → (Q (some (.int 0)) M)) ∧ ((¬ x0 < 0) → (((12 ≤ x0) → (Q (some (.int 0)) M)) ∧ ((¬ 12 ≤ x0) → (Q (some (.int 1)) M)))))) : Ev LX d mX10_isSense 0 [some (.int x0)] [] M Q := by
  refine ev_iload_n dX10_isSense_0 rfl ?_
  refine ev_if_lt (tgt := 14) dX10_isSense_1 (by decide) (fun c => ?_) (fun c => ?_)
  · replace h := h.1 c
    refine ev_iconst (v := 0) dX10_isSense_14 (by decide) ?_
    exact ev_zret dX10_isSense_15 rfl (by decide) h
  · replace h := h.2 c
    refine ev_iload_n dX10_isSense_4 rfl ?_
    refine ev_bipush (v := 12) dX10_isSense_5 (by decide) ?_
    refine ev_icmp_ge (tgt := 14) dX10_isSense_7 (by decide) (fun c => ?_) (fun c => ?_)
    · replace h := h.1 c
      refine ev_iconst (v := 0) dX10_isSense_14 (by decide) ?_
      exact ev_zret dX10_isSense_15 rfl (by decide) h
    · replace h := h.2 c
      refine ev_iconst (v := 1) dX10_isSense_10 (by decide) ?_
      refine ev_goto (tgt := 15) dX10_isSense_11 (by decide) ?_
      exact ev_zret dX10_isSense_15 rfl (by decide) h
theorem dX10_has_0 : decode cX10_has 0 = .ok (.iload_n 0, 1) := by decide +kernel
theorem dX10_has_1 : decode cX10_has 1 = .ok (.iload_n 1, 1) := by decide +kernel
theorem dX10_has_2 : decode cX10_has 2 = .ok (.ishr, 1) := by decide +kernel
theorem dX10_has_3 : decode cX10_has 3 = .ok (.iconst 1, 1) := by decide +kernel
theorem dX10_has_4 : decode cX10_has 4 = .ok (.iand, 1) := by decide +kernel
theorem dX10_has_5 : decode cX10_has 5 = .ok (.ifCond .eq 7, 3) := by decide +kernel
theorem dX10_has_8 : decode cX10_has 8 = .ok (.iconst 1, 1) := by decide +kernel
theorem dX10_has_9 : decode cX10_has 9 = .ok (.goto 4, 3) := by decide +kernel
theorem dX10_has_12 : decode cX10_has 12 = .ok (.iconst 0, 1) := by decide +kernel
theorem dX10_has_13 : decode cX10_has 13 = .ok (.ireturn, 1) := by decide +kernel
theorem gX10_has_0 {d : Nat} {M : ev_Mem} {Q : Option Value → ev_Mem → Prop} {x0 x1 : Int32} (h : (((((x0 >>> (x1 &&& 31)) &&& 1) = 0) → (Q (some (.int 0)) M)) ∧ ((¬ ((x0 >>> (x1 &&& 31)) &&& 1) = 0) → (Q (some (.int 1)) M)))) : Ev LX d mX10_has 0 [some (.int x0), some (.int x1)] [] M Q := by
  refine ev_iload_n dX10_has_0 rfl ?_
  refine ev_iload_n dX10_has_1 rfl ?_
  refine ev_ishr dX10_has_2 ?_
  refine ev_iconst (v := 1) dX10_has_3 (by decide) ?_
  refine ev_iand dX10_has_4 ?_
  refine ev_if_eq (tgt := 12) dX10_has_5 (by decide) (fun c => ?_) (fun c => ?_)
  · replace h := h.1 c
    refine ev_iconst (v := 0) dX10_has_12 (by decide) ?_
    exact ev_zret dX10_has_13 rfl (by decide) h
  · replace h := h.2 c
    refine ev_iconst (v := 1) dX10_has_8 (by decide) ?_
    refine ev_goto (tgt := 13) dX10_has_9 (by decide) ?_
    exact ev_zret dX10_has_13 rfl (by decide) h
theorem dX10_isSmall_0 : decode cX10_isSmall 0 = .ok (.iload_n 0, 1) := by decide +kernel
theorem dX10_isSmall_1 : decode cX10_isSmall 1 = .ok (.bipush 97, 2) := by decide +kernel
theorem dX10_isSmall_3 : decode cX10_isSmall 3 = .ok (.if_icmp .lt 13, 3) := by decide +kernel
theorem dX10_isSmall_6 : decode cX10_isSmall 6 = .ok (.iload_n 0, 1) := by decide +kernel
theorem dX10_isSmall_7 : decode cX10_isSmall 7 = .ok (.bipush 122, 2) := by decide +kernel
theorem dX10_isSmall_9 : decode cX10_isSmall 9 = .ok (.if_icmp .gt 7, 3) := by decide +kernel
theorem dX10_isSmall_12 : decode cX10_isSmall 12 = .ok (.iconst 1, 1) := by decide +kernel
theorem dX10_isSmall_13 : decode cX10_isSmall 13 = .ok (.goto 4, 3) := by decide +kernel
theorem dX10_isSmall_16 : decode cX10_isSmall 16 = .ok (.iconst 0, 1) := by decide +kernel
theorem dX10_isSmall_17 : decode cX10_isSmall 17 = .ok (.ireturn, 1) := by decide +kernel
theorem gX10_isSmall_0 {d : Nat} {M : ev_Mem} {Q : Option Value → ev_Mem → Prop} {x0 : Int32} (h : (((x0 < 97) → (Q (some (.int 0)) M)) ∧ ((¬ x0 < 97) → (((122 < x0) → (Q (some (.int 0)) M)) ∧ ((¬ 122 < x0) → (Q (some (.int 1)) M)))))) : Ev LX d mX10_isSmall 0 [some (.int x0)] [] M Q := by
  refine ev_iload_n dX10_isSmall_0 rfl ?_
  refine ev_bipush (v := 97) dX10_isSmall_1 (by decide) ?_
  refine ev_icmp_lt (tgt := 16) dX10_isSmall_3 (by decide) (fun c => ?_) (fun c => ?_)
  · replace h := h.1 c
    refine ev_iconst (v := 0) dX10_isSmall_16 (by decide) ?_
    exact ev_zret dX10_isSmall_17 rfl (by decide) h
  · replace h := h.2 c
    refine ev_iload_n dX10_isSmall_6 rfl ?_
    refine ev_bipush (v := 122) dX10_isSmall_7 (by decide) ?_
    refine ev_icmp_gt (tgt := 16) dX10_isSmall_9 (by decide) (fun c => ?_) (fun c => ?_)
    · replace h := h.1 c
      refine ev_iconst (v := 0) dX10_isSmall_16 (by decide) ?_
      exact ev_zret dX10_isSmall_17 rfl (by decide) h
    · replace h := h.2 c
      refine ev_iconst (v := 1) dX10_isSmall_12 (by decide) ?_
      refine ev_goto (tgt := 17) dX10_isSmall_13 (by decide) ?_
      exact ev_zret dX10_isSmall_17 rfl (by decide) h
theorem dJ9_min_7cf53_0 : decode cJ9_min_7cf53 0 = .ok (.iload_n 0, 1) := by decide +kernel
theorem dJ9_min_7cf53_1 : decode cJ9_min_7cf53 1 = .ok (.iload_n 1, 1) := by decide +kernel
theorem dJ9_min_7cf53_2 : decode cJ9_min_7cf53 2 = .ok (.if_icmp .gt 7, 3) := by decide +kernel
theorem dJ9_min_7cf53_5 : decode cJ9_min_7cf53 5 = .ok (.iload_n 0, 1) := by decide +kernel
theorem dJ9_min_7cf53_6 : decode cJ9_min_7cf53 6 = .ok (.goto 4, 3) := by decide +kernel
theorem dJ9_min_7cf53_9 : decode cJ9_min_7cf53 9 = .ok (.iload_n 1, 1) := by decide +kernel
theorem dJ9_min_7cf53_10 : decode cJ9_min_7cf53 10 = .ok (.ireturn, 1) := by decide +kernel
theorem gJ9_min_7cf53_0 {d : Nat} {M : ev_Mem} {Q : Option Value → ev_Mem → Prop} {x0 x1 : Int32} (h : (((x1 < x0) → (Q (some (.int x1)) M)) ∧ ((¬ x1 < x0) → (Q (some (.int x0)) M)))) : Ev LX d mJ9_min_7cf53 0 [some (.int x0), some (.int x1)] [] M Q := by
  refine ev_iload_n dJ9_min_7cf53_0 rfl ?_
  refine ev_iload_n dJ9_min_7cf53_1 rfl ?_
  refine ev_icmp_gt (tgt := 9) dJ9_min_7cf53_2 (by decide) (fun c => ?_) (fun c => ?_)
  · replace h := h.1 c
    refine ev_iload_n dJ9_min_7cf53_9 rfl ?_
    exact ev_iret dJ9_min_7cf53_10 rfl h
  · replace h := h.2 c
    refine ev_iload_n dJ9_min_7cf53_5 rfl ?_
    refine ev_goto (tgt := 10) dJ9_min_7cf53_6 (by decide) ?_
    exact ev_iret dJ9_min_7cf53_10 rfl h
theorem dJ9_max_f86c9_0 : decode cJ9_max_f86c9 0 = .ok (.lload_n 0, 1) := by decide +kernel
theorem dJ9_max_f86c9_1 : decode cJ9_max_f86c9 1 = .ok (.lload_n 2, 1) := by decide +kernel
theorem dJ9_max_f86c9_2 : decode cJ9_max_f86c9 2 = .ok (.lcmp, 1) := by decide +kernel
theorem dJ9_max_f86c9_3 : decode cJ9_max_f86c9 3 = .ok (.ifCond .lt 7, 3) := by decide +kernel
theorem dJ9_max_f86c9_6 : decode cJ9_max_f86c9 6 = .ok (.lload_n 0, 1) := by decide +kernel
theorem dJ9_max_f86c9_7 : decode cJ9_max_f86c9 7 = .ok (.goto 4, 3) := by decide +kernel
theorem dJ9_max_f86c9_10 : decode cJ9_max_f86c9 10 = .ok (.lload_n 2, 1) := by decide +kernel
theorem dJ9_max_f86c9_11 : decode cJ9_max_f86c9 11 = .ok (.lreturn, 1) := by decide +kernel
theorem gJ9_max_f86c9_0 {d : Nat} {M : ev_Mem} {Q : Option Value → ev_Mem → Prop} {x0 x2 : Int64} (h : ((((lg_cmp x0 x2) < 0) → (Q (some (.long x2)) M)) ∧ ((¬ (lg_cmp x0 x2) < 0) → (Q (some (.long x0)) M)))) : Ev LX d mJ9_max_f86c9 0 [some (.long x0), none, some (.long x2), none] [] M Q := by
  refine ev_lload_n dJ9_max_f86c9_0 rfl ?_
  refine ev_lload_n dJ9_max_f86c9_1 rfl ?_
  refine ev_lcmp dJ9_max_f86c9_2 ?_
  refine ev_if_lt (tgt := 10) dJ9_max_f86c9_3 (by decide) (fun c => ?_) (fun c => ?_)
  · replace h := h.1 c
    refine ev_lload_n dJ9_max_f86c9_10 rfl ?_
    exact ev_lret dJ9_max_f86c9_11 rfl h
  · replace h := h.2 c
    refine ev_lload_n dJ9_max_f86c9_6 rfl ?_
    refine ev_goto (tgt := 11) dJ9_max_f86c9_7 (by decide) ?_
    exact ev_lret dJ9_max_f86c9_11 rfl h
theorem dJ6_bitCount_0f7a4_0 : decode cJ6_bitCount_0f7a4 0 = .ok (.iload_n 0, 1) := by decide +kernel
theorem dJ6_bitCount_0f7a4_1 : decode cJ6_bitCount_0f7a4 1 = .ok (.iload_n 0, 1) := by decide +kernel
theorem dJ6_bitCount_0f7a4_2 : decode cJ6_bitCount_0f7a4 2 = .ok (.iconst 1, 1) := by decide +kernel
theorem dJ6_bitCount_0f7a4_3 : decode cJ6_bitCount_0f7a4 3 = .ok (.iushr, 1) := by decide +kernel
theorem dJ6_bitCount_0f7a4_4 : decode cJ6_bitCount_0f7a4 4 = .ok (.ldc_w 265, 3) := by decide +kernel
theorem dJ6_bitCount_0f7a4_7 : decode cJ6_bitCount_0f7a4 7 = .ok (.iand, 1) := by decide +kernel
theorem dJ6_bitCount_0f7a4_8 : decode cJ6_bitCount_0f7a4 8 = .ok (.isub, 1) := by decide +kernel
theorem dJ6_bitCount_0f7a4_9 : decode cJ6_bitCount_0f7a4 9 = .ok (.istore_n 0, 1) := by decide +kernel
theorem dJ6_bitCount_0f7a4_10 : decode cJ6_bitCount_0f7a4 10 = .ok (.iload_n 0, 1) := by decide +kernel
theorem dJ6_bitCount_0f7a4_11 : decode cJ6_bitCount_0f7a4 11 = .ok (.ldc_w 266, 3) := by decide +kernel
theorem dJ6_bitCount_0f7a4_14 : decode cJ6_bitCount_0f7a4 14 = .ok (.iand, 1) := by decide +kernel
theorem dJ6_bitCount_0f7a4_15 : decode cJ6_bitCount_0f7a4 15 = .ok (.iload_n 0, 1) := by decide +kernel
theorem dJ6_bitCount_0f7a4_16 : decode cJ6_bitCount_0f7a4 16 = .ok (.iconst 2, 1) := by decide +kernel
theorem dJ6_bitCount_0f7a4_17 : decode cJ6_bitCount_0f7a4 17 = .ok (.iushr, 1) := by decide +kernel
theorem dJ6_bitCount_0f7a4_18 : decode cJ6_bitCount_0f7a4 18 = .ok (.ldc_w 266, 3) := by decide +kernel
theorem dJ6_bitCount_0f7a4_21 : decode cJ6_bitCount_0f7a4 21 = .ok (.iand, 1) := by decide +kernel
theorem dJ6_bitCount_0f7a4_22 : decode cJ6_bitCount_0f7a4 22 = .ok (.iadd, 1) := by decide +kernel
theorem dJ6_bitCount_0f7a4_23 : decode cJ6_bitCount_0f7a4 23 = .ok (.istore_n 0, 1) := by decide +kernel
theorem dJ6_bitCount_0f7a4_24 : decode cJ6_bitCount_0f7a4 24 = .ok (.iload_n 0, 1) := by decide +kernel
theorem dJ6_bitCount_0f7a4_25 : decode cJ6_bitCount_0f7a4 25 = .ok (.iload_n 0, 1) := by decide +kernel
theorem dJ6_bitCount_0f7a4_26 : decode cJ6_bitCount_0f7a4 26 = .ok (.iconst 4, 1) := by decide +kernel
theorem dJ6_bitCount_0f7a4_27 : decode cJ6_bitCount_0f7a4 27 = .ok (.iushr, 1) := by decide +kernel
theorem dJ6_bitCount_0f7a4_28 : decode cJ6_bitCount_0f7a4 28 = .ok (.iadd, 1) := by decide +kernel
theorem dJ6_bitCount_0f7a4_29 : decode cJ6_bitCount_0f7a4 29 = .ok (.ldc_w 267, 3) := by decide +kernel
theorem dJ6_bitCount_0f7a4_32 : decode cJ6_bitCount_0f7a4 32 = .ok (.iand, 1) := by decide +kernel
theorem dJ6_bitCount_0f7a4_33 : decode cJ6_bitCount_0f7a4 33 = .ok (.istore_n 0, 1) := by decide +kernel
theorem dJ6_bitCount_0f7a4_34 : decode cJ6_bitCount_0f7a4 34 = .ok (.iload_n 0, 1) := by decide +kernel
theorem dJ6_bitCount_0f7a4_35 : decode cJ6_bitCount_0f7a4 35 = .ok (.iload_n 0, 1) := by decide +kernel
theorem dJ6_bitCount_0f7a4_36 : decode cJ6_bitCount_0f7a4 36 = .ok (.bipush 8, 2) := by decide +kernel
theorem dJ6_bitCount_0f7a4_38 : decode cJ6_bitCount_0f7a4 38 = .ok (.iushr, 1) := by decide +kernel
theorem dJ6_bitCount_0f7a4_39 : decode cJ6_bitCount_0f7a4 39 = .ok (.iadd, 1) := by decide +kernel
theorem dJ6_bitCount_0f7a4_40 : decode cJ6_bitCount_0f7a4 40 = .ok (.istore_n 0, 1) := by decide +kernel
theorem dJ6_bitCount_0f7a4_41 : decode cJ6_bitCount_0f7a4 41 = .ok (.iload_n 0, 1) := by decide +kernel
theorem dJ6_bitCount_0f7a4_42 : decode cJ6_bitCount_0f7a4 42 = .ok (.iload_n 0, 1) := by decide +kernel
theorem dJ6_bitCount_0f7a4_43 : decode cJ6_bitCount_0f7a4 43 = .ok (.bipush 16, 2) := by decide +kernel
theorem dJ6_bitCount_0f7a4_45 : decode cJ6_bitCount_0f7a4 45 = .ok (.iushr, 1) := by decide +kernel
theorem dJ6_bitCount_0f7a4_46 : decode cJ6_bitCount_0f7a4 46 = .ok (.iadd, 1) := by decide +kernel
theorem dJ6_bitCount_0f7a4_47 : decode cJ6_bitCount_0f7a4 47 = .ok (.istore_n 0, 1) := by decide +kernel
theorem dJ6_bitCount_0f7a4_48 : decode cJ6_bitCount_0f7a4 48 = .ok (.iload_n 0, 1) := by decide +kernel
theorem dJ6_bitCount_0f7a4_49 : decode cJ6_bitCount_0f7a4 49 = .ok (.bipush 63, 2) := by decide +kernel
theorem dJ6_bitCount_0f7a4_51 : decode cJ6_bitCount_0f7a4 51 = .ok (.iand, 1) := by decide +kernel
theorem dJ6_bitCount_0f7a4_52 : decode cJ6_bitCount_0f7a4 52 = .ok (.ireturn, 1) := by decide +kernel
theorem gJ6_bitCount_0f7a4_0 {d : Nat} {M : ev_Mem} {Q : Option Value → ev_Mem → Prop} {x0 : Int32} (h : (∀ v1 : Int32, v1 = x0 - (((x0.toUInt32 >>> (((1 : Int32)).toUInt32 &&& Int32.toUInt32 31)).toInt32) &&& 1431655765) → (∀ v2 : Int32, v2 = (v1 &&& 858993459) + (((v1.toUInt32 >>> (((2 : Int32)).toUInt32 &&& Int32.toUInt32 31)).toInt32) &&& 858993459) → (∀ v3 : Int32, v3 = (v2 + ((v2.toUInt32 >>> (((4 : Int32)).toUInt32 &&& Int32.toUInt32 31)).toInt32)) &&& 252645135 → (∀ v4 : Int32, v4 = v3 + ((v3.toUInt32 >>> (((8 : Int32)).toUInt32 &&& Int32.toUInt32 31)).toInt32) → (∀ v5 : Int32, v5 = v4 + ((v4.toUInt32 >>> (((16 : Int32)).toUInt32 &&& Int32.toUInt32 31)).toInt32) → (Q (some (.int (v5 &&& 63))) M))))))) : Ev LX d mJ6_bitCount_0f7a4 0 [some (.int x0)] [] M Q := by
  refine ev_iload_n dJ6_bitCount_0f7a4_0 rfl ?_
  refine ev_iload_n dJ6_bitCount_0f7a4_1 rfl ?_
  refine ev_iconst (v := 1) dJ6_bitCount_0f7a4_2 (by decide) ?_
  refine ev_iushr (v := (x0.toUInt32 >>> (((1 : Int32)).toUInt32 &&& Int32.toUInt32 31)).toInt32) dJ6_bitCount_0f7a4_3 rfl ?_
  refine ev_ldcw (v := 1431655765) dJ6_bitCount_0f7a4_4 cw_java_lang_Integer_265 ?_
  refine ev_iand dJ6_bitCount_0f7a4_7 ?_
  refine ev_isub dJ6_bitCount_0f7a4_8 ?_
  refine ev_istore_n (ls2 := [some (.int (x0 - (((x0.toUInt32 >>> (((1 : Int32)).toUInt32 &&& Int32.toUInt32 31)).toInt32) &&& 1431655765)))]) dJ6_bitCount_0f7a4_9 (Nat.le_of_ble_eq_true rfl) rfl ?_
  generalize ev1 : x0 - (((x0.toUInt32 >>> (((1 : Int32)).toUInt32 &&& Int32.toUInt32 31)).toInt32) &&& 1431655765) = v1
  replace h := h v1 ev1.symm
  refine ev_iload_n dJ6_bitCount_0f7a4_10 rfl ?_
  refine ev_ldcw (v := 858993459) dJ6_bitCount_0f7a4_11 cw_java_lang_Integer_266 ?_
  refine ev_iand dJ6_bitCount_0f7a4_14 ?_
  refine ev_iload_n dJ6_bitCount_0f7a4_15 rfl ?_
  refine ev_iconst (v := 2) dJ6_bitCount_0f7a4_16 (by decide) ?_
  refine ev_iushr (v := (v1.toUInt32 >>> (((2 : Int32)).toUInt32 &&& Int32.toUInt32 31)).toInt32) dJ6_bitCount_0f7a4_17 rfl ?_
  refine ev_ldcw (v := 858993459) dJ6_bitCount_0f7a4_18 cw_java_lang_Integer_266 ?_
  refine ev_iand dJ6_bitCount_0f7a4_21 ?_
  refine ev_iadd dJ6_bitCount_0f7a4_22 ?_
  refine ev_istore_n (ls2 := [some (.int ((v1 &&& 858993459) + (((v1.toUInt32 >>> (((2 : Int32)).toUInt32 &&& Int32.toUInt32 31)).toInt32) &&& 858993459)))]) dJ6_bitCount_0f7a4_23 (Nat.le_of_ble_eq_true rfl) rfl ?_
  generalize ev2 : (v1 &&& 858993459) + (((v1.toUInt32 >>> (((2 : Int32)).toUInt32 &&& Int32.toUInt32 31)).toInt32) &&& 858993459) = v2
  replace h := h v2 ev2.symm
  refine ev_iload_n dJ6_bitCount_0f7a4_24 rfl ?_
  refine ev_iload_n dJ6_bitCount_0f7a4_25 rfl ?_
  refine ev_iconst (v := 4) dJ6_bitCount_0f7a4_26 (by decide) ?_
  refine ev_iushr (v := (v2.toUInt32 >>> (((4 : Int32)).toUInt32 &&& Int32.toUInt32 31)).toInt32) dJ6_bitCount_0f7a4_27 rfl ?_
  refine ev_iadd dJ6_bitCount_0f7a4_28 ?_
  refine ev_ldcw (v := 252645135) dJ6_bitCount_0f7a4_29 cw_java_lang_Integer_267 ?_
  refine ev_iand dJ6_bitCount_0f7a4_32 ?_
  refine ev_istore_n (ls2 := [some (.int ((v2 + ((v2.toUInt32 >>> (((4 : Int32)).toUInt32 &&& Int32.toUInt32 31)).toInt32)) &&& 252645135))]) dJ6_bitCount_0f7a4_33 (Nat.le_of_ble_eq_true rfl) rfl ?_
  generalize ev3 : (v2 + ((v2.toUInt32 >>> (((4 : Int32)).toUInt32 &&& Int32.toUInt32 31)).toInt32)) &&& 252645135 = v3
  replace h := h v3 ev3.symm
  refine ev_iload_n dJ6_bitCount_0f7a4_34 rfl ?_
  refine ev_iload_n dJ6_bitCount_0f7a4_35 rfl ?_
  refine ev_bipush (v := 8) dJ6_bitCount_0f7a4_36 (by decide) ?_
  refine ev_iushr (v := (v3.toUInt32 >>> (((8 : Int32)).toUInt32 &&& Int32.toUInt32 31)).toInt32) dJ6_bitCount_0f7a4_38 rfl ?_
  refine ev_iadd dJ6_bitCount_0f7a4_39 ?_
  refine ev_istore_n (ls2 := [some (.int (v3 + ((v3.toUInt32 >>> (((8 : Int32)).toUInt32 &&& Int32.toUInt32 31)).toInt32)))]) dJ6_bitCount_0f7a4_40 (Nat.le_of_ble_eq_true rfl) rfl ?_
  generalize ev4 : v3 + ((v3.toUInt32 >>> (((8 : Int32)).toUInt32 &&& Int32.toUInt32 31)).toInt32) = v4
  replace h := h v4 ev4.symm
  refine ev_iload_n dJ6_bitCount_0f7a4_41 rfl ?_
  refine ev_iload_n dJ6_bitCount_0f7a4_42 rfl ?_
  refine ev_bipush (v := 16) dJ6_bitCount_0f7a4_43 (by decide) ?_
  refine ev_iushr (v := (v4.toUInt32 >>> (((16 : Int32)).toUInt32 &&& Int32.toUInt32 31)).toInt32) dJ6_bitCount_0f7a4_45 rfl ?_
  refine ev_iadd dJ6_bitCount_0f7a4_46 ?_
  refine ev_istore_n (ls2 := [some (.int (v4 + ((v4.toUInt32 >>> (((16 : Int32)).toUInt32 &&& Int32.toUInt32 31)).toInt32)))]) dJ6_bitCount_0f7a4_47 (Nat.le_of_ble_eq_true rfl) rfl ?_
  generalize ev5 : v4 + ((v4.toUInt32 >>> (((16 : Int32)).toUInt32 &&& Int32.toUInt32 31)).toInt32) = v5
  replace h := h v5 ev5.symm
  refine ev_iload_n dJ6_bitCount_0f7a4_48 rfl ?_
  refine ev_bipush (v := 63) dJ6_bitCount_0f7a4_49 (by decide) ?_
  refine ev_iand dJ6_bitCount_0f7a4_51 ?_
  exact ev_iret dJ6_bitCount_0f7a4_52 rfl h
theorem dJ7_fill_53178_0 : decode cJ7_fill_53178 0 = .ok (.iconst 0, 1) := by decide +kernel
theorem dJ7_fill_53178_1 : decode cJ7_fill_53178 1 = .ok (.istore_n 2, 1) := by decide +kernel
theorem dJ7_fill_53178_2 : decode cJ7_fill_53178 2 = .ok (.aload_n 0, 1) := by decide +kernel
theorem dJ7_fill_53178_3 : decode cJ7_fill_53178 3 = .ok (.arraylength, 1) := by decide +kernel
theorem dJ7_fill_53178_4 : decode cJ7_fill_53178 4 = .ok (.istore_n 3, 1) := by decide +kernel
theorem dJ7_fill_53178_5 : decode cJ7_fill_53178 5 = .ok (.iload_n 2, 1) := by decide +kernel
theorem dJ7_fill_53178_6 : decode cJ7_fill_53178 6 = .ok (.iload_n 3, 1) := by decide +kernel
theorem dJ7_fill_53178_7 : decode cJ7_fill_53178 7 = .ok (.if_icmp .ge 13, 3) := by decide +kernel
theorem dJ7_fill_53178_10 : decode cJ7_fill_53178 10 = .ok (.aload_n 0, 1) := by decide +kernel
theorem dJ7_fill_53178_11 : decode cJ7_fill_53178 11 = .ok (.iload_n 2, 1) := by decide +kernel
theorem dJ7_fill_53178_12 : decode cJ7_fill_53178 12 = .ok (.iload_n 1, 1) := by decide +kernel
theorem dJ7_fill_53178_13 : decode cJ7_fill_53178 13 = .ok (.iastore, 1) := by decide +kernel
theorem dJ7_fill_53178_14 : decode cJ7_fill_53178 14 = .ok (.iinc 2 1, 3) := by decide +kernel
theorem dJ7_fill_53178_17 : decode cJ7_fill_53178 17 = .ok (.goto (-12), 3) := by decide +kernel
theorem dJ7_fill_53178_20 : decode cJ7_fill_53178 20 = .ok (.return_, 1) := by decide +kernel
theorem gJ7_fill_53178_0 {d : Nat} {M : ev_Mem} {Q : Option Value → ev_Mem → Prop} {x1 : Int32} {k n : Nat} {kid : Nat → Nat} (hk : LX[k]? = some (.inl (0, n, 0, kid))) (h : (Ev LX d mJ7_fill_53178 5 [some (.ref k), some (.int x1), some (.int 0), some (.int (nI n))] [] M Q)) : Ev LX d mJ7_fill_53178 0 [some (.ref k), some (.int x1), none, none] [] M Q := by
  refine ev_iconst (v := 0) dJ7_fill_53178_0 (by decide) ?_
  refine ev_istore_n (ls2 := [some (.ref k), some (.int x1), some (.int 0), none]) dJ7_fill_53178_1 (Nat.le_of_ble_eq_true rfl) rfl ?_
  refine ev_aload_n dJ7_fill_53178_2 rfl ?_
  refine ev_alen (q := 0) (v := nI n) dJ7_fill_53178_3 hk (fun _ => rfl) rfl ?_
  refine ev_istore_n (ls2 := [some (.ref k), some (.int x1), some (.int 0), some (.int (nI n))]) dJ7_fill_53178_4 (Nat.le_of_ble_eq_true rfl) rfl ?_
  exact h
theorem gJ7_fill_53178_5 {d : Nat} {M : ev_Mem} {Q : Option Value → ev_Mem → Prop} {x1 x2 x3 : Int32} {k n : Nat} {kid : Nat → Nat} (hk : LX[k]? = some (.inl (0, n, 0, kid))) (h : (((x3 ≤ x2) → (Q none M)) ∧ ((¬ x3 ≤ x2) → (vp_in x2 n ∧ (∀ M1 : ev_Mem, M1 = ev_wr M k x2.toNatClampNeg x1 → (Ev LX d mJ7_fill_53178 5 [some (.ref k), some (.int x1), some (.int (x2 + 1)), some (.int x3)] [] M1 Q)))))) : Ev LX d mJ7_fill_53178 5 [some (.ref k), some (.int x1), some (.int x2), some (.int x3)] [] M Q := by
  refine ev_iload_n dJ7_fill_53178_5 rfl ?_
  refine ev_iload_n dJ7_fill_53178_6 rfl ?_
  refine ev_icmp_ge (tgt := 20) dJ7_fill_53178_7 (by decide) (fun c => ?_) (fun c => ?_)
  · replace h := h.1 c
    exact ev_vret dJ7_fill_53178_20 rfl h
  · replace h := h.2 c
    refine ev_aload_n dJ7_fill_53178_10 rfl ?_
    refine ev_iload_n dJ7_fill_53178_11 rfl ?_
    refine ev_iload_n dJ7_fill_53178_12 rfl ?_
    obtain ⟨c, h⟩ := h
    refine ev_iast dJ7_fill_53178_13 hk c ?_
    generalize eM1 : ev_wr M k x2.toNatClampNeg x1 = M1
    replace h := h M1 eM1.symm
    refine ev_iinc (v := x2 + 1) (ls2 := [some (.ref k), some (.int x1), some (.int (x2 + 1)), some (.int x3)]) dJ7_fill_53178_14 rfl rfl rfl ?_
    refine ev_goto (tgt := 5) dJ7_fill_53178_17 (by decide) ?_
    exact h
theorem dX0_hasWord_0 : decode cX0_hasWord 0 = .ok (.iload_n 1, 1) := by decide +kernel
theorem dX0_hasWord_1 : decode cX0_hasWord 1 = .ok (.ifCond .lt 21, 3) := by decide +kernel
theorem dX0_hasWord_4 : decode cX0_hasWord 4 = .ok (.iload_n 1, 1) := by decide +kernel
theorem dX0_hasWord_5 : decode cX0_hasWord 5 = .ok (.aload_n 0, 1) := by decide +kernel
theorem dX0_hasWord_6 : decode cX0_hasWord 6 = .ok (.getfield 35, 3) := by decide +kernel
theorem dX0_hasWord_9 : decode cX0_hasWord 9 = .ok (.if_icmp .ge 13, 3) := by decide +kernel
theorem dX0_hasWord_12 : decode cX0_hasWord 12 = .ok (.iload_n 1, 1) := by decide +kernel
theorem dX0_hasWord_13 : decode cX0_hasWord 13 = .ok (.bipush 24, 2) := by decide +kernel
theorem dX0_hasWord_15 : decode cX0_hasWord 15 = .ok (.if_icmp .ge 7, 3) := by decide +kernel
theorem dX0_hasWord_18 : decode cX0_hasWord 18 = .ok (.iconst 1, 1) := by decide +kernel
theorem dX0_hasWord_19 : decode cX0_hasWord 19 = .ok (.goto 4, 3) := by decide +kernel
theorem dX0_hasWord_22 : decode cX0_hasWord 22 = .ok (.iconst 0, 1) := by decide +kernel
theorem dX0_hasWord_23 : decode cX0_hasWord 23 = .ok (.ireturn, 1) := by decide +kernel
theorem gX0_hasWord_0 {d : Nat} {M : ev_Mem} {Q : Option Value → ev_Mem → Prop} {x1 : Int32} (h : (((x1 < 0) → (Q (some (.int 0)) M)) ∧ ((¬ x1 < 0) → ((((M.1 3 5) ≤ x1) → (Q (some (.int 0)) M)) ∧ ((¬ (M.1 3 5) ≤ x1) → (((24 ≤ x1) → (Q (some (.int 0)) M)) ∧ ((¬ 24 ≤ x1) → (Q (some (.int 1)) M)))))))) : Ev LX d mX0_hasWord 0 [some (.ref 3), some (.int x1)] [] M Q := by
  refine ev_iload_n dX0_hasWord_0 rfl ?_
  refine ev_if_lt (tgt := 22) dX0_hasWord_1 (by decide) (fun c => ?_) (fun c => ?_)
  · replace h := h.1 c
    refine ev_iconst (v := 0) dX0_hasWord_22 (by decide) ?_
    exact ev_zret dX0_hasWord_23 rfl (by decide) h
  · replace h := h.2 c
    refine ev_iload_n dX0_hasWord_4 rfl ?_
    refine ev_aload_n dX0_hasWord_5 rfl ?_
    refine ev_getI dX0_hasWord_6 fl_WithoutE_Dictionary_35 lx_3 rfl ?_
    refine ev_icmp_ge (tgt := 22) dX0_hasWord_9 (by decide) (fun c => ?_) (fun c => ?_)
    · replace h := h.1 c
      refine ev_iconst (v := 0) dX0_hasWord_22 (by decide) ?_
      exact ev_zret dX0_hasWord_23 rfl (by decide) h
    · replace h := h.2 c
      refine ev_iload_n dX0_hasWord_12 rfl ?_
      refine ev_bipush (v := 24) dX0_hasWord_13 (by decide) ?_
      refine ev_icmp_ge (tgt := 22) dX0_hasWord_15 (by decide) (fun c => ?_) (fun c => ?_)
      · replace h := h.1 c
        refine ev_iconst (v := 0) dX0_hasWord_22 (by decide) ?_
        exact ev_zret dX0_hasWord_23 rfl (by decide) h
      · replace h := h.2 c
        refine ev_iconst (v := 1) dX0_hasWord_18 (by decide) ?_
        refine ev_goto (tgt := 23) dX0_hasWord_19 (by decide) ?_
        exact ev_zret dX0_hasWord_23 rfl (by decide) h
theorem dX0_hasSentence_0 : decode cX0_hasSentence 0 = .ok (.iload_n 1, 1) := by decide +kernel
theorem dX0_hasSentence_1 : decode cX0_hasSentence 1 = .ok (.ifCond .lt 21, 3) := by decide +kernel
theorem dX0_hasSentence_4 : decode cX0_hasSentence 4 = .ok (.iload_n 1, 1) := by decide +kernel
theorem dX0_hasSentence_5 : decode cX0_hasSentence 5 = .ok (.aload_n 0, 1) := by decide +kernel
theorem dX0_hasSentence_6 : decode cX0_hasSentence 6 = .ok (.getfield 39, 3) := by decide +kernel
theorem dX0_hasSentence_9 : decode cX0_hasSentence 9 = .ok (.if_icmp .ge 13, 3) := by decide +kernel
theorem dX0_hasSentence_12 : decode cX0_hasSentence 12 = .ok (.iload_n 1, 1) := by decide +kernel
theorem dX0_hasSentence_13 : decode cX0_hasSentence 13 = .ok (.bipush 8, 2) := by decide +kernel
theorem dX0_hasSentence_15 : decode cX0_hasSentence 15 = .ok (.if_icmp .ge 7, 3) := by decide +kernel
theorem dX0_hasSentence_18 : decode cX0_hasSentence 18 = .ok (.iconst 1, 1) := by decide +kernel
theorem dX0_hasSentence_19 : decode cX0_hasSentence 19 = .ok (.goto 4, 3) := by decide +kernel
theorem dX0_hasSentence_22 : decode cX0_hasSentence 22 = .ok (.iconst 0, 1) := by decide +kernel
theorem dX0_hasSentence_23 : decode cX0_hasSentence 23 = .ok (.ireturn, 1) := by decide +kernel
theorem gX0_hasSentence_0 {d : Nat} {M : ev_Mem} {Q : Option Value → ev_Mem → Prop} {x1 : Int32} (h : (((x1 < 0) → (Q (some (.int 0)) M)) ∧ ((¬ x1 < 0) → ((((M.1 3 8) ≤ x1) → (Q (some (.int 0)) M)) ∧ ((¬ (M.1 3 8) ≤ x1) → (((8 ≤ x1) → (Q (some (.int 0)) M)) ∧ ((¬ 8 ≤ x1) → (Q (some (.int 1)) M)))))))) : Ev LX d mX0_hasSentence 0 [some (.ref 3), some (.int x1)] [] M Q := by
  refine ev_iload_n dX0_hasSentence_0 rfl ?_
  refine ev_if_lt (tgt := 22) dX0_hasSentence_1 (by decide) (fun c => ?_) (fun c => ?_)
  · replace h := h.1 c
    refine ev_iconst (v := 0) dX0_hasSentence_22 (by decide) ?_
    exact ev_zret dX0_hasSentence_23 rfl (by decide) h
  · replace h := h.2 c
    refine ev_iload_n dX0_hasSentence_4 rfl ?_
    refine ev_aload_n dX0_hasSentence_5 rfl ?_
    refine ev_getI dX0_hasSentence_6 fl_WithoutE_Dictionary_39 lx_3 rfl ?_
    refine ev_icmp_ge (tgt := 22) dX0_hasSentence_9 (by decide) (fun c => ?_) (fun c => ?_)
    · replace h := h.1 c
      refine ev_iconst (v := 0) dX0_hasSentence_22 (by decide) ?_
      exact ev_zret dX0_hasSentence_23 rfl (by decide) h
    · replace h := h.2 c
      refine ev_iload_n dX0_hasSentence_12 rfl ?_
      refine ev_bipush (v := 8) dX0_hasSentence_13 (by decide) ?_
      refine ev_icmp_ge (tgt := 22) dX0_hasSentence_15 (by decide) (fun c => ?_) (fun c => ?_)
      · replace h := h.1 c
        refine ev_iconst (v := 0) dX0_hasSentence_22 (by decide) ?_
        exact ev_zret dX0_hasSentence_23 rfl (by decide) h
      · replace h := h.2 c
        refine ev_iconst (v := 1) dX0_hasSentence_18 (by decide) ?_
        refine ev_goto (tgt := 23) dX0_hasSentence_19 (by decide) ?_
        exact ev_zret dX0_hasSentence_23 rfl (by decide) h
theorem dX1_within_0 : decode cX1_within 0 = .ok (.iload_n 0, 1) := by decide +kernel
theorem dX1_within_1 : decode cX1_within 1 = .ok (.ifCond .ge 7, 3) := by decide +kernel
theorem dX1_within_4 : decode cX1_within 4 = .ok (.iconst 0, 1) := by decide +kernel
theorem dX1_within_5 : decode cX1_within 5 = .ok (.goto 13, 3) := by decide +kernel
theorem dX1_within_8 : decode cX1_within 8 = .ok (.iload_n 0, 1) := by decide +kernel
theorem dX1_within_9 : decode cX1_within 9 = .ok (.iload_n 1, 1) := by decide +kernel
theorem dX1_within_10 : decode cX1_within 10 = .ok (.if_icmp .le 7, 3) := by decide +kernel
theorem dX1_within_13 : decode cX1_within 13 = .ok (.iload_n 1, 1) := by decide +kernel
theorem dX1_within_14 : decode cX1_within 14 = .ok (.goto 4, 3) := by decide +kernel
theorem dX1_within_17 : decode cX1_within 17 = .ok (.iload_n 0, 1) := by decide +kernel
theorem dX1_within_18 : decode cX1_within 18 = .ok (.ireturn, 1) := by decide +kernel
theorem gX1_within_0 {d : Nat} {M : ev_Mem} {Q : Option Value → ev_Mem → Prop} {x0 x1 : Int32} (h : (((0 ≤ x0) → (((x0 ≤ x1) → (Q (some (.int x0)) M)) ∧ ((¬ x0 ≤ x1) → (Q (some (.int x1)) M)))) ∧ ((¬ 0 ≤ x0) → (Q (some (.int 0)) M)))) : Ev LX d mX1_within 0 [some (.int x0), some (.int x1)] [] M Q := by
  refine ev_iload_n dX1_within_0 rfl ?_
  refine ev_if_ge (tgt := 8) dX1_within_1 (by decide) (fun c => ?_) (fun c => ?_)
  · replace h := h.1 c
    refine ev_iload_n dX1_within_8 rfl ?_
    refine ev_iload_n dX1_within_9 rfl ?_
    refine ev_icmp_le (tgt := 17) dX1_within_10 (by decide) (fun c => ?_) (fun c => ?_)
    · replace h := h.1 c
      refine ev_iload_n dX1_within_17 rfl ?_
      exact ev_iret dX1_within_18 rfl h
    · replace h := h.2 c
      refine ev_iload_n dX1_within_13 rfl ?_
      refine ev_goto (tgt := 18) dX1_within_14 (by decide) ?_
      exact ev_iret dX1_within_18 rfl h
  · replace h := h.2 c
    refine ev_iconst (v := 0) dX1_within_4 (by decide) ?_
    refine ev_goto (tgt := 18) dX1_within_5 (by decide) ?_
    exact ev_iret dX1_within_18 rfl h
theorem dX1_clipped_0 : decode cX1_clipped 0 = .ok (.lload_n 0, 1) := by decide +kernel
theorem dX1_clipped_1 : decode cX1_clipped 1 = .ok (.ldc2_w 93, 3) := by decide +kernel
theorem dX1_clipped_4 : decode cX1_clipped 4 = .ok (.lcmp, 1) := by decide +kernel
theorem dX1_clipped_5 : decode cX1_clipped 5 = .ok (.ifCond .le 8, 3) := by decide +kernel
theorem dX1_clipped_8 : decode cX1_clipped 8 = .ok (.ldc 95, 2) := by decide +kernel
theorem dX1_clipped_10 : decode cX1_clipped 10 = .ok (.goto 18, 3) := by decide +kernel
theorem dX1_clipped_13 : decode cX1_clipped 13 = .ok (.lload_n 0, 1) := by decide +kernel
theorem dX1_clipped_14 : decode cX1_clipped 14 = .ok (.ldc2_w 96, 3) := by decide +kernel
theorem dX1_clipped_17 : decode cX1_clipped 17 = .ok (.lcmp, 1) := by decide +kernel
theorem dX1_clipped_18 : decode cX1_clipped 18 = .ok (.ifCond .ge 8, 3) := by decide +kernel
theorem dX1_clipped_21 : decode cX1_clipped 21 = .ok (.ldc 98, 2) := by decide +kernel
theorem dX1_clipped_23 : decode cX1_clipped 23 = .ok (.goto 5, 3) := by decide +kernel
theorem dX1_clipped_26 : decode cX1_clipped 26 = .ok (.lload_n 0, 1) := by decide +kernel
theorem dX1_clipped_27 : decode cX1_clipped 27 = .ok (.l2i, 1) := by decide +kernel
theorem dX1_clipped_28 : decode cX1_clipped 28 = .ok (.ireturn, 1) := by decide +kernel
theorem gX1_clipped_0 {d : Nat} {M : ev_Mem} {Q : Option Value → ev_Mem → Prop} {x0 : Int64} (h : ((((lg_cmp x0 1000000) ≤ 0) → (((0 ≤ (lg_cmp x0 (-1000000))) → (Q (some (.int ((x0 : Int64).toInt32))) M)) ∧ ((¬ 0 ≤ (lg_cmp x0 (-1000000))) → (Q (some (.int (-1000000))) M)))) ∧ ((¬ (lg_cmp x0 1000000) ≤ 0) → (Q (some (.int 1000000)) M)))) : Ev LX d mX1_clipped 0 [some (.long x0), none] [] M Q := by
  refine ev_lload_n dX1_clipped_0 rfl ?_
  refine ev_ldc2 (v := 1000000) dX1_clipped_1 cw_WithoutE_Laws_93 ?_
  refine ev_lcmp dX1_clipped_4 ?_
  refine ev_if_le (tgt := 13) dX1_clipped_5 (by decide) (fun c => ?_) (fun c => ?_)
  · replace h := h.1 c
    refine ev_lload_n dX1_clipped_13 rfl ?_
    refine ev_ldc2 (v := -1000000) dX1_clipped_14 cw_WithoutE_Laws_96 ?_
    refine ev_lcmp dX1_clipped_17 ?_
    refine ev_if_ge (tgt := 26) dX1_clipped_18 (by decide) (fun c => ?_) (fun c => ?_)
    · replace h := h.1 c
      refine ev_lload_n dX1_clipped_26 rfl ?_
      refine ev_l2i dX1_clipped_27 ?_
      exact ev_iret dX1_clipped_28 rfl h
    · replace h := h.2 c
      refine ev_ldc (v := -1000000) dX1_clipped_21 cw_WithoutE_Laws_98 ?_
      refine ev_goto (tgt := 28) dX1_clipped_23 (by decide) ?_
      exact ev_iret dX1_clipped_28 rfl h
  · replace h := h.2 c
    refine ev_ldc (v := 1000000) dX1_clipped_8 cw_WithoutE_Laws_95 ?_
    refine ev_goto (tgt := 28) dX1_clipped_10 (by decide) ?_
    exact ev_iret dX1_clipped_28 rfl h
theorem dX1_join_0 : decode cX1_join 0 = .ok (.iload_n 0, 1) := by decide +kernel
theorem dX1_join_1 : decode cX1_join 1 = .ok (.tableswitch 161 8 18 #[59, 65, 71, 77, 90, 101, 112, 123, 134, 145, 156], 59) := by decide +kernel
theorem dX1_join_60 : decode cX1_join 60 = .ok (.iload_n 1, 1) := by decide +kernel
theorem dX1_join_61 : decode cX1_join 61 = .ok (.i2l, 1) := by decide +kernel
theorem dX1_join_62 : decode cX1_join 62 = .ok (.iload_n 2, 1) := by decide +kernel
theorem dX1_join_63 : decode cX1_join 63 = .ok (.i2l, 1) := by decide +kernel
theorem dX1_join_64 : decode cX1_join 64 = .ok (.ladd, 1) := by decide +kernel
theorem dX1_join_65 : decode cX1_join 65 = .ok (.lreturn, 1) := by decide +kernel
theorem dX1_join_66 : decode cX1_join 66 = .ok (.iload_n 1, 1) := by decide +kernel
theorem dX1_join_67 : decode cX1_join 67 = .ok (.i2l, 1) := by decide +kernel
theorem dX1_join_68 : decode cX1_join 68 = .ok (.iload_n 2, 1) := by decide +kernel
theorem dX1_join_69 : decode cX1_join 69 = .ok (.i2l, 1) := by decide +kernel
theorem dX1_join_70 : decode cX1_join 70 = .ok (.lsub, 1) := by decide +kernel
theorem dX1_join_71 : decode cX1_join 71 = .ok (.lreturn, 1) := by decide +kernel
theorem dX1_join_72 : decode cX1_join 72 = .ok (.iload_n 1, 1) := by decide +kernel
theorem dX1_join_73 : decode cX1_join 73 = .ok (.i2l, 1) := by decide +kernel
theorem dX1_join_74 : decode cX1_join 74 = .ok (.iload_n 2, 1) := by decide +kernel
theorem dX1_join_75 : decode cX1_join 75 = .ok (.i2l, 1) := by decide +kernel
theorem dX1_join_76 : decode cX1_join 76 = .ok (.lmul, 1) := by decide +kernel
theorem dX1_join_77 : decode cX1_join 77 = .ok (.lreturn, 1) := by decide +kernel
theorem dX1_join_78 : decode cX1_join 78 = .ok (.iload_n 2, 1) := by decide +kernel
theorem dX1_join_79 : decode cX1_join 79 = .ok (.ifCond .ne 7, 3) := by decide +kernel
theorem dX1_join_82 : decode cX1_join 82 = .ok (.lconst 0, 1) := by decide +kernel
theorem dX1_join_83 : decode cX1_join 83 = .ok (.goto 7, 3) := by decide +kernel
theorem dX1_join_86 : decode cX1_join 86 = .ok (.iload_n 1, 1) := by decide +kernel
theorem dX1_join_87 : decode cX1_join 87 = .ok (.iload_n 2, 1) := by decide +kernel
theorem dX1_join_88 : decode cX1_join 88 = .ok (.idiv, 1) := by decide +kernel
theorem dX1_join_89 : decode cX1_join 89 = .ok (.i2l, 1) := by decide +kernel
theorem dX1_join_90 : decode cX1_join 90 = .ok (.lreturn, 1) := by decide +kernel
theorem dX1_join_91 : decode cX1_join 91 = .ok (.iload_n 1, 1) := by decide +kernel
theorem dX1_join_92 : decode cX1_join 92 = .ok (.iload_n 2, 1) := by decide +kernel
theorem dX1_join_93 : decode cX1_join 93 = .ok (.if_icmp .ge 7, 3) := by decide +kernel
theorem dX1_join_96 : decode cX1_join 96 = .ok (.lconst 1, 1) := by decide +kernel
theorem dX1_join_97 : decode cX1_join 97 = .ok (.goto 4, 3) := by decide +kernel
theorem dX1_join_100 : decode cX1_join 100 = .ok (.lconst 0, 1) := by decide +kernel
theorem dX1_join_101 : decode cX1_join 101 = .ok (.lreturn, 1) := by decide +kernel
theorem dX1_join_102 : decode cX1_join 102 = .ok (.iload_n 1, 1) := by decide +kernel
theorem dX1_join_103 : decode cX1_join 103 = .ok (.iload_n 2, 1) := by decide +kernel
theorem dX1_join_104 : decode cX1_join 104 = .ok (.if_icmp .gt 7, 3) := by decide +kernel
theorem dX1_join_107 : decode cX1_join 107 = .ok (.lconst 1, 1) := by decide +kernel
theorem dX1_join_108 : decode cX1_join 108 = .ok (.goto 4, 3) := by decide +kernel
theorem dX1_join_111 : decode cX1_join 111 = .ok (.lconst 0, 1) := by decide +kernel
theorem dX1_join_112 : decode cX1_join 112 = .ok (.lreturn, 1) := by decide +kernel
theorem dX1_join_113 : decode cX1_join 113 = .ok (.iload_n 1, 1) := by decide +kernel
theorem dX1_join_114 : decode cX1_join 114 = .ok (.iload_n 2, 1) := by decide +kernel
theorem dX1_join_115 : decode cX1_join 115 = .ok (.if_icmp .le 7, 3) := by decide +kernel
theorem dX1_join_118 : decode cX1_join 118 = .ok (.lconst 1, 1) := by decide +kernel
theorem dX1_join_119 : decode cX1_join 119 = .ok (.goto 4, 3) := by decide +kernel
theorem dX1_join_122 : decode cX1_join 122 = .ok (.lconst 0, 1) := by decide +kernel
theorem dX1_join_123 : decode cX1_join 123 = .ok (.lreturn, 1) := by decide +kernel
theorem dX1_join_124 : decode cX1_join 124 = .ok (.iload_n 1, 1) := by decide +kernel
theorem dX1_join_125 : decode cX1_join 125 = .ok (.iload_n 2, 1) := by decide +kernel
theorem dX1_join_126 : decode cX1_join 126 = .ok (.if_icmp .lt 7, 3) := by decide +kernel
theorem dX1_join_129 : decode cX1_join 129 = .ok (.lconst 1, 1) := by decide +kernel
theorem dX1_join_130 : decode cX1_join 130 = .ok (.goto 4, 3) := by decide +kernel
theorem dX1_join_133 : decode cX1_join 133 = .ok (.lconst 0, 1) := by decide +kernel
theorem dX1_join_134 : decode cX1_join 134 = .ok (.lreturn, 1) := by decide +kernel
theorem dX1_join_135 : decode cX1_join 135 = .ok (.iload_n 1, 1) := by decide +kernel
theorem dX1_join_136 : decode cX1_join 136 = .ok (.iload_n 2, 1) := by decide +kernel
theorem dX1_join_137 : decode cX1_join 137 = .ok (.if_icmp .ne 7, 3) := by decide +kernel
theorem dX1_join_140 : decode cX1_join 140 = .ok (.lconst 1, 1) := by decide +kernel
theorem dX1_join_141 : decode cX1_join 141 = .ok (.goto 4, 3) := by decide +kernel
theorem dX1_join_144 : decode cX1_join 144 = .ok (.lconst 0, 1) := by decide +kernel
theorem dX1_join_145 : decode cX1_join 145 = .ok (.lreturn, 1) := by decide +kernel
theorem dX1_join_146 : decode cX1_join 146 = .ok (.iload_n 1, 1) := by decide +kernel
theorem dX1_join_147 : decode cX1_join 147 = .ok (.iload_n 2, 1) := by decide +kernel
theorem dX1_join_148 : decode cX1_join 148 = .ok (.if_icmp .eq 7, 3) := by decide +kernel
theorem dX1_join_151 : decode cX1_join 151 = .ok (.lconst 1, 1) := by decide +kernel
theorem dX1_join_152 : decode cX1_join 152 = .ok (.goto 4, 3) := by decide +kernel
theorem dX1_join_155 : decode cX1_join 155 = .ok (.lconst 0, 1) := by decide +kernel
theorem dX1_join_156 : decode cX1_join 156 = .ok (.lreturn, 1) := by decide +kernel
theorem dX1_join_157 : decode cX1_join 157 = .ok (.iload_n 1, 1) := by decide +kernel
theorem dX1_join_158 : decode cX1_join 158 = .ok (.iload_n 2, 1) := by decide +kernel
theorem dX1_join_159 : decode cX1_join 159 = .ok (.iand, 1) := by decide +kernel
theorem dX1_join_160 : decode cX1_join 160 = .ok (.i2l, 1) := by decide +kernel
theorem dX1_join_161 : decode cX1_join 161 = .ok (.lreturn, 1) := by decide +kernel
theorem dX1_join_162 : decode cX1_join 162 = .ok (.iload_n 1, 1) := by decide +kernel
theorem dX1_join_163 : decode cX1_join 163 = .ok (.iload_n 2, 1) := by decide +kernel
theorem dX1_join_164 : decode cX1_join 164 = .ok (.ior, 1) := by decide +kernel
theorem dX1_join_165 : decode cX1_join 165 = .ok (.i2l, 1) := by decide +kernel
theorem dX1_join_166 : decode cX1_join 166 = .ok (.lreturn, 1) := by decide +kernel
theorem gX1_join_0 {d : Nat} {M : ev_Mem} {Q : Option Value → ev_Mem → Prop} {x0 x1 x2 : Int32} (h : (((x0 = 8) → (Q (some (.long (((x1 : Int32).toInt64) + ((x2 : Int32).toInt64)))) M)) ∧ ((x0 = 9) → (Q (some (.long (((x1 : Int32).toInt64) - ((x2 : Int32).toInt64)))) M)) ∧ ((x0 = 10) → (Q (some (.long (((x1 : Int32).toInt64) * ((x2 : Int32).toInt64)))) M)) ∧ ((x0 = 11) → (((¬ x2 = 0) → (¬ (x2 : Int32) = 0 ∧ (Q (some (.long ((x1 / x2 : Int32).toInt64))) M))) ∧ ((x2 = 0) → (Q (some (.long 0)) M)))) ∧ ((x0 = 12) → (((x2 ≤ x1) → (Q (some (.long 0)) M)) ∧ ((¬ x2 ≤ x1) → (Q (some (.long 1)) M)))) ∧ ((x0 = 13) → (((x2 < x1) → (Q (some (.long 0)) M)) ∧ ((¬ x2 < x1) → (Q (some (.long 1)) M)))) ∧ ((x0 = 14) → (((x1 ≤ x2) → (Q (some (.long 0)) M)) ∧ ((¬ x1 ≤ x2) → (Q (some (.long 1)) M)))) ∧ ((x0 = 15) → (((x1 < x2) → (Q (some (.long 0)) M)) ∧ ((¬ x1 < x2) → (Q (some (.long 1)) M)))) ∧ ((x0 = 16) → (((¬ x1 = x2) → (Q (some (.long 0)) M)) ∧ ((x1 = x2) → (Q (some (.long 1)) M)))) ∧ ((x0 = 17) → (((x1 = x2) → (Q (some (.long 0)) M)) ∧ ((¬ x1 = x2) → (Q (some (.long 1)) M)))) ∧ ((x0 = 18) → (Q (some (.long ((x1 &&& x2 : Int32).toInt64))) M)) ∧ ((¬ x0 = 8 ∧ ¬ x0 = 9 ∧ ¬ x0 = 10 ∧ ¬ x0 = 11 ∧ ¬ x0 = 12 ∧ ¬ x0 = 13 ∧ ¬ x0 = 14 ∧ ¬ x0 = 15 ∧ ¬ x0 = 16 ∧ ¬ x0 = 17 ∧ ¬ x0 = 18) → (Q (some (.long ((x1 ||| x2 : Int32).toInt64))) M)))) : Ev LX d mX1_join 0 [some (.int x0), some (.int x1), some (.int x2)] [] M Q := by
  refine ev_iload_n dX1_join_0 rfl ?_
  obtain ⟨h0, h1, h2, h3, h4, h5, h6, h7, h8, h9, h10, h11⟩ := h
  by_cases e0 : x0 = 8
  · replace h := h0 e0
    have hk : ∃ off : Int, ¬ (x0 : Int32).toInt < 8 ∧ ¬ 18 < (x0 : Int32).toInt ∧ #[59, 65, 71, 77, 90, 101, 112, 123, 134, 145, 156][((x0 : Int32).toInt - 8).toNat]? = some off ∧ ((1 : Nat) : Int) + off = ((60 : Nat) : Int) := by
      have e := e0
      · rw [e]; exact ⟨59, by decide, by decide, by decide, by decide⟩
    obtain ⟨off, k1, k2, k3, k4⟩ := hk
    refine ev_tableIn (tgt := 60) dX1_join_1 k1 k2 k3 k4 ?_
    refine ev_iload_n dX1_join_60 rfl ?_
    refine ev_i2l dX1_join_61 ?_
    refine ev_iload_n dX1_join_62 rfl ?_
    refine ev_i2l dX1_join_63 ?_
    refine ev_ladd dX1_join_64 ?_
    exact ev_lret dX1_join_65 rfl h
  by_cases e1 : x0 = 9
  · replace h := h1 e1
    have hk : ∃ off : Int, ¬ (x0 : Int32).toInt < 8 ∧ ¬ 18 < (x0 : Int32).toInt ∧ #[59, 65, 71, 77, 90, 101, 112, 123, 134, 145, 156][((x0 : Int32).toInt - 8).toNat]? = some off ∧ ((1 : Nat) : Int) + off = ((66 : Nat) : Int) := by
      have e := e1
      · rw [e]; exact ⟨65, by decide, by decide, by decide, by decide⟩
    obtain ⟨off, k1, k2, k3, k4⟩ := hk
    refine ev_tableIn (tgt := 66) dX1_join_1 k1 k2 k3 k4 ?_
    refine ev_iload_n dX1_join_66 rfl ?_
    refine ev_i2l dX1_join_67 ?_
    refine ev_iload_n dX1_join_68 rfl ?_
    refine ev_i2l dX1_join_69 ?_
    refine ev_lsub dX1_join_70 ?_
    exact ev_lret dX1_join_71 rfl h
  by_cases e2 : x0 = 10
  · replace h := h2 e2
    have hk : ∃ off : Int, ¬ (x0 : Int32).toInt < 8 ∧ ¬ 18 < (x0 : Int32).toInt ∧ #[59, 65, 71, 77, 90, 101, 112, 123, 134, 145, 156][((x0 : Int32).toInt - 8).toNat]? = some off ∧ ((1 : Nat) : Int) + off = ((72 : Nat) : Int) := by
      have e := e2
      · rw [e]; exact ⟨71, by decide, by decide, by decide, by decide⟩
    obtain ⟨off, k1, k2, k3, k4⟩ := hk
    refine ev_tableIn (tgt := 72) dX1_join_1 k1 k2 k3 k4 ?_
    refine ev_iload_n dX1_join_72 rfl ?_
    refine ev_i2l dX1_join_73 ?_
    refine ev_iload_n dX1_join_74 rfl ?_
    refine ev_i2l dX1_join_75 ?_
    refine ev_lmul dX1_join_76 ?_
    exact ev_lret dX1_join_77 rfl h
  by_cases e3 : x0 = 11
  · replace h := h3 e3
    have hk : ∃ off : Int, ¬ (x0 : Int32).toInt < 8 ∧ ¬ 18 < (x0 : Int32).toInt ∧ #[59, 65, 71, 77, 90, 101, 112, 123, 134, 145, 156][((x0 : Int32).toInt - 8).toNat]? = some off ∧ ((1 : Nat) : Int) + off = ((78 : Nat) : Int) := by
      have e := e3
      · rw [e]; exact ⟨77, by decide, by decide, by decide, by decide⟩
    obtain ⟨off, k1, k2, k3, k4⟩ := hk
    refine ev_tableIn (tgt := 78) dX1_join_1 k1 k2 k3 k4 ?_
    refine ev_iload_n dX1_join_78 rfl ?_
    refine ev_if_ne (tgt := 86) dX1_join_79 (by decide) (fun c => ?_) (fun c => ?_)
    · replace h := h.1 c
      refine ev_iload_n dX1_join_86 rfl ?_
      refine ev_iload_n dX1_join_87 rfl ?_
      obtain ⟨c, h⟩ := h
      refine ev_idiv dX1_join_88 c ?_
      refine ev_i2l dX1_join_89 ?_
      exact ev_lret dX1_join_90 rfl h
    · replace h := h.2 c
      refine ev_lconst (v := 0) dX1_join_82 (by decide) ?_
      refine ev_goto (tgt := 90) dX1_join_83 (by decide) ?_
      exact ev_lret dX1_join_90 rfl h
  by_cases e4 : x0 = 12
  · replace h := h4 e4
    have hk : ∃ off : Int, ¬ (x0 : Int32).toInt < 8 ∧ ¬ 18 < (x0 : Int32).toInt ∧ #[59, 65, 71, 77, 90, 101, 112, 123, 134, 145, 156][((x0 : Int32).toInt - 8).toNat]? = some off ∧ ((1 : Nat) : Int) + off = ((91 : Nat) : Int) := by
      have e := e4
      · rw [e]; exact ⟨90, by decide, by decide, by decide, by decide⟩
    obtain ⟨off, k1, k2, k3, k4⟩ := hk
    refine ev_tableIn (tgt := 91) dX1_join_1 k1 k2 k3 k4 ?_
    refine ev_iload_n dX1_join_91 rfl ?_
    refine ev_iload_n dX1_join_92 rfl ?_
    refine ev_icmp_ge (tgt := 100) dX1_join_93 (by decide) (fun c => ?_) (fun c => ?_)
    · replace h := h.1 c
      refine ev_lconst (v := 0) dX1_join_100 (by decide) ?_
      exact ev_lret dX1_join_101 rfl h
    · replace h := h.2 c
      refine ev_lconst (v := 1) dX1_join_96 (by decide) ?_
      refine ev_goto (tgt := 101) dX1_join_97 (by decide) ?_
      exact ev_lret dX1_join_101 rfl h
  by_cases e5 : x0 = 13
  · replace h := h5 e5
    have hk : ∃ off : Int, ¬ (x0 : Int32).toInt < 8 ∧ ¬ 18 < (x0 : Int32).toInt ∧ #[59, 65, 71, 77, 90, 101, 112, 123, 134, 145, 156][((x0 : Int32).toInt - 8).toNat]? = some off ∧ ((1 : Nat) : Int) + off = ((102 : Nat) : Int) := by
      have e := e5
      · rw [e]; exact ⟨101, by decide, by decide, by decide, by decide⟩
    obtain ⟨off, k1, k2, k3, k4⟩ := hk
    refine ev_tableIn (tgt := 102) dX1_join_1 k1 k2 k3 k4 ?_
    refine ev_iload_n dX1_join_102 rfl ?_
    refine ev_iload_n dX1_join_103 rfl ?_
    refine ev_icmp_gt (tgt := 111) dX1_join_104 (by decide) (fun c => ?_) (fun c => ?_)
    · replace h := h.1 c
      refine ev_lconst (v := 0) dX1_join_111 (by decide) ?_
      exact ev_lret dX1_join_112 rfl h
    · replace h := h.2 c
      refine ev_lconst (v := 1) dX1_join_107 (by decide) ?_
      refine ev_goto (tgt := 112) dX1_join_108 (by decide) ?_
      exact ev_lret dX1_join_112 rfl h
  by_cases e6 : x0 = 14
  · replace h := h6 e6
    have hk : ∃ off : Int, ¬ (x0 : Int32).toInt < 8 ∧ ¬ 18 < (x0 : Int32).toInt ∧ #[59, 65, 71, 77, 90, 101, 112, 123, 134, 145, 156][((x0 : Int32).toInt - 8).toNat]? = some off ∧ ((1 : Nat) : Int) + off = ((113 : Nat) : Int) := by
      have e := e6
      · rw [e]; exact ⟨112, by decide, by decide, by decide, by decide⟩
    obtain ⟨off, k1, k2, k3, k4⟩ := hk
    refine ev_tableIn (tgt := 113) dX1_join_1 k1 k2 k3 k4 ?_
    refine ev_iload_n dX1_join_113 rfl ?_
    refine ev_iload_n dX1_join_114 rfl ?_
    refine ev_icmp_le (tgt := 122) dX1_join_115 (by decide) (fun c => ?_) (fun c => ?_)
    · replace h := h.1 c
      refine ev_lconst (v := 0) dX1_join_122 (by decide) ?_
      exact ev_lret dX1_join_123 rfl h
    · replace h := h.2 c
      refine ev_lconst (v := 1) dX1_join_118 (by decide) ?_
      refine ev_goto (tgt := 123) dX1_join_119 (by decide) ?_
      exact ev_lret dX1_join_123 rfl h
  by_cases e7 : x0 = 15
  · replace h := h7 e7
    have hk : ∃ off : Int, ¬ (x0 : Int32).toInt < 8 ∧ ¬ 18 < (x0 : Int32).toInt ∧ #[59, 65, 71, 77, 90, 101, 112, 123, 134, 145, 156][((x0 : Int32).toInt - 8).toNat]? = some off ∧ ((1 : Nat) : Int) + off = ((124 : Nat) : Int) := by
      have e := e7
      · rw [e]; exact ⟨123, by decide, by decide, by decide, by decide⟩
    obtain ⟨off, k1, k2, k3, k4⟩ := hk
    refine ev_tableIn (tgt := 124) dX1_join_1 k1 k2 k3 k4 ?_
    refine ev_iload_n dX1_join_124 rfl ?_
    refine ev_iload_n dX1_join_125 rfl ?_
    refine ev_icmp_lt (tgt := 133) dX1_join_126 (by decide) (fun c => ?_) (fun c => ?_)
    · replace h := h.1 c
      refine ev_lconst (v := 0) dX1_join_133 (by decide) ?_
      exact ev_lret dX1_join_134 rfl h
    · replace h := h.2 c
      refine ev_lconst (v := 1) dX1_join_129 (by decide) ?_
      refine ev_goto (tgt := 134) dX1_join_130 (by decide) ?_
      exact ev_lret dX1_join_134 rfl h
  by_cases e8 : x0 = 16
  · replace h := h8 e8
    have hk : ∃ off : Int, ¬ (x0 : Int32).toInt < 8 ∧ ¬ 18 < (x0 : Int32).toInt ∧ #[59, 65, 71, 77, 90, 101, 112, 123, 134, 145, 156][((x0 : Int32).toInt - 8).toNat]? = some off ∧ ((1 : Nat) : Int) + off = ((135 : Nat) : Int) := by
      have e := e8
      · rw [e]; exact ⟨134, by decide, by decide, by decide, by decide⟩
    obtain ⟨off, k1, k2, k3, k4⟩ := hk
    refine ev_tableIn (tgt := 135) dX1_join_1 k1 k2 k3 k4 ?_
    refine ev_iload_n dX1_join_135 rfl ?_
    refine ev_iload_n dX1_join_136 rfl ?_
    refine ev_icmp_ne (tgt := 144) dX1_join_137 (by decide) (fun c => ?_) (fun c => ?_)
    · replace h := h.1 c
      refine ev_lconst (v := 0) dX1_join_144 (by decide) ?_
      exact ev_lret dX1_join_145 rfl h
    · replace h := h.2 c
      refine ev_lconst (v := 1) dX1_join_140 (by decide) ?_
      refine ev_goto (tgt := 145) dX1_join_141 (by decide) ?_
      exact ev_lret dX1_join_145 rfl h
  by_cases e9 : x0 = 17
  · replace h := h9 e9
    have hk : ∃ off : Int, ¬ (x0 : Int32).toInt < 8 ∧ ¬ 18 < (x0 : Int32).toInt ∧ #[59, 65, 71, 77, 90, 101, 112, 123, 134, 145, 156][((x0 : Int32).toInt - 8).toNat]? = some off ∧ ((1 : Nat) : Int) + off = ((146 : Nat) : Int) := by
      have e := e9
      · rw [e]; exact ⟨145, by decide, by decide, by decide, by decide⟩
    obtain ⟨off, k1, k2, k3, k4⟩ := hk
    refine ev_tableIn (tgt := 146) dX1_join_1 k1 k2 k3 k4 ?_
    refine ev_iload_n dX1_join_146 rfl ?_
    refine ev_iload_n dX1_join_147 rfl ?_
    refine ev_icmp_eq (tgt := 155) dX1_join_148 (by decide) (fun c => ?_) (fun c => ?_)
    · replace h := h.1 c
      refine ev_lconst (v := 0) dX1_join_155 (by decide) ?_
      exact ev_lret dX1_join_156 rfl h
    · replace h := h.2 c
      refine ev_lconst (v := 1) dX1_join_151 (by decide) ?_
      refine ev_goto (tgt := 156) dX1_join_152 (by decide) ?_
      exact ev_lret dX1_join_156 rfl h
  by_cases e10 : x0 = 18
  · replace h := h10 e10
    have hk : ∃ off : Int, ¬ (x0 : Int32).toInt < 8 ∧ ¬ 18 < (x0 : Int32).toInt ∧ #[59, 65, 71, 77, 90, 101, 112, 123, 134, 145, 156][((x0 : Int32).toInt - 8).toNat]? = some off ∧ ((1 : Nat) : Int) + off = ((157 : Nat) : Int) := by
      have e := e10
      · rw [e]; exact ⟨156, by decide, by decide, by decide, by decide⟩
    obtain ⟨off, k1, k2, k3, k4⟩ := hk
    refine ev_tableIn (tgt := 157) dX1_join_1 k1 k2 k3 k4 ?_
    refine ev_iload_n dX1_join_157 rfl ?_
    refine ev_iload_n dX1_join_158 rfl ?_
    refine ev_iand dX1_join_159 ?_
    refine ev_i2l dX1_join_160 ?_
    exact ev_lret dX1_join_161 rfl h
  replace h := h11 ⟨fun e => e0 (e), fun e => e1 (e), fun e => e2 (e), fun e => e3 (e), fun e => e4 (e), fun e => e5 (e), fun e => e6 (e), fun e => e7 (e), fun e => e8 (e), fun e => e9 (e), fun e => e10 (e)⟩
  have hk : ((x0 : Int32).toInt < 8 ∨ 18 < (x0 : Int32).toInt) ∨ (False) := by
    have t : ∀ k : Int32, ¬ (x0 : Int32) = k → (x0 : Int32).toInt ≠ k.toInt := fun k hne e => hne (Int32.toInt_inj.mp e)
    have z8 : (x0 : Int32).toInt ≠ 8 := t 8 (fun e => by simp_all)
    have z9 : (x0 : Int32).toInt ≠ 9 := t 9 (fun e => by simp_all)
    have z10 : (x0 : Int32).toInt ≠ 10 := t 10 (fun e => by simp_all)
    have z11 : (x0 : Int32).toInt ≠ 11 := t 11 (fun e => by simp_all)
    have z12 : (x0 : Int32).toInt ≠ 12 := t 12 (fun e => by simp_all)
    have z13 : (x0 : Int32).toInt ≠ 13 := t 13 (fun e => by simp_all)
    have z14 : (x0 : Int32).toInt ≠ 14 := t 14 (fun e => by simp_all)
    have z15 : (x0 : Int32).toInt ≠ 15 := t 15 (fun e => by simp_all)
    have z16 : (x0 : Int32).toInt ≠ 16 := t 16 (fun e => by simp_all)
    have z17 : (x0 : Int32).toInt ≠ 17 := t 17 (fun e => by simp_all)
    have z18 : (x0 : Int32).toInt ≠ 18 := t 18 (fun e => by simp_all)
    omega
  replace hk := hk.elim id False.elim
  refine ev_tableOut (tgt := 162) dX1_join_1 hk (by decide) ?_
  refine ev_iload_n dX1_join_162 rfl ?_
  refine ev_iload_n dX1_join_163 rfl ?_
  refine ev_ior dX1_join_164 ?_
  refine ev_i2l dX1_join_165 ?_
  exact ev_lret dX1_join_166 rfl h
theorem dX11_copy_0 : decode cX11_copy 0 = .ok (.iconst 0, 1) := by decide +kernel
theorem dX11_copy_1 : decode cX11_copy 1 = .ok (.istore_n 2, 1) := by decide +kernel
theorem dX11_copy_2 : decode cX11_copy 2 = .ok (.iload_n 2, 1) := by decide +kernel
theorem dX11_copy_3 : decode cX11_copy 3 = .ok (.sipush 3315, 3) := by decide +kernel
theorem dX11_copy_6 : decode cX11_copy 6 = .ok (.if_icmp .ge 15, 3) := by decide +kernel
theorem dX11_copy_9 : decode cX11_copy 9 = .ok (.aload_n 1, 1) := by decide +kernel
theorem dX11_copy_10 : decode cX11_copy 10 = .ok (.iload_n 2, 1) := by decide +kernel
theorem dX11_copy_11 : decode cX11_copy 11 = .ok (.aload_n 0, 1) := by decide +kernel
theorem dX11_copy_12 : decode cX11_copy 12 = .ok (.iload_n 2, 1) := by decide +kernel
theorem dX11_copy_13 : decode cX11_copy 13 = .ok (.iaload, 1) := by decide +kernel
theorem dX11_copy_14 : decode cX11_copy 14 = .ok (.iastore, 1) := by decide +kernel
theorem dX11_copy_15 : decode cX11_copy 15 = .ok (.iinc 2 1, 3) := by decide +kernel
theorem dX11_copy_18 : decode cX11_copy 18 = .ok (.goto (-16), 3) := by decide +kernel
theorem dX11_copy_21 : decode cX11_copy 21 = .ok (.return_, 1) := by decide +kernel
theorem gX11_copy_0 {d : Nat} {M : ev_Mem} {Q : Option Value → ev_Mem → Prop} {k0 k1 : Nat} {kid0 kid1 : Nat → Nat} (h0 : LM[k0]? = some (.inl (0, 3315, 0, kid0))) (h1 : LM[k1]? = some (.inl (0, 3315, 0, kid1))) (h : (Ev LM d mX11_copy 2 [some (.ref k0), some (.ref k1), some (.int 0)] [] M Q)) : Ev LM d mX11_copy 0 [some (.ref k0), some (.ref k1), none] [] M Q := by
  refine ev_iconst (v := 0) dX11_copy_0 (by decide) ?_
  refine ev_istore_n (ls2 := [some (.ref k0), some (.ref k1), some (.int 0)]) dX11_copy_1 (Nat.le_of_ble_eq_true rfl) rfl ?_
  exact h
theorem gX11_copy_2 {d : Nat} {M : ev_Mem} {Q : Option Value → ev_Mem → Prop} {x2 : Int32} {k0 k1 : Nat} {kid0 kid1 : Nat → Nat} (h0 : LM[k0]? = some (.inl (0, 3315, 0, kid0))) (h1 : LM[k1]? = some (.inl (0, 3315, 0, kid1))) (h : (((3315 ≤ x2) → (Q none M)) ∧ ((¬ 3315 ≤ x2) → (vp_in x2 3315 ∧ (vp_in x2 3315 ∧ (∀ M1 : ev_Mem, M1 = ev_wr M k1 x2.toNatClampNeg (M.1 k0 x2.toNatClampNeg) → (Ev LM d mX11_copy 2 [some (.ref k0), some (.ref k1), some (.int (x2 + 1))] [] M1 Q))))))) : Ev LM d mX11_copy 2 [some (.ref k0), some (.ref k1), some (.int x2)] [] M Q := by
  refine ev_iload_n dX11_copy_2 rfl ?_
  refine ev_sipush (v := 3315) dX11_copy_3 (by decide) ?_
  refine ev_icmp_ge (tgt := 21) dX11_copy_6 (by decide) (fun c => ?_) (fun c => ?_)
  · replace h := h.1 c
    exact ev_vret dX11_copy_21 rfl h
  · replace h := h.2 c
    refine ev_aload_n dX11_copy_9 rfl ?_
    refine ev_iload_n dX11_copy_10 rfl ?_
    refine ev_aload_n dX11_copy_11 rfl ?_
    refine ev_iload_n dX11_copy_12 rfl ?_
    obtain ⟨c, h⟩ := h
    refine ev_iald dX11_copy_13 h0 c ?_
    obtain ⟨c, h⟩ := h
    refine ev_iast dX11_copy_14 h1 c ?_
    generalize eM1 : ev_wr M k1 x2.toNatClampNeg (M.1 k0 x2.toNatClampNeg) = M1
    replace h := h M1 eM1.symm
    refine ev_iinc (v := x2 + 1) (ls2 := [some (.ref k0), some (.ref k1), some (.int (x2 + 1))]) dX11_copy_15 rfl rfl rfl ?_
    refine ev_goto (tgt := 2) dX11_copy_18 (by decide) ?_
    exact h
theorem dX11_isIn_0 : decode cX11_isIn 0 = .ok (.iload_n 0, 1) := by decide +kernel
theorem dX11_isIn_1 : decode cX11_isIn 1 = .ok (.iload_n 1, 1) := by decide +kernel
theorem dX11_isIn_2 : decode cX11_isIn 2 = .ok (.if_icmp .lt 12, 3) := by decide +kernel
theorem dX11_isIn_5 : decode cX11_isIn 5 = .ok (.iload_n 0, 1) := by decide +kernel
theorem dX11_isIn_6 : decode cX11_isIn 6 = .ok (.iload_n 2, 1) := by decide +kernel
theorem dX11_isIn_7 : decode cX11_isIn 7 = .ok (.if_icmp .gt 7, 3) := by decide +kernel
theorem dX11_isIn_10 : decode cX11_isIn 10 = .ok (.iconst 1, 1) := by decide +kernel
theorem dX11_isIn_11 : decode cX11_isIn 11 = .ok (.goto 4, 3) := by decide +kernel
theorem dX11_isIn_14 : decode cX11_isIn 14 = .ok (.iconst 0, 1) := by decide +kernel
theorem dX11_isIn_15 : decode cX11_isIn 15 = .ok (.ireturn, 1) := by decide +kernel
theorem gX11_isIn_0 {d : Nat} {M : ev_Mem} {Q : Option Value → ev_Mem → Prop} {x0 x1 x2 : Int32} (h : (((x0 < x1) → (Q (some (.int 0)) M)) ∧ ((¬ x0 < x1) → (((x2 < x0) → (Q (some (.int 0)) M)) ∧ ((¬ x2 < x0) → (Q (some (.int 1)) M)))))) : Ev LM d mX11_isIn 0 [some (.int x0), some (.int x1), some (.int x2)] [] M Q := by
  refine ev_iload_n dX11_isIn_0 rfl ?_
  refine ev_iload_n dX11_isIn_1 rfl ?_
  refine ev_icmp_lt (tgt := 14) dX11_isIn_2 (by decide) (fun c => ?_) (fun c => ?_)
  · replace h := h.1 c
    refine ev_iconst (v := 0) dX11_isIn_14 (by decide) ?_
    exact ev_zret dX11_isIn_15 rfl (by decide) h
  · replace h := h.2 c
    refine ev_iload_n dX11_isIn_5 rfl ?_
    refine ev_iload_n dX11_isIn_6 rfl ?_
    refine ev_icmp_gt (tgt := 14) dX11_isIn_7 (by decide) (fun c => ?_) (fun c => ?_)
    · replace h := h.1 c
      refine ev_iconst (v := 0) dX11_isIn_14 (by decide) ?_
      exact ev_zret dX11_isIn_15 rfl (by decide) h
    · replace h := h.2 c
      refine ev_iconst (v := 1) dX11_isIn_10 (by decide) ?_
      refine ev_goto (tgt := 15) dX11_isIn_11 (by decide) ?_
      exact ev_zret dX11_isIn_15 rfl (by decide) h
theorem dX11_bound_0 : decode cX11_bound 0 = .ok (.lload_n 0, 1) := by decide +kernel
theorem dX11_bound_1 : decode cX11_bound 1 = .ok (.iload_n 2, 1) := by decide +kernel
theorem dX11_bound_2 : decode cX11_bound 2 = .ok (.i2l, 1) := by decide +kernel
theorem dX11_bound_3 : decode cX11_bound 3 = .ok (.lcmp, 1) := by decide +kernel
theorem dX11_bound_4 : decode cX11_bound 4 = .ok (.ifCond .ge 7, 3) := by decide +kernel
theorem dX11_bound_7 : decode cX11_bound 7 = .ok (.iload_n 2, 1) := by decide +kernel
theorem dX11_bound_8 : decode cX11_bound 8 = .ok (.goto 16, 3) := by decide +kernel
theorem dX11_bound_11 : decode cX11_bound 11 = .ok (.lload_n 0, 1) := by decide +kernel
theorem dX11_bound_12 : decode cX11_bound 12 = .ok (.iload_n 3, 1) := by decide +kernel
theorem dX11_bound_13 : decode cX11_bound 13 = .ok (.i2l, 1) := by decide +kernel
theorem dX11_bound_14 : decode cX11_bound 14 = .ok (.lcmp, 1) := by decide +kernel
theorem dX11_bound_15 : decode cX11_bound 15 = .ok (.ifCond .le 7, 3) := by decide +kernel
theorem dX11_bound_18 : decode cX11_bound 18 = .ok (.iload_n 3, 1) := by decide +kernel
theorem dX11_bound_19 : decode cX11_bound 19 = .ok (.goto 5, 3) := by decide +kernel
theorem dX11_bound_22 : decode cX11_bound 22 = .ok (.lload_n 0, 1) := by decide +kernel
theorem dX11_bound_23 : decode cX11_bound 23 = .ok (.l2i, 1) := by decide +kernel
theorem dX11_bound_24 : decode cX11_bound 24 = .ok (.ireturn, 1) := by decide +kernel
theorem gX11_bound_0 {d : Nat} {M : ev_Mem} {Q : Option Value → ev_Mem → Prop} {x2 x3 : Int32} {x0 : Int64} (h : (((0 ≤ (lg_cmp x0 ((x2 : Int32).toInt64))) → ((((lg_cmp x0 ((x3 : Int32).toInt64)) ≤ 0) → (Q (some (.int ((x0 : Int64).toInt32))) M)) ∧ ((¬ (lg_cmp x0 ((x3 : Int32).toInt64)) ≤ 0) → (Q (some (.int x3)) M)))) ∧ ((¬ 0 ≤ (lg_cmp x0 ((x2 : Int32).toInt64))) → (Q (some (.int x2)) M)))) : Ev LM d mX11_bound 0 [some (.long x0), none, some (.int x2), some (.int x3)] [] M Q := by
  refine ev_lload_n dX11_bound_0 rfl ?_
  refine ev_iload_n dX11_bound_1 rfl ?_
  refine ev_i2l dX11_bound_2 ?_
  refine ev_lcmp dX11_bound_3 ?_
  refine ev_if_ge (tgt := 11) dX11_bound_4 (by decide) (fun c => ?_) (fun c => ?_)
  · replace h := h.1 c
    refine ev_lload_n dX11_bound_11 rfl ?_
    refine ev_iload_n dX11_bound_12 rfl ?_
    refine ev_i2l dX11_bound_13 ?_
    refine ev_lcmp dX11_bound_14 ?_
    refine ev_if_le (tgt := 22) dX11_bound_15 (by decide) (fun c => ?_) (fun c => ?_)
    · replace h := h.1 c
      refine ev_lload_n dX11_bound_22 rfl ?_
      refine ev_l2i dX11_bound_23 ?_
      exact ev_iret dX11_bound_24 rfl h
    · replace h := h.2 c
      refine ev_iload_n dX11_bound_18 rfl ?_
      refine ev_goto (tgt := 24) dX11_bound_19 (by decide) ?_
      exact ev_iret dX11_bound_24 rfl h
  · replace h := h.2 c
    refine ev_iload_n dX11_bound_7 rfl ?_
    refine ev_goto (tgt := 24) dX11_bound_8 (by decide) ?_
    exact ev_iret dX11_bound_24 rfl h
theorem dX11_has_0 : decode cX11_has 0 = .ok (.iload_n 0, 1) := by decide +kernel
theorem dX11_has_1 : decode cX11_has 1 = .ok (.iload_n 1, 1) := by decide +kernel
theorem dX11_has_2 : decode cX11_has 2 = .ok (.ishr, 1) := by decide +kernel
theorem dX11_has_3 : decode cX11_has 3 = .ok (.iconst 1, 1) := by decide +kernel
theorem dX11_has_4 : decode cX11_has 4 = .ok (.iand, 1) := by decide +kernel
theorem dX11_has_5 : decode cX11_has 5 = .ok (.iconst 1, 1) := by decide +kernel
theorem dX11_has_6 : decode cX11_has 6 = .ok (.if_icmp .ne 7, 3) := by decide +kernel
theorem dX11_has_9 : decode cX11_has 9 = .ok (.iconst 1, 1) := by decide +kernel
theorem dX11_has_10 : decode cX11_has 10 = .ok (.goto 4, 3) := by decide +kernel
theorem dX11_has_13 : decode cX11_has 13 = .ok (.iconst 0, 1) := by decide +kernel
theorem dX11_has_14 : decode cX11_has 14 = .ok (.ireturn, 1) := by decide +kernel
theorem gX11_has_0 {d : Nat} {M : ev_Mem} {Q : Option Value → ev_Mem → Prop} {x0 x1 : Int32} (h : (((¬ ((x0 >>> (x1 &&& 31)) &&& 1) = 1) → (Q (some (.int 0)) M)) ∧ ((((x0 >>> (x1 &&& 31)) &&& 1) = 1) → (Q (some (.int 1)) M)))) : Ev LM d mX11_has 0 [some (.int x0), some (.int x1)] [] M Q := by
  refine ev_iload_n dX11_has_0 rfl ?_
  refine ev_iload_n dX11_has_1 rfl ?_
  refine ev_ishr dX11_has_2 ?_
  refine ev_iconst (v := 1) dX11_has_3 (by decide) ?_
  refine ev_iand dX11_has_4 ?_
  refine ev_iconst (v := 1) dX11_has_5 (by decide) ?_
  refine ev_icmp_ne (tgt := 13) dX11_has_6 (by decide) (fun c => ?_) (fun c => ?_)
  · replace h := h.1 c
    refine ev_iconst (v := 0) dX11_has_13 (by decide) ?_
    exact ev_zret dX11_has_14 rfl (by decide) h
  · replace h := h.2 c
    refine ev_iconst (v := 1) dX11_has_9 (by decide) ?_
    refine ev_goto (tgt := 14) dX11_has_10 (by decide) ?_
    exact ev_zret dX11_has_14 rfl (by decide) h
theorem dX11_bits_0 : decode cX11_bits 0 = .ok (.iconst 0, 1) := by decide +kernel
theorem dX11_bits_1 : decode cX11_bits 1 = .ok (.istore_n 1, 1) := by decide +kernel
theorem dX11_bits_2 : decode cX11_bits 2 = .ok (.iload_n 0, 1) := by decide +kernel
theorem dX11_bits_3 : decode cX11_bits 3 = .ok (.istore_n 2, 1) := by decide +kernel
theorem dX11_bits_4 : decode cX11_bits 4 = .ok (.iload_n 2, 1) := by decide +kernel
theorem dX11_bits_5 : decode cX11_bits 5 = .ok (.ifCond .eq 15, 3) := by decide +kernel
theorem dX11_bits_8 : decode cX11_bits 8 = .ok (.iinc 1 1, 3) := by decide +kernel
theorem dX11_bits_11 : decode cX11_bits 11 = .ok (.iload_n 2, 1) := by decide +kernel
theorem dX11_bits_12 : decode cX11_bits 12 = .ok (.iload_n 2, 1) := by decide +kernel
theorem dX11_bits_13 : decode cX11_bits 13 = .ok (.iconst 1, 1) := by decide +kernel
theorem dX11_bits_14 : decode cX11_bits 14 = .ok (.isub, 1) := by decide +kernel
theorem dX11_bits_15 : decode cX11_bits 15 = .ok (.iand, 1) := by decide +kernel
theorem dX11_bits_16 : decode cX11_bits 16 = .ok (.istore_n 2, 1) := by decide +kernel
theorem dX11_bits_17 : decode cX11_bits 17 = .ok (.goto (-13), 3) := by decide +kernel
theorem dX11_bits_20 : decode cX11_bits 20 = .ok (.iload_n 1, 1) := by decide +kernel
theorem dX11_bits_21 : decode cX11_bits 21 = .ok (.ireturn, 1) := by decide +kernel
theorem gX11_bits_0 {d : Nat} {M : ev_Mem} {Q : Option Value → ev_Mem → Prop} {x0 : Int32} (h : (Ev LM d mX11_bits 4 [none, some (.int 0), some (.int x0)] [] M Q)) : Ev LM d mX11_bits 0 [some (.int x0), none, none] [] M Q := by
  refine ev_iconst (v := 0) dX11_bits_0 (by decide) ?_
  refine ev_istore_n (ls2 := [some (.int x0), some (.int 0), none]) dX11_bits_1 (Nat.le_of_ble_eq_true rfl) rfl ?_
  refine ev_iload_n dX11_bits_2 rfl ?_
  refine ev_istore_n (ls2 := [some (.int x0), some (.int 0), some (.int x0)]) dX11_bits_3 (Nat.le_of_ble_eq_true rfl) rfl ?_
  refine Ev.weak (ls := [none, some (.int 0), some (.int x0)]) ⟨rfl, rfl, trivial⟩ ?_
  exact h
theorem gX11_bits_4 {d : Nat} {M : ev_Mem} {Q : Option Value → ev_Mem → Prop} {x1 x2 : Int32} (h : (((x2 = 0) → (Q (some (.int x1)) M)) ∧ ((¬ x2 = 0) → (Ev LM d mX11_bits 4 [none, some (.int (x1 + 1)), some (.int (x2 &&& (x2 - 1)))] [] M Q)))) : Ev LM d mX11_bits 4 [none, some (.int x1), some (.int x2)] [] M Q := by
  refine ev_iload_n dX11_bits_4 rfl ?_
  refine ev_if_eq (tgt := 20) dX11_bits_5 (by decide) (fun c => ?_) (fun c => ?_)
  · replace h := h.1 c
    refine ev_iload_n dX11_bits_20 rfl ?_
    exact ev_iret dX11_bits_21 rfl h
  · replace h := h.2 c
    refine ev_iinc (v := x1 + 1) (ls2 := [none, some (.int (x1 + 1)), some (.int x2)]) dX11_bits_8 rfl rfl rfl ?_
    refine ev_iload_n dX11_bits_11 rfl ?_
    refine ev_iload_n dX11_bits_12 rfl ?_
    refine ev_iconst (v := 1) dX11_bits_13 (by decide) ?_
    refine ev_isub dX11_bits_14 ?_
    refine ev_iand dX11_bits_15 ?_
    refine ev_istore_n (ls2 := [none, some (.int (x1 + 1)), some (.int (x2 &&& (x2 - 1)))]) dX11_bits_16 (Nat.le_of_ble_eq_true rfl) rfl ?_
    refine ev_goto (tgt := 4) dX11_bits_17 (by decide) ?_
    exact h
theorem dX11_get_0 : decode cX11_get 0 = .ok (.aload_n 0, 1) := by decide +kernel
theorem dX11_get_1 : decode cX11_get 1 = .ok (.getfield 7, 3) := by decide +kernel
theorem dX11_get_4 : decode cX11_get 4 = .ok (.bipush 39, 2) := by decide +kernel
theorem dX11_get_6 : decode cX11_get 6 = .ok (.bipush 13, 2) := by decide +kernel
theorem dX11_get_8 : decode cX11_get 8 = .ok (.iload_n 1, 1) := by decide +kernel
theorem dX11_get_9 : decode cX11_get 9 = .ok (.imul, 1) := by decide +kernel
theorem dX11_get_10 : decode cX11_get 10 = .ok (.iadd, 1) := by decide +kernel
theorem dX11_get_11 : decode cX11_get 11 = .ok (.iload_n 2, 1) := by decide +kernel
theorem dX11_get_12 : decode cX11_get 12 = .ok (.iadd, 1) := by decide +kernel
theorem dX11_get_13 : decode cX11_get 13 = .ok (.iaload, 1) := by decide +kernel
theorem dX11_get_14 : decode cX11_get 14 = .ok (.ireturn, 1) := by decide +kernel
theorem gX11_get_0 {d : Nat} {M : ev_Mem} {Q : Option Value → ev_Mem → Prop} {x1 x2 : Int32} (h : (vp_in ((39 + (13 * x1)) + x2) 3315 ∧ (Q (some (.int (M.1 1 ((39 + (13 * x1)) + x2).toNatClampNeg))) M))) : Ev LM d mX11_get 0 [some (.ref 0), some (.int x1), some (.int x2)] [] M Q := by
  refine ev_aload_n dX11_get_0 rfl ?_
  refine ev_getA dX11_get_1 fl_WithoutEModel_7 lm_0 rfl ?_
  refine ev_bipush (v := 39) dX11_get_4 (by decide) ?_
  refine ev_bipush (v := 13) dX11_get_6 (by decide) ?_
  refine ev_iload_n dX11_get_8 rfl ?_
  refine ev_imul dX11_get_9 ?_
  refine ev_iadd dX11_get_10 ?_
  refine ev_iload_n dX11_get_11 rfl ?_
  refine ev_iadd dX11_get_12 ?_
  obtain ⟨c, h⟩ := h
  refine ev_iald dX11_get_13 lm_1 c ?_
  exact ev_iret dX11_get_14 rfl h
theorem dX11_refused_0 : decode cX11_refused 0 = .ok (.aload_n 0, 1) := by decide +kernel
theorem dX11_refused_1 : decode cX11_refused 1 = .ok (.getfield 16, 3) := by decide +kernel
theorem dX11_refused_4 : decode cX11_refused 4 = .ok (.iload_n 1, 1) := by decide +kernel
theorem dX11_refused_5 : decode cX11_refused 5 = .ok (.iaload, 1) := by decide +kernel
theorem dX11_refused_6 : decode cX11_refused 6 = .ok (.sipush 9999, 3) := by decide +kernel
theorem dX11_refused_9 : decode cX11_refused 9 = .ok (.if_icmp .ge 13, 3) := by decide +kernel
theorem dX11_refused_12 : decode cX11_refused 12 = .ok (.aload_n 0, 1) := by decide +kernel
theorem dX11_refused_13 : decode cX11_refused 13 = .ok (.getfield 16, 3) := by decide +kernel
theorem dX11_refused_16 : decode cX11_refused 16 = .ok (.iload_n 1, 1) := by decide +kernel
theorem dX11_refused_17 : decode cX11_refused 17 = .ok (.dup2, 1) := by decide +kernel
theorem dX11_refused_18 : decode cX11_refused 18 = .ok (.iaload, 1) := by decide +kernel
theorem dX11_refused_19 : decode cX11_refused 19 = .ok (.iconst 1, 1) := by decide +kernel
theorem dX11_refused_20 : decode cX11_refused 20 = .ok (.iadd, 1) := by decide +kernel
theorem dX11_refused_21 : decode cX11_refused 21 = .ok (.iastore, 1) := by decide +kernel
theorem dX11_refused_22 : decode cX11_refused 22 = .ok (.iconst (-1), 1) := by decide +kernel
theorem dX11_refused_23 : decode cX11_refused 23 = .ok (.ireturn, 1) := by decide +kernel
theorem gX11_refused_0 {d : Nat} {M : ev_Mem} {Q : Option Value → ev_Mem → Prop} {x1 : Int32} (h : (vp_in x1 3 ∧ (((9999 ≤ (M.1 3 x1.toNatClampNeg)) → (Q (some (.int (-1))) M)) ∧ ((¬ 9999 ≤ (M.1 3 x1.toNatClampNeg)) → (vp_in x1 3 ∧ (vp_in x1 3 ∧ (∀ M1 : ev_Mem, M1 = ev_wr M 3 x1.toNatClampNeg ((M.1 3 x1.toNatClampNeg) + 1) → (Q (some (.int (-1))) M1)))))))) : Ev LM d mX11_refused 0 [some (.ref 0), some (.int x1)] [] M Q := by
  refine ev_aload_n dX11_refused_0 rfl ?_
  refine ev_getA dX11_refused_1 fl_WithoutEModel_16 lm_0 rfl ?_
  refine ev_iload_n dX11_refused_4 rfl ?_
  obtain ⟨c, h⟩ := h
  refine ev_iald dX11_refused_5 lm_3 c ?_
  refine ev_sipush (v := 9999) dX11_refused_6 (by decide) ?_
  refine ev_icmp_ge (tgt := 22) dX11_refused_9 (by decide) (fun c => ?_) (fun c => ?_)
  · replace h := h.1 c
    refine ev_iconst (v := -1) dX11_refused_22 (by decide) ?_
    exact ev_iret dX11_refused_23 rfl h
  · replace h := h.2 c
    refine ev_aload_n dX11_refused_12 rfl ?_
    refine ev_getA dX11_refused_13 fl_WithoutEModel_16 lm_0 rfl ?_
    refine ev_iload_n dX11_refused_16 rfl ?_
    refine ev_dup2 dX11_refused_17 rfl rfl ?_
    obtain ⟨c, h⟩ := h
    refine ev_iald dX11_refused_18 lm_3 c ?_
    refine ev_iconst (v := 1) dX11_refused_19 (by decide) ?_
    refine ev_iadd dX11_refused_20 ?_
    obtain ⟨c, h⟩ := h
    refine ev_iast dX11_refused_21 lm_3 c ?_
    generalize eM1 : ev_wr M 3 x1.toNatClampNeg ((M.1 3 x1.toNatClampNeg) + 1) = M1
    replace h := h M1 eM1.symm
    refine ev_iconst (v := -1) dX11_refused_22 (by decide) ?_
    exact ev_iret dX11_refused_23 rfl h
theorem dX11_byteAt_0 : decode cX11_byteAt 0 = .ok (.iload_n 1, 1) := by decide +kernel
theorem dX11_byteAt_1 : decode cX11_byteAt 1 = .ok (.aload_n 0, 1) := by decide +kernel
theorem dX11_byteAt_2 : decode cX11_byteAt 2 = .ok (.getfield 103, 3) := by decide +kernel
theorem dX11_byteAt_5 : decode cX11_byteAt 5 = .ok (.if_icmp .ge 12, 3) := by decide +kernel
theorem dX11_byteAt_8 : decode cX11_byteAt 8 = .ok (.aload_n 0, 1) := by decide +kernel
theorem dX11_byteAt_9 : decode cX11_byteAt 9 = .ok (.getfield 22, 3) := by decide +kernel
theorem dX11_byteAt_12 : decode cX11_byteAt 12 = .ok (.iload_n 1, 1) := by decide +kernel
theorem dX11_byteAt_13 : decode cX11_byteAt 13 = .ok (.iaload, 1) := by decide +kernel
theorem dX11_byteAt_14 : decode cX11_byteAt 14 = .ok (.goto 4, 3) := by decide +kernel
theorem dX11_byteAt_17 : decode cX11_byteAt 17 = .ok (.iconst (-1), 1) := by decide +kernel
theorem dX11_byteAt_18 : decode cX11_byteAt 18 = .ok (.ireturn, 1) := by decide +kernel
theorem gX11_byteAt_0 {d : Nat} {M : ev_Mem} {Q : Option Value → ev_Mem → Prop} {x1 : Int32} (h : ((((M.1 0 5) ≤ x1) → (Q (some (.int (-1))) M)) ∧ ((¬ (M.1 0 5) ≤ x1) → (vp_in x1 300 ∧ (Q (some (.int (M.1 5 x1.toNatClampNeg))) M))))) : Ev LM d mX11_byteAt 0 [some (.ref 0), some (.int x1)] [] M Q := by
  refine ev_iload_n dX11_byteAt_0 rfl ?_
  refine ev_aload_n dX11_byteAt_1 rfl ?_
  refine ev_getI dX11_byteAt_2 fl_WithoutEModel_103 lm_0 rfl ?_
  refine ev_icmp_ge (tgt := 17) dX11_byteAt_5 (by decide) (fun c => ?_) (fun c => ?_)
  · replace h := h.1 c
    refine ev_iconst (v := -1) dX11_byteAt_17 (by decide) ?_
    exact ev_iret dX11_byteAt_18 rfl h
  · replace h := h.2 c
    refine ev_aload_n dX11_byteAt_8 rfl ?_
    refine ev_getA dX11_byteAt_9 fl_WithoutEModel_22 lm_0 rfl ?_
    refine ev_iload_n dX11_byteAt_12 rfl ?_
    obtain ⟨c, h⟩ := h
    refine ev_iald dX11_byteAt_13 lm_5 c ?_
    refine ev_goto (tgt := 18) dX11_byteAt_14 (by decide) ?_
    exact ev_iret dX11_byteAt_18 rfl h
theorem dX11_isLetterByte_0 : decode cX11_isLetterByte 0 = .ok (.iload_n 0, 1) := by decide +kernel
theorem dX11_isLetterByte_1 : decode cX11_isLetterByte 1 = .ok (.bipush 97, 2) := by decide +kernel
theorem dX11_isLetterByte_3 : decode cX11_isLetterByte 3 = .ok (.if_icmp .lt 9, 3) := by decide +kernel
theorem dX11_isLetterByte_6 : decode cX11_isLetterByte 6 = .ok (.iload_n 0, 1) := by decide +kernel
theorem dX11_isLetterByte_7 : decode cX11_isLetterByte 7 = .ok (.bipush 122, 2) := by decide +kernel
theorem dX11_isLetterByte_9 : decode cX11_isLetterByte 9 = .ok (.if_icmp .le 15, 3) := by decide +kernel
theorem dX11_isLetterByte_12 : decode cX11_isLetterByte 12 = .ok (.iload_n 0, 1) := by decide +kernel
theorem dX11_isLetterByte_13 : decode cX11_isLetterByte 13 = .ok (.bipush 65, 2) := by decide +kernel
theorem dX11_isLetterByte_15 : decode cX11_isLetterByte 15 = .ok (.if_icmp .lt 13, 3) := by decide +kernel
theorem dX11_isLetterByte_18 : decode cX11_isLetterByte 18 = .ok (.iload_n 0, 1) := by decide +kernel
theorem dX11_isLetterByte_19 : decode cX11_isLetterByte 19 = .ok (.bipush 90, 2) := by decide +kernel
theorem dX11_isLetterByte_21 : decode cX11_isLetterByte 21 = .ok (.if_icmp .gt 7, 3) := by decide +kernel
theorem dX11_isLetterByte_24 : decode cX11_isLetterByte 24 = .ok (.iconst 1, 1) := by decide +kernel
theorem dX11_isLetterByte_25 : decode cX11_isLetterByte 25 = .ok (.goto 4, 3) := by decide +kernel
theorem dX11_isLetterByte_28 : decode cX11_isLetterByte 28 = .ok (.iconst 0, 1) := by decide +kernel
theorem dX11_isLetterByte_29 : decode cX11_isLetterByte 29 = .ok (.ireturn, 1) := by decide +kernel
theorem gX11_isLetterByte_0 {d : Nat} {M : ev_Mem} {Q : Option Value → ev_Mem → Prop} {x0 : Int32} (h : (((x0 < 97) → (((x0 < 65) → (Q (some (.int 0)) M)) ∧ ((¬ x0 < 65) → (((90 < x0) → (Q (some (.int 0)) M)) ∧ ((¬ 90 < x0) → (Q (some (.int 1)) M)))))) ∧ ((¬ x0 < 97) → (((x0 ≤ 122) → (Q (some (.int 1)) M)) ∧ ((¬ x0 ≤ 122) → (((x0 < 65) → (Q (some (.int 0)) M)) ∧ ((¬ x0 < 65) → (((90 < x0) → (Q (some (.int 0)) M)) ∧ ((¬ 90 < x0) → (Q (some (.int 1)) M)))))))))) : Ev LM d mX11_isLetterByte 0 [some (.int x0)] [] M Q := by
  refine ev_iload_n dX11_isLetterByte_0 rfl ?_
  refine ev_bipush (v := 97) dX11_isLetterByte_1 (by decide) ?_
  refine ev_icmp_lt (tgt := 12) dX11_isLetterByte_3 (by decide) (fun c => ?_) (fun c => ?_)
  · replace h := h.1 c
    refine ev_iload_n dX11_isLetterByte_12 rfl ?_
    refine ev_bipush (v := 65) dX11_isLetterByte_13 (by decide) ?_
    refine ev_icmp_lt (tgt := 28) dX11_isLetterByte_15 (by decide) (fun c => ?_) (fun c => ?_)
    · replace h := h.1 c
      refine ev_iconst (v := 0) dX11_isLetterByte_28 (by decide) ?_
      exact ev_zret dX11_isLetterByte_29 rfl (by decide) h
    · replace h := h.2 c
      refine ev_iload_n dX11_isLetterByte_18 rfl ?_
      refine ev_bipush (v := 90) dX11_isLetterByte_19 (by decide) ?_
      refine ev_icmp_gt (tgt := 28) dX11_isLetterByte_21 (by decide) (fun c => ?_) (fun c => ?_)
      · replace h := h.1 c
        refine ev_iconst (v := 0) dX11_isLetterByte_28 (by decide) ?_
        exact ev_zret dX11_isLetterByte_29 rfl (by decide) h
      · replace h := h.2 c
        refine ev_iconst (v := 1) dX11_isLetterByte_24 (by decide) ?_
        refine ev_goto (tgt := 29) dX11_isLetterByte_25 (by decide) ?_
        exact ev_zret dX11_isLetterByte_29 rfl (by decide) h
  · replace h := h.2 c
    refine ev_iload_n dX11_isLetterByte_6 rfl ?_
    refine ev_bipush (v := 122) dX11_isLetterByte_7 (by decide) ?_
    refine ev_icmp_le (tgt := 24) dX11_isLetterByte_9 (by decide) (fun c => ?_) (fun c => ?_)
    · replace h := h.1 c
      refine ev_iconst (v := 1) dX11_isLetterByte_24 (by decide) ?_
      refine ev_goto (tgt := 29) dX11_isLetterByte_25 (by decide) ?_
      exact ev_zret dX11_isLetterByte_29 rfl (by decide) h
    · replace h := h.2 c
      refine ev_iload_n dX11_isLetterByte_12 rfl ?_
      refine ev_bipush (v := 65) dX11_isLetterByte_13 (by decide) ?_
      refine ev_icmp_lt (tgt := 28) dX11_isLetterByte_15 (by decide) (fun c => ?_) (fun c => ?_)
      · replace h := h.1 c
        refine ev_iconst (v := 0) dX11_isLetterByte_28 (by decide) ?_
        exact ev_zret dX11_isLetterByte_29 rfl (by decide) h
      · replace h := h.2 c
        refine ev_iload_n dX11_isLetterByte_18 rfl ?_
        refine ev_bipush (v := 90) dX11_isLetterByte_19 (by decide) ?_
        refine ev_icmp_gt (tgt := 28) dX11_isLetterByte_21 (by decide) (fun c => ?_) (fun c => ?_)
        · replace h := h.1 c
          refine ev_iconst (v := 0) dX11_isLetterByte_28 (by decide) ?_
          exact ev_zret dX11_isLetterByte_29 rfl (by decide) h
        · replace h := h.2 c
          refine ev_iconst (v := 1) dX11_isLetterByte_24 (by decide) ?_
          refine ev_goto (tgt := 29) dX11_isLetterByte_25 (by decide) ?_
          exact ev_zret dX11_isLetterByte_29 rfl (by decide) h
theorem dX11_isFigure_0 : decode cX11_isFigure 0 = .ok (.iload_n 0, 1) := by decide +kernel
theorem dX11_isFigure_1 : decode cX11_isFigure 1 = .ok (.bipush 48, 2) := by decide +kernel
theorem dX11_isFigure_3 : decode cX11_isFigure 3 = .ok (.if_icmp .lt 13, 3) := by decide +kernel
theorem dX11_isFigure_6 : decode cX11_isFigure 6 = .ok (.iload_n 0, 1) := by decide +kernel
theorem dX11_isFigure_7 : decode cX11_isFigure 7 = .ok (.bipush 57, 2) := by decide +kernel
theorem dX11_isFigure_9 : decode cX11_isFigure 9 = .ok (.if_icmp .gt 7, 3) := by decide +kernel
theorem dX11_isFigure_12 : decode cX11_isFigure 12 = .ok (.iconst 1, 1) := by decide +kernel
theorem dX11_isFigure_13 : decode cX11_isFigure 13 = .ok (.goto 4, 3) := by decide +kernel
theorem dX11_isFigure_16 : decode cX11_isFigure 16 = .ok (.iconst 0, 1) := by decide +kernel
theorem dX11_isFigure_17 : decode cX11_isFigure 17 = .ok (.ireturn, 1) := by decide +kernel
theorem gX11_isFigure_0 {d : Nat} {M : ev_Mem} {Q : Option Value → ev_Mem → Prop} {x0 : Int32} (h : (((x0 < 48) → (Q (some (.int 0)) M)) ∧ ((¬ x0 < 48) → (((57 < x0) → (Q (some (.int 0)) M)) ∧ ((¬ 57 < x0) → (Q (some (.int 1)) M)))))) : Ev LM d mX11_isFigure 0 [some (.int x0)] [] M Q := by
  refine ev_iload_n dX11_isFigure_0 rfl ?_
  refine ev_bipush (v := 48) dX11_isFigure_1 (by decide) ?_
  refine ev_icmp_lt (tgt := 16) dX11_isFigure_3 (by decide) (fun c => ?_) (fun c => ?_)
  · replace h := h.1 c
    refine ev_iconst (v := 0) dX11_isFigure_16 (by decide) ?_
    exact ev_zret dX11_isFigure_17 rfl (by decide) h
  · replace h := h.2 c
    refine ev_iload_n dX11_isFigure_6 rfl ?_
    refine ev_bipush (v := 57) dX11_isFigure_7 (by decide) ?_
    refine ev_icmp_gt (tgt := 16) dX11_isFigure_9 (by decide) (fun c => ?_) (fun c => ?_)
    · replace h := h.1 c
      refine ev_iconst (v := 0) dX11_isFigure_16 (by decide) ?_
      exact ev_zret dX11_isFigure_17 rfl (by decide) h
    · replace h := h.2 c
      refine ev_iconst (v := 1) dX11_isFigure_12 (by decide) ?_
      refine ev_goto (tgt := 17) dX11_isFigure_13 (by decide) ?_
      exact ev_zret dX11_isFigure_17 rfl (by decide) h
theorem dX11_isSign_0 : decode cX11_isSign 0 = .ok (.iload_n 0, 1) := by decide +kernel
theorem dX11_isSign_1 : decode cX11_isSign 1 = .ok (.tableswitch 129 35 62 #[127, 129, 129, 129, 129, 127, 127, 127, 127, 127, 127, 129, 127, 129, 129, 129, 129, 129, 129, 129, 129, 129, 129, 129, 127, 127, 127, 127], 127) := by decide +kernel
theorem dX11_isSign_128 : decode cX11_isSign 128 = .ok (.iconst 1, 1) := by decide +kernel
theorem dX11_isSign_129 : decode cX11_isSign 129 = .ok (.ireturn, 1) := by decide +kernel
theorem dX11_isSign_130 : decode cX11_isSign 130 = .ok (.iconst 0, 1) := by decide +kernel
theorem dX11_isSign_131 : decode cX11_isSign 131 = .ok (.ireturn, 1) := by decide +kernel
theorem gX11_isSign_0 {d : Nat} {M : ev_Mem} {Q : Option Value → ev_Mem → Prop} {x0 : Int32} (h : (((x0 = 35 ∨ x0 = 40 ∨ x0 = 41 ∨ x0 = 42 ∨ x0 = 43 ∨ x0 = 44 ∨ x0 = 45 ∨ x0 = 47 ∨ x0 = 59 ∨ x0 = 60 ∨ x0 = 61 ∨ x0 = 62) → (Q (some (.int 1)) M)) ∧ ((¬ x0 = 35 ∧ ¬ x0 = 40 ∧ ¬ x0 = 41 ∧ ¬ x0 = 42 ∧ ¬ x0 = 43 ∧ ¬ x0 = 44 ∧ ¬ x0 = 45 ∧ ¬ x0 = 47 ∧ ¬ x0 = 59 ∧ ¬ x0 = 60 ∧ ¬ x0 = 61 ∧ ¬ x0 = 62) → (Q (some (.int 0)) M)))) : Ev LM d mX11_isSign 0 [some (.int x0)] [] M Q := by
  refine ev_iload_n dX11_isSign_0 rfl ?_
  obtain ⟨h0, h1⟩ := h
  by_cases e0 : x0 = 35 ∨ x0 = 40 ∨ x0 = 41 ∨ x0 = 42 ∨ x0 = 43 ∨ x0 = 44 ∨ x0 = 45 ∨ x0 = 47 ∨ x0 = 59 ∨ x0 = 60 ∨ x0 = 61 ∨ x0 = 62
  · replace h := h0 e0
    have hk : ∃ off : Int, ¬ (x0 : Int32).toInt < 35 ∧ ¬ 62 < (x0 : Int32).toInt ∧ #[127, 129, 129, 129, 129, 127, 127, 127, 127, 127, 127, 129, 127, 129, 129, 129, 129, 129, 129, 129, 129, 129, 129, 129, 127, 127, 127, 127][((x0 : Int32).toInt - 35).toNat]? = some off ∧ ((1 : Nat) : Int) + off = ((128 : Nat) : Int) := by
      rcases e0 with e | e | e | e | e | e | e | e | e | e | e | e
      · rw [e]; exact ⟨127, by decide, by decide, by decide, by decide⟩
      · rw [e]; exact ⟨127, by decide, by decide, by decide, by decide⟩
      · rw [e]; exact ⟨127, by decide, by decide, by decide, by decide⟩
      · rw [e]; exact ⟨127, by decide, by decide, by decide, by decide⟩
      · rw [e]; exact ⟨127, by decide, by decide, by decide, by decide⟩
      · rw [e]; exact ⟨127, by decide, by decide, by decide, by decide⟩
      · rw [e]; exact ⟨127, by decide, by decide, by decide, by decide⟩
      · rw [e]; exact ⟨127, by decide, by decide, by decide, by decide⟩
      · rw [e]; exact ⟨127, by decide, by decide, by decide, by decide⟩
      · rw [e]; exact ⟨127, by decide, by decide, by decide, by decide⟩
      · rw [e]; exact ⟨127, by decide, by decide, by decide, by decide⟩
      · rw [e]; exact ⟨127, by decide, by decide, by decide, by decide⟩
    obtain ⟨off, k1, k2, k3, k4⟩ := hk
    refine ev_tableIn (tgt := 128) dX11_isSign_1 k1 k2 k3 k4 ?_
    refine ev_iconst (v := 1) dX11_isSign_128 (by decide) ?_
    exact ev_zret dX11_isSign_129 rfl (by decide) h
  replace h := h1 ⟨fun e => e0 (Or.inl e), fun e => e0 (Or.inr (Or.inl e)), fun e => e0 (Or.inr (Or.inr (Or.inl e))), fun e => e0 (Or.inr (Or.inr (Or.inr (Or.inl e)))), fun e => e0 (Or.inr (Or.inr (Or.inr (Or.inr (Or.inl e))))), fun e => e0 (Or.inr (Or.inr (Or.inr (Or.inr (Or.inr (Or.inl e)))))), fun e => e0 (Or.inr (Or.inr (Or.inr (Or.inr (Or.inr (Or.inr (Or.inl e))))))), fun e => e0 (Or.inr (Or.inr (Or.inr (Or.inr (Or.inr (Or.inr (Or.inr (Or.inl e)))))))), fun e => e0 (Or.inr (Or.inr (Or.inr (Or.inr (Or.inr (Or.inr (Or.inr (Or.inr (Or.inl e))))))))), fun e => e0 (Or.inr (Or.inr (Or.inr (Or.inr (Or.inr (Or.inr (Or.inr (Or.inr (Or.inr (Or.inl e)))))))))), fun e => e0 (Or.inr (Or.inr (Or.inr (Or.inr (Or.inr (Or.inr (Or.inr (Or.inr (Or.inr (Or.inr (Or.inl e))))))))))), fun e => e0 (Or.inr (Or.inr (Or.inr (Or.inr (Or.inr (Or.inr (Or.inr (Or.inr (Or.inr (Or.inr (Or.inr (e))))))))))))⟩
  have hk : ((x0 : Int32).toInt < 35 ∨ 62 < (x0 : Int32).toInt) ∨ ((x0 : Int32).toInt = 36 ∨ (x0 : Int32).toInt = 37 ∨ (x0 : Int32).toInt = 38 ∨ (x0 : Int32).toInt = 39 ∨ (x0 : Int32).toInt = 46 ∨ (x0 : Int32).toInt = 48 ∨ (x0 : Int32).toInt = 49 ∨ (x0 : Int32).toInt = 50 ∨ (x0 : Int32).toInt = 51 ∨ (x0 : Int32).toInt = 52 ∨ (x0 : Int32).toInt = 53 ∨ (x0 : Int32).toInt = 54 ∨ (x0 : Int32).toInt = 55 ∨ (x0 : Int32).toInt = 56 ∨ (x0 : Int32).toInt = 57 ∨ (x0 : Int32).toInt = 58) := by
    have t : ∀ k : Int32, ¬ (x0 : Int32) = k → (x0 : Int32).toInt ≠ k.toInt := fun k hne e => hne (Int32.toInt_inj.mp e)
    have z35 : (x0 : Int32).toInt ≠ 35 := t 35 (fun e => by simp_all)
    have z40 : (x0 : Int32).toInt ≠ 40 := t 40 (fun e => by simp_all)
    have z41 : (x0 : Int32).toInt ≠ 41 := t 41 (fun e => by simp_all)
    have z42 : (x0 : Int32).toInt ≠ 42 := t 42 (fun e => by simp_all)
    have z43 : (x0 : Int32).toInt ≠ 43 := t 43 (fun e => by simp_all)
    have z44 : (x0 : Int32).toInt ≠ 44 := t 44 (fun e => by simp_all)
    have z45 : (x0 : Int32).toInt ≠ 45 := t 45 (fun e => by simp_all)
    have z47 : (x0 : Int32).toInt ≠ 47 := t 47 (fun e => by simp_all)
    have z59 : (x0 : Int32).toInt ≠ 59 := t 59 (fun e => by simp_all)
    have z60 : (x0 : Int32).toInt ≠ 60 := t 60 (fun e => by simp_all)
    have z61 : (x0 : Int32).toInt ≠ 61 := t 61 (fun e => by simp_all)
    have z62 : (x0 : Int32).toInt ≠ 62 := t 62 (fun e => by simp_all)
    omega
  rcases hk with hk | hk
  · refine ev_tableOut (tgt := 130) dX11_isSign_1 hk (by decide) ?_
    refine ev_iconst (v := 0) dX11_isSign_130 (by decide) ?_
    exact ev_zret dX11_isSign_131 rfl (by decide) h
  · have hk2 : ∃ off : Int, ¬ (x0 : Int32).toInt < 35 ∧ ¬ 62 < (x0 : Int32).toInt ∧ #[127, 129, 129, 129, 129, 127, 127, 127, 127, 127, 127, 129, 127, 129, 129, 129, 129, 129, 129, 129, 129, 129, 129, 129, 127, 127, 127, 127][((x0 : Int32).toInt - 35).toNat]? = some off ∧ ((1 : Nat) : Int) + off = ((130 : Nat) : Int) := by
      rcases hk with e | e | e | e | e | e | e | e | e | e | e | e | e | e | e | e
      · rw [e]; exact ⟨129, by decide, by decide, by decide, by decide⟩
      · rw [e]; exact ⟨129, by decide, by decide, by decide, by decide⟩
      · rw [e]; exact ⟨129, by decide, by decide, by decide, by decide⟩
      · rw [e]; exact ⟨129, by decide, by decide, by decide, by decide⟩
      · rw [e]; exact ⟨129, by decide, by decide, by decide, by decide⟩
      · rw [e]; exact ⟨129, by decide, by decide, by decide, by decide⟩
      · rw [e]; exact ⟨129, by decide, by decide, by decide, by decide⟩
      · rw [e]; exact ⟨129, by decide, by decide, by decide, by decide⟩
      · rw [e]; exact ⟨129, by decide, by decide, by decide, by decide⟩
      · rw [e]; exact ⟨129, by decide, by decide, by decide, by decide⟩
      · rw [e]; exact ⟨129, by decide, by decide, by decide, by decide⟩
      · rw [e]; exact ⟨129, by decide, by decide, by decide, by decide⟩
      · rw [e]; exact ⟨129, by decide, by decide, by decide, by decide⟩
      · rw [e]; exact ⟨129, by decide, by decide, by decide, by decide⟩
      · rw [e]; exact ⟨129, by decide, by decide, by decide, by decide⟩
      · rw [e]; exact ⟨129, by decide, by decide, by decide, by decide⟩
    obtain ⟨off, k1, k2, k3, k4⟩ := hk2
    refine ev_tableIn (tgt := 130) dX11_isSign_1 k1 k2 k3 k4 ?_
    refine ev_iconst (v := 0) dX11_isSign_130 (by decide) ?_
    exact ev_zret dX11_isSign_131 rfl (by decide) h
theorem dX11_w2_0 : decode cX11_w2 0 = .ok (.iload_n 0, 1) := by decide +kernel
theorem dX11_w2_1 : decode cX11_w2 1 = .ok (.i2l, 1) := by decide +kernel
theorem dX11_w2_2 : decode cX11_w2 2 = .ok (.bipush 8, 2) := by decide +kernel
theorem dX11_w2_4 : decode cX11_w2 4 = .ok (.lshl, 1) := by decide +kernel
theorem dX11_w2_5 : decode cX11_w2 5 = .ok (.iload_n 1, 1) := by decide +kernel
theorem dX11_w2_6 : decode cX11_w2 6 = .ok (.i2l, 1) := by decide +kernel
theorem dX11_w2_7 : decode cX11_w2 7 = .ok (.lor, 1) := by decide +kernel
theorem dX11_w2_8 : decode cX11_w2 8 = .ok (.lreturn, 1) := by decide +kernel
theorem gX11_w2_0 {d : Nat} {M : ev_Mem} {Q : Option Value → ev_Mem → Prop} {x0 x1 : Int32} (h : (Q (some (.long ((((x0 : Int32).toInt64) <<< (((8 : Int32)).toInt64 &&& 63)) ||| ((x1 : Int32).toInt64)))) M)) : Ev LM d mX11_w2 0 [some (.int x0), some (.int x1)] [] M Q := by
  refine ev_iload_n dX11_w2_0 rfl ?_
  refine ev_i2l dX11_w2_1 ?_
  refine ev_bipush (v := 8) dX11_w2_2 (by decide) ?_
  refine ev_lshl dX11_w2_4 ?_
  refine ev_iload_n dX11_w2_5 rfl ?_
  refine ev_i2l dX11_w2_6 ?_
  refine ev_lor dX11_w2_7 ?_
  exact ev_lret dX11_w2_8 rfl h
theorem dX11_isWord_0 : decode cX11_isWord 0 = .ok (.aload_n 0, 1) := by decide +kernel
theorem dX11_isWord_1 : decode cX11_isWord 1 = .ok (.getfield 119, 3) := by decide +kernel
theorem dX11_isWord_4 : decode cX11_isWord 4 = .ok (.iconst 2, 1) := by decide +kernel
theorem dX11_isWord_5 : decode cX11_isWord 5 = .ok (.if_icmp .ne 16, 3) := by decide +kernel
theorem dX11_isWord_8 : decode cX11_isWord 8 = .ok (.aload_n 0, 1) := by decide +kernel
theorem dX11_isWord_9 : decode cX11_isWord 9 = .ok (.getfield 132, 3) := by decide +kernel
theorem dX11_isWord_12 : decode cX11_isWord 12 = .ok (.lload_n 1, 1) := by decide +kernel
theorem dX11_isWord_13 : decode cX11_isWord 13 = .ok (.lcmp, 1) := by decide +kernel
theorem dX11_isWord_14 : decode cX11_isWord 14 = .ok (.ifCond .ne 7, 3) := by decide +kernel
theorem dX11_isWord_17 : decode cX11_isWord 17 = .ok (.iconst 1, 1) := by decide +kernel
theorem dX11_isWord_18 : decode cX11_isWord 18 = .ok (.goto 4, 3) := by decide +kernel
theorem dX11_isWord_21 : decode cX11_isWord 21 = .ok (.iconst 0, 1) := by decide +kernel
theorem dX11_isWord_22 : decode cX11_isWord 22 = .ok (.ireturn, 1) := by decide +kernel
theorem gX11_isWord_0 {d : Nat} {M : ev_Mem} {Q : Option Value → ev_Mem → Prop} {x1 : Int64} (h : (((¬ (M.1 0 10) = 2) → (Q (some (.int 0)) M)) ∧ (((M.1 0 10) = 2) → (((¬ (lg_cmp (M.2 0 12) x1) = 0) → (Q (some (.int 0)) M)) ∧ (((lg_cmp (M.2 0 12) x1) = 0) → (Q (some (.int 1)) M)))))) : Ev LM d mX11_isWord 0 [some (.ref 0), some (.long x1), none] [] M Q := by
  refine ev_aload_n dX11_isWord_0 rfl ?_
  refine ev_getI dX11_isWord_1 fl_WithoutEModel_119 lm_0 rfl ?_
  refine ev_iconst (v := 2) dX11_isWord_4 (by decide) ?_
  refine ev_icmp_ne (tgt := 21) dX11_isWord_5 (by decide) (fun c => ?_) (fun c => ?_)
  · replace h := h.1 c
    refine ev_iconst (v := 0) dX11_isWord_21 (by decide) ?_
    exact ev_zret dX11_isWord_22 rfl (by decide) h
  · replace h := h.2 c
    refine ev_aload_n dX11_isWord_8 rfl ?_
    refine ev_getJ dX11_isWord_9 fl_WithoutEModel_132 lm_0 rfl ?_
    refine ev_lload_n dX11_isWord_12 rfl ?_
    refine ev_lcmp dX11_isWord_13 ?_
    refine ev_if_ne (tgt := 21) dX11_isWord_14 (by decide) (fun c => ?_) (fun c => ?_)
    · replace h := h.1 c
      refine ev_iconst (v := 0) dX11_isWord_21 (by decide) ?_
      exact ev_zret dX11_isWord_22 rfl (by decide) h
    · replace h := h.2 c
      refine ev_iconst (v := 1) dX11_isWord_17 (by decide) ?_
      refine ev_goto (tgt := 22) dX11_isWord_18 (by decide) ?_
      exact ev_zret dX11_isWord_22 rfl (by decide) h
theorem dX11_emit_0 : decode cX11_emit 0 = .ok (.aload_n 0, 1) := by decide +kernel
theorem dX11_emit_1 : decode cX11_emit 1 = .ok (.getfield 19, 3) := by decide +kernel
theorem dX11_emit_4 : decode cX11_emit 4 = .ok (.aload_n 0, 1) := by decide +kernel
theorem dX11_emit_5 : decode cX11_emit 5 = .ok (.getfield 157, 3) := by decide +kernel
theorem dX11_emit_8 : decode cX11_emit 8 = .ok (.sipush 337, 3) := by decide +kernel
theorem dX11_emit_11 : decode cX11_emit 11 = .ok (.iadd, 1) := by decide +kernel
theorem dX11_emit_12 : decode cX11_emit 12 = .ok (.iconst 2, 1) := by decide +kernel
theorem dX11_emit_13 : decode cX11_emit 13 = .ok (.aload_n 0, 1) := by decide +kernel
theorem dX11_emit_14 : decode cX11_emit 14 = .ok (.getfield 160, 3) := by decide +kernel
theorem dX11_emit_17 : decode cX11_emit 17 = .ok (.imul, 1) := by decide +kernel
theorem dX11_emit_18 : decode cX11_emit 18 = .ok (.iadd, 1) := by decide +kernel
theorem dX11_emit_19 : decode cX11_emit 19 = .ok (.iload_n 1, 1) := by decide +kernel
theorem dX11_emit_20 : decode cX11_emit 20 = .ok (.iastore, 1) := by decide +kernel
theorem dX11_emit_21 : decode cX11_emit 21 = .ok (.aload_n 0, 1) := by decide +kernel
theorem dX11_emit_22 : decode cX11_emit 22 = .ok (.getfield 19, 3) := by decide +kernel
theorem dX11_emit_25 : decode cX11_emit 25 = .ok (.aload_n 0, 1) := by decide +kernel
theorem dX11_emit_26 : decode cX11_emit 26 = .ok (.getfield 157, 3) := by decide +kernel
theorem dX11_emit_29 : decode cX11_emit 29 = .ok (.sipush 337, 3) := by decide +kernel
theorem dX11_emit_32 : decode cX11_emit 32 = .ok (.iadd, 1) := by decide +kernel
theorem dX11_emit_33 : decode cX11_emit 33 = .ok (.iconst 2, 1) := by decide +kernel
theorem dX11_emit_34 : decode cX11_emit 34 = .ok (.aload_n 0, 1) := by decide +kernel
theorem dX11_emit_35 : decode cX11_emit 35 = .ok (.getfield 160, 3) := by decide +kernel
theorem dX11_emit_38 : decode cX11_emit 38 = .ok (.imul, 1) := by decide +kernel
theorem dX11_emit_39 : decode cX11_emit 39 = .ok (.iadd, 1) := by decide +kernel
theorem dX11_emit_40 : decode cX11_emit 40 = .ok (.iconst 1, 1) := by decide +kernel
theorem dX11_emit_41 : decode cX11_emit 41 = .ok (.iadd, 1) := by decide +kernel
theorem dX11_emit_42 : decode cX11_emit 42 = .ok (.iload_n 2, 1) := by decide +kernel
theorem dX11_emit_43 : decode cX11_emit 43 = .ok (.iastore, 1) := by decide +kernel
theorem dX11_emit_44 : decode cX11_emit 44 = .ok (.aload_n 0, 1) := by decide +kernel
theorem dX11_emit_45 : decode cX11_emit 45 = .ok (.dup, 1) := by decide +kernel
theorem dX11_emit_46 : decode cX11_emit 46 = .ok (.getfield 160, 3) := by decide +kernel
theorem dX11_emit_49 : decode cX11_emit 49 = .ok (.iconst 1, 1) := by decide +kernel
theorem dX11_emit_50 : decode cX11_emit 50 = .ok (.iadd, 1) := by decide +kernel
theorem dX11_emit_51 : decode cX11_emit 51 = .ok (.putfield 160, 3) := by decide +kernel
theorem dX11_emit_54 : decode cX11_emit 54 = .ok (.return_, 1) := by decide +kernel
theorem gX11_emit_0 {d : Nat} {M : ev_Mem} {Q : Option Value → ev_Mem → Prop} {x1 x2 : Int32} (h : (vp_in (((M.1 0 13) + 337) + (2 * (M.1 0 14))) 3780 ∧ (∀ M1 : ev_Mem, M1 = ev_wr M 4 (((M.1 0 13) + 337) + (2 * (M.1 0 14))).toNatClampNeg x1 → (vp_in ((((M1.1 0 13) + 337) + (2 * (M1.1 0 14))) + 1) 3780 ∧ (∀ M2 : ev_Mem, M2 = ev_wr M1 4 ((((M1.1 0 13) + 337) + (2 * (M1.1 0 14))) + 1).toNatClampNeg x2 → (∀ M3 : ev_Mem, M3 = ev_wr M2 0 14 ((M2.1 0 14) + 1) → (Q none M3))))))) : Ev LM d mX11_emit 0 [some (.ref 0), some (.int x1), some (.int x2)] [] M Q := by
  refine ev_aload_n dX11_emit_0 rfl ?_
  refine ev_getA dX11_emit_1 fl_WithoutEModel_19 lm_0 rfl ?_
  refine ev_aload_n dX11_emit_4 rfl ?_
  refine ev_getI dX11_emit_5 fl_WithoutEModel_157 lm_0 rfl ?_
  refine ev_sipush (v := 337) dX11_emit_8 (by decide) ?_
  refine ev_iadd dX11_emit_11 ?_
  refine ev_iconst (v := 2) dX11_emit_12 (by decide) ?_
  refine ev_aload_n dX11_emit_13 rfl ?_
  refine ev_getI dX11_emit_14 fl_WithoutEModel_160 lm_0 rfl ?_
  refine ev_imul dX11_emit_17 ?_
  refine ev_iadd dX11_emit_18 ?_
  refine ev_iload_n dX11_emit_19 rfl ?_
  obtain ⟨c, h⟩ := h
  refine ev_iast dX11_emit_20 lm_4 c ?_
  generalize eM1 : ev_wr M 4 (((M.1 0 13) + 337) + (2 * (M.1 0 14))).toNatClampNeg x1 = M1
  replace h := h M1 eM1.symm
  refine ev_aload_n dX11_emit_21 rfl ?_
  refine ev_getA dX11_emit_22 fl_WithoutEModel_19 lm_0 rfl ?_
  refine ev_aload_n dX11_emit_25 rfl ?_
  refine ev_getI dX11_emit_26 fl_WithoutEModel_157 lm_0 rfl ?_
  refine ev_sipush (v := 337) dX11_emit_29 (by decide) ?_
  refine ev_iadd dX11_emit_32 ?_
  refine ev_iconst (v := 2) dX11_emit_33 (by decide) ?_
  refine ev_aload_n dX11_emit_34 rfl ?_
  refine ev_getI dX11_emit_35 fl_WithoutEModel_160 lm_0 rfl ?_
  refine ev_imul dX11_emit_38 ?_
  refine ev_iadd dX11_emit_39 ?_
  refine ev_iconst (v := 1) dX11_emit_40 (by decide) ?_
  refine ev_iadd dX11_emit_41 ?_
  refine ev_iload_n dX11_emit_42 rfl ?_
  obtain ⟨c, h⟩ := h
  refine ev_iast dX11_emit_43 lm_4 c ?_
  generalize eM2 : ev_wr M1 4 ((((M1.1 0 13) + 337) + (2 * (M1.1 0 14))) + 1).toNatClampNeg x2 = M2
  replace h := h M2 eM2.symm
  refine ev_aload_n dX11_emit_44 rfl ?_
  refine ev_dup dX11_emit_45 rfl ?_
  refine ev_getI dX11_emit_46 fl_WithoutEModel_160 lm_0 rfl ?_
  refine ev_iconst (v := 1) dX11_emit_49 (by decide) ?_
  refine ev_iadd dX11_emit_50 ?_
  refine ev_putI dX11_emit_51 fp_WithoutEModel_160 lm_0 rfl rfl rfl ?_
  generalize eM3 : ev_wr M2 0 14 ((M2.1 0 14) + 1) = M3
  replace h := h M3 eM3.symm
  exact ev_vret dX11_emit_54 rfl h
theorem dX11_isOf_0 : decode cX11_isOf 0 = .ok (.iload_n 1, 1) := by decide +kernel
theorem dX11_isOf_1 : decode cX11_isOf 1 = .ok (.iconst 2, 1) := by decide +kernel
theorem dX11_isOf_2 : decode cX11_isOf 2 = .ok (.if_icmp .lt 44, 3) := by decide +kernel
theorem dX11_isOf_5 : decode cX11_isOf 5 = .ok (.iload_n 1, 1) := by decide +kernel
theorem dX11_isOf_6 : decode cX11_isOf 6 = .ok (.bipush 7, 2) := by decide +kernel
theorem dX11_isOf_8 : decode cX11_isOf 8 = .ok (.if_icmp .ge 13, 3) := by decide +kernel
theorem dX11_isOf_11 : decode cX11_isOf 11 = .ok (.aload_n 0, 1) := by decide +kernel
theorem dX11_isOf_12 : decode cX11_isOf 12 = .ok (.getfield 171, 3) := by decide +kernel
theorem dX11_isOf_15 : decode cX11_isOf 15 = .ok (.ifCond .ne 35, 3) := by decide +kernel
theorem dX11_isOf_18 : decode cX11_isOf 18 = .ok (.goto 28, 3) := by decide +kernel
theorem dX11_isOf_21 : decode cX11_isOf 21 = .ok (.iload_n 1, 1) := by decide +kernel
theorem dX11_isOf_22 : decode cX11_isOf 22 = .ok (.bipush 9, 2) := by decide +kernel
theorem dX11_isOf_24 : decode cX11_isOf 24 = .ok (.if_icmp .ge 14, 3) := by decide +kernel
theorem dX11_isOf_27 : decode cX11_isOf 27 = .ok (.aload_n 0, 1) := by decide +kernel
theorem dX11_isOf_28 : decode cX11_isOf 28 = .ok (.getfield 171, 3) := by decide +kernel
theorem dX11_isOf_31 : decode cX11_isOf 31 = .ok (.iconst 1, 1) := by decide +kernel
theorem dX11_isOf_32 : decode cX11_isOf 32 = .ok (.if_icmp .ne 18, 3) := by decide +kernel
theorem dX11_isOf_35 : decode cX11_isOf 35 = .ok (.goto 11, 3) := by decide +kernel
theorem dX11_isOf_38 : decode cX11_isOf 38 = .ok (.aload_n 0, 1) := by decide +kernel
theorem dX11_isOf_39 : decode cX11_isOf 39 = .ok (.getfield 171, 3) := by decide +kernel
theorem dX11_isOf_42 : decode cX11_isOf 42 = .ok (.iconst 2, 1) := by decide +kernel
theorem dX11_isOf_43 : decode cX11_isOf 43 = .ok (.if_icmp .ne 7, 3) := by decide +kernel
theorem dX11_isOf_46 : decode cX11_isOf 46 = .ok (.iconst 1, 1) := by decide +kernel
theorem dX11_isOf_47 : decode cX11_isOf 47 = .ok (.goto 4, 3) := by decide +kernel
theorem dX11_isOf_50 : decode cX11_isOf 50 = .ok (.iconst 0, 1) := by decide +kernel
theorem dX11_isOf_51 : decode cX11_isOf 51 = .ok (.ireturn, 1) := by decide +kernel
theorem gX11_isOf_0 {d : Nat} {M : ev_Mem} {Q : Option Value → ev_Mem → Prop} {x1 : Int32} (h : (((x1 < 2) → (Q (some (.int 1)) M)) ∧ ((¬ x1 < 2) → (((7 ≤ x1) → (((9 ≤ x1) → (((¬ (M.1 0 15) = 2) → (Q (some (.int 0)) M)) ∧ (((M.1 0 15) = 2) → (Q (some (.int 1)) M)))) ∧ ((¬ 9 ≤ x1) → (((¬ (M.1 0 15) = 1) → (Q (some (.int 0)) M)) ∧ (((M.1 0 15) = 1) → (Q (some (.int 1)) M)))))) ∧ ((¬ 7 ≤ x1) → (((¬ (M.1 0 15) = 0) → (Q (some (.int 0)) M)) ∧ (((M.1 0 15) = 0) → (Q (some (.int 1)) M)))))))) : Ev LM d mX11_isOf 0 [some (.ref 0), some (.int x1)] [] M Q := by
  refine ev_iload_n dX11_isOf_0 rfl ?_
  refine ev_iconst (v := 2) dX11_isOf_1 (by decide) ?_
  refine ev_icmp_lt (tgt := 46) dX11_isOf_2 (by decide) (fun c => ?_) (fun c => ?_)
  · replace h := h.1 c
    refine ev_iconst (v := 1) dX11_isOf_46 (by decide) ?_
    refine ev_goto (tgt := 51) dX11_isOf_47 (by decide) ?_
    exact ev_zret dX11_isOf_51 rfl (by decide) h
  · replace h := h.2 c
    refine ev_iload_n dX11_isOf_5 rfl ?_
    refine ev_bipush (v := 7) dX11_isOf_6 (by decide) ?_
    refine ev_icmp_ge (tgt := 21) dX11_isOf_8 (by decide) (fun c => ?_) (fun c => ?_)
    · replace h := h.1 c
      refine ev_iload_n dX11_isOf_21 rfl ?_
      refine ev_bipush (v := 9) dX11_isOf_22 (by decide) ?_
      refine ev_icmp_ge (tgt := 38) dX11_isOf_24 (by decide) (fun c => ?_) (fun c => ?_)
      · replace h := h.1 c
        refine ev_aload_n dX11_isOf_38 rfl ?_
        refine ev_getI dX11_isOf_39 fl_WithoutEModel_171 lm_0 rfl ?_
        refine ev_iconst (v := 2) dX11_isOf_42 (by decide) ?_
        refine ev_icmp_ne (tgt := 50) dX11_isOf_43 (by decide) (fun c => ?_) (fun c => ?_)
        · replace h := h.1 c
          refine ev_iconst (v := 0) dX11_isOf_50 (by decide) ?_
          exact ev_zret dX11_isOf_51 rfl (by decide) h
        · replace h := h.2 c
          refine ev_iconst (v := 1) dX11_isOf_46 (by decide) ?_
          refine ev_goto (tgt := 51) dX11_isOf_47 (by decide) ?_
          exact ev_zret dX11_isOf_51 rfl (by decide) h
      · replace h := h.2 c
        refine ev_aload_n dX11_isOf_27 rfl ?_
        refine ev_getI dX11_isOf_28 fl_WithoutEModel_171 lm_0 rfl ?_
        refine ev_iconst (v := 1) dX11_isOf_31 (by decide) ?_
        refine ev_icmp_ne (tgt := 50) dX11_isOf_32 (by decide) (fun c => ?_) (fun c => ?_)
        · replace h := h.1 c
          refine ev_iconst (v := 0) dX11_isOf_50 (by decide) ?_
          exact ev_zret dX11_isOf_51 rfl (by decide) h
        · replace h := h.2 c
          refine ev_goto (tgt := 46) dX11_isOf_35 (by decide) ?_
          refine ev_iconst (v := 1) dX11_isOf_46 (by decide) ?_
          refine ev_goto (tgt := 51) dX11_isOf_47 (by decide) ?_
          exact ev_zret dX11_isOf_51 rfl (by decide) h
    · replace h := h.2 c
      refine ev_aload_n dX11_isOf_11 rfl ?_
      refine ev_getI dX11_isOf_12 fl_WithoutEModel_171 lm_0 rfl ?_
      refine ev_if_ne (tgt := 50) dX11_isOf_15 (by decide) (fun c => ?_) (fun c => ?_)
      · replace h := h.1 c
        refine ev_iconst (v := 0) dX11_isOf_50 (by decide) ?_
        exact ev_zret dX11_isOf_51 rfl (by decide) h
      · replace h := h.2 c
        refine ev_goto (tgt := 46) dX11_isOf_18 (by decide) ?_
        refine ev_iconst (v := 1) dX11_isOf_46 (by decide) ?_
        refine ev_goto (tgt := 51) dX11_isOf_47 (by decide) ?_
        exact ev_zret dX11_isOf_51 rfl (by decide) h
theorem dX11_rank_0 : decode cX11_rank 0 = .ok (.iload_n 0, 1) := by decide +kernel
theorem dX11_rank_1 : decode cX11_rank 1 = .ok (.bipush 40, 2) := by decide +kernel
theorem dX11_rank_3 : decode cX11_rank 3 = .ok (.if_icmp .lt 7, 3) := by decide +kernel
theorem dX11_rank_6 : decode cX11_rank 6 = .ok (.iconst 0, 1) := by decide +kernel
theorem dX11_rank_7 : decode cX11_rank 7 = .ok (.goto 70, 3) := by decide +kernel
theorem dX11_rank_10 : decode cX11_rank 10 = .ok (.iload_n 0, 1) := by decide +kernel
theorem dX11_rank_11 : decode cX11_rank 11 = .ok (.bipush 22, 2) := by decide +kernel
theorem dX11_rank_13 : decode cX11_rank 13 = .ok (.if_icmp .ne 7, 3) := by decide +kernel
theorem dX11_rank_16 : decode cX11_rank 16 = .ok (.iconst 1, 1) := by decide +kernel
theorem dX11_rank_17 : decode cX11_rank 17 = .ok (.goto 60, 3) := by decide +kernel
theorem dX11_rank_20 : decode cX11_rank 20 = .ok (.iload_n 0, 1) := by decide +kernel
theorem dX11_rank_21 : decode cX11_rank 21 = .ok (.bipush 21, 2) := by decide +kernel
theorem dX11_rank_23 : decode cX11_rank 23 = .ok (.if_icmp .ne 7, 3) := by decide +kernel
theorem dX11_rank_26 : decode cX11_rank 26 = .ok (.iconst 2, 1) := by decide +kernel
theorem dX11_rank_27 : decode cX11_rank 27 = .ok (.goto 50, 3) := by decide +kernel
theorem dX11_rank_30 : decode cX11_rank 30 = .ok (.iload_n 0, 1) := by decide +kernel
theorem dX11_rank_31 : decode cX11_rank 31 = .ok (.bipush 20, 2) := by decide +kernel
theorem dX11_rank_33 : decode cX11_rank 33 = .ok (.if_icmp .ne 7, 3) := by decide +kernel
theorem dX11_rank_36 : decode cX11_rank 36 = .ok (.iconst 3, 1) := by decide +kernel
theorem dX11_rank_37 : decode cX11_rank 37 = .ok (.goto 40, 3) := by decide +kernel
theorem dX11_rank_40 : decode cX11_rank 40 = .ok (.iload_n 0, 1) := by decide +kernel
theorem dX11_rank_41 : decode cX11_rank 41 = .ok (.bipush 10, 2) := by decide +kernel
theorem dX11_rank_43 : decode cX11_rank 43 = .ok (.if_icmp .lt 7, 3) := by decide +kernel
theorem dX11_rank_46 : decode cX11_rank 46 = .ok (.iconst 4, 1) := by decide +kernel
theorem dX11_rank_47 : decode cX11_rank 47 = .ok (.goto 30, 3) := by decide +kernel
theorem dX11_rank_50 : decode cX11_rank 50 = .ok (.iload_n 0, 1) := by decide +kernel
theorem dX11_rank_51 : decode cX11_rank 51 = .ok (.iconst 4, 1) := by decide +kernel
theorem dX11_rank_52 : decode cX11_rank 52 = .ok (.if_icmp .eq 8, 3) := by decide +kernel
theorem dX11_rank_55 : decode cX11_rank 55 = .ok (.iload_n 0, 1) := by decide +kernel
theorem dX11_rank_56 : decode cX11_rank 56 = .ok (.iconst 2, 1) := by decide +kernel
theorem dX11_rank_57 : decode cX11_rank 57 = .ok (.if_icmp .ne 8, 3) := by decide +kernel
theorem dX11_rank_60 : decode cX11_rank 60 = .ok (.bipush 7, 2) := by decide +kernel
theorem dX11_rank_62 : decode cX11_rank 62 = .ok (.goto 15, 3) := by decide +kernel
theorem dX11_rank_65 : decode cX11_rank 65 = .ok (.iload_n 0, 1) := by decide +kernel
theorem dX11_rank_66 : decode cX11_rank 66 = .ok (.bipush 7, 2) := by decide +kernel
theorem dX11_rank_68 : decode cX11_rank 68 = .ok (.if_icmp .lt 8, 3) := by decide +kernel
theorem dX11_rank_71 : decode cX11_rank 71 = .ok (.bipush 6, 2) := by decide +kernel
theorem dX11_rank_73 : decode cX11_rank 73 = .ok (.goto 4, 3) := by decide +kernel
theorem dX11_rank_76 : decode cX11_rank 76 = .ok (.iconst 5, 1) := by decide +kernel
theorem dX11_rank_77 : decode cX11_rank 77 = .ok (.ireturn, 1) := by decide +kernel
theorem gX11_rank_0 {d : Nat} {M : ev_Mem} {Q : Option Value → ev_Mem → Prop} {x0 : Int32} (h : (((x0 < 40) → (((¬ x0 = 22) → (((¬ x0 = 21) → (((¬ x0 = 20) → (((x0 < 10) → (((x0 = 4) → (Q (some (.int 7)) M)) ∧ ((¬ x0 = 4) → (((¬ x0 = 2) → (((x0 < 7) → (Q (some (.int 5)) M)) ∧ ((¬ x0 < 7) → (Q (some (.int 6)) M)))) ∧ ((x0 = 2) → (Q (some (.int 7)) M)))))) ∧ ((¬ x0 < 10) → (Q (some (.int 4)) M)))) ∧ ((x0 = 20) → (Q (some (.int 3)) M)))) ∧ ((x0 = 21) → (Q (some (.int 2)) M)))) ∧ ((x0 = 22) → (Q (some (.int 1)) M)))) ∧ ((¬ x0 < 40) → (Q (some (.int 0)) M)))) : Ev LM d mX11_rank 0 [some (.int x0)] [] M Q := by
  refine ev_iload_n dX11_rank_0 rfl ?_
  refine ev_bipush (v := 40) dX11_rank_1 (by decide) ?_
  refine ev_icmp_lt (tgt := 10) dX11_rank_3 (by decide) (fun c => ?_) (fun c => ?_)
  · replace h := h.1 c
    refine ev_iload_n dX11_rank_10 rfl ?_
    refine ev_bipush (v := 22) dX11_rank_11 (by decide) ?_
    refine ev_icmp_ne (tgt := 20) dX11_rank_13 (by decide) (fun c => ?_) (fun c => ?_)
    · replace h := h.1 c
      refine ev_iload_n dX11_rank_20 rfl ?_
      refine ev_bipush (v := 21) dX11_rank_21 (by decide) ?_
      refine ev_icmp_ne (tgt := 30) dX11_rank_23 (by decide) (fun c => ?_) (fun c => ?_)
      · replace h := h.1 c
        refine ev_iload_n dX11_rank_30 rfl ?_
        refine ev_bipush (v := 20) dX11_rank_31 (by decide) ?_
        refine ev_icmp_ne (tgt := 40) dX11_rank_33 (by decide) (fun c => ?_) (fun c => ?_)
        · replace h := h.1 c
          refine ev_iload_n dX11_rank_40 rfl ?_
          refine ev_bipush (v := 10) dX11_rank_41 (by decide) ?_
          refine ev_icmp_lt (tgt := 50) dX11_rank_43 (by decide) (fun c => ?_) (fun c => ?_)
          · replace h := h.1 c
            refine ev_iload_n dX11_rank_50 rfl ?_
            refine ev_iconst (v := 4) dX11_rank_51 (by decide) ?_
            refine ev_icmp_eq (tgt := 60) dX11_rank_52 (by decide) (fun c => ?_) (fun c => ?_)
            · replace h := h.1 c
              refine ev_bipush (v := 7) dX11_rank_60 (by decide) ?_
              refine ev_goto (tgt := 77) dX11_rank_62 (by decide) ?_
              exact ev_iret dX11_rank_77 rfl h
            · replace h := h.2 c
              refine ev_iload_n dX11_rank_55 rfl ?_
              refine ev_iconst (v := 2) dX11_rank_56 (by decide) ?_
              refine ev_icmp_ne (tgt := 65) dX11_rank_57 (by decide) (fun c => ?_) (fun c => ?_)
              · replace h := h.1 c
                refine ev_iload_n dX11_rank_65 rfl ?_
                refine ev_bipush (v := 7) dX11_rank_66 (by decide) ?_
                refine ev_icmp_lt (tgt := 76) dX11_rank_68 (by decide) (fun c => ?_) (fun c => ?_)
                · replace h := h.1 c
                  refine ev_iconst (v := 5) dX11_rank_76 (by decide) ?_
                  exact ev_iret dX11_rank_77 rfl h
                · replace h := h.2 c
                  refine ev_bipush (v := 6) dX11_rank_71 (by decide) ?_
                  refine ev_goto (tgt := 77) dX11_rank_73 (by decide) ?_
                  exact ev_iret dX11_rank_77 rfl h
              · replace h := h.2 c
                refine ev_bipush (v := 7) dX11_rank_60 (by decide) ?_
                refine ev_goto (tgt := 77) dX11_rank_62 (by decide) ?_
                exact ev_iret dX11_rank_77 rfl h
          · replace h := h.2 c
            refine ev_iconst (v := 4) dX11_rank_46 (by decide) ?_
            refine ev_goto (tgt := 77) dX11_rank_47 (by decide) ?_
            exact ev_iret dX11_rank_77 rfl h
        · replace h := h.2 c
          refine ev_iconst (v := 3) dX11_rank_36 (by decide) ?_
          refine ev_goto (tgt := 77) dX11_rank_37 (by decide) ?_
          exact ev_iret dX11_rank_77 rfl h
      · replace h := h.2 c
        refine ev_iconst (v := 2) dX11_rank_26 (by decide) ?_
        refine ev_goto (tgt := 77) dX11_rank_27 (by decide) ?_
        exact ev_iret dX11_rank_77 rfl h
    · replace h := h.2 c
      refine ev_iconst (v := 1) dX11_rank_16 (by decide) ?_
      refine ev_goto (tgt := 77) dX11_rank_17 (by decide) ?_
      exact ev_iret dX11_rank_77 rfl h
  · replace h := h.2 c
    refine ev_iconst (v := 0) dX11_rank_6 (by decide) ?_
    refine ev_goto (tgt := 77) dX11_rank_7 (by decide) ?_
    exact ev_iret dX11_rank_77 rfl h
theorem dX11_clip_0 : decode cX11_clip 0 = .ok (.lload_n 0, 1) := by decide +kernel
theorem dX11_clip_1 : decode cX11_clip 1 = .ok (.ldc2_w 280, 3) := by decide +kernel
theorem dX11_clip_4 : decode cX11_clip 4 = .ok (.lcmp, 1) := by decide +kernel
theorem dX11_clip_5 : decode cX11_clip 5 = .ok (.ifCond .le 9, 3) := by decide +kernel
theorem dX11_clip_8 : decode cX11_clip 8 = .ok (.ldc2_w 280, 3) := by decide +kernel
theorem dX11_clip_11 : decode cX11_clip 11 = .ok (.goto 18, 3) := by decide +kernel
theorem dX11_clip_14 : decode cX11_clip 14 = .ok (.lload_n 0, 1) := by decide +kernel
theorem dX11_clip_15 : decode cX11_clip 15 = .ok (.ldc2_w 282, 3) := by decide +kernel
theorem dX11_clip_18 : decode cX11_clip 18 = .ok (.lcmp, 1) := by decide +kernel
theorem dX11_clip_19 : decode cX11_clip 19 = .ok (.ifCond .ge 9, 3) := by decide +kernel
theorem dX11_clip_22 : decode cX11_clip 22 = .ok (.ldc2_w 282, 3) := by decide +kernel
theorem dX11_clip_25 : decode cX11_clip 25 = .ok (.goto 4, 3) := by decide +kernel
theorem dX11_clip_28 : decode cX11_clip 28 = .ok (.lload_n 0, 1) := by decide +kernel
theorem dX11_clip_29 : decode cX11_clip 29 = .ok (.lreturn, 1) := by decide +kernel
theorem gX11_clip_0 {d : Nat} {M : ev_Mem} {Q : Option Value → ev_Mem → Prop} {x0 : Int64} (h : ((((lg_cmp x0 1000000) ≤ 0) → (((0 ≤ (lg_cmp x0 (-1000000))) → (Q (some (.long x0)) M)) ∧ ((¬ 0 ≤ (lg_cmp x0 (-1000000))) → (Q (some (.long (-1000000))) M)))) ∧ ((¬ (lg_cmp x0 1000000) ≤ 0) → (Q (some (.long 1000000)) M)))) : Ev LM d mX11_clip 0 [some (.long x0), none] [] M Q := by
  refine ev_lload_n dX11_clip_0 rfl ?_
  refine ev_ldc2 (v := 1000000) dX11_clip_1 cw_WithoutEModel_280 ?_
  refine ev_lcmp dX11_clip_4 ?_
  refine ev_if_le (tgt := 14) dX11_clip_5 (by decide) (fun c => ?_) (fun c => ?_)
  · replace h := h.1 c
    refine ev_lload_n dX11_clip_14 rfl ?_
    refine ev_ldc2 (v := -1000000) dX11_clip_15 cw_WithoutEModel_282 ?_
    refine ev_lcmp dX11_clip_18 ?_
    refine ev_if_ge (tgt := 28) dX11_clip_19 (by decide) (fun c => ?_) (fun c => ?_)
    · replace h := h.1 c
      refine ev_lload_n dX11_clip_28 rfl ?_
      exact ev_lret dX11_clip_29 rfl h
    · replace h := h.2 c
      refine ev_ldc2 (v := -1000000) dX11_clip_22 cw_WithoutEModel_282 ?_
      refine ev_goto (tgt := 29) dX11_clip_25 (by decide) ?_
      exact ev_lret dX11_clip_29 rfl h
  · replace h := h.2 c
    refine ev_ldc2 (v := 1000000) dX11_clip_8 cw_WithoutEModel_280 ?_
    refine ev_goto (tgt := 29) dX11_clip_11 (by decide) ?_
    exact ev_lret dX11_clip_29 rfl h
theorem dX11_usesOf_0 : decode cX11_usesOf 0 = .ok (.lload_n 1, 1) := by decide +kernel
theorem dX11_usesOf_1 : decode cX11_usesOf 1 = .ok (.lconst 0, 1) := by decide +kernel
theorem dX11_usesOf_2 : decode cX11_usesOf 2 = .ok (.lcmp, 1) := by decide +kernel
theorem dX11_usesOf_3 : decode cX11_usesOf 3 = .ok (.ifCond .lt 25, 3) := by decide +kernel
theorem dX11_usesOf_6 : decode cX11_usesOf 6 = .ok (.lload_n 1, 1) := by decide +kernel
theorem dX11_usesOf_7 : decode cX11_usesOf 7 = .ok (.ldc2_w 288, 3) := by decide +kernel
theorem dX11_usesOf_10 : decode cX11_usesOf 10 = .ok (.lcmp, 1) := by decide +kernel
theorem dX11_usesOf_11 : decode cX11_usesOf 11 = .ok (.ifCond .ge 17, 3) := by decide +kernel
theorem dX11_usesOf_14 : decode cX11_usesOf 14 = .ok (.aload_n 0, 1) := by decide +kernel
theorem dX11_usesOf_15 : decode cX11_usesOf 15 = .ok (.getfield 7, 3) := by decide +kernel
theorem dX11_usesOf_18 : decode cX11_usesOf 18 = .ok (.bipush 13, 2) := by decide +kernel
theorem dX11_usesOf_20 : decode cX11_usesOf 20 = .ok (.lload_n 1, 1) := by decide +kernel
theorem dX11_usesOf_21 : decode cX11_usesOf 21 = .ok (.l2i, 1) := by decide +kernel
theorem dX11_usesOf_22 : decode cX11_usesOf 22 = .ok (.iadd, 1) := by decide +kernel
theorem dX11_usesOf_23 : decode cX11_usesOf 23 = .ok (.iaload, 1) := by decide +kernel
theorem dX11_usesOf_24 : decode cX11_usesOf 24 = .ok (.i2l, 1) := by decide +kernel
theorem dX11_usesOf_25 : decode cX11_usesOf 25 = .ok (.goto 4, 3) := by decide +kernel
theorem dX11_usesOf_28 : decode cX11_usesOf 28 = .ok (.lconst 0, 1) := by decide +kernel
theorem dX11_usesOf_29 : decode cX11_usesOf 29 = .ok (.lreturn, 1) := by decide +kernel
theorem gX11_usesOf_0 {d : Nat} {M : ev_Mem} {Q : Option Value → ev_Mem → Prop} {x1 : Int64} (h : ((((lg_cmp x1 0) < 0) → (Q (some (.long 0)) M)) ∧ ((¬ (lg_cmp x1 0) < 0) → (((0 ≤ (lg_cmp x1 26)) → (Q (some (.long 0)) M)) ∧ ((¬ 0 ≤ (lg_cmp x1 26)) → (vp_in (13 + ((x1 : Int64).toInt32)) 3315 ∧ (Q (some (.long ((M.1 1 (13 + ((x1 : Int64).toInt32)).toNatClampNeg : Int32).toInt64))) M))))))) : Ev LM d mX11_usesOf 0 [some (.ref 0), some (.long x1), none] [] M Q := by
  refine ev_lload_n dX11_usesOf_0 rfl ?_
  refine ev_lconst (v := 0) dX11_usesOf_1 (by decide) ?_
  refine ev_lcmp dX11_usesOf_2 ?_
  refine ev_if_lt (tgt := 28) dX11_usesOf_3 (by decide) (fun c => ?_) (fun c => ?_)
  · replace h := h.1 c
    refine ev_lconst (v := 0) dX11_usesOf_28 (by decide) ?_
    exact ev_lret dX11_usesOf_29 rfl h
  · replace h := h.2 c
    refine ev_lload_n dX11_usesOf_6 rfl ?_
    refine ev_ldc2 (v := 26) dX11_usesOf_7 cw_WithoutEModel_288 ?_
    refine ev_lcmp dX11_usesOf_10 ?_
    refine ev_if_ge (tgt := 28) dX11_usesOf_11 (by decide) (fun c => ?_) (fun c => ?_)
    · replace h := h.1 c
      refine ev_lconst (v := 0) dX11_usesOf_28 (by decide) ?_
      exact ev_lret dX11_usesOf_29 rfl h
    · replace h := h.2 c
      refine ev_aload_n dX11_usesOf_14 rfl ?_
      refine ev_getA dX11_usesOf_15 fl_WithoutEModel_7 lm_0 rfl ?_
      refine ev_bipush (v := 13) dX11_usesOf_18 (by decide) ?_
      refine ev_lload_n dX11_usesOf_20 rfl ?_
      refine ev_l2i dX11_usesOf_21 ?_
      refine ev_iadd dX11_usesOf_22 ?_
      obtain ⟨c, h⟩ := h
      refine ev_iald dX11_usesOf_23 lm_1 c ?_
      refine ev_i2l dX11_usesOf_24 ?_
      refine ev_goto (tgt := 29) dX11_usesOf_25 (by decide) ?_
      exact ev_lret dX11_usesOf_29 rfl h
theorem dX11_joined_0 : decode cX11_joined 0 = .ok (.iload_n 0, 1) := by decide +kernel
theorem dX11_joined_1 : decode cX11_joined 1 = .ok (.bipush 21, 2) := by decide +kernel
theorem dX11_joined_3 : decode cX11_joined 3 = .ok (.if_icmp .ne 19, 3) := by decide +kernel
theorem dX11_joined_6 : decode cX11_joined 6 = .ok (.iload_n 1, 1) := by decide +kernel
theorem dX11_joined_7 : decode cX11_joined 7 = .ok (.ifCond .eq 11, 3) := by decide +kernel
theorem dX11_joined_10 : decode cX11_joined 10 = .ok (.iload_n 2, 1) := by decide +kernel
theorem dX11_joined_11 : decode cX11_joined 11 = .ok (.ifCond .eq 7, 3) := by decide +kernel
theorem dX11_joined_14 : decode cX11_joined 14 = .ok (.iconst 1, 1) := by decide +kernel
theorem dX11_joined_15 : decode cX11_joined 15 = .ok (.goto 20, 3) := by decide +kernel
theorem dX11_joined_18 : decode cX11_joined 18 = .ok (.iconst 0, 1) := by decide +kernel
theorem dX11_joined_19 : decode cX11_joined 19 = .ok (.goto 16, 3) := by decide +kernel
theorem dX11_joined_22 : decode cX11_joined 22 = .ok (.iload_n 1, 1) := by decide +kernel
theorem dX11_joined_23 : decode cX11_joined 23 = .ok (.ifCond .ne 7, 3) := by decide +kernel
theorem dX11_joined_26 : decode cX11_joined 26 = .ok (.iload_n 2, 1) := by decide +kernel
theorem dX11_joined_27 : decode cX11_joined 27 = .ok (.ifCond .eq 7, 3) := by decide +kernel
theorem dX11_joined_30 : decode cX11_joined 30 = .ok (.iconst 1, 1) := by decide +kernel
theorem dX11_joined_31 : decode cX11_joined 31 = .ok (.goto 4, 3) := by decide +kernel
theorem dX11_joined_34 : decode cX11_joined 34 = .ok (.iconst 0, 1) := by decide +kernel
theorem dX11_joined_35 : decode cX11_joined 35 = .ok (.ireturn, 1) := by decide +kernel
theorem gX11_joined_0 {d : Nat} {M : ev_Mem} {Q : Option Value → ev_Mem → Prop} {x0 x1 x2 : Int32} (h : (((¬ x0 = 21) → (((¬ x1 = 0) → (Q (some (.int 1)) M)) ∧ ((x1 = 0) → (((x2 = 0) → (Q (some (.int 0)) M)) ∧ ((¬ x2 = 0) → (Q (some (.int 1)) M)))))) ∧ ((x0 = 21) → (((x1 = 0) → (Q (some (.int 0)) M)) ∧ ((¬ x1 = 0) → (((x2 = 0) → (Q (some (.int 0)) M)) ∧ ((¬ x2 = 0) → (Q (some (.int 1)) M)))))))) : Ev LM d mX11_joined 0 [some (.int x0), some (.int x1), some (.int x2)] [] M Q := by
  refine ev_iload_n dX11_joined_0 rfl ?_
  refine ev_bipush (v := 21) dX11_joined_1 (by decide) ?_
  refine ev_icmp_ne (tgt := 22) dX11_joined_3 (by decide) (fun c => ?_) (fun c => ?_)
  · replace h := h.1 c
    refine ev_iload_n dX11_joined_22 rfl ?_
    refine ev_if_ne (tgt := 30) dX11_joined_23 (by decide) (fun c => ?_) (fun c => ?_)
    · replace h := h.1 c
      refine ev_iconst (v := 1) dX11_joined_30 (by decide) ?_
      refine ev_goto (tgt := 35) dX11_joined_31 (by decide) ?_
      exact ev_zret dX11_joined_35 rfl (by decide) h
    · replace h := h.2 c
      refine ev_iload_n dX11_joined_26 rfl ?_
      refine ev_if_eq (tgt := 34) dX11_joined_27 (by decide) (fun c => ?_) (fun c => ?_)
      · replace h := h.1 c
        refine ev_iconst (v := 0) dX11_joined_34 (by decide) ?_
        exact ev_zret dX11_joined_35 rfl (by decide) h
      · replace h := h.2 c
        refine ev_iconst (v := 1) dX11_joined_30 (by decide) ?_
        refine ev_goto (tgt := 35) dX11_joined_31 (by decide) ?_
        exact ev_zret dX11_joined_35 rfl (by decide) h
  · replace h := h.2 c
    refine ev_iload_n dX11_joined_6 rfl ?_
    refine ev_if_eq (tgt := 18) dX11_joined_7 (by decide) (fun c => ?_) (fun c => ?_)
    · replace h := h.1 c
      refine ev_iconst (v := 0) dX11_joined_18 (by decide) ?_
      refine ev_goto (tgt := 35) dX11_joined_19 (by decide) ?_
      exact ev_zret dX11_joined_35 rfl (by decide) h
    · replace h := h.2 c
      refine ev_iload_n dX11_joined_10 rfl ?_
      refine ev_if_eq (tgt := 18) dX11_joined_11 (by decide) (fun c => ?_) (fun c => ?_)
      · replace h := h.1 c
        refine ev_iconst (v := 0) dX11_joined_18 (by decide) ?_
        refine ev_goto (tgt := 35) dX11_joined_19 (by decide) ?_
        exact ev_zret dX11_joined_35 rfl (by decide) h
      · replace h := h.2 c
        refine ev_iconst (v := 1) dX11_joined_14 (by decide) ?_
        refine ev_goto (tgt := 35) dX11_joined_15 (by decide) ?_
        exact ev_zret dX11_joined_35 rfl (by decide) h
theorem dX11_isAsked_0 : decode cX11_isAsked 0 = .ok (.iload_n 0, 1) := by decide +kernel
theorem dX11_isAsked_1 : decode cX11_isAsked 1 = .ok (.bipush 10, 2) := by decide +kernel
theorem dX11_isAsked_3 : decode cX11_isAsked 3 = .ok (.if_icmp .ne 17, 3) := by decide +kernel
theorem dX11_isAsked_6 : decode cX11_isAsked 6 = .ok (.lload_n 1, 1) := by decide +kernel
theorem dX11_isAsked_7 : decode cX11_isAsked 7 = .ok (.lload_n 3, 1) := by decide +kernel
theorem dX11_isAsked_8 : decode cX11_isAsked 8 = .ok (.lcmp, 1) := by decide +kernel
theorem dX11_isAsked_9 : decode cX11_isAsked 9 = .ok (.ifCond .ge 7, 3) := by decide +kernel
theorem dX11_isAsked_12 : decode cX11_isAsked 12 = .ok (.iconst 1, 1) := by decide +kernel
theorem dX11_isAsked_13 : decode cX11_isAsked 13 = .ok (.goto 98, 3) := by decide +kernel
theorem dX11_isAsked_16 : decode cX11_isAsked 16 = .ok (.iconst 0, 1) := by decide +kernel
theorem dX11_isAsked_17 : decode cX11_isAsked 17 = .ok (.goto 94, 3) := by decide +kernel
theorem dX11_isAsked_20 : decode cX11_isAsked 20 = .ok (.iload_n 0, 1) := by decide +kernel
theorem dX11_isAsked_21 : decode cX11_isAsked 21 = .ok (.bipush 11, 2) := by decide +kernel
theorem dX11_isAsked_23 : decode cX11_isAsked 23 = .ok (.if_icmp .ne 17, 3) := by decide +kernel
theorem dX11_isAsked_26 : decode cX11_isAsked 26 = .ok (.lload_n 1, 1) := by decide +kernel
theorem dX11_isAsked_27 : decode cX11_isAsked 27 = .ok (.lload_n 3, 1) := by decide +kernel
theorem dX11_isAsked_28 : decode cX11_isAsked 28 = .ok (.lcmp, 1) := by decide +kernel
theorem dX11_isAsked_29 : decode cX11_isAsked 29 = .ok (.ifCond .gt 7, 3) := by decide +kernel
theorem dX11_isAsked_32 : decode cX11_isAsked 32 = .ok (.iconst 1, 1) := by decide +kernel
theorem dX11_isAsked_33 : decode cX11_isAsked 33 = .ok (.goto 78, 3) := by decide +kernel
theorem dX11_isAsked_36 : decode cX11_isAsked 36 = .ok (.iconst 0, 1) := by decide +kernel
theorem dX11_isAsked_37 : decode cX11_isAsked 37 = .ok (.goto 74, 3) := by decide +kernel
theorem dX11_isAsked_40 : decode cX11_isAsked 40 = .ok (.iload_n 0, 1) := by decide +kernel
theorem dX11_isAsked_41 : decode cX11_isAsked 41 = .ok (.bipush 12, 2) := by decide +kernel
theorem dX11_isAsked_43 : decode cX11_isAsked 43 = .ok (.if_icmp .ne 17, 3) := by decide +kernel
theorem dX11_isAsked_46 : decode cX11_isAsked 46 = .ok (.lload_n 1, 1) := by decide +kernel
theorem dX11_isAsked_47 : decode cX11_isAsked 47 = .ok (.lload_n 3, 1) := by decide +kernel
theorem dX11_isAsked_48 : decode cX11_isAsked 48 = .ok (.lcmp, 1) := by decide +kernel
theorem dX11_isAsked_49 : decode cX11_isAsked 49 = .ok (.ifCond .le 7, 3) := by decide +kernel
theorem dX11_isAsked_52 : decode cX11_isAsked 52 = .ok (.iconst 1, 1) := by decide +kernel
theorem dX11_isAsked_53 : decode cX11_isAsked 53 = .ok (.goto 58, 3) := by decide +kernel
theorem dX11_isAsked_56 : decode cX11_isAsked 56 = .ok (.iconst 0, 1) := by decide +kernel
theorem dX11_isAsked_57 : decode cX11_isAsked 57 = .ok (.goto 54, 3) := by decide +kernel
theorem dX11_isAsked_60 : decode cX11_isAsked 60 = .ok (.iload_n 0, 1) := by decide +kernel
theorem dX11_isAsked_61 : decode cX11_isAsked 61 = .ok (.bipush 13, 2) := by decide +kernel
theorem dX11_isAsked_63 : decode cX11_isAsked 63 = .ok (.if_icmp .ne 17, 3) := by decide +kernel
theorem dX11_isAsked_66 : decode cX11_isAsked 66 = .ok (.lload_n 1, 1) := by decide +kernel
theorem dX11_isAsked_67 : decode cX11_isAsked 67 = .ok (.lload_n 3, 1) := by decide +kernel
theorem dX11_isAsked_68 : decode cX11_isAsked 68 = .ok (.lcmp, 1) := by decide +kernel
theorem dX11_isAsked_69 : decode cX11_isAsked 69 = .ok (.ifCond .lt 7, 3) := by decide +kernel
theorem dX11_isAsked_72 : decode cX11_isAsked 72 = .ok (.iconst 1, 1) := by decide +kernel
theorem dX11_isAsked_73 : decode cX11_isAsked 73 = .ok (.goto 38, 3) := by decide +kernel
theorem dX11_isAsked_76 : decode cX11_isAsked 76 = .ok (.iconst 0, 1) := by decide +kernel
theorem dX11_isAsked_77 : decode cX11_isAsked 77 = .ok (.goto 34, 3) := by decide +kernel
theorem dX11_isAsked_80 : decode cX11_isAsked 80 = .ok (.iload_n 0, 1) := by decide +kernel
theorem dX11_isAsked_81 : decode cX11_isAsked 81 = .ok (.bipush 14, 2) := by decide +kernel
theorem dX11_isAsked_83 : decode cX11_isAsked 83 = .ok (.if_icmp .ne 17, 3) := by decide +kernel
theorem dX11_isAsked_86 : decode cX11_isAsked 86 = .ok (.lload_n 1, 1) := by decide +kernel
theorem dX11_isAsked_87 : decode cX11_isAsked 87 = .ok (.lload_n 3, 1) := by decide +kernel
theorem dX11_isAsked_88 : decode cX11_isAsked 88 = .ok (.lcmp, 1) := by decide +kernel
theorem dX11_isAsked_89 : decode cX11_isAsked 89 = .ok (.ifCond .ne 7, 3) := by decide +kernel
theorem dX11_isAsked_92 : decode cX11_isAsked 92 = .ok (.iconst 1, 1) := by decide +kernel
theorem dX11_isAsked_93 : decode cX11_isAsked 93 = .ok (.goto 18, 3) := by decide +kernel
theorem dX11_isAsked_96 : decode cX11_isAsked 96 = .ok (.iconst 0, 1) := by decide +kernel
theorem dX11_isAsked_97 : decode cX11_isAsked 97 = .ok (.goto 14, 3) := by decide +kernel
theorem dX11_isAsked_100 : decode cX11_isAsked 100 = .ok (.lload_n 1, 1) := by decide +kernel
theorem dX11_isAsked_101 : decode cX11_isAsked 101 = .ok (.lload_n 3, 1) := by decide +kernel
theorem dX11_isAsked_102 : decode cX11_isAsked 102 = .ok (.lcmp, 1) := by decide +kernel
theorem dX11_isAsked_103 : decode cX11_isAsked 103 = .ok (.ifCond .eq 7, 3) := by decide +kernel
theorem dX11_isAsked_106 : decode cX11_isAsked 106 = .ok (.iconst 1, 1) := by decide +kernel
theorem dX11_isAsked_107 : decode cX11_isAsked 107 = .ok (.goto 4, 3) := by decide +kernel
theorem dX11_isAsked_110 : decode cX11_isAsked 110 = .ok (.iconst 0, 1) := by decide +kernel
theorem dX11_isAsked_111 : decode cX11_isAsked 111 = .ok (.ireturn, 1) := by decide +kernel
theorem gX11_isAsked_0 {d : Nat} {M : ev_Mem} {Q : Option Value → ev_Mem → Prop} {x0 : Int32} {x1 x3 : Int64} (h : (((¬ x0 = 10) → (((¬ x0 = 11) → (((¬ x0 = 12) → (((¬ x0 = 13) → (((¬ x0 = 14) → ((((lg_cmp x1 x3) = 0) → (Q (some (.int 0)) M)) ∧ ((¬ (lg_cmp x1 x3) = 0) → (Q (some (.int 1)) M)))) ∧ ((x0 = 14) → (((¬ (lg_cmp x1 x3) = 0) → (Q (some (.int 0)) M)) ∧ (((lg_cmp x1 x3) = 0) → (Q (some (.int 1)) M)))))) ∧ ((x0 = 13) → ((((lg_cmp x1 x3) < 0) → (Q (some (.int 0)) M)) ∧ ((¬ (lg_cmp x1 x3) < 0) → (Q (some (.int 1)) M)))))) ∧ ((x0 = 12) → ((((lg_cmp x1 x3) ≤ 0) → (Q (some (.int 0)) M)) ∧ ((¬ (lg_cmp x1 x3) ≤ 0) → (Q (some (.int 1)) M)))))) ∧ ((x0 = 11) → (((0 < (lg_cmp x1 x3)) → (Q (some (.int 0)) M)) ∧ ((¬ 0 < (lg_cmp x1 x3)) → (Q (some (.int 1)) M)))))) ∧ ((x0 = 10) → (((0 ≤ (lg_cmp x1 x3)) → (Q (some (.int 0)) M)) ∧ ((¬ 0 ≤ (lg_cmp x1 x3)) → (Q (some (.int 1)) M)))))) : Ev LM d mX11_isAsked 0 [some (.int x0), some (.long x1), none, some (.long x3), none] [] M Q := by
  refine ev_iload_n dX11_isAsked_0 rfl ?_
  refine ev_bipush (v := 10) dX11_isAsked_1 (by decide) ?_
  refine ev_icmp_ne (tgt := 20) dX11_isAsked_3 (by decide) (fun c => ?_) (fun c => ?_)
  · replace h := h.1 c
    refine ev_iload_n dX11_isAsked_20 rfl ?_
    refine ev_bipush (v := 11) dX11_isAsked_21 (by decide) ?_
    refine ev_icmp_ne (tgt := 40) dX11_isAsked_23 (by decide) (fun c => ?_) (fun c => ?_)
    · replace h := h.1 c
      refine ev_iload_n dX11_isAsked_40 rfl ?_
      refine ev_bipush (v := 12) dX11_isAsked_41 (by decide) ?_
      refine ev_icmp_ne (tgt := 60) dX11_isAsked_43 (by decide) (fun c => ?_) (fun c => ?_)
      · replace h := h.1 c
        refine ev_iload_n dX11_isAsked_60 rfl ?_
        refine ev_bipush (v := 13) dX11_isAsked_61 (by decide) ?_
        refine ev_icmp_ne (tgt := 80) dX11_isAsked_63 (by decide) (fun c => ?_) (fun c => ?_)
        · replace h := h.1 c
          refine ev_iload_n dX11_isAsked_80 rfl ?_
          refine ev_bipush (v := 14) dX11_isAsked_81 (by decide) ?_
          refine ev_icmp_ne (tgt := 100) dX11_isAsked_83 (by decide) (fun c => ?_) (fun c => ?_)
          · replace h := h.1 c
            refine ev_lload_n dX11_isAsked_100 rfl ?_
            refine ev_lload_n dX11_isAsked_101 rfl ?_
            refine ev_lcmp dX11_isAsked_102 ?_
            refine ev_if_eq (tgt := 110) dX11_isAsked_103 (by decide) (fun c => ?_) (fun c => ?_)
            · replace h := h.1 c
              refine ev_iconst (v := 0) dX11_isAsked_110 (by decide) ?_
              exact ev_zret dX11_isAsked_111 rfl (by decide) h
            · replace h := h.2 c
              refine ev_iconst (v := 1) dX11_isAsked_106 (by decide) ?_
              refine ev_goto (tgt := 111) dX11_isAsked_107 (by decide) ?_
              exact ev_zret dX11_isAsked_111 rfl (by decide) h
          · replace h := h.2 c
            refine ev_lload_n dX11_isAsked_86 rfl ?_
            refine ev_lload_n dX11_isAsked_87 rfl ?_
            refine ev_lcmp dX11_isAsked_88 ?_
            refine ev_if_ne (tgt := 96) dX11_isAsked_89 (by decide) (fun c => ?_) (fun c => ?_)
            · replace h := h.1 c
              refine ev_iconst (v := 0) dX11_isAsked_96 (by decide) ?_
              refine ev_goto (tgt := 111) dX11_isAsked_97 (by decide) ?_
              exact ev_zret dX11_isAsked_111 rfl (by decide) h
            · replace h := h.2 c
              refine ev_iconst (v := 1) dX11_isAsked_92 (by decide) ?_
              refine ev_goto (tgt := 111) dX11_isAsked_93 (by decide) ?_
              exact ev_zret dX11_isAsked_111 rfl (by decide) h
        · replace h := h.2 c
          refine ev_lload_n dX11_isAsked_66 rfl ?_
          refine ev_lload_n dX11_isAsked_67 rfl ?_
          refine ev_lcmp dX11_isAsked_68 ?_
          refine ev_if_lt (tgt := 76) dX11_isAsked_69 (by decide) (fun c => ?_) (fun c => ?_)
          · replace h := h.1 c
            refine ev_iconst (v := 0) dX11_isAsked_76 (by decide) ?_
            refine ev_goto (tgt := 111) dX11_isAsked_77 (by decide) ?_
            exact ev_zret dX11_isAsked_111 rfl (by decide) h
          · replace h := h.2 c
            refine ev_iconst (v := 1) dX11_isAsked_72 (by decide) ?_
            refine ev_goto (tgt := 111) dX11_isAsked_73 (by decide) ?_
            exact ev_zret dX11_isAsked_111 rfl (by decide) h
      · replace h := h.2 c
        refine ev_lload_n dX11_isAsked_46 rfl ?_
        refine ev_lload_n dX11_isAsked_47 rfl ?_
        refine ev_lcmp dX11_isAsked_48 ?_
        refine ev_if_le (tgt := 56) dX11_isAsked_49 (by decide) (fun c => ?_) (fun c => ?_)
        · replace h := h.1 c
          refine ev_iconst (v := 0) dX11_isAsked_56 (by decide) ?_
          refine ev_goto (tgt := 111) dX11_isAsked_57 (by decide) ?_
          exact ev_zret dX11_isAsked_111 rfl (by decide) h
        · replace h := h.2 c
          refine ev_iconst (v := 1) dX11_isAsked_52 (by decide) ?_
          refine ev_goto (tgt := 111) dX11_isAsked_53 (by decide) ?_
          exact ev_zret dX11_isAsked_111 rfl (by decide) h
    · replace h := h.2 c
      refine ev_lload_n dX11_isAsked_26 rfl ?_
      refine ev_lload_n dX11_isAsked_27 rfl ?_
      refine ev_lcmp dX11_isAsked_28 ?_
      refine ev_if_gt (tgt := 36) dX11_isAsked_29 (by decide) (fun c => ?_) (fun c => ?_)
      · replace h := h.1 c
        refine ev_iconst (v := 0) dX11_isAsked_36 (by decide) ?_
        refine ev_goto (tgt := 111) dX11_isAsked_37 (by decide) ?_
        exact ev_zret dX11_isAsked_111 rfl (by decide) h
      · replace h := h.2 c
        refine ev_iconst (v := 1) dX11_isAsked_32 (by decide) ?_
        refine ev_goto (tgt := 111) dX11_isAsked_33 (by decide) ?_
        exact ev_zret dX11_isAsked_111 rfl (by decide) h
  · replace h := h.2 c
    refine ev_lload_n dX11_isAsked_6 rfl ?_
    refine ev_lload_n dX11_isAsked_7 rfl ?_
    refine ev_lcmp dX11_isAsked_8 ?_
    refine ev_if_ge (tgt := 16) dX11_isAsked_9 (by decide) (fun c => ?_) (fun c => ?_)
    · replace h := h.1 c
      refine ev_iconst (v := 0) dX11_isAsked_16 (by decide) ?_
      refine ev_goto (tgt := 111) dX11_isAsked_17 (by decide) ?_
      exact ev_zret dX11_isAsked_111 rfl (by decide) h
    · replace h := h.2 c
      refine ev_iconst (v := 1) dX11_isAsked_12 (by decide) ?_
      refine ev_goto (tgt := 111) dX11_isAsked_13 (by decide) ?_
      exact ev_zret dX11_isAsked_111 rfl (by decide) h
theorem dX11_lengthOf_0 : decode cX11_lengthOf 0 = .ok (.aload_n 0, 1) := by decide +kernel
theorem dX11_lengthOf_1 : decode cX11_lengthOf 1 = .ok (.getfield 7, 3) := by decide +kernel
theorem dX11_lengthOf_4 : decode cX11_lengthOf 4 = .ok (.sipush 351, 3) := by decide +kernel
theorem dX11_lengthOf_7 : decode cX11_lengthOf 7 = .ok (.bipush 6, 2) := by decide +kernel
theorem dX11_lengthOf_9 : decode cX11_lengthOf 9 = .ok (.iload_n 1, 1) := by decide +kernel
theorem dX11_lengthOf_10 : decode cX11_lengthOf 10 = .ok (.imul, 1) := by decide +kernel
theorem dX11_lengthOf_11 : decode cX11_lengthOf 11 = .ok (.iadd, 1) := by decide +kernel
theorem dX11_lengthOf_12 : decode cX11_lengthOf 12 = .ok (.iaload, 1) := by decide +kernel
theorem dX11_lengthOf_13 : decode cX11_lengthOf 13 = .ok (.ireturn, 1) := by decide +kernel
theorem gX11_lengthOf_0 {d : Nat} {M : ev_Mem} {Q : Option Value → ev_Mem → Prop} {x1 : Int32} (h : (vp_in (351 + (6 * x1)) 3315 ∧ (Q (some (.int (M.1 1 (351 + (6 * x1)).toNatClampNeg))) M))) : Ev LM d mX11_lengthOf 0 [some (.ref 0), some (.int x1)] [] M Q := by
  refine ev_aload_n dX11_lengthOf_0 rfl ?_
  refine ev_getA dX11_lengthOf_1 fl_WithoutEModel_7 lm_0 rfl ?_
  refine ev_sipush (v := 351) dX11_lengthOf_4 (by decide) ?_
  refine ev_bipush (v := 6) dX11_lengthOf_7 (by decide) ?_
  refine ev_iload_n dX11_lengthOf_9 rfl ?_
  refine ev_imul dX11_lengthOf_10 ?_
  refine ev_iadd dX11_lengthOf_11 ?_
  obtain ⟨c, h⟩ := h
  refine ev_iald dX11_lengthOf_12 lm_1 c ?_
  exact ev_iret dX11_lengthOf_13 rfl h
theorem dX11_compareOf_0 : decode cX11_compareOf 0 = .ok (.aload_n 0, 1) := by decide +kernel
theorem dX11_compareOf_1 : decode cX11_compareOf 1 = .ok (.getfield 119, 3) := by decide +kernel
theorem dX11_compareOf_4 : decode cX11_compareOf 4 = .ok (.bipush 60, 2) := by decide +kernel
theorem dX11_compareOf_6 : decode cX11_compareOf 6 = .ok (.if_icmp .ne 8, 3) := by decide +kernel
theorem dX11_compareOf_9 : decode cX11_compareOf 9 = .ok (.bipush 10, 2) := by decide +kernel
theorem dX11_compareOf_11 : decode cX11_compareOf 11 = .ok (.goto 72, 3) := by decide +kernel
theorem dX11_compareOf_14 : decode cX11_compareOf 14 = .ok (.aload_n 0, 1) := by decide +kernel
theorem dX11_compareOf_15 : decode cX11_compareOf 15 = .ok (.getfield 119, 3) := by decide +kernel
theorem dX11_compareOf_18 : decode cX11_compareOf 18 = .ok (.iconst 4, 1) := by decide +kernel
theorem dX11_compareOf_19 : decode cX11_compareOf 19 = .ok (.if_icmp .ne 8, 3) := by decide +kernel
theorem dX11_compareOf_22 : decode cX11_compareOf 22 = .ok (.bipush 11, 2) := by decide +kernel
theorem dX11_compareOf_24 : decode cX11_compareOf 24 = .ok (.goto 59, 3) := by decide +kernel
theorem dX11_compareOf_27 : decode cX11_compareOf 27 = .ok (.aload_n 0, 1) := by decide +kernel
theorem dX11_compareOf_28 : decode cX11_compareOf 28 = .ok (.getfield 119, 3) := by decide +kernel
theorem dX11_compareOf_31 : decode cX11_compareOf 31 = .ok (.bipush 62, 2) := by decide +kernel
theorem dX11_compareOf_33 : decode cX11_compareOf 33 = .ok (.if_icmp .ne 8, 3) := by decide +kernel
theorem dX11_compareOf_36 : decode cX11_compareOf 36 = .ok (.bipush 12, 2) := by decide +kernel
theorem dX11_compareOf_38 : decode cX11_compareOf 38 = .ok (.goto 45, 3) := by decide +kernel
theorem dX11_compareOf_41 : decode cX11_compareOf 41 = .ok (.aload_n 0, 1) := by decide +kernel
theorem dX11_compareOf_42 : decode cX11_compareOf 42 = .ok (.getfield 119, 3) := by decide +kernel
theorem dX11_compareOf_45 : decode cX11_compareOf 45 = .ok (.iconst 5, 1) := by decide +kernel
theorem dX11_compareOf_46 : decode cX11_compareOf 46 = .ok (.if_icmp .ne 8, 3) := by decide +kernel
theorem dX11_compareOf_49 : decode cX11_compareOf 49 = .ok (.bipush 13, 2) := by decide +kernel
theorem dX11_compareOf_51 : decode cX11_compareOf 51 = .ok (.goto 32, 3) := by decide +kernel
theorem dX11_compareOf_54 : decode cX11_compareOf 54 = .ok (.aload_n 0, 1) := by decide +kernel
theorem dX11_compareOf_55 : decode cX11_compareOf 55 = .ok (.getfield 119, 3) := by decide +kernel
theorem dX11_compareOf_58 : decode cX11_compareOf 58 = .ok (.bipush 61, 2) := by decide +kernel
theorem dX11_compareOf_60 : decode cX11_compareOf 60 = .ok (.if_icmp .ne 8, 3) := by decide +kernel
theorem dX11_compareOf_63 : decode cX11_compareOf 63 = .ok (.bipush 14, 2) := by decide +kernel
theorem dX11_compareOf_65 : decode cX11_compareOf 65 = .ok (.goto 18, 3) := by decide +kernel
theorem dX11_compareOf_68 : decode cX11_compareOf 68 = .ok (.aload_n 0, 1) := by decide +kernel
theorem dX11_compareOf_69 : decode cX11_compareOf 69 = .ok (.getfield 119, 3) := by decide +kernel
theorem dX11_compareOf_72 : decode cX11_compareOf 72 = .ok (.bipush 35, 2) := by decide +kernel
theorem dX11_compareOf_74 : decode cX11_compareOf 74 = .ok (.if_icmp .ne 8, 3) := by decide +kernel
theorem dX11_compareOf_77 : decode cX11_compareOf 77 = .ok (.bipush 15, 2) := by decide +kernel
theorem dX11_compareOf_79 : decode cX11_compareOf 79 = .ok (.goto 4, 3) := by decide +kernel
theorem dX11_compareOf_82 : decode cX11_compareOf 82 = .ok (.iconst (-1), 1) := by decide +kernel
theorem dX11_compareOf_83 : decode cX11_compareOf 83 = .ok (.ireturn, 1) := by decide +kernel
theorem gX11_compareOf_0 {d : Nat} {M : ev_Mem} {Q : Option Value → ev_Mem → Prop} (h : (((¬ (M.1 0 10) = 60) → (((¬ (M.1 0 10) = 4) → (((¬ (M.1 0 10) = 62) → (((¬ (M.1 0 10) = 5) → (((¬ (M.1 0 10) = 61) → (((¬ (M.1 0 10) = 35) → (Q (some (.int (-1))) M)) ∧ (((M.1 0 10) = 35) → (Q (some (.int 15)) M)))) ∧ (((M.1 0 10) = 61) → (Q (some (.int 14)) M)))) ∧ (((M.1 0 10) = 5) → (Q (some (.int 13)) M)))) ∧ (((M.1 0 10) = 62) → (Q (some (.int 12)) M)))) ∧ (((M.1 0 10) = 4) → (Q (some (.int 11)) M)))) ∧ (((M.1 0 10) = 60) → (Q (some (.int 10)) M)))) : Ev LM d mX11_compareOf 0 [some (.ref 0)] [] M Q := by
  refine ev_aload_n dX11_compareOf_0 rfl ?_
  refine ev_getI dX11_compareOf_1 fl_WithoutEModel_119 lm_0 rfl ?_
  refine ev_bipush (v := 60) dX11_compareOf_4 (by decide) ?_
  refine ev_icmp_ne (tgt := 14) dX11_compareOf_6 (by decide) (fun c => ?_) (fun c => ?_)
  · replace h := h.1 c
    refine ev_aload_n dX11_compareOf_14 rfl ?_
    refine ev_getI dX11_compareOf_15 fl_WithoutEModel_119 lm_0 rfl ?_
    refine ev_iconst (v := 4) dX11_compareOf_18 (by decide) ?_
    refine ev_icmp_ne (tgt := 27) dX11_compareOf_19 (by decide) (fun c => ?_) (fun c => ?_)
    · replace h := h.1 c
      refine ev_aload_n dX11_compareOf_27 rfl ?_
      refine ev_getI dX11_compareOf_28 fl_WithoutEModel_119 lm_0 rfl ?_
      refine ev_bipush (v := 62) dX11_compareOf_31 (by decide) ?_
      refine ev_icmp_ne (tgt := 41) dX11_compareOf_33 (by decide) (fun c => ?_) (fun c => ?_)
      · replace h := h.1 c
        refine ev_aload_n dX11_compareOf_41 rfl ?_
        refine ev_getI dX11_compareOf_42 fl_WithoutEModel_119 lm_0 rfl ?_
        refine ev_iconst (v := 5) dX11_compareOf_45 (by decide) ?_
        refine ev_icmp_ne (tgt := 54) dX11_compareOf_46 (by decide) (fun c => ?_) (fun c => ?_)
        · replace h := h.1 c
          refine ev_aload_n dX11_compareOf_54 rfl ?_
          refine ev_getI dX11_compareOf_55 fl_WithoutEModel_119 lm_0 rfl ?_
          refine ev_bipush (v := 61) dX11_compareOf_58 (by decide) ?_
          refine ev_icmp_ne (tgt := 68) dX11_compareOf_60 (by decide) (fun c => ?_) (fun c => ?_)
          · replace h := h.1 c
            refine ev_aload_n dX11_compareOf_68 rfl ?_
            refine ev_getI dX11_compareOf_69 fl_WithoutEModel_119 lm_0 rfl ?_
            refine ev_bipush (v := 35) dX11_compareOf_72 (by decide) ?_
            refine ev_icmp_ne (tgt := 82) dX11_compareOf_74 (by decide) (fun c => ?_) (fun c => ?_)
            · replace h := h.1 c
              refine ev_iconst (v := -1) dX11_compareOf_82 (by decide) ?_
              exact ev_iret dX11_compareOf_83 rfl h
            · replace h := h.2 c
              refine ev_bipush (v := 15) dX11_compareOf_77 (by decide) ?_
              refine ev_goto (tgt := 83) dX11_compareOf_79 (by decide) ?_
              exact ev_iret dX11_compareOf_83 rfl h
          · replace h := h.2 c
            refine ev_bipush (v := 14) dX11_compareOf_63 (by decide) ?_
            refine ev_goto (tgt := 83) dX11_compareOf_65 (by decide) ?_
            exact ev_iret dX11_compareOf_83 rfl h
        · replace h := h.2 c
          refine ev_bipush (v := 13) dX11_compareOf_49 (by decide) ?_
          refine ev_goto (tgt := 83) dX11_compareOf_51 (by decide) ?_
          exact ev_iret dX11_compareOf_83 rfl h
      · replace h := h.2 c
        refine ev_bipush (v := 12) dX11_compareOf_36 (by decide) ?_
        refine ev_goto (tgt := 83) dX11_compareOf_38 (by decide) ?_
        exact ev_iret dX11_compareOf_83 rfl h
    · replace h := h.2 c
      refine ev_bipush (v := 11) dX11_compareOf_22 (by decide) ?_
      refine ev_goto (tgt := 83) dX11_compareOf_24 (by decide) ?_
      exact ev_iret dX11_compareOf_83 rfl h
  · replace h := h.2 c
    refine ev_bipush (v := 10) dX11_compareOf_9 (by decide) ?_
    refine ev_goto (tgt := 83) dX11_compareOf_11 (by decide) ?_
    exact ev_iret dX11_compareOf_83 rfl h
theorem dX11_openAt_0 : decode cX11_openAt 0 = .ok (.aload_n 0, 1) := by decide +kernel
theorem dX11_openAt_1 : decode cX11_openAt 1 = .ok (.getfield 174, 3) := by decide +kernel
theorem dX11_openAt_4 : decode cX11_openAt 4 = .ok (.iconst 1, 1) := by decide +kernel
theorem dX11_openAt_5 : decode cX11_openAt 5 = .ok (.isub, 1) := by decide +kernel
theorem dX11_openAt_6 : decode cX11_openAt 6 = .ok (.istore_n 1, 1) := by decide +kernel
theorem dX11_openAt_7 : decode cX11_openAt 7 = .ok (.iload_n 1, 1) := by decide +kernel
theorem dX11_openAt_8 : decode cX11_openAt 8 = .ok (.ifCond .lt 20, 3) := by decide +kernel
theorem dX11_openAt_11 : decode cX11_openAt 11 = .ok (.aload_n 0, 1) := by decide +kernel
theorem dX11_openAt_12 : decode cX11_openAt 12 = .ok (.getfield 32, 3) := by decide +kernel
theorem dX11_openAt_15 : decode cX11_openAt 15 = .ok (.iload_n 1, 1) := by decide +kernel
theorem dX11_openAt_16 : decode cX11_openAt 16 = .ok (.iaload, 1) := by decide +kernel
theorem dX11_openAt_17 : decode cX11_openAt 17 = .ok (.bipush 40, 2) := by decide +kernel
theorem dX11_openAt_19 : decode cX11_openAt 19 = .ok (.if_icmp .ge 9, 3) := by decide +kernel
theorem dX11_openAt_22 : decode cX11_openAt 22 = .ok (.iinc 1 (-1), 3) := by decide +kernel
theorem dX11_openAt_25 : decode cX11_openAt 25 = .ok (.goto (-18), 3) := by decide +kernel
theorem dX11_openAt_28 : decode cX11_openAt 28 = .ok (.iload_n 1, 1) := by decide +kernel
theorem dX11_openAt_29 : decode cX11_openAt 29 = .ok (.ireturn, 1) := by decide +kernel
theorem gX11_openAt_0 {d : Nat} {M : ev_Mem} {Q : Option Value → ev_Mem → Prop} (h : (Ev LM d mX11_openAt 7 [some (.ref 0), some (.int ((M.1 0 17) - 1))] [] M Q)) : Ev LM d mX11_openAt 0 [some (.ref 0), none] [] M Q := by
  refine ev_aload_n dX11_openAt_0 rfl ?_
  refine ev_getI dX11_openAt_1 fl_WithoutEModel_174 lm_0 rfl ?_
  refine ev_iconst (v := 1) dX11_openAt_4 (by decide) ?_
  refine ev_isub dX11_openAt_5 ?_
  refine ev_istore_n (ls2 := [some (.ref 0), some (.int ((M.1 0 17) - 1))]) dX11_openAt_6 (Nat.le_of_ble_eq_true rfl) rfl ?_
  exact h
theorem gX11_openAt_7 {d : Nat} {M : ev_Mem} {Q : Option Value → ev_Mem → Prop} {x1 : Int32} (h : (((x1 < 0) → (Q (some (.int x1)) M)) ∧ ((¬ x1 < 0) → (vp_in x1 160 ∧ (((40 ≤ (M.1 6 x1.toNatClampNeg)) → (Q (some (.int x1)) M)) ∧ ((¬ 40 ≤ (M.1 6 x1.toNatClampNeg)) → (Ev LM d mX11_openAt 7 [some (.ref 0), some (.int (x1 + (-1)))] [] M Q))))))) : Ev LM d mX11_openAt 7 [some (.ref 0), some (.int x1)] [] M Q := by
  refine ev_iload_n dX11_openAt_7 rfl ?_
  refine ev_if_lt (tgt := 28) dX11_openAt_8 (by decide) (fun c => ?_) (fun c => ?_)
  · replace h := h.1 c
    refine ev_iload_n dX11_openAt_28 rfl ?_
    exact ev_iret dX11_openAt_29 rfl h
  · replace h := h.2 c
    refine ev_aload_n dX11_openAt_11 rfl ?_
    refine ev_getA dX11_openAt_12 fl_WithoutEModel_32 lm_0 rfl ?_
    refine ev_iload_n dX11_openAt_15 rfl ?_
    obtain ⟨c, h⟩ := h
    refine ev_iald dX11_openAt_16 lm_6 c ?_
    refine ev_bipush (v := 40) dX11_openAt_17 (by decide) ?_
    refine ev_icmp_ge (tgt := 28) dX11_openAt_19 (by decide) (fun c => ?_) (fun c => ?_)
    · replace h := h.1 c
      refine ev_iload_n dX11_openAt_28 rfl ?_
      exact ev_iret dX11_openAt_29 rfl h
    · replace h := h.2 c
      refine ev_iinc (v := x1 + (-1)) (ls2 := [some (.ref 0), some (.int (x1 + (-1)))]) dX11_openAt_22 rfl rfl rfl ?_
      refine ev_goto (tgt := 7) dX11_openAt_25 (by decide) ?_
      exact h
theorem dX11_four_0 : decode cX11_four 0 = .ok (.bipush 24, 2) := by decide +kernel
theorem dX11_four_2 : decode cX11_four 2 = .ok (.istore_n 2, 1) := by decide +kernel
theorem dX11_four_3 : decode cX11_four 3 = .ok (.iload_n 2, 1) := by decide +kernel
theorem dX11_four_4 : decode cX11_four 4 = .ok (.ifCond .lt 35, 3) := by decide +kernel
theorem dX11_four_7 : decode cX11_four 7 = .ok (.aload_n 0, 1) := by decide +kernel
theorem dX11_four_8 : decode cX11_four 8 = .ok (.getfield 22, 3) := by decide +kernel
theorem dX11_four_11 : decode cX11_four 11 = .ok (.aload_n 0, 1) := by decide +kernel
theorem dX11_four_12 : decode cX11_four 12 = .ok (.getfield 103, 3) := by decide +kernel
theorem dX11_four_15 : decode cX11_four 15 = .ok (.iload_n 1, 1) := by decide +kernel
theorem dX11_four_16 : decode cX11_four 16 = .ok (.iload_n 2, 1) := by decide +kernel
theorem dX11_four_17 : decode cX11_four 17 = .ok (.ishr, 1) := by decide +kernel
theorem dX11_four_18 : decode cX11_four 18 = .ok (.sipush 255, 3) := by decide +kernel
theorem dX11_four_21 : decode cX11_four 21 = .ok (.iand, 1) := by decide +kernel
theorem dX11_four_22 : decode cX11_four 22 = .ok (.iastore, 1) := by decide +kernel
theorem dX11_four_23 : decode cX11_four 23 = .ok (.aload_n 0, 1) := by decide +kernel
theorem dX11_four_24 : decode cX11_four 24 = .ok (.dup, 1) := by decide +kernel
theorem dX11_four_25 : decode cX11_four 25 = .ok (.getfield 103, 3) := by decide +kernel
theorem dX11_four_28 : decode cX11_four 28 = .ok (.iconst 1, 1) := by decide +kernel
theorem dX11_four_29 : decode cX11_four 29 = .ok (.iadd, 1) := by decide +kernel
theorem dX11_four_30 : decode cX11_four 30 = .ok (.putfield 103, 3) := by decide +kernel
theorem dX11_four_33 : decode cX11_four 33 = .ok (.iinc 2 (-8), 3) := by decide +kernel
theorem dX11_four_36 : decode cX11_four 36 = .ok (.goto (-33), 3) := by decide +kernel
theorem dX11_four_39 : decode cX11_four 39 = .ok (.return_, 1) := by decide +kernel
theorem gX11_four_0 {d : Nat} {M : ev_Mem} {Q : Option Value → ev_Mem → Prop} {x1 : Int32} (h : (Ev LM d mX11_four 3 [some (.ref 0), some (.int x1), some (.int 24)] [] M Q)) : Ev LM d mX11_four 0 [some (.ref 0), some (.int x1), none] [] M Q := by
  refine ev_bipush (v := 24) dX11_four_0 (by decide) ?_
  refine ev_istore_n (ls2 := [some (.ref 0), some (.int x1), some (.int 24)]) dX11_four_2 (Nat.le_of_ble_eq_true rfl) rfl ?_
  exact h
theorem gX11_four_3 {d : Nat} {M : ev_Mem} {Q : Option Value → ev_Mem → Prop} {x1 x2 : Int32} (h : (((x2 < 0) → (Q none M)) ∧ ((¬ x2 < 0) → (vp_in (M.1 0 5) 300 ∧ (∀ M1 : ev_Mem, M1 = ev_wr M 5 (M.1 0 5).toNatClampNeg ((x1 >>> (x2 &&& 31)) &&& 255) → (∀ M2 : ev_Mem, M2 = ev_wr M1 0 5 ((M1.1 0 5) + 1) → (Ev LM d mX11_four 3 [some (.ref 0), some (.int x1), some (.int (x2 + (-8)))] [] M2 Q))))))) : Ev LM d mX11_four 3 [some (.ref 0), some (.int x1), some (.int x2)] [] M Q := by
  refine ev_iload_n dX11_four_3 rfl ?_
  refine ev_if_lt (tgt := 39) dX11_four_4 (by decide) (fun c => ?_) (fun c => ?_)
  · replace h := h.1 c
    exact ev_vret dX11_four_39 rfl h
  · replace h := h.2 c
    refine ev_aload_n dX11_four_7 rfl ?_
    refine ev_getA dX11_four_8 fl_WithoutEModel_22 lm_0 rfl ?_
    refine ev_aload_n dX11_four_11 rfl ?_
    refine ev_getI dX11_four_12 fl_WithoutEModel_103 lm_0 rfl ?_
    refine ev_iload_n dX11_four_15 rfl ?_
    refine ev_iload_n dX11_four_16 rfl ?_
    refine ev_ishr dX11_four_17 ?_
    refine ev_sipush (v := 255) dX11_four_18 (by decide) ?_
    refine ev_iand dX11_four_21 ?_
    obtain ⟨c, h⟩ := h
    refine ev_iast dX11_four_22 lm_5 c ?_
    generalize eM1 : ev_wr M 5 (M.1 0 5).toNatClampNeg ((x1 >>> (x2 &&& 31)) &&& 255) = M1
    replace h := h M1 eM1.symm
    refine ev_aload_n dX11_four_23 rfl ?_
    refine ev_dup dX11_four_24 rfl ?_
    refine ev_getI dX11_four_25 fl_WithoutEModel_103 lm_0 rfl ?_
    refine ev_iconst (v := 1) dX11_four_28 (by decide) ?_
    refine ev_iadd dX11_four_29 ?_
    refine ev_putI dX11_four_30 fp_WithoutEModel_103 lm_0 rfl rfl rfl ?_
    generalize eM2 : ev_wr M1 0 5 ((M1.1 0 5) + 1) = M2
    replace h := h M2 eM2.symm
    refine ev_iinc (v := x2 + (-8)) (ls2 := [some (.ref 0), some (.int x1), some (.int (x2 + (-8)))]) dX11_four_33 rfl rfl rfl ?_
    refine ev_goto (tgt := 3) dX11_four_36 (by decide) ?_
    exact h
theorem dX11_common_0 : decode cX11_common 0 = .ok (.lload_n 0, 1) := by decide +kernel
theorem dX11_common_1 : decode cX11_common 1 = .ok (.lstore 4, 2) := by decide +kernel
theorem dX11_common_3 : decode cX11_common 3 = .ok (.lload_n 2, 1) := by decide +kernel
theorem dX11_common_4 : decode cX11_common 4 = .ok (.lstore 6, 2) := by decide +kernel
theorem dX11_common_6 : decode cX11_common 6 = .ok (.lload 6, 2) := by decide +kernel
theorem dX11_common_8 : decode cX11_common 8 = .ok (.lconst 0, 1) := by decide +kernel
theorem dX11_common_9 : decode cX11_common 9 = .ok (.lcmp, 1) := by decide +kernel
theorem dX11_common_10 : decode cX11_common 10 = .ok (.ifCond .eq 21, 3) := by decide +kernel
theorem dX11_common_13 : decode cX11_common 13 = .ok (.lload 4, 2) := by decide +kernel
theorem dX11_common_15 : decode cX11_common 15 = .ok (.lload 6, 2) := by decide +kernel
theorem dX11_common_17 : decode cX11_common 17 = .ok (.lrem, 1) := by decide +kernel
theorem dX11_common_18 : decode cX11_common 18 = .ok (.lstore 8, 2) := by decide +kernel
theorem dX11_common_20 : decode cX11_common 20 = .ok (.lload 6, 2) := by decide +kernel
theorem dX11_common_22 : decode cX11_common 22 = .ok (.lstore 4, 2) := by decide +kernel
theorem dX11_common_24 : decode cX11_common 24 = .ok (.lload 8, 2) := by decide +kernel
theorem dX11_common_26 : decode cX11_common 26 = .ok (.lstore 6, 2) := by decide +kernel
theorem dX11_common_28 : decode cX11_common 28 = .ok (.goto (-22), 3) := by decide +kernel
theorem dX11_common_31 : decode cX11_common 31 = .ok (.lload 4, 2) := by decide +kernel
theorem dX11_common_33 : decode cX11_common 33 = .ok (.lreturn, 1) := by decide +kernel
theorem gX11_common_0 {d : Nat} {M : ev_Mem} {Q : Option Value → ev_Mem → Prop} {x0 x2 : Int64} (h : (Ev LM d mX11_common 6 [none, none, none, none, some (.long x0), none, some (.long x2), none, none, none] [] M Q)) : Ev LM d mX11_common 0 [some (.long x0), none, some (.long x2), none, none, none, none, none, none, none] [] M Q := by
  refine ev_lload_n dX11_common_0 rfl ?_
  refine ev_lstore (ls2 := [some (.long x0), none, some (.long x2), none, some (.long x0), none, none, none, none, none]) dX11_common_1 (Nat.le_of_ble_eq_true rfl) rfl ?_
  refine ev_lload_n dX11_common_3 rfl ?_
  refine ev_lstore (ls2 := [some (.long x0), none, some (.long x2), none, some (.long x0), none, some (.long x2), none, none, none]) dX11_common_4 (Nat.le_of_ble_eq_true rfl) rfl ?_
  refine Ev.weak (ls := [none, none, none, none, some (.long x0), none, some (.long x2), none, none, none]) ⟨rfl, rfl, trivial⟩ ?_
  exact h
theorem gX11_common_6 {d : Nat} {M : ev_Mem} {Q : Option Value → ev_Mem → Prop} {x4 x6 : Int64} (h : ((((lg_cmp x6 0) = 0) → (Q (some (.long x4)) M)) ∧ ((¬ (lg_cmp x6 0) = 0) → (¬ (x6 : Int64) = 0 ∧ (Ev LM d mX11_common 6 [none, none, none, none, some (.long x6), none, some (.long (x4 - x4 / x6 * x6)), none, none, none] [] M Q))))) : Ev LM d mX11_common 6 [none, none, none, none, some (.long x4), none, some (.long x6), none, none, none] [] M Q := by
  refine ev_lload dX11_common_6 rfl ?_
  refine ev_lconst (v := 0) dX11_common_8 (by decide) ?_
  refine ev_lcmp dX11_common_9 ?_
  refine ev_if_eq (tgt := 31) dX11_common_10 (by decide) (fun c => ?_) (fun c => ?_)
  · replace h := h.1 c
    refine ev_lload dX11_common_31 rfl ?_
    exact ev_lret dX11_common_33 rfl h
  · replace h := h.2 c
    refine ev_lload dX11_common_13 rfl ?_
    refine ev_lload dX11_common_15 rfl ?_
    obtain ⟨c, h⟩ := h
    refine ev_lrem dX11_common_17 c ?_
    refine ev_lstore (ls2 := [none, none, none, none, some (.long x4), none, some (.long x6), none, some (.long (x4 - x4 / x6 * x6)), none]) dX11_common_18 (Nat.le_of_ble_eq_true rfl) rfl ?_
    refine ev_lload dX11_common_20 rfl ?_
    refine ev_lstore (ls2 := [none, none, none, none, some (.long x6), none, some (.long x6), none, some (.long (x4 - x4 / x6 * x6)), none]) dX11_common_22 (Nat.le_of_ble_eq_true rfl) rfl ?_
    refine ev_lload dX11_common_24 rfl ?_
    refine ev_lstore (ls2 := [none, none, none, none, some (.long x6), none, some (.long (x4 - x4 / x6 * x6)), none, some (.long (x4 - x4 / x6 * x6)), none]) dX11_common_26 (Nat.le_of_ble_eq_true rfl) rfl ?_
    refine ev_goto (tgt := 6) dX11_common_28 (by decide) ?_
    refine Ev.weak (ls := [none, none, none, none, some (.long x6), none, some (.long (x4 - x4 / x6 * x6)), none, none, none]) ⟨rfl, rfl, trivial⟩ ?_
    exact h
theorem dX11_tens_0 : decode cX11_tens 0 = .ok (.lconst 1, 1) := by decide +kernel
theorem dX11_tens_1 : decode cX11_tens 1 = .ok (.lstore_n 1, 1) := by decide +kernel
theorem dX11_tens_2 : decode cX11_tens 2 = .ok (.iconst 0, 1) := by decide +kernel
theorem dX11_tens_3 : decode cX11_tens 3 = .ok (.istore_n 3, 1) := by decide +kernel
theorem dX11_tens_4 : decode cX11_tens 4 = .ok (.iload_n 3, 1) := by decide +kernel
theorem dX11_tens_5 : decode cX11_tens 5 = .ok (.iload_n 0, 1) := by decide +kernel
theorem dX11_tens_6 : decode cX11_tens 6 = .ok (.if_icmp .ge 15, 3) := by decide +kernel
theorem dX11_tens_9 : decode cX11_tens 9 = .ok (.lload_n 1, 1) := by decide +kernel
theorem dX11_tens_10 : decode cX11_tens 10 = .ok (.ldc2_w 463, 3) := by decide +kernel
theorem dX11_tens_13 : decode cX11_tens 13 = .ok (.lmul, 1) := by decide +kernel
theorem dX11_tens_14 : decode cX11_tens 14 = .ok (.lstore_n 1, 1) := by decide +kernel
theorem dX11_tens_15 : decode cX11_tens 15 = .ok (.iinc 3 1, 3) := by decide +kernel
theorem dX11_tens_18 : decode cX11_tens 18 = .ok (.goto (-14), 3) := by decide +kernel
theorem dX11_tens_21 : decode cX11_tens 21 = .ok (.lload_n 1, 1) := by decide +kernel
theorem dX11_tens_22 : decode cX11_tens 22 = .ok (.lreturn, 1) := by decide +kernel
theorem gX11_tens_0 {d : Nat} {M : ev_Mem} {Q : Option Value → ev_Mem → Prop} {x0 : Int32} (h : (Ev LM d mX11_tens 4 [some (.int x0), some (.long 1), none, some (.int 0)] [] M Q)) : Ev LM d mX11_tens 0 [some (.int x0), none, none, none] [] M Q := by
  refine ev_lconst (v := 1) dX11_tens_0 (by decide) ?_
  refine ev_lstore_n (ls2 := [some (.int x0), some (.long 1), none, none]) dX11_tens_1 (Nat.le_of_ble_eq_true rfl) rfl ?_
  refine ev_iconst (v := 0) dX11_tens_2 (by decide) ?_
  refine ev_istore_n (ls2 := [some (.int x0), some (.long 1), none, some (.int 0)]) dX11_tens_3 (Nat.le_of_ble_eq_true rfl) rfl ?_
  exact h
theorem gX11_tens_4 {d : Nat} {M : ev_Mem} {Q : Option Value → ev_Mem → Prop} {x0 x3 : Int32} {x1 : Int64} (h : (((x0 ≤ x3) → (Q (some (.long x1)) M)) ∧ ((¬ x0 ≤ x3) → (Ev LM d mX11_tens 4 [some (.int x0), some (.long (x1 * 10)), none, some (.int (x3 + 1))] [] M Q)))) : Ev LM d mX11_tens 4 [some (.int x0), some (.long x1), none, some (.int x3)] [] M Q := by
  refine ev_iload_n dX11_tens_4 rfl ?_
  refine ev_iload_n dX11_tens_5 rfl ?_
  refine ev_icmp_ge (tgt := 21) dX11_tens_6 (by decide) (fun c => ?_) (fun c => ?_)
  · replace h := h.1 c
    refine ev_lload_n dX11_tens_21 rfl ?_
    exact ev_lret dX11_tens_22 rfl h
  · replace h := h.2 c
    refine ev_lload_n dX11_tens_9 rfl ?_
    refine ev_ldc2 (v := 10) dX11_tens_10 cw_WithoutEModel_463 ?_
    refine ev_lmul dX11_tens_13 ?_
    refine ev_lstore_n (ls2 := [some (.int x0), some (.long (x1 * 10)), none, some (.int x3)]) dX11_tens_14 (Nat.le_of_ble_eq_true rfl) rfl ?_
    refine ev_iinc (v := x3 + 1) (ls2 := [some (.int x0), some (.long (x1 * 10)), none, some (.int (x3 + 1))]) dX11_tens_15 rfl rfl rfl ?_
    refine ev_goto (tgt := 4) dX11_tens_18 (by decide) ?_
    exact h
theorem dX11_unseen_0 : decode cX11_unseen 0 = .ok (.lconst 1, 1) := by decide +kernel
theorem dX11_unseen_1 : decode cX11_unseen 1 = .ok (.lstore_n 2, 1) := by decide +kernel
theorem dX11_unseen_2 : decode cX11_unseen 2 = .ok (.iconst 0, 1) := by decide +kernel
theorem dX11_unseen_3 : decode cX11_unseen 3 = .ok (.istore 4, 2) := by decide +kernel
theorem dX11_unseen_5 : decode cX11_unseen 5 = .ok (.iload 4, 2) := by decide +kernel
theorem dX11_unseen_7 : decode cX11_unseen 7 = .ok (.iload_n 1, 1) := by decide +kernel
theorem dX11_unseen_8 : decode cX11_unseen 8 = .ok (.if_icmp .ge 20, 3) := by decide +kernel
theorem dX11_unseen_11 : decode cX11_unseen 11 = .ok (.lload_n 2, 1) := by decide +kernel
theorem dX11_unseen_12 : decode cX11_unseen 12 = .ok (.aload_n 0, 1) := by decide +kernel
theorem dX11_unseen_13 : decode cX11_unseen 13 = .ok (.getfield 67, 3) := by decide +kernel
theorem dX11_unseen_16 : decode cX11_unseen 16 = .ok (.iload 4, 2) := by decide +kernel
theorem dX11_unseen_18 : decode cX11_unseen 18 = .ok (.iaload, 1) := by decide +kernel
theorem dX11_unseen_19 : decode cX11_unseen 19 = .ok (.i2l, 1) := by decide +kernel
theorem dX11_unseen_20 : decode cX11_unseen 20 = .ok (.lmul, 1) := by decide +kernel
theorem dX11_unseen_21 : decode cX11_unseen 21 = .ok (.lstore_n 2, 1) := by decide +kernel
theorem dX11_unseen_22 : decode cX11_unseen 22 = .ok (.iinc 4 1, 3) := by decide +kernel
theorem dX11_unseen_25 : decode cX11_unseen 25 = .ok (.goto (-20), 3) := by decide +kernel
theorem dX11_unseen_28 : decode cX11_unseen 28 = .ok (.lload_n 2, 1) := by decide +kernel
theorem dX11_unseen_29 : decode cX11_unseen 29 = .ok (.lreturn, 1) := by decide +kernel
theorem gX11_unseen_0 {d : Nat} {M : ev_Mem} {Q : Option Value → ev_Mem → Prop} {x1 : Int32} (h : (Ev LM d mX11_unseen 5 [some (.ref 0), some (.int x1), some (.long 1), none, some (.int 0)] [] M Q)) : Ev LM d mX11_unseen 0 [some (.ref 0), some (.int x1), none, none, none] [] M Q := by
  refine ev_lconst (v := 1) dX11_unseen_0 (by decide) ?_
  refine ev_lstore_n (ls2 := [some (.ref 0), some (.int x1), some (.long 1), none, none]) dX11_unseen_1 (Nat.le_of_ble_eq_true rfl) rfl ?_
  refine ev_iconst (v := 0) dX11_unseen_2 (by decide) ?_
  refine ev_istore (ls2 := [some (.ref 0), some (.int x1), some (.long 1), none, some (.int 0)]) dX11_unseen_3 (Nat.le_of_ble_eq_true rfl) rfl ?_
  exact h
theorem gX11_unseen_5 {d : Nat} {M : ev_Mem} {Q : Option Value → ev_Mem → Prop} {x1 x4 : Int32} {x2 : Int64} (h : (((x1 ≤ x4) → (Q (some (.long x2)) M)) ∧ ((¬ x1 ≤ x4) → (vp_in x4 8 ∧ (∀ v1 : Int64, v1 = x2 * ((M.1 17 x4.toNatClampNeg : Int32).toInt64) → (Ev LM d mX11_unseen 5 [some (.ref 0), some (.int x1), some (.long v1), none, some (.int (x4 + 1))] [] M Q)))))) : Ev LM d mX11_unseen 5 [some (.ref 0), some (.int x1), some (.long x2), none, some (.int x4)] [] M Q := by
  refine ev_iload dX11_unseen_5 rfl ?_
  refine ev_iload_n dX11_unseen_7 rfl ?_
  refine ev_icmp_ge (tgt := 28) dX11_unseen_8 (by decide) (fun c => ?_) (fun c => ?_)
  · replace h := h.1 c
    refine ev_lload_n dX11_unseen_28 rfl ?_
    exact ev_lret dX11_unseen_29 rfl h
  · replace h := h.2 c
    refine ev_lload_n dX11_unseen_11 rfl ?_
    refine ev_aload_n dX11_unseen_12 rfl ?_
    refine ev_getA dX11_unseen_13 fl_WithoutEModel_67 lm_0 rfl ?_
    refine ev_iload dX11_unseen_16 rfl ?_
    obtain ⟨c, h⟩ := h
    refine ev_iald dX11_unseen_18 lm_17 c ?_
    refine ev_i2l dX11_unseen_19 ?_
    refine ev_lmul dX11_unseen_20 ?_
    refine ev_lstore_n (ls2 := [some (.ref 0), some (.int x1), some (.long (x2 * ((M.1 17 x4.toNatClampNeg : Int32).toInt64))), none, some (.int x4)]) dX11_unseen_21 (Nat.le_of_ble_eq_true rfl) rfl ?_
    generalize ev1 : x2 * ((M.1 17 x4.toNatClampNeg : Int32).toInt64) = v1
    replace h := h v1 ev1.symm
    refine ev_iinc (v := x4 + 1) (ls2 := [some (.ref 0), some (.int x1), some (.long v1), none, some (.int (x4 + 1))]) dX11_unseen_22 rfl rfl rfl ?_
    refine ev_goto (tgt := 5) dX11_unseen_25 (by decide) ?_
    exact h
