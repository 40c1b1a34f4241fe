theorem dX11_isLong_0 : decode cX11_isLong 0 = .ok (.aload_n 0, 1) := by decide +kernel
theorem dX11_isLong_1 : decode cX11_isLong 1 = .ok (.getfield 119, 3) := by decide +kernel
theorem dX11_isLong_4 : decode cX11_isLong 4 = .ok (.iconst 2, 1) := by decide +kernel
theorem dX11_isLong_5 : decode cX11_isLong 5 = .ok (.if_icmp .ne 17, 3) := by decide +kernel
theorem dX11_isLong_8 : decode cX11_isLong 8 = .ok (.aload_n 0, 1) := by decide +kernel
theorem dX11_isLong_9 : decode cX11_isLong 9 = .ok (.getfield 110, 3) := by decide +kernel
theorem dX11_isLong_12 : decode cX11_isLong 12 = .ok (.aload_n 0, 1) := by decide +kernel
theorem dX11_isLong_13 : decode cX11_isLong 13 = .ok (.getfield 116, 3) := by decide +kernel
theorem dX11_isLong_16 : decode cX11_isLong 16 = .ok (.isub, 1) := by decide +kernel
theorem dX11_isLong_17 : decode cX11_isLong 17 = .ok (.bipush 7, 2) := by decide +kernel
theorem dX11_isLong_19 : decode cX11_isLong 19 = .ok (.if_icmp .eq 5, 3) := by decide +kernel
theorem dX11_isLong_22 : decode cX11_isLong 22 = .ok (.iconst 0, 1) := by decide +kernel
theorem dX11_isLong_23 : decode cX11_isLong 23 = .ok (.ireturn, 1) := by decide +kernel
theorem dX11_isLong_24 : decode cX11_isLong 24 = .ok (.aload_n 0, 1) := by decide +kernel
theorem dX11_isLong_25 : decode cX11_isLong 25 = .ok (.aload_n 0, 1) := by decide +kernel
theorem dX11_isLong_26 : decode cX11_isLong 26 = .ok (.getfield 116, 3) := by decide +kernel
theorem dX11_isLong_29 : decode cX11_isLong 29 = .ok (.invokevirtual 113, 3) := by decide +kernel
theorem dX11_isLong_32 : decode cX11_isLong 32 = .ok (.aload_n 0, 1) := by decide +kernel
theorem dX11_isLong_33 : decode cX11_isLong 33 = .ok (.aload_n 0, 1) := by decide +kernel
theorem dX11_isLong_34 : decode cX11_isLong 34 = .ok (.getfield 116, 3) := by decide +kernel
theorem dX11_isLong_37 : decode cX11_isLong 37 = .ok (.iconst 1, 1) := by decide +kernel
theorem dX11_isLong_38 : decode cX11_isLong 38 = .ok (.iadd, 1) := by decide +kernel
theorem dX11_isLong_39 : decode cX11_isLong 39 = .ok (.invokevirtual 113, 3) := by decide +kernel
theorem dX11_isLong_42 : decode cX11_isLong 42 = .ok (.aload_n 0, 1) := by decide +kernel
theorem dX11_isLong_43 : decode cX11_isLong 43 = .ok (.aload_n 0, 1) := by decide +kernel
theorem dX11_isLong_44 : decode cX11_isLong 44 = .ok (.getfield 116, 3) := by decide +kernel
theorem dX11_isLong_47 : decode cX11_isLong 47 = .ok (.iconst 2, 1) := by decide +kernel
theorem dX11_isLong_48 : decode cX11_isLong 48 = .ok (.iadd, 1) := by decide +kernel
theorem dX11_isLong_49 : decode cX11_isLong 49 = .ok (.invokevirtual 113, 3) := by decide +kernel
theorem dX11_isLong_52 : decode cX11_isLong 52 = .ok (.aload_n 0, 1) := by decide +kernel
theorem dX11_isLong_53 : decode cX11_isLong 53 = .ok (.aload_n 0, 1) := by decide +kernel
theorem dX11_isLong_54 : decode cX11_isLong 54 = .ok (.getfield 116, 3) := by decide +kernel
theorem dX11_isLong_57 : decode cX11_isLong 57 = .ok (.iconst 3, 1) := by decide +kernel
theorem dX11_isLong_58 : decode cX11_isLong 58 = .ok (.iadd, 1) := by decide +kernel
theorem dX11_isLong_59 : decode cX11_isLong 59 = .ok (.invokevirtual 113, 3) := by decide +kernel
theorem dX11_isLong_62 : decode cX11_isLong 62 = .ok (.invokestatic 149, 3) := by decide +kernel
theorem dX11_isLong_65 : decode cX11_isLong 65 = .ok (.lload_n 1, 1) := by decide +kernel
theorem dX11_isLong_66 : decode cX11_isLong 66 = .ok (.lcmp, 1) := by decide +kernel
theorem dX11_isLong_67 : decode cX11_isLong 67 = .ok (.ifCond .ne 46, 3) := by decide +kernel
theorem dX11_isLong_70 : decode cX11_isLong 70 = .ok (.aload_n 0, 1) := by decide +kernel
theorem dX11_isLong_71 : decode cX11_isLong 71 = .ok (.aload_n 0, 1) := by decide +kernel
theorem dX11_isLong_72 : decode cX11_isLong 72 = .ok (.getfield 116, 3) := by decide +kernel
theorem dX11_isLong_75 : decode cX11_isLong 75 = .ok (.iconst 4, 1) := by decide +kernel
theorem dX11_isLong_76 : decode cX11_isLong 76 = .ok (.iadd, 1) := by decide +kernel
theorem dX11_isLong_77 : decode cX11_isLong 77 = .ok (.invokevirtual 113, 3) := by decide +kernel
theorem dX11_isLong_80 : decode cX11_isLong 80 = .ok (.aload_n 0, 1) := by decide +kernel
theorem dX11_isLong_81 : decode cX11_isLong 81 = .ok (.aload_n 0, 1) := by decide +kernel
theorem dX11_isLong_82 : decode cX11_isLong 82 = .ok (.getfield 116, 3) := by decide +kernel
theorem dX11_isLong_85 : decode cX11_isLong 85 = .ok (.iconst 5, 1) := by decide +kernel
theorem dX11_isLong_86 : decode cX11_isLong 86 = .ok (.iadd, 1) := by decide +kernel
theorem dX11_isLong_87 : decode cX11_isLong 87 = .ok (.invokevirtual 113, 3) := by decide +kernel
theorem dX11_isLong_90 : decode cX11_isLong 90 = .ok (.aload_n 0, 1) := by decide +kernel
theorem dX11_isLong_91 : decode cX11_isLong 91 = .ok (.aload_n 0, 1) := by decide +kernel
theorem dX11_isLong_92 : decode cX11_isLong 92 = .ok (.getfield 116, 3) := by decide +kernel
theorem dX11_isLong_95 : decode cX11_isLong 95 = .ok (.bipush 6, 2) := by decide +kernel
theorem dX11_isLong_97 : decode cX11_isLong 97 = .ok (.iadd, 1) := by decide +kernel
theorem dX11_isLong_98 : decode cX11_isLong 98 = .ok (.invokevirtual 113, 3) := by decide +kernel
theorem dX11_isLong_101 : decode cX11_isLong 101 = .ok (.invokestatic 145, 3) := by decide +kernel
theorem dX11_isLong_104 : decode cX11_isLong 104 = .ok (.lload_n 3, 1) := by decide +kernel
theorem dX11_isLong_105 : decode cX11_isLong 105 = .ok (.lcmp, 1) := by decide +kernel
theorem dX11_isLong_106 : decode cX11_isLong 106 = .ok (.ifCond .ne 7, 3) := by decide +kernel
theorem dX11_isLong_109 : decode cX11_isLong 109 = .ok (.iconst 1, 1) := by decide +kernel
theorem dX11_isLong_110 : decode cX11_isLong 110 = .ok (.goto 4, 3) := by decide +kernel
theorem dX11_isLong_113 : decode cX11_isLong 113 = .ok (.iconst 0, 1) := by decide +kernel
theorem dX11_isLong_114 : decode cX11_isLong 114 = .ok (.ireturn, 1) := by decide +kernel
theorem gX11_isLong_0 {d : Nat} {M : ev_Mem} {Q : Option Value → ev_Mem → Prop} {x1 x3 : Int64} (h : (((¬ (M.1 0 10) = 2) → (Q (some (.int 0)) M)) ∧ (((M.1 0 10) = 2) → (((((M.1 0 8) - (M.1 0 9)) = 7) → ((baOK M (M.1 0 9)) ∧ ((baOK M ((M.1 0 9) + 1)) ∧ ((baOK M ((M.1 0 9) + 2)) ∧ ((baOK M ((M.1 0 9) + 3)) ∧ (((¬ (lg_cmp (w4f (btA M (M.1 0 9)) (btA M ((M.1 0 9) + 1)) (btA M ((M.1 0 9) + 2)) (btA M ((M.1 0 9) + 3))) x1) = 0) → (Q (some (.int 0)) M)) ∧ (((lg_cmp (w4f (btA M (M.1 0 9)) (btA M ((M.1 0 9) + 1)) (btA M ((M.1 0 9) + 2)) (btA M ((M.1 0 9) + 3))) x1) = 0) → ((baOK M ((M.1 0 9) + 4)) ∧ ((baOK M ((M.1 0 9) + 5)) ∧ ((baOK M ((M.1 0 9) + 6)) ∧ (((¬ (lg_cmp (w3f (btA M ((M.1 0 9) + 4)) (btA M ((M.1 0 9) + 5)) (btA M ((M.1 0 9) + 6))) x3) = 0) → (Q (some (.int 0)) M)) ∧ (((lg_cmp (w3f (btA M ((M.1 0 9) + 4)) (btA M ((M.1 0 9) + 5)) (btA M ((M.1 0 9) + 6))) x3) = 0) → (Q (some (.int 1)) M))))))))))))) ∧ ((¬ ((M.1 0 8) - (M.1 0 9)) = 7) → (Q (some (.int 0)) M)))))) : Ev LM (d + 3) mX11_isLong 0 [some (.ref 0), some (.long x1), none, some (.long x3), none] [] M Q := by
  refine ev_aload_n dX11_isLong_0 rfl ?_
  refine ev_getI dX11_isLong_1 fl_WithoutEModel_119 lm_0 rfl ?_
  refine ev_iconst (v := 2) dX11_isLong_4 (by decide) ?_
  refine ev_icmp_ne (tgt := 22) dX11_isLong_5 (by decide) (fun c => ?_) (fun c => ?_)
  · replace h := h.1 c
    refine ev_iconst (v := 0) dX11_isLong_22 (by decide) ?_
    exact ev_zret dX11_isLong_23 rfl (by decide) h
  · replace h := h.2 c
    refine ev_aload_n dX11_isLong_8 rfl ?_
    refine ev_getI dX11_isLong_9 fl_WithoutEModel_110 lm_0 rfl ?_
    refine ev_aload_n dX11_isLong_12 rfl ?_
    refine ev_getI dX11_isLong_13 fl_WithoutEModel_116 lm_0 rfl ?_
    refine ev_isub dX11_isLong_16 ?_
    refine ev_bipush (v := 7) dX11_isLong_17 (by decide) ?_
    refine ev_icmp_eq (tgt := 24) dX11_isLong_19 (by decide) (fun c => ?_) (fun c => ?_)
    · replace h := h.1 c
      refine ev_aload_n dX11_isLong_24 rfl ?_
      refine ev_aload_n dX11_isLong_25 rfl ?_
      refine ev_getI dX11_isLong_26 fl_WithoutEModel_116 lm_0 rfl ?_
      obtain ⟨p1, h⟩ := h
      refine ev_callV [.int (M.1 0 9)] dX11_isLong_29 ml_WithoutEModel_113 lm_0 rfl rfl (Nat.le_of_ble_eq_true rfl) (qX11_byteAt p1) ?_
      rintro zr zM ⟨q1, q2⟩
      rw [q1, q2]
      show Ev LM (d + 3) mX11_isLong 32 [some (.ref 0), some (.long x1), none, some (.long x3), none] [(.int (btA M (M.1 0 9)))] M Q
      refine ev_aload_n dX11_isLong_32 rfl ?_
      refine ev_aload_n dX11_isLong_33 rfl ?_
      refine ev_getI dX11_isLong_34 fl_WithoutEModel_116 lm_0 rfl ?_
      refine ev_iconst (v := 1) dX11_isLong_37 (by decide) ?_
      refine ev_iadd dX11_isLong_38 ?_
      obtain ⟨p1, h⟩ := h
      refine ev_callV [.int ((M.1 0 9) + 1)] dX11_isLong_39 ml_WithoutEModel_113 lm_0 rfl rfl (Nat.le_of_ble_eq_true rfl) (qX11_byteAt p1) ?_
      rintro zr zM ⟨q1, q2⟩
      rw [q1, q2]
      show Ev LM (d + 3) mX11_isLong 42 [some (.ref 0), some (.long x1), none, some (.long x3), none] [(.int (btA M ((M.1 0 9) + 1))), (.int (btA M (M.1 0 9)))] M Q
      refine ev_aload_n dX11_isLong_42 rfl ?_
      refine ev_aload_n dX11_isLong_43 rfl ?_
      refine ev_getI dX11_isLong_44 fl_WithoutEModel_116 lm_0 rfl ?_
      refine ev_iconst (v := 2) dX11_isLong_47 (by decide) ?_
      refine ev_iadd dX11_isLong_48 ?_
      obtain ⟨p1, h⟩ := h
      refine ev_callV [.int ((M.1 0 9) + 2)] dX11_isLong_49 ml_WithoutEModel_113 lm_0 rfl rfl (Nat.le_of_ble_eq_true rfl) (qX11_byteAt p1) ?_
      rintro zr zM ⟨q1, q2⟩
      rw [q1, q2]
      show Ev LM (d + 3) mX11_isLong 52 [some (.ref 0), some (.long x1), none, some (.long x3), none] [(.int (btA M ((M.1 0 9) + 2))), (.int (btA M ((M.1 0 9) + 1))), (.int (btA M (M.1 0 9)))] M Q
      refine ev_aload_n dX11_isLong_52 rfl ?_
      refine ev_aload_n dX11_isLong_53 rfl ?_
      refine ev_getI dX11_isLong_54 fl_WithoutEModel_116 lm_0 rfl ?_
      refine ev_iconst (v := 3) dX11_isLong_57 (by decide) ?_
      refine ev_iadd dX11_isLong_58 ?_
      obtain ⟨p1, h⟩ := h
      refine ev_callV [.int ((M.1 0 9) + 3)] dX11_isLong_59 ml_WithoutEModel_113 lm_0 rfl rfl (Nat.le_of_ble_eq_true rfl) (qX11_byteAt p1) ?_
      rintro zr zM ⟨q1, q2⟩
      rw [q1, q2]
      show Ev LM (d + 3) mX11_isLong 62 [some (.ref 0), some (.long x1), none, some (.long x3), none] [(.int (btA M ((M.1 0 9) + 3))), (.int (btA M ((M.1 0 9) + 2))), (.int (btA M ((M.1 0 9) + 1))), (.int (btA M (M.1 0 9)))] M Q
      refine ev_callS [.int (btA M (M.1 0 9)), .int (btA M ((M.1 0 9) + 1)), .int (btA M ((M.1 0 9) + 2)), .int (btA M ((M.1 0 9) + 3))] dX11_isLong_62 ml_WithoutEModel_149 rfl (Nat.le_of_ble_eq_true rfl) (kX11_w4) ?_
      rintro zr zM ⟨q1, q2⟩
      rw [q1, q2]
      show Ev LM (d + 3) mX11_isLong 65 [some (.ref 0), some (.long x1), none, some (.long x3), none] [(.long (w4f (btA M (M.1 0 9)) (btA M ((M.1 0 9) + 1)) (btA M ((M.1 0 9) + 2)) (btA M ((M.1 0 9) + 3))))] M Q
      refine ev_lload_n dX11_isLong_65 rfl ?_
      refine ev_lcmp dX11_isLong_66 ?_
      refine ev_if_ne (tgt := 113) dX11_isLong_67 (by decide) (fun c => ?_) (fun c => ?_)
      · replace h := h.1 c
        refine ev_iconst (v := 0) dX11_isLong_113 (by decide) ?_
        exact ev_zret dX11_isLong_114 rfl (by decide) h
      · replace h := h.2 c
        refine ev_aload_n dX11_isLong_70 rfl ?_
        refine ev_aload_n dX11_isLong_71 rfl ?_
        refine ev_getI dX11_isLong_72 fl_WithoutEModel_116 lm_0 rfl ?_
        refine ev_iconst (v := 4) dX11_isLong_75 (by decide) ?_
        refine ev_iadd dX11_isLong_76 ?_
        obtain ⟨p1, h⟩ := h
        refine ev_callV [.int ((M.1 0 9) + 4)] dX11_isLong_77 ml_WithoutEModel_113 lm_0 rfl rfl (Nat.le_of_ble_eq_true rfl) (qX11_byteAt p1) ?_
        rintro zr zM ⟨q1, q2⟩
        rw [q1, q2]
        show Ev LM (d + 3) mX11_isLong 80 [some (.ref 0), some (.long x1), none, some (.long x3), none] [(.int (btA M ((M.1 0 9) + 4)))] M Q
        refine ev_aload_n dX11_isLong_80 rfl ?_
        refine ev_aload_n dX11_isLong_81 rfl ?_
        refine ev_getI dX11_isLong_82 fl_WithoutEModel_116 lm_0 rfl ?_
        refine ev_iconst (v := 5) dX11_isLong_85 (by decide) ?_
        refine ev_iadd dX11_isLong_86 ?_
        obtain ⟨p1, h⟩ := h
        refine ev_callV [.int ((M.1 0 9) + 5)] dX11_isLong_87 ml_WithoutEModel_113 lm_0 rfl rfl (Nat.le_of_ble_eq_true rfl) (qX11_byteAt p1) ?_
        rintro zr zM ⟨q1, q2⟩
        rw [q1, q2]
        show Ev LM (d + 3) mX11_isLong 90 [some (.ref 0), some (.long x1), none, some (.long x3), none] [(.int (btA M ((M.1 0 9) + 5))), (.int (btA M ((M.1 0 9) + 4)))] M Q
        refine ev_aload_n dX11_isLong_90 rfl ?_
        refine ev_aload_n dX11_isLong_91 rfl ?_
        refine ev_getI dX11_isLong_92 fl_WithoutEModel_116 lm_0 rfl ?_
        refine ev_bipush (v := 6) dX11_isLong_95 (by decide) ?_
        refine ev_iadd dX11_isLong_97 ?_
        obtain ⟨p1, h⟩ := h
        refine ev_callV [.int ((M.1 0 9) + 6)] dX11_isLong_98 ml_WithoutEModel_113 lm_0 rfl rfl (Nat.le_of_ble_eq_true rfl) (qX11_byteAt p1) ?_
        rintro zr zM ⟨q1, q2⟩
        rw [q1, q2]
        show Ev LM (d + 3) mX11_isLong 101 [some (.ref 0), some (.long x1), none, some (.long x3), none] [(.int (btA M ((M.1 0 9) + 6))), (.int (btA M ((M.1 0 9) + 5))), (.int (btA M ((M.1 0 9) + 4)))] M Q
        refine ev_callS [.int (btA M ((M.1 0 9) + 4)), .int (btA M ((M.1 0 9) + 5)), .int (btA M ((M.1 0 9) + 6))] dX11_isLong_101 ml_WithoutEModel_145 rfl (Nat.le_of_ble_eq_true rfl) (kX11_w3) ?_
        rintro zr zM ⟨q1, q2⟩
        rw [q1, q2]
        show Ev LM (d + 3) mX11_isLong 104 [some (.ref 0), some (.long x1), none, some (.long x3), none] [(.long (w3f (btA M ((M.1 0 9) + 4)) (btA M ((M.1 0 9) + 5)) (btA M ((M.1 0 9) + 6))))] M Q
        refine ev_lload_n dX11_isLong_104 rfl ?_
        refine ev_lcmp dX11_isLong_105 ?_
        refine ev_if_ne (tgt := 113) dX11_isLong_106 (by decide) (fun c => ?_) (fun c => ?_)
        · replace h := h.1 c
          refine ev_iconst (v := 0) dX11_isLong_113 (by decide) ?_
          exact ev_zret dX11_isLong_114 rfl (by decide) h
        · replace h := h.2 c
          refine ev_iconst (v := 1) dX11_isLong_109 (by decide) ?_
          refine ev_goto (tgt := 114) dX11_isLong_110 (by decide) ?_
          exact ev_zret dX11_isLong_114 rfl (by decide) h
    · replace h := h.2 c
      refine ev_iconst (v := 0) dX11_isLong_22 (by decide) ?_
      exact ev_zret dX11_isLong_23 rfl (by decide) h
section
variable {d : Nat} {N : ev_Mem}
def ilOK (N : ev_Mem) : Prop := ∀ i : Nat, i < 7 → baOK N (N.1 0 9 + nI i)
def isl (N : ev_Mem) (a b : Int64) : Bool := decide (N.1 0 10 = 2) && (decide (N.1 0 8 - N.1 0 9 = 7) && (decide (lg_cmp (w4f (btA N (N.1 0 9)) (btA N (N.1 0 9 + 1)) (btA N (N.1 0 9 + 2)) (btA N (N.1 0 9 + 3))) a = 0) && decide (lg_cmp (w3f (btA N (N.1 0 9 + 4)) (btA N (N.1 0 9 + 5)) (btA N (N.1 0 9 + 6))) b = 0)))
theorem kX11_isLong {a b : Int64} (h : ilOK N) : Cl LM (d + 3) mX11_isLong [.ref 0, .long a, .long b] N (ev_R (some (.int (bi (isl N a b)))) N) := by
  have h0 : baOK N (N.1 0 9) := by have := h 0 (by omega); rwa [show nI 0 = (0 : Int32) from rfl, Int32.add_zero] at this
  refine Cl_of rfl (Nat.le_of_ble_eq_true rfl) rfl (gX11_isLong_0 ?_)
  unfold isl
  refine ⟨fun c => ⟨?_, rfl⟩, fun c => ⟨fun c2 => ⟨h0, h 1 (by omega), h 2 (by omega), h 3 (by omega), fun c3 => ⟨?_, rfl⟩, fun c3 => ⟨h 4 (by omega), h 5 (by omega), h 6 (by omega), fun c4 => ⟨?_, rfl⟩, fun c4 => ⟨?_, rfl⟩⟩⟩, fun c2 => ⟨?_, rfl⟩⟩⟩
  · rw [decide_eq_false c]; rfl
  · rw [decide_eq_false c3, Bool.false_and, Bool.and_false, Bool.and_false]; rfl
  · rw [decide_eq_false c4, Bool.and_false, Bool.and_false, Bool.and_false]; rfl
  · rw [decide_eq_true c, decide_eq_true c2, decide_eq_true c3, decide_eq_true c4]; rfl
  · rw [decide_eq_false c2, Bool.false_and, Bool.and_false]; rfl
end
