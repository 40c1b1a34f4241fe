theorem dX10_is_0 : decode cX10_is 0 = .ok (.iload_n 1, 1) := by decide +kernel
theorem dX10_is_1 : decode cX10_is 1 = .ok (.tableswitch 63 0 3 #[31, 39, 47, 55], 31) := by decide +kernel
theorem dX10_is_32 : decode cX10_is 32 = .ok (.aload_n 0, 1) := by decide +kernel
theorem dX10_is_33 : decode cX10_is 33 = .ok (.getfield 26, 3) := by decide +kernel
theorem dX10_is_36 : decode cX10_is 36 = .ok (.getfield 248, 3) := by decide +kernel
theorem dX10_is_39 : decode cX10_is 39 = .ok (.ireturn, 1) := by decide +kernel
theorem dX10_is_40 : decode cX10_is 40 = .ok (.aload_n 0, 1) := by decide +kernel
theorem dX10_is_41 : decode cX10_is 41 = .ok (.getfield 26, 3) := by decide +kernel
theorem dX10_is_44 : decode cX10_is 44 = .ok (.getfield 223, 3) := by decide +kernel
theorem dX10_is_47 : decode cX10_is 47 = .ok (.ireturn, 1) := by decide +kernel
theorem dX10_is_48 : decode cX10_is 48 = .ok (.aload_n 0, 1) := by decide +kernel
theorem dX10_is_49 : decode cX10_is 49 = .ok (.getfield 26, 3) := by decide +kernel
theorem dX10_is_52 : decode cX10_is 52 = .ok (.getfield 275, 3) := by decide +kernel
theorem dX10_is_55 : decode cX10_is 55 = .ok (.ireturn, 1) := by decide +kernel
theorem dX10_is_56 : decode cX10_is 56 = .ok (.aload_n 0, 1) := by decide +kernel
theorem dX10_is_57 : decode cX10_is 57 = .ok (.getfield 26, 3) := by decide +kernel
theorem dX10_is_60 : decode cX10_is 60 = .ok (.getfield 421, 3) := by decide +kernel
theorem dX10_is_63 : decode cX10_is 63 = .ok (.ireturn, 1) := by decide +kernel
theorem dX10_is_64 : decode cX10_is 64 = .ok (.bipush (-2), 2) := by decide +kernel
theorem dX10_is_66 : decode cX10_is 66 = .ok (.ireturn, 1) := by decide +kernel
theorem gX10_is_0 {d : Nat} {M : ev_Mem} {Q : Option Value → ev_Mem → Prop} {x1 : Int32} (h : (((x1 = 0) → (Q (some (.int (M.1 43 3))) M)) ∧ ((x1 = 1) → (Q (some (.int (M.1 43 0))) M)) ∧ ((x1 = 2) → (Q (some (.int (M.1 43 2))) M)) ∧ ((x1 = 3) → (Q (some (.int (M.1 43 4))) M)) ∧ ((¬ x1 = 0 ∧ ¬ x1 = 1 ∧ ¬ x1 = 2 ∧ ¬ x1 = 3) → (Q (some (.int (-2))) M)))) : Ev LX d mX10_is 0 [some (.ref 0), some (.int x1)] [] M Q := by
  refine ev_iload_n dX10_is_0 rfl ?_
  obtain ⟨h0, h1, h2, h3, h4⟩ := h
  by_cases e0 : x1 = 0
  · replace h := h0 e0
    have hk : ∃ off : Int, ¬ (x1 : Int32).toInt < 0 ∧ ¬ 3 < (x1 : Int32).toInt ∧ #[31, 39, 47, 55][((x1 : Int32).toInt - 0).toNat]? = some off ∧ ((1 : Nat) : Int) + off = ((32 : Nat) : Int) := by
      have e := e0
      · rw [e]; exact ⟨31, by decide, by decide, by decide, by decide⟩
    obtain ⟨off, k1, k2, k3, k4⟩ := hk
    refine ev_tableIn (tgt := 32) dX10_is_1 k1 k2 k3 k4 ?_
    refine ev_aload_n dX10_is_32 rfl ?_
    refine ev_getA dX10_is_33 fl_WithoutE_26 lx_0 rfl ?_
    refine ev_getI dX10_is_36 fl_WithoutE_248 lx_43 rfl ?_
    exact ev_iret dX10_is_39 rfl h
  by_cases e1 : x1 = 1
  · replace h := h1 e1
    have hk : ∃ off : Int, ¬ (x1 : Int32).toInt < 0 ∧ ¬ 3 < (x1 : Int32).toInt ∧ #[31, 39, 47, 55][((x1 : Int32).toInt - 0).toNat]? = some off ∧ ((1 : Nat) : Int) + off = ((40 : Nat) : Int) := by
      have e := e1
      · rw [e]; exact ⟨39, by decide, by decide, by decide, by decide⟩
    obtain ⟨off, k1, k2, k3, k4⟩ := hk
    refine ev_tableIn (tgt := 40) dX10_is_1 k1 k2 k3 k4 ?_
    refine ev_aload_n dX10_is_40 rfl ?_
    refine ev_getA dX10_is_41 fl_WithoutE_26 lx_0 rfl ?_
    refine ev_getI dX10_is_44 fl_WithoutE_223 lx_43 rfl ?_
    exact ev_iret dX10_is_47 rfl h
  by_cases e2 : x1 = 2
  · replace h := h2 e2
    have hk : ∃ off : Int, ¬ (x1 : Int32).toInt < 0 ∧ ¬ 3 < (x1 : Int32).toInt ∧ #[31, 39, 47, 55][((x1 : Int32).toInt - 0).toNat]? = some off ∧ ((1 : Nat) : Int) + off = ((48 : Nat) : Int) := by
      have e := e2
      · rw [e]; exact ⟨47, by decide, by decide, by decide, by decide⟩
    obtain ⟨off, k1, k2, k3, k4⟩ := hk
    refine ev_tableIn (tgt := 48) dX10_is_1 k1 k2 k3 k4 ?_
    refine ev_aload_n dX10_is_48 rfl ?_
    refine ev_getA dX10_is_49 fl_WithoutE_26 lx_0 rfl ?_
    refine ev_getI dX10_is_52 fl_WithoutE_275 lx_43 rfl ?_
    exact ev_iret dX10_is_55 rfl h
  by_cases e3 : x1 = 3
  · replace h := h3 e3
    have hk : ∃ off : Int, ¬ (x1 : Int32).toInt < 0 ∧ ¬ 3 < (x1 : Int32).toInt ∧ #[31, 39, 47, 55][((x1 : Int32).toInt - 0).toNat]? = some off ∧ ((1 : Nat) : Int) + off = ((56 : Nat) : Int) := by
      have e := e3
      · rw [e]; exact ⟨55, by decide, by decide, by decide, by decide⟩
    obtain ⟨off, k1, k2, k3, k4⟩ := hk
    refine ev_tableIn (tgt := 56) dX10_is_1 k1 k2 k3 k4 ?_
    refine ev_aload_n dX10_is_56 rfl ?_
    refine ev_getA dX10_is_57 fl_WithoutE_26 lx_0 rfl ?_
    refine ev_getI dX10_is_60 fl_WithoutE_421 lx_43 rfl ?_
    exact ev_iret dX10_is_63 rfl h
  replace h := h4 ⟨fun e => e0 (e), fun e => e1 (e), fun e => e2 (e), fun e => e3 (e)⟩
  have hk : ((x1 : Int32).toInt < 0 ∨ 3 < (x1 : Int32).toInt) ∨ (False) := by
    have t : ∀ k : Int32, ¬ (x1 : Int32) = k → (x1 : Int32).toInt ≠ k.toInt := fun k hne e => hne (Int32.toInt_inj.mp e)
    have z0 : (x1 : Int32).toInt ≠ 0 := t 0 (fun e => by simp_all)
    have z1 : (x1 : Int32).toInt ≠ 1 := t 1 (fun e => by simp_all)
    have z2 : (x1 : Int32).toInt ≠ 2 := t 2 (fun e => by simp_all)
    have z3 : (x1 : Int32).toInt ≠ 3 := t 3 (fun e => by simp_all)
    omega
  replace hk := hk.elim id False.elim
  refine ev_tableOut (tgt := 64) dX10_is_1 hk (by decide) ?_
  refine ev_bipush (v := -2) dX10_is_64 (by decide) ?_
  exact ev_iret dX10_is_66 rfl h
theorem dX10_use_0 : decode cX10_use 0 = .ok (.iload_n 1, 1) := by decide +kernel
theorem dX10_use_1 : decode cX10_use 1 = .ok (.invokestatic 214, 3) := by decide +kernel
theorem dX10_use_4 : decode cX10_use 4 = .ok (.ifCond .eq 15, 3) := by decide +kernel
theorem dX10_use_7 : decode cX10_use 7 = .ok (.aload_n 0, 1) := by decide +kernel
theorem dX10_use_8 : decode cX10_use 8 = .ok (.getfield 26, 3) := by decide +kernel
theorem dX10_use_11 : decode cX10_use 11 = .ok (.getfield 268, 3) := by decide +kernel
theorem dX10_use_14 : decode cX10_use 14 = .ok (.iload_n 1, 1) := by decide +kernel
theorem dX10_use_15 : decode cX10_use 15 = .ok (.iaload, 1) := by decide +kernel
theorem dX10_use_16 : decode cX10_use 16 = .ok (.goto 4, 3) := by decide +kernel
theorem dX10_use_19 : decode cX10_use 19 = .ok (.iconst (-1), 1) := by decide +kernel
theorem dX10_use_20 : decode cX10_use 20 = .ok (.ireturn, 1) := by decide +kernel
theorem gX10_use_0 {d : Nat} {M : ev_Mem} {Q : Option Value → ev_Mem → Prop} {x1 : Int32} (h : ((((iin x1 0 25) = false) → (Q (some (.int (-1))) M)) ∧ (((iin x1 0 25) = true) → (vp_in x1 26 ∧ (Q (some (.int (M.1 44 x1.toNatClampNeg))) M))))) : Ev LX (d + 1) mX10_use 0 [some (.ref 0), some (.int x1)] [] M Q := by
  refine ev_iload_n dX10_use_0 rfl ?_
  refine ev_callS [.int x1] dX10_use_1 ml_WithoutE_214 rfl (Nat.le_of_ble_eq_true rfl) (kX10_isLetter) ?_
  rintro zr zM ⟨q1, q2⟩
  rw [q1, q2]
  show Ev LX (d + 1) mX10_use 4 [some (.ref 0), some (.int x1)] [(.int (bi (iin x1 0 25)))] M Q
  refine ev_if_eq (tgt := 19) dX10_use_4 (by decide) (fun c => ?_) (fun c => ?_)
  · replace h := h.1 ((bi_0 _).mp c)
    refine ev_iconst (v := -1) dX10_use_19 (by decide) ?_
    exact ev_iret dX10_use_20 rfl h
  · replace h := h.2 ((bi_n0 _).mp c)
    refine ev_aload_n dX10_use_7 rfl ?_
    refine ev_getA dX10_use_8 fl_WithoutE_26 lx_0 rfl ?_
    refine ev_getA dX10_use_11 fl_WithoutE_268 lx_43 rfl ?_
    refine ev_iload_n dX10_use_14 rfl ?_
    obtain ⟨c, h⟩ := h
    refine ev_iald dX10_use_15 lx_44 c ?_
    refine ev_goto (tgt := 20) dX10_use_16 (by decide) ?_
    exact ev_iret dX10_use_20 rfl h
theorem dX10_status_0 : decode cX10_status 0 = .ok (.iload_n 1, 1) := by decide +kernel
theorem dX10_status_1 : decode cX10_status 1 = .ok (.ifCond .lt 21, 3) := by decide +kernel
theorem dX10_status_4 : decode cX10_status 4 = .ok (.iload_n 1, 1) := by decide +kernel
theorem dX10_status_5 : decode cX10_status 5 = .ok (.aload_n 0, 1) := by decide +kernel
theorem dX10_status_6 : decode cX10_status 6 = .ok (.getfield 58, 3) := by decide +kernel
theorem dX10_status_9 : decode cX10_status 9 = .ok (.arraylength, 1) := by decide +kernel
theorem dX10_status_10 : decode cX10_status 10 = .ok (.if_icmp .ge 12, 3) := by decide +kernel
theorem dX10_status_13 : decode cX10_status 13 = .ok (.aload_n 0, 1) := by decide +kernel
theorem dX10_status_14 : decode cX10_status 14 = .ok (.getfield 58, 3) := by decide +kernel
theorem dX10_status_17 : decode cX10_status 17 = .ok (.iload_n 1, 1) := by decide +kernel
theorem dX10_status_18 : decode cX10_status 18 = .ok (.iaload, 1) := by decide +kernel
theorem dX10_status_19 : decode cX10_status 19 = .ok (.goto 5, 3) := by decide +kernel
theorem dX10_status_22 : decode cX10_status 22 = .ok (.bipush (-2), 2) := by decide +kernel
theorem dX10_status_24 : decode cX10_status 24 = .ok (.ireturn, 1) := by decide +kernel
theorem gX10_status_0 {d : Nat} {M : ev_Mem} {Q : Option Value → ev_Mem → Prop} {x1 : Int32} (h : (((x1 < 0) → (Q (some (.int (-2))) M)) ∧ ((¬ x1 < 0) → (((3 ≤ x1) → (Q (some (.int (-2))) M)) ∧ ((¬ 3 ≤ x1) → (vp_in x1 3 ∧ (Q (some (.int (M.1 117 x1.toNatClampNeg))) M))))))) : Ev LX d mX10_status 0 [some (.ref 0), some (.int x1)] [] M Q := by
  refine ev_iload_n dX10_status_0 rfl ?_
  refine ev_if_lt (tgt := 22) dX10_status_1 (by decide) (fun c => ?_) (fun c => ?_)
  · replace h := h.1 c
    refine ev_bipush (v := -2) dX10_status_22 (by decide) ?_
    exact ev_iret dX10_status_24 rfl h
  · replace h := h.2 c
    refine ev_iload_n dX10_status_4 rfl ?_
    refine ev_aload_n dX10_status_5 rfl ?_
    refine ev_getA dX10_status_6 fl_WithoutE_58 lx_0 rfl ?_
    refine ev_alen (q := 0) (v := 3) dX10_status_9 lx_117 (fun _ => rfl) (by decide) ?_
    refine ev_icmp_ge (tgt := 22) dX10_status_10 (by decide) (fun c => ?_) (fun c => ?_)
    · replace h := h.1 c
      refine ev_bipush (v := -2) dX10_status_22 (by decide) ?_
      exact ev_iret dX10_status_24 rfl h
    · replace h := h.2 c
      refine ev_aload_n dX10_status_13 rfl ?_
      refine ev_getA dX10_status_14 fl_WithoutE_58 lx_0 rfl ?_
      refine ev_iload_n dX10_status_17 rfl ?_
      obtain ⟨c, h⟩ := h
      refine ev_iald dX10_status_18 lx_117 c ?_
      refine ev_goto (tgt := 24) dX10_status_19 (by decide) ?_
      exact ev_iret dX10_status_24 rfl h
theorem dX10_about_0 : decode cX10_about 0 = .ok (.iload_n 1, 1) := by decide +kernel
theorem dX10_about_1 : decode cX10_about 1 = .ok (.tableswitch 123 0 8 #[51, 59, 67, 75, 83, 91, 99, 107, 115], 51) := by decide +kernel
theorem dX10_about_52 : decode cX10_about 52 = .ok (.aload_n 0, 1) := by decide +kernel
theorem dX10_about_53 : decode cX10_about 53 = .ok (.getfield 19, 3) := by decide +kernel
theorem dX10_about_56 : decode cX10_about 56 = .ok (.getfield 194, 3) := by decide +kernel
theorem dX10_about_59 : decode cX10_about 59 = .ok (.ireturn, 1) := by decide +kernel
theorem dX10_about_60 : decode cX10_about 60 = .ok (.aload_n 0, 1) := by decide +kernel
theorem dX10_about_61 : decode cX10_about 61 = .ok (.getfield 19, 3) := by decide +kernel
theorem dX10_about_64 : decode cX10_about 64 = .ok (.getfield 262, 3) := by decide +kernel
theorem dX10_about_67 : decode cX10_about 67 = .ok (.ireturn, 1) := by decide +kernel
theorem dX10_about_68 : decode cX10_about 68 = .ok (.aload_n 0, 1) := by decide +kernel
theorem dX10_about_69 : decode cX10_about 69 = .ok (.getfield 33, 3) := by decide +kernel
theorem dX10_about_72 : decode cX10_about 72 = .ok (.getfield 110, 3) := by decide +kernel
theorem dX10_about_75 : decode cX10_about 75 = .ok (.ireturn, 1) := by decide +kernel
theorem dX10_about_76 : decode cX10_about 76 = .ok (.aload_n 0, 1) := by decide +kernel
theorem dX10_about_77 : decode cX10_about 77 = .ok (.getfield 33, 3) := by decide +kernel
theorem dX10_about_80 : decode cX10_about 80 = .ok (.getfield 130, 3) := by decide +kernel
theorem dX10_about_83 : decode cX10_about 83 = .ok (.ireturn, 1) := by decide +kernel
theorem dX10_about_84 : decode cX10_about 84 = .ok (.aload_n 0, 1) := by decide +kernel
theorem dX10_about_85 : decode cX10_about 85 = .ok (.getfield 26, 3) := by decide +kernel
theorem dX10_about_88 : decode cX10_about 88 = .ok (.getfield 256, 3) := by decide +kernel
theorem dX10_about_91 : decode cX10_about 91 = .ok (.ireturn, 1) := by decide +kernel
theorem dX10_about_92 : decode cX10_about 92 = .ok (.aload_n 0, 1) := by decide +kernel
theorem dX10_about_93 : decode cX10_about 93 = .ok (.getfield 33, 3) := by decide +kernel
theorem dX10_about_96 : decode cX10_about 96 = .ok (.getfield 404, 3) := by decide +kernel
theorem dX10_about_99 : decode cX10_about 99 = .ok (.ireturn, 1) := by decide +kernel
theorem dX10_about_100 : decode cX10_about 100 = .ok (.aload_n 0, 1) := by decide +kernel
theorem dX10_about_101 : decode cX10_about 101 = .ok (.getfield 33, 3) := by decide +kernel
theorem dX10_about_104 : decode cX10_about 104 = .ok (.getfield 440, 3) := by decide +kernel
theorem dX10_about_107 : decode cX10_about 107 = .ok (.ireturn, 1) := by decide +kernel
theorem dX10_about_108 : decode cX10_about 108 = .ok (.aload_n 0, 1) := by decide +kernel
theorem dX10_about_109 : decode cX10_about 109 = .ok (.getfield 33, 3) := by decide +kernel
theorem dX10_about_112 : decode cX10_about 112 = .ok (.getfield 370, 3) := by decide +kernel
theorem dX10_about_115 : decode cX10_about 115 = .ok (.ireturn, 1) := by decide +kernel
theorem dX10_about_116 : decode cX10_about 116 = .ok (.aload_n 0, 1) := by decide +kernel
theorem dX10_about_117 : decode cX10_about 117 = .ok (.getfield 10, 3) := by decide +kernel
theorem dX10_about_120 : decode cX10_about 120 = .ok (.getfield 102, 3) := by decide +kernel
theorem dX10_about_123 : decode cX10_about 123 = .ok (.ireturn, 1) := by decide +kernel
theorem dX10_about_124 : decode cX10_about 124 = .ok (.bipush (-2), 2) := by decide +kernel
theorem dX10_about_126 : decode cX10_about 126 = .ok (.ireturn, 1) := by decide +kernel
theorem gX10_about_0 {d : Nat} {M : ev_Mem} {Q : Option Value → ev_Mem → Prop} {x1 : Int32} (h : (((x1 = 0) → (Q (some (.int (M.1 3 5))) M)) ∧ ((x1 = 1) → (Q (some (.int (M.1 3 8))) M)) ∧ ((x1 = 2) → (Q (some (.int (M.1 47 2))) M)) ∧ ((x1 = 3) → (Q (some (.int (M.1 47 3))) M)) ∧ ((x1 = 4) → (Q (some (.int (M.1 43 9))) M)) ∧ ((x1 = 5) → (Q (some (.int (M.1 47 5))) M)) ∧ ((x1 = 6) → (Q (some (.int (M.1 47 8))) M)) ∧ ((x1 = 7) → (Q (some (.int (M.1 47 11))) M)) ∧ ((x1 = 8) → (Q (some (.int (M.1 1 1))) M)) ∧ ((¬ x1 = 0 ∧ ¬ x1 = 1 ∧ ¬ x1 = 2 ∧ ¬ x1 = 3 ∧ ¬ x1 = 4 ∧ ¬ x1 = 5 ∧ ¬ x1 = 6 ∧ ¬ x1 = 7 ∧ ¬ x1 = 8) → (Q (some (.int (-2))) M)))) : Ev LX d mX10_about 0 [some (.ref 0), some (.int x1)] [] M Q := by
  refine ev_iload_n dX10_about_0 rfl ?_
  obtain ⟨h0, h1, h2, h3, h4, h5, h6, h7, h8, h9⟩ := h
  by_cases e0 : x1 = 0
  · replace h := h0 e0
    have hk : ∃ off : Int, ¬ (x1 : Int32).toInt < 0 ∧ ¬ 8 < (x1 : Int32).toInt ∧ #[51, 59, 67, 75, 83, 91, 99, 107, 115][((x1 : Int32).toInt - 0).toNat]? = some off ∧ ((1 : Nat) : Int) + off = ((52 : Nat) : Int) := by
      have e := e0
      · rw [e]; exact ⟨51, by decide, by decide, by decide, by decide⟩
    obtain ⟨off, k1, k2, k3, k4⟩ := hk
    refine ev_tableIn (tgt := 52) dX10_about_1 k1 k2 k3 k4 ?_
    refine ev_aload_n dX10_about_52 rfl ?_
    refine ev_getA dX10_about_53 fl_WithoutE_19 lx_0 rfl ?_
    refine ev_getI dX10_about_56 fl_WithoutE_194 lx_3 rfl ?_
    exact ev_iret dX10_about_59 rfl h
  by_cases e1 : x1 = 1
  · replace h := h1 e1
    have hk : ∃ off : Int, ¬ (x1 : Int32).toInt < 0 ∧ ¬ 8 < (x1 : Int32).toInt ∧ #[51, 59, 67, 75, 83, 91, 99, 107, 115][((x1 : Int32).toInt - 0).toNat]? = some off ∧ ((1 : Nat) : Int) + off = ((60 : Nat) : Int) := by
      have e := e1
      · rw [e]; exact ⟨59, by decide, by decide, by decide, by decide⟩
    obtain ⟨off, k1, k2, k3, k4⟩ := hk
    refine ev_tableIn (tgt := 60) dX10_about_1 k1 k2 k3 k4 ?_
    refine ev_aload_n dX10_about_60 rfl ?_
    refine ev_getA dX10_about_61 fl_WithoutE_19 lx_0 rfl ?_
    refine ev_getI dX10_about_64 fl_WithoutE_262 lx_3 rfl ?_
    exact ev_iret dX10_about_67 rfl h
  by_cases e2 : x1 = 2
  · replace h := h2 e2
    have hk : ∃ off : Int, ¬ (x1 : Int32).toInt < 0 ∧ ¬ 8 < (x1 : Int32).toInt ∧ #[51, 59, 67, 75, 83, 91, 99, 107, 115][((x1 : Int32).toInt - 0).toNat]? = some off ∧ ((1 : Nat) : Int) + off = ((68 : Nat) : Int) := by
      have e := e2
      · rw [e]; exact ⟨67, by decide, by decide, by decide, by decide⟩
    obtain ⟨off, k1, k2, k3, k4⟩ := hk
    refine ev_tableIn (tgt := 68) dX10_about_1 k1 k2 k3 k4 ?_
    refine ev_aload_n dX10_about_68 rfl ?_
    refine ev_getA dX10_about_69 fl_WithoutE_33 lx_0 rfl ?_
    refine ev_getI dX10_about_72 fl_WithoutE_110 lx_47 rfl ?_
    exact ev_iret dX10_about_75 rfl h
  by_cases e3 : x1 = 3
  · replace h := h3 e3
    have hk : ∃ off : Int, ¬ (x1 : Int32).toInt < 0 ∧ ¬ 8 < (x1 : Int32).toInt ∧ #[51, 59, 67, 75, 83, 91, 99, 107, 115][((x1 : Int32).toInt - 0).toNat]? = some off ∧ ((1 : Nat) : Int) + off = ((76 : Nat) : Int) := by
      have e := e3
      · rw [e]; exact ⟨75, by decide, by decide, by decide, by decide⟩
    obtain ⟨off, k1, k2, k3, k4⟩ := hk
    refine ev_tableIn (tgt := 76) dX10_about_1 k1 k2 k3 k4 ?_
    refine ev_aload_n dX10_about_76 rfl ?_
    refine ev_getA dX10_about_77 fl_WithoutE_33 lx_0 rfl ?_
    refine ev_getI dX10_about_80 fl_WithoutE_130 lx_47 rfl ?_
    exact ev_iret dX10_about_83 rfl h
  by_cases e4 : x1 = 4
  · replace h := h4 e4
    have hk : ∃ off : Int, ¬ (x1 : Int32).toInt < 0 ∧ ¬ 8 < (x1 : Int32).toInt ∧ #[51, 59, 67, 75, 83, 91, 99, 107, 115][((x1 : Int32).toInt - 0).toNat]? = some off ∧ ((1 : Nat) : Int) + off = ((84 : Nat) : Int) := by
      have e := e4
      · rw [e]; exact ⟨83, by decide, by decide, by decide, by decide⟩
    obtain ⟨off, k1, k2, k3, k4⟩ := hk
    refine ev_tableIn (tgt := 84) dX10_about_1 k1 k2 k3 k4 ?_
    refine ev_aload_n dX10_about_84 rfl ?_
    refine ev_getA dX10_about_85 fl_WithoutE_26 lx_0 rfl ?_
    refine ev_getI dX10_about_88 fl_WithoutE_256 lx_43 rfl ?_
    exact ev_iret dX10_about_91 rfl h
  by_cases e5 : x1 = 5
  · replace h := h5 e5
    have hk : ∃ off : Int, ¬ (x1 : Int32).toInt < 0 ∧ ¬ 8 < (x1 : Int32).toInt ∧ #[51, 59, 67, 75, 83, 91, 99, 107, 115][((x1 : Int32).toInt - 0).toNat]? = some off ∧ ((1 : Nat) : Int) + off = ((92 : Nat) : Int) := by
      have e := e5
      · rw [e]; exact ⟨91, by decide, by decide, by decide, by decide⟩
    obtain ⟨off, k1, k2, k3, k4⟩ := hk
    refine ev_tableIn (tgt := 92) dX10_about_1 k1 k2 k3 k4 ?_
    refine ev_aload_n dX10_about_92 rfl ?_
    refine ev_getA dX10_about_93 fl_WithoutE_33 lx_0 rfl ?_
    refine ev_getI dX10_about_96 fl_WithoutE_404 lx_47 rfl ?_
    exact ev_iret dX10_about_99 rfl h
  by_cases e6 : x1 = 6
  · replace h := h6 e6
    have hk : ∃ off : Int, ¬ (x1 : Int32).toInt < 0 ∧ ¬ 8 < (x1 : Int32).toInt ∧ #[51, 59, 67, 75, 83, 91, 99, 107, 115][((x1 : Int32).toInt - 0).toNat]? = some off ∧ ((1 : Nat) : Int) + off = ((100 : Nat) : Int) := by
      have e := e6
      · rw [e]; exact ⟨99, by decide, by decide, by decide, by decide⟩
    obtain ⟨off, k1, k2, k3, k4⟩ := hk
    refine ev_tableIn (tgt := 100) dX10_about_1 k1 k2 k3 k4 ?_
    refine ev_aload_n dX10_about_100 rfl ?_
    refine ev_getA dX10_about_101 fl_WithoutE_33 lx_0 rfl ?_
    refine ev_getI dX10_about_104 fl_WithoutE_440 lx_47 rfl ?_
    exact ev_iret dX10_about_107 rfl h
  by_cases e7 : x1 = 7
  · replace h := h7 e7
    have hk : ∃ off : Int, ¬ (x1 : Int32).toInt < 0 ∧ ¬ 8 < (x1 : Int32).toInt ∧ #[51, 59, 67, 75, 83, 91, 99, 107, 115][((x1 : Int32).toInt - 0).toNat]? = some off ∧ ((1 : Nat) : Int) + off = ((108 : Nat) : Int) := by
      have e := e7
      · rw [e]; exact ⟨107, by decide, by decide, by decide, by decide⟩
    obtain ⟨off, k1, k2, k3, k4⟩ := hk
    refine ev_tableIn (tgt := 108) dX10_about_1 k1 k2 k3 k4 ?_
    refine ev_aload_n dX10_about_108 rfl ?_
    refine ev_getA dX10_about_109 fl_WithoutE_33 lx_0 rfl ?_
    refine ev_getI dX10_about_112 fl_WithoutE_370 lx_47 rfl ?_
    exact ev_iret dX10_about_115 rfl h
  by_cases e8 : x1 = 8
  · replace h := h8 e8
    have hk : ∃ off : Int, ¬ (x1 : Int32).toInt < 0 ∧ ¬ 8 < (x1 : Int32).toInt ∧ #[51, 59, 67, 75, 83, 91, 99, 107, 115][((x1 : Int32).toInt - 0).toNat]? = some off ∧ ((1 : Nat) : Int) + off = ((116 : Nat) : Int) := by
      have e := e8
      · rw [e]; exact ⟨115, by decide, by decide, by decide, by decide⟩
    obtain ⟨off, k1, k2, k3, k4⟩ := hk
    refine ev_tableIn (tgt := 116) dX10_about_1 k1 k2 k3 k4 ?_
    refine ev_aload_n dX10_about_116 rfl ?_
    refine ev_getA dX10_about_117 fl_WithoutE_10 lx_0 rfl ?_
    refine ev_getI dX10_about_120 fl_WithoutE_102 lx_1 rfl ?_
    exact ev_iret dX10_about_123 rfl h
  replace h := h9 ⟨fun e => e0 (e), fun e => e1 (e), fun e => e2 (e), fun e => e3 (e), fun e => e4 (e), fun e => e5 (e), fun e => e6 (e), fun e => e7 (e), fun e => e8 (e)⟩
  have hk : ((x1 : Int32).toInt < 0 ∨ 8 < (x1 : Int32).toInt) ∨ (False) := by
    have t : ∀ k : Int32, ¬ (x1 : Int32) = k → (x1 : Int32).toInt ≠ k.toInt := fun k hne e => hne (Int32.toInt_inj.mp e)
    have z0 : (x1 : Int32).toInt ≠ 0 := t 0 (fun e => by simp_all)
    have z1 : (x1 : Int32).toInt ≠ 1 := t 1 (fun e => by simp_all)
    have z2 : (x1 : Int32).toInt ≠ 2 := t 2 (fun e => by simp_all)
    have z3 : (x1 : Int32).toInt ≠ 3 := t 3 (fun e => by simp_all)
    have z4 : (x1 : Int32).toInt ≠ 4 := t 4 (fun e => by simp_all)
    have z5 : (x1 : Int32).toInt ≠ 5 := t 5 (fun e => by simp_all)
    have z6 : (x1 : Int32).toInt ≠ 6 := t 6 (fun e => by simp_all)
    have z7 : (x1 : Int32).toInt ≠ 7 := t 7 (fun e => by simp_all)
    have z8 : (x1 : Int32).toInt ≠ 8 := t 8 (fun e => by simp_all)
    omega
  replace hk := hk.elim id False.elim
  refine ev_tableOut (tgt := 124) dX10_about_1 hk (by decide) ?_
  refine ev_bipush (v := -2) dX10_about_124 (by decide) ?_
  exact ev_iret dX10_about_126 rfl h
theorem dX10_fault_0 : decode cX10_fault 0 = .ok (.aload_n 0, 1) := by decide +kernel
theorem dX10_fault_1 : decode cX10_fault 1 = .ok (.getfield 48, 3) := by decide +kernel
theorem dX10_fault_4 : decode cX10_fault 4 = .ok (.getfield 116, 3) := by decide +kernel
theorem dX10_fault_7 : decode cX10_fault 7 = .ok (.ifCond .eq 12, 3) := by decide +kernel
theorem dX10_fault_10 : decode cX10_fault 10 = .ok (.iload_n 1, 1) := by decide +kernel
theorem dX10_fault_11 : decode cX10_fault 11 = .ok (.ifCond .lt 8, 3) := by decide +kernel
theorem dX10_fault_14 : decode cX10_fault 14 = .ok (.iload_n 1, 1) := by decide +kernel
theorem dX10_fault_15 : decode cX10_fault 15 = .ok (.iconst 1, 1) := by decide +kernel
theorem dX10_fault_16 : decode cX10_fault 16 = .ok (.if_icmp .le 5, 3) := by decide +kernel
theorem dX10_fault_19 : decode cX10_fault 19 = .ok (.iconst (-1), 1) := by decide +kernel
theorem dX10_fault_20 : decode cX10_fault 20 = .ok (.ireturn, 1) := by decide +kernel
theorem dX10_fault_21 : decode cX10_fault 21 = .ok (.iload_n 1, 1) := by decide +kernel
theorem dX10_fault_22 : decode cX10_fault 22 = .ok (.ifCond .ne 13, 3) := by decide +kernel
theorem dX10_fault_25 : decode cX10_fault 25 = .ok (.aload_n 0, 1) := by decide +kernel
theorem dX10_fault_26 : decode cX10_fault 26 = .ok (.getfield 48, 3) := by decide +kernel
theorem dX10_fault_29 : decode cX10_fault 29 = .ok (.getfield 120, 3) := by decide +kernel
theorem dX10_fault_32 : decode cX10_fault 32 = .ok (.goto 10, 3) := by decide +kernel
theorem dX10_fault_35 : decode cX10_fault 35 = .ok (.aload_n 0, 1) := by decide +kernel
theorem dX10_fault_36 : decode cX10_fault 36 = .ok (.getfield 48, 3) := by decide +kernel
theorem dX10_fault_39 : decode cX10_fault 39 = .ok (.getfield 123, 3) := by decide +kernel
theorem dX10_fault_42 : decode cX10_fault 42 = .ok (.ireturn, 1) := by decide +kernel
theorem gX10_fault_0 {d : Nat} {M : ev_Mem} {Q : Option Value → ev_Mem → Prop} {x1 : Int32} (h : ((((M.1 81 2) = 0) → (Q (some (.int (-1))) M)) ∧ ((¬ (M.1 81 2) = 0) → (((x1 < 0) → (Q (some (.int (-1))) M)) ∧ ((¬ x1 < 0) → (((x1 ≤ 1) → (((¬ x1 = 0) → (Q (some (.int (M.1 81 4))) M)) ∧ ((x1 = 0) → (Q (some (.int (M.1 81 3))) M)))) ∧ ((¬ x1 ≤ 1) → (Q (some (.int (-1))) M)))))))) : Ev LX d mX10_fault 0 [some (.ref 0), some (.int x1)] [] M Q := by
  refine ev_aload_n dX10_fault_0 rfl ?_
  refine ev_getA dX10_fault_1 fl_WithoutE_48 lx_0 rfl ?_
  refine ev_getI dX10_fault_4 fl_WithoutE_116 lx_81 rfl ?_
  refine ev_if_eq (tgt := 19) dX10_fault_7 (by decide) (fun c => ?_) (fun c => ?_)
  · replace h := h.1 c
    refine ev_iconst (v := -1) dX10_fault_19 (by decide) ?_
    exact ev_iret dX10_fault_20 rfl h
  · replace h := h.2 c
    refine ev_iload_n dX10_fault_10 rfl ?_
    refine ev_if_lt (tgt := 19) dX10_fault_11 (by decide) (fun c => ?_) (fun c => ?_)
    · replace h := h.1 c
      refine ev_iconst (v := -1) dX10_fault_19 (by decide) ?_
      exact ev_iret dX10_fault_20 rfl h
    · replace h := h.2 c
      refine ev_iload_n dX10_fault_14 rfl ?_
      refine ev_iconst (v := 1) dX10_fault_15 (by decide) ?_
      refine ev_icmp_le (tgt := 21) dX10_fault_16 (by decide) (fun c => ?_) (fun c => ?_)
      · replace h := h.1 c
        refine ev_iload_n dX10_fault_21 rfl ?_
        refine ev_if_ne (tgt := 35) dX10_fault_22 (by decide) (fun c => ?_) (fun c => ?_)
        · replace h := h.1 c
          refine ev_aload_n dX10_fault_35 rfl ?_
          refine ev_getA dX10_fault_36 fl_WithoutE_48 lx_0 rfl ?_
          refine ev_getI dX10_fault_39 fl_WithoutE_123 lx_81 rfl ?_
          exact ev_iret dX10_fault_42 rfl h
        · replace h := h.2 c
          refine ev_aload_n dX10_fault_25 rfl ?_
          refine ev_getA dX10_fault_26 fl_WithoutE_48 lx_0 rfl ?_
          refine ev_getI dX10_fault_29 fl_WithoutE_120 lx_81 rfl ?_
          refine ev_goto (tgt := 42) dX10_fault_32 (by decide) ?_
          exact ev_iret dX10_fault_42 rfl h
      · replace h := h.2 c
        refine ev_iconst (v := -1) dX10_fault_19 (by decide) ?_
        exact ev_iret dX10_fault_20 rfl h
theorem dX10_clear_0 : decode cX10_clear 0 = .ok (.aload_n 0, 1) := by decide +kernel
theorem dX10_clear_1 : decode cX10_clear 1 = .ok (.getfield 33, 3) := by decide +kernel
theorem dX10_clear_4 : decode cX10_clear 4 = .ok (.iconst 0, 1) := by decide +kernel
theorem dX10_clear_5 : decode cX10_clear 5 = .ok (.putfield 440, 3) := by decide +kernel
theorem dX10_clear_8 : decode cX10_clear 8 = .ok (.iconst 0, 1) := by decide +kernel
theorem dX10_clear_9 : decode cX10_clear 9 = .ok (.ireturn, 1) := by decide +kernel
theorem gX10_clear_0 {d : Nat} {M : ev_Mem} {Q : Option Value → ev_Mem → Prop} (h : (∀ M1 : ev_Mem, M1 = ev_wr M 47 8 0 → (Q (some (.int 0)) M1))) : Ev LX d mX10_clear 0 [some (.ref 0)] [] M Q := by
  refine ev_aload_n dX10_clear_0 rfl ?_
  refine ev_getA dX10_clear_1 fl_WithoutE_33 lx_0 rfl ?_
  refine ev_iconst (v := 0) dX10_clear_4 (by decide) ?_
  refine ev_putI dX10_clear_5 fp_WithoutE_440 lx_47 rfl rfl rfl ?_
  generalize eM1 : ev_wr M 47 8 0 = M1
  replace h := h M1 eM1.symm
  refine ev_iconst (v := 0) dX10_clear_8 (by decide) ?_
  exact ev_iret dX10_clear_9 rfl h
theorem dX10_end_0 : decode cX10_end 0 = .ok (.iload_n 1, 1) := by decide +kernel
theorem dX10_end_1 : decode cX10_end 1 = .ok (.ifCond .lt 14, 3) := by decide +kernel
theorem dX10_end_4 : decode cX10_end 4 = .ok (.iload_n 1, 1) := by decide +kernel
theorem dX10_end_5 : decode cX10_end 5 = .ok (.aload_n 0, 1) := by decide +kernel
theorem dX10_end_6 : decode cX10_end 6 = .ok (.getfield 10, 3) := by decide +kernel
theorem dX10_end_9 : decode cX10_end 9 = .ok (.getfield 102, 3) := by decide +kernel
theorem dX10_end_12 : decode cX10_end 12 = .ok (.if_icmp .le 5, 3) := by decide +kernel
theorem dX10_end_15 : decode cX10_end 15 = .ok (.iconst (-1), 1) := by decide +kernel
theorem dX10_end_16 : decode cX10_end 16 = .ok (.ireturn, 1) := by decide +kernel
theorem dX10_end_17 : decode cX10_end 17 = .ok (.aload_n 0, 1) := by decide +kernel
theorem dX10_end_18 : decode cX10_end 18 = .ok (.getfield 10, 3) := by decide +kernel
theorem dX10_end_21 : decode cX10_end 21 = .ok (.iload_n 1, 1) := by decide +kernel
theorem dX10_end_22 : decode cX10_end 22 = .ok (.putfield 102, 3) := by decide +kernel
theorem dX10_end_25 : decode cX10_end 25 = .ok (.iload_n 1, 1) := by decide +kernel
theorem dX10_end_26 : decode cX10_end 26 = .ok (.ireturn, 1) := by decide +kernel
theorem gX10_end_0 {d : Nat} {M : ev_Mem} {Q : Option Value → ev_Mem → Prop} {x1 : Int32} (h : (((x1 < 0) → (Q (some (.int (-1))) M)) ∧ ((¬ x1 < 0) → (((x1 ≤ (M.1 1 1)) → (∀ M1 : ev_Mem, M1 = ev_wr M 1 1 x1 → (Q (some (.int x1)) M1))) ∧ ((¬ x1 ≤ (M.1 1 1)) → (Q (some (.int (-1))) M)))))) : Ev LX d mX10_end 0 [some (.ref 0), some (.int x1)] [] M Q := by
  refine ev_iload_n dX10_end_0 rfl ?_
  refine ev_if_lt (tgt := 15) dX10_end_1 (by decide) (fun c => ?_) (fun c => ?_)
  · replace h := h.1 c
    refine ev_iconst (v := -1) dX10_end_15 (by decide) ?_
    exact ev_iret dX10_end_16 rfl h
  · replace h := h.2 c
    refine ev_iload_n dX10_end_4 rfl ?_
    refine ev_aload_n dX10_end_5 rfl ?_
    refine ev_getA dX10_end_6 fl_WithoutE_10 lx_0 rfl ?_
    refine ev_getI dX10_end_9 fl_WithoutE_102 lx_1 rfl ?_
    refine ev_icmp_le (tgt := 17) dX10_end_12 (by decide) (fun c => ?_) (fun c => ?_)
    · replace h := h.1 c
      refine ev_aload_n dX10_end_17 rfl ?_
      refine ev_getA dX10_end_18 fl_WithoutE_10 lx_0 rfl ?_
      refine ev_iload_n dX10_end_21 rfl ?_
      refine ev_putI dX10_end_22 fp_WithoutE_102 lx_1 rfl rfl rfl ?_
      generalize eM1 : ev_wr M 1 1 x1 = M1
      replace h := h M1 eM1.symm
      refine ev_iload_n dX10_end_25 rfl ?_
      exact ev_iret dX10_end_26 rfl h
    · replace h := h.2 c
      refine ev_iconst (v := -1) dX10_end_15 (by decide) ?_
      exact ev_iret dX10_end_16 rfl h
theorem dX10_by_0 : decode cX10_by 0 = .ok (.iload_n 1, 1) := by decide +kernel
theorem dX10_by_1 : decode cX10_by 1 = .ok (.iconst (-1), 1) := by decide +kernel
theorem dX10_by_2 : decode cX10_by 2 = .ok (.if_icmp .eq 13, 3) := by decide +kernel
theorem dX10_by_5 : decode cX10_by 5 = .ok (.aload_n 0, 1) := by decide +kernel
theorem dX10_by_6 : decode cX10_by 6 = .ok (.iload_n 1, 1) := by decide +kernel
theorem dX10_by_7 : decode cX10_by 7 = .ok (.invokevirtual 126, 3) := by decide +kernel
theorem dX10_by_10 : decode cX10_by 10 = .ok (.ifCond .ne 5, 3) := by decide +kernel
theorem dX10_by_13 : decode cX10_by 13 = .ok (.iconst 0, 1) := by decide +kernel
theorem dX10_by_14 : decode cX10_by 14 = .ok (.ireturn, 1) := by decide +kernel
theorem dX10_by_15 : decode cX10_by 15 = .ok (.aload_n 0, 1) := by decide +kernel
theorem dX10_by_16 : decode cX10_by 16 = .ok (.getfield 33, 3) := by decide +kernel
theorem dX10_by_19 : decode cX10_by 19 = .ok (.iload_n 1, 1) := by decide +kernel
theorem dX10_by_20 : decode cX10_by 20 = .ok (.putfield 130, 3) := by decide +kernel
theorem dX10_by_23 : decode cX10_by 23 = .ok (.iconst 1, 1) := by decide +kernel
theorem dX10_by_24 : decode cX10_by 24 = .ok (.ireturn, 1) := by decide +kernel
theorem gX10_by_0 {d : Nat} {M : ev_Mem} {Q : Option Value → ev_Mem → Prop} {x1 : Int32} (h : (((x1 = (-1)) → (∀ M1 : ev_Mem, M1 = ev_wr M 47 3 x1 → (Q (some (.int 1)) M1))) ∧ ((¬ x1 = (-1)) → ((okT M) ∧ ((((iin x1 0 (M.1 47 2 - 1)) = true) → (∀ M2 : ev_Mem, M2 = ev_wr M 47 3 x1 → (Q (some (.int 1)) M2))) ∧ (((iin x1 0 (M.1 47 2 - 1)) = false) → (Q (some (.int 0)) M))))))) : Ev LX (d + 1) mX10_by 0 [some (.ref 0), some (.int x1)] [] M Q := by
  refine ev_iload_n dX10_by_0 rfl ?_
  refine ev_iconst (v := -1) dX10_by_1 (by decide) ?_
  refine ev_icmp_eq (tgt := 15) dX10_by_2 (by decide) (fun c => ?_) (fun c => ?_)
  · replace h := h.1 c
    refine ev_aload_n dX10_by_15 rfl ?_
    refine ev_getA dX10_by_16 fl_WithoutE_33 lx_0 rfl ?_
    refine ev_iload_n dX10_by_19 rfl ?_
    refine ev_putI dX10_by_20 fp_WithoutE_130 lx_47 rfl rfl rfl ?_
    generalize eM1 : ev_wr M 47 3 x1 = M1
    replace h := h M1 eM1.symm
    refine ev_iconst (v := 1) dX10_by_23 (by decide) ?_
    exact ev_zret dX10_by_24 rfl (by decide) h
  · replace h := h.2 c
    refine ev_aload_n dX10_by_5 rfl ?_
    refine ev_iload_n dX10_by_6 rfl ?_
    obtain ⟨p1, h⟩ := h
    refine ev_callV [.int x1] dX10_by_7 ml_WithoutE_126 lx_0 rfl rfl (Nat.le_of_ble_eq_true rfl) (kX10_hasText p1) ?_
    rintro zr zM ⟨q1, q2⟩
    rw [q1, q2]
    show Ev LX (d + 1) mX10_by 10 [some (.ref 0), some (.int x1)] [(.int (bi (iin x1 0 (M.1 47 2 - 1))))] M Q
    refine ev_if_ne (tgt := 15) dX10_by_10 (by decide) (fun c => ?_) (fun c => ?_)
    · replace h := h.1 ((bi_n0 _).mp c)
      refine ev_aload_n dX10_by_15 rfl ?_
      refine ev_getA dX10_by_16 fl_WithoutE_33 lx_0 rfl ?_
      refine ev_iload_n dX10_by_19 rfl ?_
      refine ev_putI dX10_by_20 fp_WithoutE_130 lx_47 rfl rfl rfl ?_
      generalize eM2 : ev_wr M 47 3 x1 = M2
      replace h := h M2 eM2.symm
      refine ev_iconst (v := 1) dX10_by_23 (by decide) ?_
      exact ev_zret dX10_by_24 rfl (by decide) h
    · replace h := h.2 ((bi_0 _).mp c)
      refine ev_iconst (v := 0) dX10_by_13 (by decide) ?_
      exact ev_zret dX10_by_14 rfl (by decide) h
theorem dX10_told_0 : decode cX10_told 0 = .ok (.aload_n 0, 1) := by decide +kernel
theorem dX10_told_1 : decode cX10_told 1 = .ok (.getfield 19, 3) := by decide +kernel
theorem dX10_told_4 : decode cX10_told 4 = .ok (.iload_n 1, 1) := by decide +kernel
theorem dX10_told_5 : decode cX10_told 5 = .ok (.invokevirtual 191, 3) := by decide +kernel
theorem dX10_told_8 : decode cX10_told 8 = .ok (.ifCond .eq 23, 3) := by decide +kernel
theorem dX10_told_11 : decode cX10_told 11 = .ok (.iload_n 2, 1) := by decide +kernel
theorem dX10_told_12 : decode cX10_told 12 = .ok (.ifCond .lt 19, 3) := by decide +kernel
theorem dX10_told_15 : decode cX10_told 15 = .ok (.iload_n 2, 1) := by decide +kernel
theorem dX10_told_16 : decode cX10_told 16 = .ok (.bipush 8, 2) := by decide +kernel
theorem dX10_told_18 : decode cX10_told 18 = .ok (.aload_n 0, 1) := by decide +kernel
theorem dX10_told_19 : decode cX10_told 19 = .ok (.getfield 19, 3) := by decide +kernel
theorem dX10_told_22 : decode cX10_told 22 = .ok (.getfield 197, 3) := by decide +kernel
theorem dX10_told_25 : decode cX10_told 25 = .ok (.iload_n 1, 1) := by decide +kernel
theorem dX10_told_26 : decode cX10_told 26 = .ok (.iaload, 1) := by decide +kernel
theorem dX10_told_27 : decode cX10_told 27 = .ok (.iadd, 1) := by decide +kernel
theorem dX10_told_28 : decode cX10_told 28 = .ok (.if_icmp .lt 5, 3) := by decide +kernel
theorem dX10_told_31 : decode cX10_told 31 = .ok (.iconst (-1), 1) := by decide +kernel
theorem dX10_told_32 : decode cX10_told 32 = .ok (.ireturn, 1) := by decide +kernel
theorem dX10_told_33 : decode cX10_told 33 = .ok (.iload_n 2, 1) := by decide +kernel
theorem dX10_told_34 : decode cX10_told 34 = .ok (.tableswitch 158 0 7 #[46, 56, 66, 76, 86, 102, 118, 142], 46) := by decide +kernel
theorem dX10_told_80 : decode cX10_told 80 = .ok (.aload_n 0, 1) := by decide +kernel
theorem dX10_told_81 : decode cX10_told 81 = .ok (.getfield 19, 3) := by decide +kernel
theorem dX10_told_84 : decode cX10_told 84 = .ok (.getfield 200, 3) := by decide +kernel
theorem dX10_told_87 : decode cX10_told 87 = .ok (.iload_n 1, 1) := by decide +kernel
theorem dX10_told_88 : decode cX10_told 88 = .ok (.iaload, 1) := by decide +kernel
theorem dX10_told_89 : decode cX10_told 89 = .ok (.ireturn, 1) := by decide +kernel
theorem dX10_told_90 : decode cX10_told 90 = .ok (.aload_n 0, 1) := by decide +kernel
theorem dX10_told_91 : decode cX10_told 91 = .ok (.getfield 19, 3) := by decide +kernel
theorem dX10_told_94 : decode cX10_told 94 = .ok (.getfield 205, 3) := by decide +kernel
theorem dX10_told_97 : decode cX10_told 97 = .ok (.iload_n 1, 1) := by decide +kernel
theorem dX10_told_98 : decode cX10_told 98 = .ok (.iaload, 1) := by decide +kernel
theorem dX10_told_99 : decode cX10_told 99 = .ok (.ireturn, 1) := by decide +kernel
theorem dX10_told_100 : decode cX10_told 100 = .ok (.aload_n 0, 1) := by decide +kernel
theorem dX10_told_101 : decode cX10_told 101 = .ok (.getfield 19, 3) := by decide +kernel
theorem dX10_told_104 : decode cX10_told 104 = .ok (.getfield 208, 3) := by decide +kernel
theorem dX10_told_107 : decode cX10_told 107 = .ok (.iload_n 1, 1) := by decide +kernel
theorem dX10_told_108 : decode cX10_told 108 = .ok (.iaload, 1) := by decide +kernel
theorem dX10_told_109 : decode cX10_told 109 = .ok (.ireturn, 1) := by decide +kernel
theorem dX10_told_110 : decode cX10_told 110 = .ok (.aload_n 0, 1) := by decide +kernel
theorem dX10_told_111 : decode cX10_told 111 = .ok (.getfield 19, 3) := by decide +kernel
theorem dX10_told_114 : decode cX10_told 114 = .ok (.getfield 197, 3) := by decide +kernel
theorem dX10_told_117 : decode cX10_told 117 = .ok (.iload_n 1, 1) := by decide +kernel
theorem dX10_told_118 : decode cX10_told 118 = .ok (.iaload, 1) := by decide +kernel
theorem dX10_told_119 : decode cX10_told 119 = .ok (.ireturn, 1) := by decide +kernel
theorem dX10_told_120 : decode cX10_told 120 = .ok (.aload_n 0, 1) := by decide +kernel
theorem dX10_told_121 : decode cX10_told 121 = .ok (.getfield 80, 3) := by decide +kernel
theorem dX10_told_124 : decode cX10_told 124 = .ok (.iload_n 1, 1) := by decide +kernel
theorem dX10_told_125 : decode cX10_told 125 = .ok (.aload_n 0, 1) := by decide +kernel
theorem dX10_told_126 : decode cX10_told 126 = .ok (.getfield 26, 3) := by decide +kernel
theorem dX10_told_129 : decode cX10_told 129 = .ok (.getfield 223, 3) := by decide +kernel
theorem dX10_told_132 : decode cX10_told 132 = .ok (.invokevirtual 302, 3) := by decide +kernel
theorem dX10_told_135 : decode cX10_told 135 = .ok (.ireturn, 1) := by decide +kernel
theorem dX10_told_136 : decode cX10_told 136 = .ok (.aload_n 0, 1) := by decide +kernel
theorem dX10_told_137 : decode cX10_told 137 = .ok (.getfield 80, 3) := by decide +kernel
theorem dX10_told_140 : decode cX10_told 140 = .ok (.iload_n 1, 1) := by decide +kernel
theorem dX10_told_141 : decode cX10_told 141 = .ok (.aload_n 0, 1) := by decide +kernel
theorem dX10_told_142 : decode cX10_told 142 = .ok (.getfield 26, 3) := by decide +kernel
theorem dX10_told_145 : decode cX10_told 145 = .ok (.getfield 223, 3) := by decide +kernel
theorem dX10_told_148 : decode cX10_told 148 = .ok (.invokevirtual 305, 3) := by decide +kernel
theorem dX10_told_151 : decode cX10_told 151 = .ok (.ireturn, 1) := by decide +kernel
theorem dX10_told_152 : decode cX10_told 152 = .ok (.aload_n 0, 1) := by decide +kernel
theorem dX10_told_153 : decode cX10_told 153 = .ok (.getfield 80, 3) := by decide +kernel
theorem dX10_told_156 : decode cX10_told 156 = .ok (.iload_n 1, 1) := by decide +kernel
theorem dX10_told_157 : decode cX10_told 157 = .ok (.aload_n 0, 1) := by decide +kernel
theorem dX10_told_158 : decode cX10_told 158 = .ok (.getfield 26, 3) := by decide +kernel
theorem dX10_told_161 : decode cX10_told 161 = .ok (.getfield 223, 3) := by decide +kernel
theorem dX10_told_164 : decode cX10_told 164 = .ok (.invokevirtual 308, 3) := by decide +kernel
theorem dX10_told_167 : decode cX10_told 167 = .ok (.ifCond .eq 7, 3) := by decide +kernel
theorem dX10_told_170 : decode cX10_told 170 = .ok (.iconst 1, 1) := by decide +kernel
theorem dX10_told_171 : decode cX10_told 171 = .ok (.goto 4, 3) := by decide +kernel
theorem dX10_told_174 : decode cX10_told 174 = .ok (.iconst 0, 1) := by decide +kernel
theorem dX10_told_175 : decode cX10_told 175 = .ok (.ireturn, 1) := by decide +kernel
theorem dX10_told_176 : decode cX10_told 176 = .ok (.aload_n 0, 1) := by decide +kernel
theorem dX10_told_177 : decode cX10_told 177 = .ok (.getfield 80, 3) := by decide +kernel
theorem dX10_told_180 : decode cX10_told 180 = .ok (.iload_n 1, 1) := by decide +kernel
theorem dX10_told_181 : decode cX10_told 181 = .ok (.aload_n 0, 1) := by decide +kernel
theorem dX10_told_182 : decode cX10_told 182 = .ok (.getfield 26, 3) := by decide +kernel
theorem dX10_told_185 : decode cX10_told 185 = .ok (.getfield 223, 3) := by decide +kernel
theorem dX10_told_188 : decode cX10_told 188 = .ok (.invokevirtual 311, 3) := by decide +kernel
theorem dX10_told_191 : decode cX10_told 191 = .ok (.ireturn, 1) := by decide +kernel
theorem dX10_told_192 : decode cX10_told 192 = .ok (.aload_n 0, 1) := by decide +kernel
theorem dX10_told_193 : decode cX10_told 193 = .ok (.getfield 19, 3) := by decide +kernel
theorem dX10_told_196 : decode cX10_told 196 = .ok (.getfield 201, 3) := by decide +kernel
theorem dX10_told_199 : decode cX10_told 199 = .ok (.iload_n 1, 1) := by decide +kernel
theorem dX10_told_200 : decode cX10_told 200 = .ok (.aaload, 1) := by decide +kernel
theorem dX10_told_201 : decode cX10_told 201 = .ok (.iload_n 2, 1) := by decide +kernel
theorem dX10_told_202 : decode cX10_told 202 = .ok (.bipush 8, 2) := by decide +kernel
theorem dX10_told_204 : decode cX10_told 204 = .ok (.isub, 1) := by decide +kernel
theorem dX10_told_205 : decode cX10_told 205 = .ok (.iaload, 1) := by decide +kernel
theorem dX10_told_206 : decode cX10_told 206 = .ok (.ireturn, 1) := by decide +kernel
theorem gX10_told_0 {d : Nat} {M : ev_Mem} {Q : Option Value → ev_Mem → Prop} {x1 x2 : Int32} (h : ((okW M) ∧ ((((iin x1 0 (M.1 3 5 - 1)) = false) → (Q (some (.int (-1))) M)) ∧ (((iin x1 0 (M.1 3 5 - 1)) = true) → (((x2 < 0) → (Q (some (.int (-1))) M)) ∧ ((¬ x2 < 0) → (vp_in x1 24 ∧ (((x2 < (8 + (M.1 29 x1.toNatClampNeg))) → (((x2 = 0) → (vp_in x1 24 ∧ (Q (some (.int (M.1 30 x1.toNatClampNeg))) M))) ∧ ((x2 = 1) → (vp_in x1 24 ∧ (Q (some (.int (M.1 31 x1.toNatClampNeg))) M))) ∧ ((x2 = 2) → (vp_in x1 24 ∧ (Q (some (.int (M.1 32 x1.toNatClampNeg))) M))) ∧ ((x2 = 3) → (vp_in x1 24 ∧ (Q (some (.int (M.1 29 x1.toNatClampNeg))) M))) ∧ ((x2 = 4) → ((wd M x1) ∧ (Q (some (.int (nI (xH M x1 (M.1 43 0))))) M))) ∧ ((x2 = 5) → ((wd M x1) ∧ (Q (some (.int (xS M x1 (M.1 43 0)))) M))) ∧ ((x2 = 6) → ((wd M x1) ∧ ((((xC M x1 (M.1 43 0)) = false) → (Q (some (.int 0)) M)) ∧ (((xC M x1 (M.1 43 0)) = true) → (Q (some (.int 1)) M))))) ∧ ((x2 = 7) → ((wd M x1) ∧ (Q (some (.int (xE M x1 (M.1 43 0)))) M))) ∧ ((¬ x2 = 0 ∧ ¬ x2 = 1 ∧ ¬ x2 = 2 ∧ ¬ x2 = 3 ∧ ¬ x2 = 4 ∧ ¬ x2 = 5 ∧ ¬ x2 = 6 ∧ ¬ x2 = 7) → (vp_in x1 24 ∧ (vp_in (x2 - 8) 9 ∧ (Q (some (.int (M.1 (5 + x1.toNatClampNeg) (x2 - 8).toNatClampNeg))) M)))))) ∧ ((¬ x2 < (8 + (M.1 29 x1.toNatClampNeg))) → (Q (some (.int (-1))) M)))))))))) : Ev LX (d + 3) mX10_told 0 [some (.ref 0), some (.int x1), some (.int x2)] [] M Q := by
  refine ev_aload_n dX10_told_0 rfl ?_
  refine ev_getA dX10_told_1 fl_WithoutE_19 lx_0 rfl ?_
  refine ev_iload_n dX10_told_4 rfl ?_
  obtain ⟨p1, h⟩ := h
  refine ev_callV [.int x1] dX10_told_5 ml_WithoutE_191 lx_3 rfl rfl (Nat.le_of_ble_eq_true rfl) (kX0_hasWord p1) ?_
  rintro zr zM ⟨q1, q2⟩
  rw [q1, q2]
  show Ev LX (d + 3) mX10_told 8 [some (.ref 0), some (.int x1), some (.int x2)] [(.int (bi (iin x1 0 (M.1 3 5 - 1))))] M Q
  refine ev_if_eq (tgt := 31) dX10_told_8 (by decide) (fun c => ?_) (fun c => ?_)
  · replace h := h.1 ((bi_0 _).mp c)
    refine ev_iconst (v := -1) dX10_told_31 (by decide) ?_
    exact ev_iret dX10_told_32 rfl h
  · replace h := h.2 ((bi_n0 _).mp c)
    refine ev_iload_n dX10_told_11 rfl ?_
    refine ev_if_lt (tgt := 31) dX10_told_12 (by decide) (fun c => ?_) (fun c => ?_)
    · replace h := h.1 c
      refine ev_iconst (v := -1) dX10_told_31 (by decide) ?_
      exact ev_iret dX10_told_32 rfl h
    · replace h := h.2 c
      refine ev_iload_n dX10_told_15 rfl ?_
      refine ev_bipush (v := 8) dX10_told_16 (by decide) ?_
      refine ev_aload_n dX10_told_18 rfl ?_
      refine ev_getA dX10_told_19 fl_WithoutE_19 lx_0 rfl ?_
      refine ev_getA dX10_told_22 fl_WithoutE_197 lx_3 rfl ?_
      refine ev_iload_n dX10_told_25 rfl ?_
      obtain ⟨c, h⟩ := h
      refine ev_iald dX10_told_26 lx_29 c ?_
      refine ev_iadd dX10_told_27 ?_
      refine ev_icmp_lt (tgt := 33) dX10_told_28 (by decide) (fun c => ?_) (fun c => ?_)
      · replace h := h.1 c
        refine ev_iload_n dX10_told_33 rfl ?_
        obtain ⟨h0, h1, h2, h3, h4, h5, h6, h7, h8⟩ := h
        by_cases e0 : x2 = 0
        · replace h := h0 e0
          have hk : ∃ off : Int, ¬ (x2 : Int32).toInt < 0 ∧ ¬ 7 < (x2 : Int32).toInt ∧ #[46, 56, 66, 76, 86, 102, 118, 142][((x2 : Int32).toInt - 0).toNat]? = some off ∧ ((34 : Nat) : Int) + off = ((80 : Nat) : Int) := by
            have e := e0
            · rw [e]; exact ⟨46, by decide, by decide, by decide, by decide⟩
          obtain ⟨off, k1, k2, k3, k4⟩ := hk
          refine ev_tableIn (tgt := 80) dX10_told_34 k1 k2 k3 k4 ?_
          refine ev_aload_n dX10_told_80 rfl ?_
          refine ev_getA dX10_told_81 fl_WithoutE_19 lx_0 rfl ?_
          refine ev_getA dX10_told_84 fl_WithoutE_200 lx_3 rfl ?_
          refine ev_iload_n dX10_told_87 rfl ?_
          obtain ⟨c, h⟩ := h
          refine ev_iald dX10_told_88 lx_30 c ?_
          exact ev_iret dX10_told_89 rfl h
        by_cases e1 : x2 = 1
        · replace h := h1 e1
          have hk : ∃ off : Int, ¬ (x2 : Int32).toInt < 0 ∧ ¬ 7 < (x2 : Int32).toInt ∧ #[46, 56, 66, 76, 86, 102, 118, 142][((x2 : Int32).toInt - 0).toNat]? = some off ∧ ((34 : Nat) : Int) + off = ((90 : Nat) : Int) := by
            have e := e1
            · rw [e]; exact ⟨56, by decide, by decide, by decide, by decide⟩
          obtain ⟨off, k1, k2, k3, k4⟩ := hk
          refine ev_tableIn (tgt := 90) dX10_told_34 k1 k2 k3 k4 ?_
          refine ev_aload_n dX10_told_90 rfl ?_
          refine ev_getA dX10_told_91 fl_WithoutE_19 lx_0 rfl ?_
          refine ev_getA dX10_told_94 fl_WithoutE_205 lx_3 rfl ?_
          refine ev_iload_n dX10_told_97 rfl ?_
          obtain ⟨c, h⟩ := h
          refine ev_iald dX10_told_98 lx_31 c ?_
          exact ev_iret dX10_told_99 rfl h
        by_cases e2 : x2 = 2
        · replace h := h2 e2
          have hk : ∃ off : Int, ¬ (x2 : Int32).toInt < 0 ∧ ¬ 7 < (x2 : Int32).toInt ∧ #[46, 56, 66, 76, 86, 102, 118, 142][((x2 : Int32).toInt - 0).toNat]? = some off ∧ ((34 : Nat) : Int) + off = ((100 : Nat) : Int) := by
            have e := e2
            · rw [e]; exact ⟨66, by decide, by decide, by decide, by decide⟩
          obtain ⟨off, k1, k2, k3, k4⟩ := hk
          refine ev_tableIn (tgt := 100) dX10_told_34 k1 k2 k3 k4 ?_
          refine ev_aload_n dX10_told_100 rfl ?_
          refine ev_getA dX10_told_101 fl_WithoutE_19 lx_0 rfl ?_
          refine ev_getA dX10_told_104 fl_WithoutE_208 lx_3 rfl ?_
          refine ev_iload_n dX10_told_107 rfl ?_
          obtain ⟨c, h⟩ := h
          refine ev_iald dX10_told_108 lx_32 c ?_
          exact ev_iret dX10_told_109 rfl h
        by_cases e3 : x2 = 3
        · replace h := h3 e3
          have hk : ∃ off : Int, ¬ (x2 : Int32).toInt < 0 ∧ ¬ 7 < (x2 : Int32).toInt ∧ #[46, 56, 66, 76, 86, 102, 118, 142][((x2 : Int32).toInt - 0).toNat]? = some off ∧ ((34 : Nat) : Int) + off = ((110 : Nat) : Int) := by
            have e := e3
            · rw [e]; exact ⟨76, by decide, by decide, by decide, by decide⟩
          obtain ⟨off, k1, k2, k3, k4⟩ := hk
          refine ev_tableIn (tgt := 110) dX10_told_34 k1 k2 k3 k4 ?_
          refine ev_aload_n dX10_told_110 rfl ?_
          refine ev_getA dX10_told_111 fl_WithoutE_19 lx_0 rfl ?_
          refine ev_getA dX10_told_114 fl_WithoutE_197 lx_3 rfl ?_
          refine ev_iload_n dX10_told_117 rfl ?_
          obtain ⟨c, h⟩ := h
          refine ev_iald dX10_told_118 lx_29 c ?_
          exact ev_iret dX10_told_119 rfl h
        by_cases e4 : x2 = 4
        · replace h := h4 e4
          have hk : ∃ off : Int, ¬ (x2 : Int32).toInt < 0 ∧ ¬ 7 < (x2 : Int32).toInt ∧ #[46, 56, 66, 76, 86, 102, 118, 142][((x2 : Int32).toInt - 0).toNat]? = some off ∧ ((34 : Nat) : Int) + off = ((120 : Nat) : Int) := by
            have e := e4
            · rw [e]; exact ⟨86, by decide, by decide, by decide, by decide⟩
          obtain ⟨off, k1, k2, k3, k4⟩ := hk
          refine ev_tableIn (tgt := 120) dX10_told_34 k1 k2 k3 k4 ?_
          refine ev_aload_n dX10_told_120 rfl ?_
          refine ev_getA dX10_told_121 fl_WithoutE_80 lx_0 rfl ?_
          refine ev_iload_n dX10_told_124 rfl ?_
          refine ev_aload_n dX10_told_125 rfl ?_
          refine ev_getA dX10_told_126 fl_WithoutE_26 lx_0 rfl ?_
          refine ev_getI dX10_told_129 fl_WithoutE_223 lx_43 rfl ?_
          obtain ⟨p1, h⟩ := h
          refine ev_callV [.int x1, .int (M.1 43 0)] dX10_told_132 ml_WithoutE_302 lx_82 rfl rfl (Nat.le_of_ble_eq_true rfl) (qX5_holesOf p1) ?_
          rintro zr zM ⟨q1, q2⟩
          rw [q1, q2]
          show Ev LX (d + 3) mX10_told 135 [some (.ref 0), some (.int x1), some (.int x2)] [(.int (nI (xH M x1 (M.1 43 0))))] M Q
          exact ev_iret dX10_told_135 rfl h
        by_cases e5 : x2 = 5
        · replace h := h5 e5
          have hk : ∃ off : Int, ¬ (x2 : Int32).toInt < 0 ∧ ¬ 7 < (x2 : Int32).toInt ∧ #[46, 56, 66, 76, 86, 102, 118, 142][((x2 : Int32).toInt - 0).toNat]? = some off ∧ ((34 : Nat) : Int) + off = ((136 : Nat) : Int) := by
            have e := e5
            · rw [e]; exact ⟨102, by decide, by decide, by decide, by decide⟩
          obtain ⟨off, k1, k2, k3, k4⟩ := hk
          refine ev_tableIn (tgt := 136) dX10_told_34 k1 k2 k3 k4 ?_
          refine ev_aload_n dX10_told_136 rfl ?_
          refine ev_getA dX10_told_137 fl_WithoutE_80 lx_0 rfl ?_
          refine ev_iload_n dX10_told_140 rfl ?_
          refine ev_aload_n dX10_told_141 rfl ?_
          refine ev_getA dX10_told_142 fl_WithoutE_26 lx_0 rfl ?_
          refine ev_getI dX10_told_145 fl_WithoutE_223 lx_43 rfl ?_
          obtain ⟨p1, h⟩ := h
          refine ev_callV [.int x1, .int (M.1 43 0)] dX10_told_148 ml_WithoutE_305 lx_82 rfl rfl (Nat.le_of_ble_eq_true rfl) (qX5_secondsOf p1) ?_
          rintro zr zM ⟨q1, q2⟩
          rw [q1, q2]
          show Ev LX (d + 3) mX10_told 151 [some (.ref 0), some (.int x1), some (.int x2)] [(.int (xS M x1 (M.1 43 0)))] M Q
          exact ev_iret dX10_told_151 rfl h
        by_cases e6 : x2 = 6
        · replace h := h6 e6
          have hk : ∃ off : Int, ¬ (x2 : Int32).toInt < 0 ∧ ¬ 7 < (x2 : Int32).toInt ∧ #[46, 56, 66, 76, 86, 102, 118, 142][((x2 : Int32).toInt - 0).toNat]? = some off ∧ ((34 : Nat) : Int) + off = ((152 : Nat) : Int) := by
            have e := e6
            · rw [e]; exact ⟨118, by decide, by decide, by decide, by decide⟩
          obtain ⟨off, k1, k2, k3, k4⟩ := hk
          refine ev_tableIn (tgt := 152) dX10_told_34 k1 k2 k3 k4 ?_
          refine ev_aload_n dX10_told_152 rfl ?_
          refine ev_getA dX10_told_153 fl_WithoutE_80 lx_0 rfl ?_
          refine ev_iload_n dX10_told_156 rfl ?_
          refine ev_aload_n dX10_told_157 rfl ?_
          refine ev_getA dX10_told_158 fl_WithoutE_26 lx_0 rfl ?_
          refine ev_getI dX10_told_161 fl_WithoutE_223 lx_43 rfl ?_
          obtain ⟨p1, h⟩ := h
          refine ev_callV [.int x1, .int (M.1 43 0)] dX10_told_164 ml_WithoutE_308 lx_82 rfl rfl (Nat.le_of_ble_eq_true rfl) (qX5_canBe p1) ?_
          rintro zr zM ⟨q1, q2⟩
          rw [q1, q2]
          show Ev LX (d + 3) mX10_told 167 [some (.ref 0), some (.int x1), some (.int x2)] [(.int (bi (xC M x1 (M.1 43 0))))] M Q
          refine ev_if_eq (tgt := 174) dX10_told_167 (by decide) (fun c => ?_) (fun c => ?_)
          · replace h := h.1 ((bi_0 _).mp c)
            refine ev_iconst (v := 0) dX10_told_174 (by decide) ?_
            exact ev_iret dX10_told_175 rfl h
          · replace h := h.2 ((bi_n0 _).mp c)
            refine ev_iconst (v := 1) dX10_told_170 (by decide) ?_
            refine ev_goto (tgt := 175) dX10_told_171 (by decide) ?_
            exact ev_iret dX10_told_175 rfl h
        by_cases e7 : x2 = 7
        · replace h := h7 e7
          have hk : ∃ off : Int, ¬ (x2 : Int32).toInt < 0 ∧ ¬ 7 < (x2 : Int32).toInt ∧ #[46, 56, 66, 76, 86, 102, 118, 142][((x2 : Int32).toInt - 0).toNat]? = some off ∧ ((34 : Nat) : Int) + off = ((176 : Nat) : Int) := by
            have e := e7
            · rw [e]; exact ⟨142, by decide, by decide, by decide, by decide⟩
          obtain ⟨off, k1, k2, k3, k4⟩ := hk
          refine ev_tableIn (tgt := 176) dX10_told_34 k1 k2 k3 k4 ?_
          refine ev_aload_n dX10_told_176 rfl ?_
          refine ev_getA dX10_told_177 fl_WithoutE_80 lx_0 rfl ?_
          refine ev_iload_n dX10_told_180 rfl ?_
          refine ev_aload_n dX10_told_181 rfl ?_
          refine ev_getA dX10_told_182 fl_WithoutE_26 lx_0 rfl ?_
          refine ev_getI dX10_told_185 fl_WithoutE_223 lx_43 rfl ?_
          obtain ⟨p1, h⟩ := h
          refine ev_callV [.int x1, .int (M.1 43 0)] dX10_told_188 ml_WithoutE_311 lx_82 rfl rfl (Nat.le_of_ble_eq_true rfl) (qX5_extraOf p1) ?_
          rintro zr zM ⟨q1, q2⟩
          rw [q1, q2]
          show Ev LX (d + 3) mX10_told 191 [some (.ref 0), some (.int x1), some (.int x2)] [(.int (xE M x1 (M.1 43 0)))] M Q
          exact ev_iret dX10_told_191 rfl h
        replace h := h8 ⟨fun e => e0 (e), fun e => e1 (e), fun e => e2 (e), fun e => e3 (e), fun e => e4 (e), fun e => e5 (e), fun e => e6 (e), fun e => e7 (e)⟩
        have hk : ((x2 : Int32).toInt < 0 ∨ 7 < (x2 : Int32).toInt) ∨ (False) := by
          have t : ∀ k : Int32, ¬ (x2 : Int32) = k → (x2 : Int32).toInt ≠ k.toInt := fun k hne e => hne (Int32.toInt_inj.mp e)
          have z0 : (x2 : Int32).toInt ≠ 0 := t 0 (fun e => by simp_all)
          have z1 : (x2 : Int32).toInt ≠ 1 := t 1 (fun e => by simp_all)
          have z2 : (x2 : Int32).toInt ≠ 2 := t 2 (fun e => by simp_all)
          have z3 : (x2 : Int32).toInt ≠ 3 := t 3 (fun e => by simp_all)
          have z4 : (x2 : Int32).toInt ≠ 4 := t 4 (fun e => by simp_all)
          have z5 : (x2 : Int32).toInt ≠ 5 := t 5 (fun e => by simp_all)
          have z6 : (x2 : Int32).toInt ≠ 6 := t 6 (fun e => by simp_all)
          have z7 : (x2 : Int32).toInt ≠ 7 := t 7 (fun e => by simp_all)
          omega
        replace hk := hk.elim id False.elim
        refine ev_tableOut (tgt := 192) dX10_told_34 hk (by decide) ?_
        refine ev_aload_n dX10_told_192 rfl ?_
        refine ev_getA dX10_told_193 fl_WithoutE_19 lx_0 rfl ?_
        refine ev_getA dX10_told_196 fl_WithoutE_201 lx_3 rfl ?_
        refine ev_iload_n dX10_told_199 rfl ?_
        obtain ⟨b1, h⟩ := h
        refine ev_aald dX10_told_200 lx_4 (fun _ => rfl) rfl b1 ?_
        refine ev_iload_n dX10_told_201 rfl ?_
        refine ev_bipush (v := 8) dX10_told_202 (by decide) ?_
        refine ev_isub dX10_told_204 ?_
        obtain ⟨c, h⟩ := h
        refine ev_iald dX10_told_205 (lx_sp (ev_lt b1)) c ?_
        exact ev_iret dX10_told_206 rfl h
      · replace h := h.2 c
        refine ev_iconst (v := -1) dX10_told_31 (by decide) ?_
        exact ev_iret dX10_told_32 rfl h
theorem dX10_stiff_0 : decode cX10_stiff 0 = .ok (.aload_n 0, 1) := by decide +kernel
theorem dX10_stiff_1 : decode cX10_stiff 1 = .ok (.getfield 19, 3) := by decide +kernel
theorem dX10_stiff_4 : decode cX10_stiff 4 = .ok (.iload_n 1, 1) := by decide +kernel
theorem dX10_stiff_5 : decode cX10_stiff 5 = .ok (.invokevirtual 191, 3) := by decide +kernel
theorem dX10_stiff_8 : decode cX10_stiff 8 = .ok (.ifCond .ne 5, 3) := by decide +kernel
theorem dX10_stiff_11 : decode cX10_stiff 11 = .ok (.iconst (-1), 1) := by decide +kernel
theorem dX10_stiff_12 : decode cX10_stiff 12 = .ok (.ireturn, 1) := by decide +kernel
theorem dX10_stiff_13 : decode cX10_stiff 13 = .ok (.aload_n 0, 1) := by decide +kernel
theorem dX10_stiff_14 : decode cX10_stiff 14 = .ok (.aload_n 0, 1) := by decide +kernel
theorem dX10_stiff_15 : decode cX10_stiff 15 = .ok (.invokevirtual 294, 3) := by decide +kernel
theorem dX10_stiff_18 : decode cX10_stiff 18 = .ok (.iload_n 1, 1) := by decide +kernel
theorem dX10_stiff_19 : decode cX10_stiff 19 = .ok (.invokevirtual 314, 3) := by decide +kernel
theorem dX10_stiff_22 : decode cX10_stiff 22 = .ok (.ireturn, 1) := by decide +kernel
theorem gX10_stiff_0 {d : Nat} {M : ev_Mem} {Q : Option Value → ev_Mem → Prop} {x1 : Int32} (h : ((okW M) ∧ ((((iin x1 0 (M.1 3 5 - 1)) = true) → ((okT M) ∧ (∃ Q2 : Option Value → ev_Mem → Prop, Cl LX (d + 1) mX10_stiffnessBy [.ref 0, tv (M.1 47 3), .int x1] M Q2 ∧ ∀ (zr : Option Value) (zM : ev_Mem), Q2 zr zM → Ev LX (d + 2) mX10_stiff 22 [none, none] (zr.toList ++ []) zM Q))) ∧ (((iin x1 0 (M.1 3 5 - 1)) = false) → (Q (some (.int (-1))) M))))) : Ev LX (d + 2) mX10_stiff 0 [some (.ref 0), some (.int x1)] [] M Q := by
  refine ev_aload_n dX10_stiff_0 rfl ?_
  refine ev_getA dX10_stiff_1 fl_WithoutE_19 lx_0 rfl ?_
  refine ev_iload_n dX10_stiff_4 rfl ?_
  obtain ⟨p1, h⟩ := h
  refine ev_callV [.int x1] dX10_stiff_5 ml_WithoutE_191 lx_3 rfl rfl (Nat.le_of_ble_eq_true rfl) (kX0_hasWord p1) ?_
  rintro zr zM ⟨q1, q2⟩
  rw [q1, q2]
  show Ev LX (d + 2) mX10_stiff 8 [some (.ref 0), some (.int x1)] [(.int (bi (iin x1 0 (M.1 3 5 - 1))))] M Q
  refine ev_if_ne (tgt := 13) dX10_stiff_8 (by decide) (fun c => ?_) (fun c => ?_)
  · replace h := h.1 ((bi_n0 _).mp c)
    refine ev_aload_n dX10_stiff_13 rfl ?_
    refine ev_aload_n dX10_stiff_14 rfl ?_
    obtain ⟨p1, h⟩ := h
    refine ev_callV [] dX10_stiff_15 ml_WithoutE_294 lx_0 rfl rfl (Nat.le_of_ble_eq_true rfl) (kX10_ruling p1) ?_
    rintro zr zM ⟨q1, q2⟩
    rw [q1, q2]
    show Ev LX (d + 2) mX10_stiff 18 [some (.ref 0), some (.int x1)] [(tv (M.1 47 3)), (.ref 0)] M Q
    refine ev_iload_n dX10_stiff_18 rfl ?_
    obtain ⟨Q2, hc, h⟩ := h
    refine ev_callV [tv (M.1 47 3), .int x1] dX10_stiff_19 ml_WithoutE_314 lx_0 rfl rfl (Nat.le_of_ble_eq_true rfl) hc (fun zr zM q => ?_)
    refine Ev.weak (ls := [none, none]) trivial ?_
    exact h zr zM q
  · replace h := h.2 ((bi_0 _).mp c)
    refine ev_iconst (v := -1) dX10_stiff_11 (by decide) ?_
    exact ev_iret dX10_stiff_12 rfl h
theorem gX10_stiff_22 {d : Nat} {M : ev_Mem} {Q : Option Value → ev_Mem → Prop} {s0 : Int32} (h : (Q (some (.int s0)) M)) : Ev LX d mX10_stiff 22 [none, none] [(.int s0)] M Q := by
  exact ev_iret dX10_stiff_22 rfl h
theorem dX11_is_0 : decode cX11_is 0 = .ok (.iload_n 1, 1) := by decide +kernel
theorem dX11_is_1 : decode cX11_is 1 = .ok (.ifCond .ne 13, 3) := by decide +kernel
theorem dX11_is_4 : decode cX11_is 4 = .ok (.aload_n 0, 1) := by decide +kernel
theorem dX11_is_5 : decode cX11_is 5 = .ok (.getfield 7, 3) := by decide +kernel
theorem dX11_is_8 : decode cX11_is 8 = .ok (.bipush 8, 2) := by decide +kernel
theorem dX11_is_10 : decode cX11_is 10 = .ok (.iaload, 1) := by decide +kernel
theorem dX11_is_11 : decode cX11_is 11 = .ok (.goto 50, 3) := by decide +kernel
theorem dX11_is_14 : decode cX11_is 14 = .ok (.iload_n 1, 1) := by decide +kernel
theorem dX11_is_15 : decode cX11_is 15 = .ok (.iconst 1, 1) := by decide +kernel
theorem dX11_is_16 : decode cX11_is 16 = .ok (.if_icmp .ne 13, 3) := by decide +kernel
theorem dX11_is_19 : decode cX11_is 19 = .ok (.aload_n 0, 1) := by decide +kernel
theorem dX11_is_20 : decode cX11_is 20 = .ok (.getfield 7, 3) := by decide +kernel
theorem dX11_is_23 : decode cX11_is 23 = .ok (.bipush 9, 2) := by decide +kernel
theorem dX11_is_25 : decode cX11_is 25 = .ok (.iaload, 1) := by decide +kernel
theorem dX11_is_26 : decode cX11_is 26 = .ok (.goto 35, 3) := by decide +kernel
theorem dX11_is_29 : decode cX11_is 29 = .ok (.iload_n 1, 1) := by decide +kernel
theorem dX11_is_30 : decode cX11_is 30 = .ok (.iconst 2, 1) := by decide +kernel
theorem dX11_is_31 : decode cX11_is 31 = .ok (.if_icmp .ne 13, 3) := by decide +kernel
theorem dX11_is_34 : decode cX11_is 34 = .ok (.aload_n 0, 1) := by decide +kernel
theorem dX11_is_35 : decode cX11_is 35 = .ok (.getfield 7, 3) := by decide +kernel
theorem dX11_is_38 : decode cX11_is 38 = .ok (.bipush 10, 2) := by decide +kernel
theorem dX11_is_40 : decode cX11_is 40 = .ok (.iaload, 1) := by decide +kernel
theorem dX11_is_41 : decode cX11_is 41 = .ok (.goto 20, 3) := by decide +kernel
theorem dX11_is_44 : decode cX11_is 44 = .ok (.iload_n 1, 1) := by decide +kernel
theorem dX11_is_45 : decode cX11_is 45 = .ok (.iconst 3, 1) := by decide +kernel
theorem dX11_is_46 : decode cX11_is 46 = .ok (.if_icmp .ne 13, 3) := by decide +kernel
theorem dX11_is_49 : decode cX11_is 49 = .ok (.aload_n 0, 1) := by decide +kernel
theorem dX11_is_50 : decode cX11_is 50 = .ok (.getfield 7, 3) := by decide +kernel
theorem dX11_is_53 : decode cX11_is 53 = .ok (.bipush 11, 2) := by decide +kernel
theorem dX11_is_55 : decode cX11_is 55 = .ok (.iaload, 1) := by decide +kernel
theorem dX11_is_56 : decode cX11_is 56 = .ok (.goto 5, 3) := by decide +kernel
theorem dX11_is_59 : decode cX11_is 59 = .ok (.bipush (-2), 2) := by decide +kernel
theorem dX11_is_61 : decode cX11_is 61 = .ok (.ireturn, 1) := by decide +kernel
theorem gX11_is_0 {d : Nat} {M : ev_Mem} {Q : Option Value → ev_Mem → Prop} {x1 : Int32} (h : (((¬ x1 = 0) → (((¬ x1 = 1) → (((¬ x1 = 2) → (((¬ x1 = 3) → (Q (some (.int (-2))) M)) ∧ ((x1 = 3) → (Q (some (.int (M.1 1 11))) M)))) ∧ ((x1 = 2) → (Q (some (.int (M.1 1 10))) M)))) ∧ ((x1 = 1) → (Q (some (.int (M.1 1 9))) M)))) ∧ ((x1 = 0) → (Q (some (.int (M.1 1 8))) M)))) : Ev LM d mX11_is 0 [some (.ref 0), some (.int x1)] [] M Q := by
  refine ev_iload_n dX11_is_0 rfl ?_
  refine ev_if_ne (tgt := 14) dX11_is_1 (by decide) (fun c => ?_) (fun c => ?_)
  · replace h := h.1 c
    refine ev_iload_n dX11_is_14 rfl ?_
    refine ev_iconst (v := 1) dX11_is_15 (by decide) ?_
    refine ev_icmp_ne (tgt := 29) dX11_is_16 (by decide) (fun c => ?_) (fun c => ?_)
    · replace h := h.1 c
      refine ev_iload_n dX11_is_29 rfl ?_
      refine ev_iconst (v := 2) dX11_is_30 (by decide) ?_
      refine ev_icmp_ne (tgt := 44) dX11_is_31 (by decide) (fun c => ?_) (fun c => ?_)
      · replace h := h.1 c
        refine ev_iload_n dX11_is_44 rfl ?_
        refine ev_iconst (v := 3) dX11_is_45 (by decide) ?_
        refine ev_icmp_ne (tgt := 59) dX11_is_46 (by decide) (fun c => ?_) (fun c => ?_)
        · replace h := h.1 c
          refine ev_bipush (v := -2) dX11_is_59 (by decide) ?_
          exact ev_iret dX11_is_61 rfl h
        · replace h := h.2 c
          refine ev_aload_n dX11_is_49 rfl ?_
          refine ev_getA dX11_is_50 fl_WithoutEModel_7 lm_0 rfl ?_
          refine ev_bipush (v := 11) dX11_is_53 (by decide) ?_
          refine ev_iaN (j := 11) dX11_is_55 lm_1 (by decide) (by decide) ?_
          refine ev_goto (tgt := 61) dX11_is_56 (by decide) ?_
          exact ev_iret dX11_is_61 rfl h
      · replace h := h.2 c
        refine ev_aload_n dX11_is_34 rfl ?_
        refine ev_getA dX11_is_35 fl_WithoutEModel_7 lm_0 rfl ?_
        refine ev_bipush (v := 10) dX11_is_38 (by decide) ?_
        refine ev_iaN (j := 10) dX11_is_40 lm_1 (by decide) (by decide) ?_
        refine ev_goto (tgt := 61) dX11_is_41 (by decide) ?_
        exact ev_iret dX11_is_61 rfl h
    · replace h := h.2 c
      refine ev_aload_n dX11_is_19 rfl ?_
      refine ev_getA dX11_is_20 fl_WithoutEModel_7 lm_0 rfl ?_
      refine ev_bipush (v := 9) dX11_is_23 (by decide) ?_
      refine ev_iaN (j := 9) dX11_is_25 lm_1 (by decide) (by decide) ?_
      refine ev_goto (tgt := 61) dX11_is_26 (by decide) ?_
      exact ev_iret dX11_is_61 rfl h
  · replace h := h.2 c
    refine ev_aload_n dX11_is_4 rfl ?_
    refine ev_getA dX11_is_5 fl_WithoutEModel_7 lm_0 rfl ?_
    refine ev_bipush (v := 8) dX11_is_8 (by decide) ?_
    refine ev_iaN (j := 8) dX11_is_10 lm_1 (by decide) (by decide) ?_
    refine ev_goto (tgt := 61) dX11_is_11 (by decide) ?_
    exact ev_iret dX11_is_61 rfl h
theorem dX11_use_0 : decode cX11_use 0 = .ok (.iload_n 1, 1) := by decide +kernel
theorem dX11_use_1 : decode cX11_use 1 = .ok (.invokestatic 343, 3) := by decide +kernel
theorem dX11_use_4 : decode cX11_use 4 = .ok (.ifCond .eq 15, 3) := by decide +kernel
theorem dX11_use_7 : decode cX11_use 7 = .ok (.aload_n 0, 1) := by decide +kernel
theorem dX11_use_8 : decode cX11_use 8 = .ok (.getfield 7, 3) := by decide +kernel
theorem dX11_use_11 : decode cX11_use 11 = .ok (.bipush 13, 2) := by decide +kernel
theorem dX11_use_13 : decode cX11_use 13 = .ok (.iload_n 1, 1) := by decide +kernel
theorem dX11_use_14 : decode cX11_use 14 = .ok (.iadd, 1) := by decide +kernel
theorem dX11_use_15 : decode cX11_use 15 = .ok (.iaload, 1) := by decide +kernel
theorem dX11_use_16 : decode cX11_use 16 = .ok (.goto 4, 3) := by decide +kernel
theorem dX11_use_19 : decode cX11_use 19 = .ok (.iconst (-1), 1) := by decide +kernel
theorem dX11_use_20 : decode cX11_use 20 = .ok (.ireturn, 1) := by decide +kernel
theorem gX11_use_0 {d : Nat} {M : ev_Mem} {Q : Option Value → ev_Mem → Prop} {x1 : Int32} (h : ((((iin x1 0 25) = false) → (Q (some (.int (-1))) M)) ∧ (((iin x1 0 25) = true) → (vp_in (13 + x1) 3315 ∧ (Q (some (.int (M.1 1 (13 + x1).toNatClampNeg))) M))))) : Ev LM (d + 2) mX11_use 0 [some (.ref 0), some (.int x1)] [] M Q := by
  refine ev_iload_n dX11_use_0 rfl ?_
  refine ev_callS [.int x1] dX11_use_1 ml_WithoutEModel_343 rfl (Nat.le_of_ble_eq_true rfl) (kX11_isLetter) ?_
  rintro zr zM ⟨q1, q2⟩
  rw [q1, q2]
  show Ev LM (d + 2) mX11_use 4 [some (.ref 0), some (.int x1)] [(.int (bi (iin x1 0 25)))] M Q
  refine ev_if_eq (tgt := 19) dX11_use_4 (by decide) (fun c => ?_) (fun c => ?_)
  · replace h := h.1 ((bi_0 _).mp c)
    refine ev_iconst (v := -1) dX11_use_19 (by decide) ?_
    exact ev_iret dX11_use_20 rfl h
  · replace h := h.2 ((bi_n0 _).mp c)
    refine ev_aload_n dX11_use_7 rfl ?_
    refine ev_getA dX11_use_8 fl_WithoutEModel_7 lm_0 rfl ?_
    refine ev_bipush (v := 13) dX11_use_11 (by decide) ?_
    refine ev_iload_n dX11_use_13 rfl ?_
    refine ev_iadd dX11_use_14 ?_
    obtain ⟨c, h⟩ := h
    refine ev_iald dX11_use_15 lm_1 c ?_
    refine ev_goto (tgt := 20) dX11_use_16 (by decide) ?_
    exact ev_iret dX11_use_20 rfl h
theorem dX11_status_0 : decode cX11_status 0 = .ok (.iload_n 1, 1) := by decide +kernel
theorem dX11_status_1 : decode cX11_status 1 = .ok (.iconst 0, 1) := by decide +kernel
theorem dX11_status_2 : decode cX11_status 2 = .ok (.iconst 2, 1) := by decide +kernel
theorem dX11_status_3 : decode cX11_status 3 = .ok (.invokestatic 80, 3) := by decide +kernel
theorem dX11_status_6 : decode cX11_status 6 = .ok (.ifCond .eq 12, 3) := by decide +kernel
theorem dX11_status_9 : decode cX11_status 9 = .ok (.aload_n 0, 1) := by decide +kernel
theorem dX11_status_10 : decode cX11_status 10 = .ok (.getfield 16, 3) := by decide +kernel
theorem dX11_status_13 : decode cX11_status 13 = .ok (.iload_n 1, 1) := by decide +kernel
theorem dX11_status_14 : decode cX11_status 14 = .ok (.iaload, 1) := by decide +kernel
theorem dX11_status_15 : decode cX11_status 15 = .ok (.goto 5, 3) := by decide +kernel
theorem dX11_status_18 : decode cX11_status 18 = .ok (.bipush (-2), 2) := by decide +kernel
theorem dX11_status_20 : decode cX11_status 20 = .ok (.ireturn, 1) := by decide +kernel
theorem gX11_status_0 {d : Nat} {M : ev_Mem} {Q : Option Value → ev_Mem → Prop} {x1 : Int32} (h : ((((iin x1 (0 : Int32) (2 : Int32)) = false) → (Q (some (.int (-2))) M)) ∧ (((iin x1 (0 : Int32) (2 : Int32)) = true) → (vp_in x1 3 ∧ (Q (some (.int (M.1 3 x1.toNatClampNeg))) M))))) : Ev LM (d + 1) mX11_status 0 [some (.ref 0), some (.int x1)] [] M Q := by
  refine ev_iload_n dX11_status_0 rfl ?_
  refine ev_iconst (v := 0) dX11_status_1 (by decide) ?_
  refine ev_iconst (v := 2) dX11_status_2 (by decide) ?_
  refine ev_callS [.int x1, .int 0, .int 2] dX11_status_3 ml_WithoutEModel_80 rfl (Nat.le_of_ble_eq_true rfl) (kX11_isIn) ?_
  rintro zr zM ⟨q1, q2⟩
  rw [q1, q2]
  show Ev LM (d + 1) mX11_status 6 [some (.ref 0), some (.int x1)] [(.int (bi (iin x1 (0 : Int32) (2 : Int32))))] M Q
  refine ev_if_eq (tgt := 18) dX11_status_6 (by decide) (fun c => ?_) (fun c => ?_)
  · replace h := h.1 ((bi_0 _).mp c)
    refine ev_bipush (v := -2) dX11_status_18 (by decide) ?_
    exact ev_iret dX11_status_20 rfl h
  · replace h := h.2 ((bi_n0 _).mp c)
    refine ev_aload_n dX11_status_9 rfl ?_
    refine ev_getA dX11_status_10 fl_WithoutEModel_16 lm_0 rfl ?_
    refine ev_iload_n dX11_status_13 rfl ?_
    obtain ⟨c, h⟩ := h
    refine ev_iald dX11_status_14 lm_3 c ?_
    refine ev_goto (tgt := 20) dX11_status_15 (by decide) ?_
    exact ev_iret dX11_status_20 rfl h
theorem dX11_about_0 : decode cX11_about 0 = .ok (.iload_n 1, 1) := by decide +kernel
theorem dX11_about_1 : decode cX11_about 1 = .ok (.iconst 0, 1) := by decide +kernel
theorem dX11_about_2 : decode cX11_about 2 = .ok (.bipush 7, 2) := by decide +kernel
theorem dX11_about_4 : decode cX11_about 4 = .ok (.invokestatic 80, 3) := by decide +kernel
theorem dX11_about_7 : decode cX11_about 7 = .ok (.ifCond .eq 12, 3) := by decide +kernel
theorem dX11_about_10 : decode cX11_about 10 = .ok (.aload_n 0, 1) := by decide +kernel
theorem dX11_about_11 : decode cX11_about 11 = .ok (.getfield 7, 3) := by decide +kernel
theorem dX11_about_14 : decode cX11_about 14 = .ok (.iload_n 1, 1) := by decide +kernel
theorem dX11_about_15 : decode cX11_about 15 = .ok (.iaload, 1) := by decide +kernel
theorem dX11_about_16 : decode cX11_about 16 = .ok (.goto 18, 3) := by decide +kernel
theorem dX11_about_19 : decode cX11_about 19 = .ok (.iload_n 1, 1) := by decide +kernel
theorem dX11_about_20 : decode cX11_about 20 = .ok (.bipush 8, 2) := by decide +kernel
theorem dX11_about_22 : decode cX11_about 22 = .ok (.if_icmp .ne 10, 3) := by decide +kernel
theorem dX11_about_25 : decode cX11_about 25 = .ok (.aload_n 0, 1) := by decide +kernel
theorem dX11_about_26 : decode cX11_about 26 = .ok (.getfield 103, 3) := by decide +kernel
theorem dX11_about_29 : decode cX11_about 29 = .ok (.goto 5, 3) := by decide +kernel
theorem dX11_about_32 : decode cX11_about 32 = .ok (.bipush (-2), 2) := by decide +kernel
theorem dX11_about_34 : decode cX11_about 34 = .ok (.ireturn, 1) := by decide +kernel
theorem gX11_about_0 {d : Nat} {M : ev_Mem} {Q : Option Value → ev_Mem → Prop} {x1 : Int32} (h : ((((iin x1 (0 : Int32) (7 : Int32)) = false) → (((¬ x1 = 8) → (Q (some (.int (-2))) M)) ∧ ((x1 = 8) → (Q (some (.int (M.1 0 5))) M)))) ∧ (((iin x1 (0 : Int32) (7 : Int32)) = true) → (vp_in x1 3315 ∧ (Q (some (.int (M.1 1 x1.toNatClampNeg))) M))))) : Ev LM (d + 1) mX11_about 0 [some (.ref 0), some (.int x1)] [] M Q := by
  refine ev_iload_n dX11_about_0 rfl ?_
  refine ev_iconst (v := 0) dX11_about_1 (by decide) ?_
  refine ev_bipush (v := 7) dX11_about_2 (by decide) ?_
  refine ev_callS [.int x1, .int 0, .int 7] dX11_about_4 ml_WithoutEModel_80 rfl (Nat.le_of_ble_eq_true rfl) (kX11_isIn) ?_
  rintro zr zM ⟨q1, q2⟩
  rw [q1, q2]
  show Ev LM (d + 1) mX11_about 7 [some (.ref 0), some (.int x1)] [(.int (bi (iin x1 (0 : Int32) (7 : Int32))))] M Q
  refine ev_if_eq (tgt := 19) dX11_about_7 (by decide) (fun c => ?_) (fun c => ?_)
  · replace h := h.1 ((bi_0 _).mp c)
    refine ev_iload_n dX11_about_19 rfl ?_
    refine ev_bipush (v := 8) dX11_about_20 (by decide) ?_
    refine ev_icmp_ne (tgt := 32) dX11_about_22 (by decide) (fun c => ?_) (fun c => ?_)
    · replace h := h.1 c
      refine ev_bipush (v := -2) dX11_about_32 (by decide) ?_
      exact ev_iret dX11_about_34 rfl h
    · replace h := h.2 c
      refine ev_aload_n dX11_about_25 rfl ?_
      refine ev_getI dX11_about_26 fl_WithoutEModel_103 lm_0 rfl ?_
      refine ev_goto (tgt := 34) dX11_about_29 (by decide) ?_
      exact ev_iret dX11_about_34 rfl h
  · replace h := h.2 ((bi_n0 _).mp c)
    refine ev_aload_n dX11_about_10 rfl ?_
    refine ev_getA dX11_about_11 fl_WithoutEModel_7 lm_0 rfl ?_
    refine ev_iload_n dX11_about_14 rfl ?_
    obtain ⟨c, h⟩ := h
    refine ev_iald dX11_about_15 lm_1 c ?_
    refine ev_goto (tgt := 34) dX11_about_16 (by decide) ?_
    exact ev_iret dX11_about_34 rfl h
theorem dX11_fault_0 : decode cX11_fault 0 = .ok (.iload_n 1, 1) := by decide +kernel
theorem dX11_fault_1 : decode cX11_fault 1 = .ok (.ifCond .ne 10, 3) := by decide +kernel
theorem dX11_fault_4 : decode cX11_fault 4 = .ok (.aload_n 0, 1) := by decide +kernel
theorem dX11_fault_5 : decode cX11_fault 5 = .ok (.getfield 25, 3) := by decide +kernel
theorem dX11_fault_8 : decode cX11_fault 8 = .ok (.goto 16, 3) := by decide +kernel
theorem dX11_fault_11 : decode cX11_fault 11 = .ok (.iload_n 1, 1) := by decide +kernel
theorem dX11_fault_12 : decode cX11_fault 12 = .ok (.iconst 1, 1) := by decide +kernel
theorem dX11_fault_13 : decode cX11_fault 13 = .ok (.if_icmp .ne 10, 3) := by decide +kernel
theorem dX11_fault_16 : decode cX11_fault 16 = .ok (.aload_n 0, 1) := by decide +kernel
theorem dX11_fault_17 : decode cX11_fault 17 = .ok (.getfield 29, 3) := by decide +kernel
theorem dX11_fault_20 : decode cX11_fault 20 = .ok (.goto 4, 3) := by decide +kernel
theorem dX11_fault_23 : decode cX11_fault 23 = .ok (.iconst (-1), 1) := by decide +kernel
theorem dX11_fault_24 : decode cX11_fault 24 = .ok (.ireturn, 1) := by decide +kernel
theorem gX11_fault_0 {d : Nat} {M : ev_Mem} {Q : Option Value → ev_Mem → Prop} {x1 : Int32} (h : (((¬ x1 = 0) → (((¬ x1 = 1) → (Q (some (.int (-1))) M)) ∧ ((x1 = 1) → (Q (some (.int (M.1 0 7))) M)))) ∧ ((x1 = 0) → (Q (some (.int (M.1 0 6))) M)))) : Ev LM d mX11_fault 0 [some (.ref 0), some (.int x1)] [] M Q := by
  refine ev_iload_n dX11_fault_0 rfl ?_
  refine ev_if_ne (tgt := 11) dX11_fault_1 (by decide) (fun c => ?_) (fun c => ?_)
  · replace h := h.1 c
    refine ev_iload_n dX11_fault_11 rfl ?_
    refine ev_iconst (v := 1) dX11_fault_12 (by decide) ?_
    refine ev_icmp_ne (tgt := 23) dX11_fault_13 (by decide) (fun c => ?_) (fun c => ?_)
    · replace h := h.1 c
      refine ev_iconst (v := -1) dX11_fault_23 (by decide) ?_
      exact ev_iret dX11_fault_24 rfl h
    · replace h := h.2 c
      refine ev_aload_n dX11_fault_16 rfl ?_
      refine ev_getI dX11_fault_17 fl_WithoutEModel_29 lm_0 rfl ?_
      refine ev_goto (tgt := 24) dX11_fault_20 (by decide) ?_
      exact ev_iret dX11_fault_24 rfl h
  · replace h := h.2 c
    refine ev_aload_n dX11_fault_4 rfl ?_
    refine ev_getI dX11_fault_5 fl_WithoutEModel_25 lm_0 rfl ?_
    refine ev_goto (tgt := 24) dX11_fault_8 (by decide) ?_
    exact ev_iret dX11_fault_24 rfl h
theorem dX11_clear_0 : decode cX11_clear 0 = .ok (.aload_n 0, 1) := by decide +kernel
theorem dX11_clear_1 : decode cX11_clear 1 = .ok (.getfield 7, 3) := by decide +kernel
theorem dX11_clear_4 : decode cX11_clear 4 = .ok (.bipush 6, 2) := by decide +kernel
theorem dX11_clear_6 : decode cX11_clear 6 = .ok (.iconst 0, 1) := by decide +kernel
theorem dX11_clear_7 : decode cX11_clear 7 = .ok (.iastore, 1) := by decide +kernel
theorem dX11_clear_8 : decode cX11_clear 8 = .ok (.iconst 0, 1) := by decide +kernel
theorem dX11_clear_9 : decode cX11_clear 9 = .ok (.ireturn, 1) := by decide +kernel
theorem gX11_clear_0 {d : Nat} {M : ev_Mem} {Q : Option Value → ev_Mem → Prop} (h : (∀ M1 : ev_Mem, M1 = ev_wr M 1 6 0 → (Q (some (.int 0)) M1))) : Ev LM d mX11_clear 0 [some (.ref 0)] [] M Q := by
  refine ev_aload_n dX11_clear_0 rfl ?_
  refine ev_getA dX11_clear_1 fl_WithoutEModel_7 lm_0 rfl ?_
  refine ev_bipush (v := 6) dX11_clear_4 (by decide) ?_
  refine ev_iconst (v := 0) dX11_clear_6 (by decide) ?_
  refine ev_isN (j := 6) dX11_clear_7 lm_1 (by decide) (by decide) ?_
  generalize eM1 : ev_wr M 1 6 0 = M1
  replace h := h M1 eM1.symm
  refine ev_iconst (v := 0) dX11_clear_8 (by decide) ?_
  exact ev_iret dX11_clear_9 rfl h
theorem dX11_end_0 : decode cX11_end 0 = .ok (.iload_n 1, 1) := by decide +kernel
theorem dX11_end_1 : decode cX11_end 1 = .ok (.iconst 0, 1) := by decide +kernel
theorem dX11_end_2 : decode cX11_end 2 = .ok (.aload_n 0, 1) := by decide +kernel
theorem dX11_end_3 : decode cX11_end 3 = .ok (.getfield 103, 3) := by decide +kernel
theorem dX11_end_6 : decode cX11_end 6 = .ok (.invokestatic 80, 3) := by decide +kernel
theorem dX11_end_9 : decode cX11_end 9 = .ok (.ifCond .ne 5, 3) := by decide +kernel
theorem dX11_end_12 : decode cX11_end 12 = .ok (.iconst (-1), 1) := by decide +kernel
theorem dX11_end_13 : decode cX11_end 13 = .ok (.ireturn, 1) := by decide +kernel
theorem dX11_end_14 : decode cX11_end 14 = .ok (.aload_n 0, 1) := by decide +kernel
theorem dX11_end_15 : decode cX11_end 15 = .ok (.iload_n 1, 1) := by decide +kernel
theorem dX11_end_16 : decode cX11_end 16 = .ok (.putfield 103, 3) := by decide +kernel
theorem dX11_end_19 : decode cX11_end 19 = .ok (.iload_n 1, 1) := by decide +kernel
theorem dX11_end_20 : decode cX11_end 20 = .ok (.ireturn, 1) := by decide +kernel
theorem gX11_end_0 {d : Nat} {M : ev_Mem} {Q : Option Value → ev_Mem → Prop} {x1 : Int32} (h : ((((iin x1 (0 : Int32) (M.1 0 5)) = true) → (∀ M1 : ev_Mem, M1 = ev_wr M 0 5 x1 → (Q (some (.int x1)) M1))) ∧ (((iin x1 (0 : Int32) (M.1 0 5)) = false) → (Q (some (.int (-1))) M)))) : Ev LM (d + 1) mX11_end 0 [some (.ref 0), some (.int x1)] [] M Q := by
  refine ev_iload_n dX11_end_0 rfl ?_
  refine ev_iconst (v := 0) dX11_end_1 (by decide) ?_
  refine ev_aload_n dX11_end_2 rfl ?_
  refine ev_getI dX11_end_3 fl_WithoutEModel_103 lm_0 rfl ?_
  refine ev_callS [.int x1, .int 0, .int (M.1 0 5)] dX11_end_6 ml_WithoutEModel_80 rfl (Nat.le_of_ble_eq_true rfl) (kX11_isIn) ?_
  rintro zr zM ⟨q1, q2⟩
  rw [q1, q2]
  show Ev LM (d + 1) mX11_end 9 [some (.ref 0), some (.int x1)] [(.int (bi (iin x1 (0 : Int32) (M.1 0 5))))] M Q
  refine ev_if_ne (tgt := 14) dX11_end_9 (by decide) (fun c => ?_) (fun c => ?_)
  · replace h := h.1 ((bi_n0 _).mp c)
    refine ev_aload_n dX11_end_14 rfl ?_
    refine ev_iload_n dX11_end_15 rfl ?_
    refine ev_putI dX11_end_16 fp_WithoutEModel_103 lm_0 rfl rfl rfl ?_
    generalize eM1 : ev_wr M 0 5 x1 = M1
    replace h := h M1 eM1.symm
    refine ev_iload_n dX11_end_19 rfl ?_
    exact ev_iret dX11_end_20 rfl h
  · replace h := h.2 ((bi_0 _).mp c)
    refine ev_iconst (v := -1) dX11_end_12 (by decide) ?_
    exact ev_iret dX11_end_13 rfl h
theorem dX11_by_0 : decode cX11_by 0 = .ok (.iload_n 1, 1) := by decide +kernel
theorem dX11_by_1 : decode cX11_by 1 = .ok (.iconst (-1), 1) := by decide +kernel
theorem dX11_by_2 : decode cX11_by 2 = .ok (.aload_n 0, 1) := by decide +kernel
theorem dX11_by_3 : decode cX11_by 3 = .ok (.getfield 7, 3) := by decide +kernel
theorem dX11_by_6 : decode cX11_by 6 = .ok (.iconst 2, 1) := by decide +kernel
theorem dX11_by_7 : decode cX11_by 7 = .ok (.iaload, 1) := by decide +kernel
theorem dX11_by_8 : decode cX11_by 8 = .ok (.iconst 1, 1) := by decide +kernel
theorem dX11_by_9 : decode cX11_by 9 = .ok (.isub, 1) := by decide +kernel
theorem dX11_by_10 : decode cX11_by 10 = .ok (.invokestatic 80, 3) := by decide +kernel
theorem dX11_by_13 : decode cX11_by 13 = .ok (.ifCond .ne 5, 3) := by decide +kernel
theorem dX11_by_16 : decode cX11_by 16 = .ok (.iconst 0, 1) := by decide +kernel
theorem dX11_by_17 : decode cX11_by 17 = .ok (.ireturn, 1) := by decide +kernel
theorem dX11_by_18 : decode cX11_by 18 = .ok (.aload_n 0, 1) := by decide +kernel
theorem dX11_by_19 : decode cX11_by 19 = .ok (.getfield 7, 3) := by decide +kernel
theorem dX11_by_22 : decode cX11_by 22 = .ok (.iconst 3, 1) := by decide +kernel
theorem dX11_by_23 : decode cX11_by 23 = .ok (.iload_n 1, 1) := by decide +kernel
theorem dX11_by_24 : decode cX11_by 24 = .ok (.iastore, 1) := by decide +kernel
theorem dX11_by_25 : decode cX11_by 25 = .ok (.iconst 1, 1) := by decide +kernel
theorem dX11_by_26 : decode cX11_by 26 = .ok (.ireturn, 1) := by decide +kernel
theorem gX11_by_0 {d : Nat} {M : ev_Mem} {Q : Option Value → ev_Mem → Prop} {x1 : Int32} (h : ((((iin x1 (-1 : Int32) ((M.1 1 2) - 1)) = true) → (∀ M1 : ev_Mem, M1 = ev_wr M 1 3 x1 → (Q (some (.int 1)) M1))) ∧ (((iin x1 (-1 : Int32) ((M.1 1 2) - 1)) = false) → (Q (some (.int 0)) M)))) : Ev LM (d + 1) mX11_by 0 [some (.ref 0), some (.int x1)] [] M Q := by
  refine ev_iload_n dX11_by_0 rfl ?_
  refine ev_iconst (v := -1) dX11_by_1 (by decide) ?_
  refine ev_aload_n dX11_by_2 rfl ?_
  refine ev_getA dX11_by_3 fl_WithoutEModel_7 lm_0 rfl ?_
  refine ev_iconst (v := 2) dX11_by_6 (by decide) ?_
  refine ev_iaN (j := 2) dX11_by_7 lm_1 (by decide) (by decide) ?_
  refine ev_iconst (v := 1) dX11_by_8 (by decide) ?_
  refine ev_isub dX11_by_9 ?_
  refine ev_callS [.int x1, .int (-1), .int ((M.1 1 2) - 1)] dX11_by_10 ml_WithoutEModel_80 rfl (Nat.le_of_ble_eq_true rfl) (kX11_isIn) ?_
  rintro zr zM ⟨q1, q2⟩
  rw [q1, q2]
  show Ev LM (d + 1) mX11_by 13 [some (.ref 0), some (.int x1)] [(.int (bi (iin x1 (-1 : Int32) ((M.1 1 2) - 1))))] M Q
  refine ev_if_ne (tgt := 18) dX11_by_13 (by decide) (fun c => ?_) (fun c => ?_)
  · replace h := h.1 ((bi_n0 _).mp c)
    refine ev_aload_n dX11_by_18 rfl ?_
    refine ev_getA dX11_by_19 fl_WithoutEModel_7 lm_0 rfl ?_
    refine ev_iconst (v := 3) dX11_by_22 (by decide) ?_
    refine ev_iload_n dX11_by_23 rfl ?_
    refine ev_isN (j := 3) dX11_by_24 lm_1 (by decide) (by decide) ?_
    generalize eM1 : ev_wr M 1 3 x1 = M1
    replace h := h M1 eM1.symm
    refine ev_iconst (v := 1) dX11_by_25 (by decide) ?_
    exact ev_zret dX11_by_26 rfl (by decide) h
  · replace h := h.2 ((bi_0 _).mp c)
    refine ev_iconst (v := 0) dX11_by_16 (by decide) ?_
    exact ev_zret dX11_by_17 rfl (by decide) h
theorem dX11_told_0 : decode cX11_told 0 = .ok (.aload_n 0, 1) := by decide +kernel
theorem dX11_told_1 : decode cX11_told 1 = .ok (.iload_n 1, 1) := by decide +kernel
theorem dX11_told_2 : decode cX11_told 2 = .ok (.invokevirtual 337, 3) := by decide +kernel
theorem dX11_told_5 : decode cX11_told 5 = .ok (.ifCond .ne 5, 3) := by decide +kernel
theorem dX11_told_8 : decode cX11_told 8 = .ok (.iconst (-1), 1) := by decide +kernel
theorem dX11_told_9 : decode cX11_told 9 = .ok (.ireturn, 1) := by decide +kernel
theorem dX11_told_10 : decode cX11_told 10 = .ok (.iload_n 2, 1) := by decide +kernel
theorem dX11_told_11 : decode cX11_told 11 = .ok (.tableswitch 105 0 7 #[45, 52, 59, 66, 73, 79, 85, 99], 45) := by decide +kernel
theorem dX11_told_56 : decode cX11_told 56 = .ok (.aload_n 0, 1) := by decide +kernel
theorem dX11_told_57 : decode cX11_told 57 = .ok (.iload_n 1, 1) := by decide +kernel
theorem dX11_told_58 : decode cX11_told 58 = .ok (.iconst 0, 1) := by decide +kernel
theorem dX11_told_59 : decode cX11_told 59 = .ok (.invokevirtual 92, 3) := by decide +kernel
theorem dX11_told_62 : decode cX11_told 62 = .ok (.ireturn, 1) := by decide +kernel
theorem dX11_told_63 : decode cX11_told 63 = .ok (.aload_n 0, 1) := by decide +kernel
theorem dX11_told_64 : decode cX11_told 64 = .ok (.iload_n 1, 1) := by decide +kernel
theorem dX11_told_65 : decode cX11_told 65 = .ok (.iconst 1, 1) := by decide +kernel
theorem dX11_told_66 : decode cX11_told 66 = .ok (.invokevirtual 92, 3) := by decide +kernel
theorem dX11_told_69 : decode cX11_told 69 = .ok (.ireturn, 1) := by decide +kernel
theorem dX11_told_70 : decode cX11_told 70 = .ok (.aload_n 0, 1) := by decide +kernel
theorem dX11_told_71 : decode cX11_told 71 = .ok (.iload_n 1, 1) := by decide +kernel
theorem dX11_told_72 : decode cX11_told 72 = .ok (.iconst 2, 1) := by decide +kernel
theorem dX11_told_73 : decode cX11_told 73 = .ok (.invokevirtual 92, 3) := by decide +kernel
theorem dX11_told_76 : decode cX11_told 76 = .ok (.ireturn, 1) := by decide +kernel
theorem dX11_told_77 : decode cX11_told 77 = .ok (.aload_n 0, 1) := by decide +kernel
theorem dX11_told_78 : decode cX11_told 78 = .ok (.iload_n 1, 1) := by decide +kernel
theorem dX11_told_79 : decode cX11_told 79 = .ok (.iconst 3, 1) := by decide +kernel
theorem dX11_told_80 : decode cX11_told 80 = .ok (.invokevirtual 92, 3) := by decide +kernel
theorem dX11_told_83 : decode cX11_told 83 = .ok (.ireturn, 1) := by decide +kernel
theorem dX11_told_84 : decode cX11_told 84 = .ok (.aload_n 0, 1) := by decide +kernel
theorem dX11_told_85 : decode cX11_told 85 = .ok (.iload_n 1, 1) := by decide +kernel
theorem dX11_told_86 : decode cX11_told 86 = .ok (.invokevirtual 96, 3) := by decide +kernel
theorem dX11_told_89 : decode cX11_told 89 = .ok (.ireturn, 1) := by decide +kernel
theorem dX11_told_90 : decode cX11_told 90 = .ok (.aload_n 0, 1) := by decide +kernel
theorem dX11_told_91 : decode cX11_told 91 = .ok (.iload_n 1, 1) := by decide +kernel
theorem dX11_told_92 : decode cX11_told 92 = .ok (.invokevirtual 374, 3) := by decide +kernel
theorem dX11_told_95 : decode cX11_told 95 = .ok (.ireturn, 1) := by decide +kernel
theorem dX11_told_96 : decode cX11_told 96 = .ok (.aload_n 0, 1) := by decide +kernel
theorem dX11_told_97 : decode cX11_told 97 = .ok (.iload_n 1, 1) := by decide +kernel
theorem dX11_told_98 : decode cX11_told 98 = .ok (.invokevirtual 346, 3) := by decide +kernel
theorem dX11_told_101 : decode cX11_told 101 = .ok (.ifCond .eq 7, 3) := by decide +kernel
theorem dX11_told_104 : decode cX11_told 104 = .ok (.iconst 1, 1) := by decide +kernel
theorem dX11_told_105 : decode cX11_told 105 = .ok (.goto 4, 3) := by decide +kernel
theorem dX11_told_108 : decode cX11_told 108 = .ok (.iconst 0, 1) := by decide +kernel
theorem dX11_told_109 : decode cX11_told 109 = .ok (.ireturn, 1) := by decide +kernel
theorem dX11_told_110 : decode cX11_told 110 = .ok (.aload_n 0, 1) := by decide +kernel
theorem dX11_told_111 : decode cX11_told 111 = .ok (.iload_n 1, 1) := by decide +kernel
theorem dX11_told_112 : decode cX11_told 112 = .ok (.invokevirtual 318, 3) := by decide +kernel
theorem dX11_told_115 : decode cX11_told 115 = .ok (.ireturn, 1) := by decide +kernel
theorem dX11_told_116 : decode cX11_told 116 = .ok (.iload_n 2, 1) := by decide +kernel
theorem dX11_told_117 : decode cX11_told 117 = .ok (.bipush 8, 2) := by decide +kernel
theorem dX11_told_119 : decode cX11_told 119 = .ok (.bipush 7, 2) := by decide +kernel
theorem dX11_told_121 : decode cX11_told 121 = .ok (.aload_n 0, 1) := by decide +kernel
theorem dX11_told_122 : decode cX11_told 122 = .ok (.iload_n 1, 1) := by decide +kernel
theorem dX11_told_123 : decode cX11_told 123 = .ok (.iconst 3, 1) := by decide +kernel
theorem dX11_told_124 : decode cX11_told 124 = .ok (.invokevirtual 92, 3) := by decide +kernel
theorem dX11_told_127 : decode cX11_told 127 = .ok (.iadd, 1) := by decide +kernel
theorem dX11_told_128 : decode cX11_told 128 = .ok (.invokestatic 80, 3) := by decide +kernel
theorem dX11_told_131 : decode cX11_told 131 = .ok (.ifCond .eq 17, 3) := by decide +kernel
theorem dX11_told_134 : decode cX11_told 134 = .ok (.aload_n 0, 1) := by decide +kernel
theorem dX11_told_135 : decode cX11_told 135 = .ok (.iload_n 1, 1) := by decide +kernel
theorem dX11_told_136 : decode cX11_told 136 = .ok (.iconst 4, 1) := by decide +kernel
theorem dX11_told_137 : decode cX11_told 137 = .ok (.iload_n 2, 1) := by decide +kernel
theorem dX11_told_138 : decode cX11_told 138 = .ok (.iadd, 1) := by decide +kernel
theorem dX11_told_139 : decode cX11_told 139 = .ok (.bipush 8, 2) := by decide +kernel
theorem dX11_told_141 : decode cX11_told 141 = .ok (.isub, 1) := by decide +kernel
theorem dX11_told_142 : decode cX11_told 142 = .ok (.invokevirtual 92, 3) := by decide +kernel
theorem dX11_told_145 : decode cX11_told 145 = .ok (.goto 4, 3) := by decide +kernel
theorem dX11_told_148 : decode cX11_told 148 = .ok (.iconst (-1), 1) := by decide +kernel
theorem dX11_told_149 : decode cX11_told 149 = .ok (.ireturn, 1) := by decide +kernel
theorem gX11_told_0 {d : Nat} {M : ev_Mem} {Q : Option Value → ev_Mem → Prop} {x1 x2 : Int32} (h : ((((iin x1 0 (M.1 1 0 - 1)) = true) → (((x2 = 0) → ((vp_in (39 + 13 * x1 + (0 : Int32)) 3315) ∧ (Q (some (.int (M.1 1 (39 + 13 * x1 + (0 : Int32)).toNatClampNeg))) M))) ∧ ((x2 = 1) → ((vp_in (39 + 13 * x1 + (1 : Int32)) 3315) ∧ (Q (some (.int (M.1 1 (39 + 13 * x1 + (1 : Int32)).toNatClampNeg))) M))) ∧ ((x2 = 2) → ((vp_in (39 + 13 * x1 + (2 : Int32)) 3315) ∧ (Q (some (.int (M.1 1 (39 + 13 * x1 + (2 : Int32)).toNatClampNeg))) M))) ∧ ((x2 = 3) → ((vp_in (39 + 13 * x1 + (3 : Int32)) 3315) ∧ (Q (some (.int (M.1 1 (39 + 13 * x1 + (3 : Int32)).toNatClampNeg))) M))) ∧ ((x2 = 4) → ((wm M x1) ∧ (Q (some (.int (nI (mH M x1)))) M))) ∧ ((x2 = 5) → ((wm M x1) ∧ (Q (some (.int (mS M x1))) M))) ∧ ((x2 = 6) → ((wm M x1) ∧ ((okMd M) ∧ ((((mC M x1) = false) → (Q (some (.int 0)) M)) ∧ (((mC M x1) = true) → (Q (some (.int 1)) M)))))) ∧ ((x2 = 7) → ((wm M x1) ∧ (Q (some (.int (mE M x1))) M))) ∧ ((¬ x2 = 0 ∧ ¬ x2 = 1 ∧ ¬ x2 = 2 ∧ ¬ x2 = 3 ∧ ¬ x2 = 4 ∧ ¬ x2 = 5 ∧ ¬ x2 = 6 ∧ ¬ x2 = 7) → ((vp_in (39 + 13 * x1 + (3 : Int32)) 3315) ∧ ((((iin x2 (8 : Int32) (7 + (M.1 1 (39 + 13 * x1 + (3 : Int32)).toNatClampNeg))) = false) → (Q (some (.int (-1))) M)) ∧ (((iin x2 (8 : Int32) (7 + (M.1 1 (39 + 13 * x1 + (3 : Int32)).toNatClampNeg))) = true) → ((vp_in (39 + 13 * x1 + ((4 + x2) - 8)) 3315) ∧ (Q (some (.int (M.1 1 (39 + 13 * x1 + ((4 + x2) - 8)).toNatClampNeg))) M)))))))) ∧ (((iin x1 0 (M.1 1 0 - 1)) = false) → (Q (some (.int (-1))) M)))) : Ev LM (d + 4) mX11_told 0 [some (.ref 0), some (.int x1), some (.int x2)] [] M Q := by
  refine ev_aload_n dX11_told_0 rfl ?_
  refine ev_iload_n dX11_told_1 rfl ?_
  refine ev_callV [.int x1] dX11_told_2 ml_WithoutEModel_337 lm_0 rfl rfl (Nat.le_of_ble_eq_true rfl) (kX11_isWordOf) ?_
  rintro zr zM ⟨q1, q2⟩
  rw [q1, q2]
  show Ev LM (d + 4) mX11_told 5 [some (.ref 0), some (.int x1), some (.int x2)] [(.int (bi (iin x1 0 (M.1 1 0 - 1))))] M Q
  refine ev_if_ne (tgt := 10) dX11_told_5 (by decide) (fun c => ?_) (fun c => ?_)
  · replace h := h.1 ((bi_n0 _).mp c)
    refine ev_iload_n dX11_told_10 rfl ?_
    obtain ⟨h0, h1, h2, h3, h4, h5, h6, h7, h8⟩ := h
    by_cases e0 : x2 = 0
    · replace h := h0 e0
      have hk : ∃ off : Int, ¬ (x2 : Int32).toInt < 0 ∧ ¬ 7 < (x2 : Int32).toInt ∧ #[45, 52, 59, 66, 73, 79, 85, 99][((x2 : Int32).toInt - 0).toNat]? = some off ∧ ((11 : Nat) : Int) + off = ((56 : Nat) : Int) := by
        have e := e0
        · rw [e]; exact ⟨45, by decide, by decide, by decide, by decide⟩
      obtain ⟨off, k1, k2, k3, k4⟩ := hk
      refine ev_tableIn (tgt := 56) dX11_told_11 k1 k2 k3 k4 ?_
      refine ev_aload_n dX11_told_56 rfl ?_
      refine ev_iload_n dX11_told_57 rfl ?_
      refine ev_iconst (v := 0) dX11_told_58 (by decide) ?_
      obtain ⟨p1, h⟩ := h
      refine ev_callV [.int x1, .int 0] dX11_told_59 ml_WithoutEModel_92 lm_0 rfl rfl (Nat.le_of_ble_eq_true rfl) (kX11_get p1) ?_
      rintro zr zM ⟨q1, q2⟩
      rw [q1, q2]
      show Ev LM (d + 4) mX11_told 62 [some (.ref 0), some (.int x1), some (.int x2)] [(.int (M.1 1 (39 + 13 * x1 + (0 : Int32)).toNatClampNeg))] M Q
      exact ev_iret dX11_told_62 rfl h
    by_cases e1 : x2 = 1
    · replace h := h1 e1
      have hk : ∃ off : Int, ¬ (x2 : Int32).toInt < 0 ∧ ¬ 7 < (x2 : Int32).toInt ∧ #[45, 52, 59, 66, 73, 79, 85, 99][((x2 : Int32).toInt - 0).toNat]? = some off ∧ ((11 : Nat) : Int) + off = ((63 : Nat) : Int) := by
        have e := e1
        · rw [e]; exact ⟨52, by decide, by decide, by decide, by decide⟩
      obtain ⟨off, k1, k2, k3, k4⟩ := hk
      refine ev_tableIn (tgt := 63) dX11_told_11 k1 k2 k3 k4 ?_
      refine ev_aload_n dX11_told_63 rfl ?_
      refine ev_iload_n dX11_told_64 rfl ?_
      refine ev_iconst (v := 1) dX11_told_65 (by decide) ?_
      obtain ⟨p1, h⟩ := h
      refine ev_callV [.int x1, .int 1] dX11_told_66 ml_WithoutEModel_92 lm_0 rfl rfl (Nat.le_of_ble_eq_true rfl) (kX11_get p1) ?_
      rintro zr zM ⟨q1, q2⟩
      rw [q1, q2]
      show Ev LM (d + 4) mX11_told 69 [some (.ref 0), some (.int x1), some (.int x2)] [(.int (M.1 1 (39 + 13 * x1 + (1 : Int32)).toNatClampNeg))] M Q
      exact ev_iret dX11_told_69 rfl h
    by_cases e2 : x2 = 2
    · replace h := h2 e2
      have hk : ∃ off : Int, ¬ (x2 : Int32).toInt < 0 ∧ ¬ 7 < (x2 : Int32).toInt ∧ #[45, 52, 59, 66, 73, 79, 85, 99][((x2 : Int32).toInt - 0).toNat]? = some off ∧ ((11 : Nat) : Int) + off = ((70 : Nat) : Int) := by
        have e := e2
        · rw [e]; exact ⟨59, by decide, by decide, by decide, by decide⟩
      obtain ⟨off, k1, k2, k3, k4⟩ := hk
      refine ev_tableIn (tgt := 70) dX11_told_11 k1 k2 k3 k4 ?_
      refine ev_aload_n dX11_told_70 rfl ?_
      refine ev_iload_n dX11_told_71 rfl ?_
      refine ev_iconst (v := 2) dX11_told_72 (by decide) ?_
      obtain ⟨p1, h⟩ := h
      refine ev_callV [.int x1, .int 2] dX11_told_73 ml_WithoutEModel_92 lm_0 rfl rfl (Nat.le_of_ble_eq_true rfl) (kX11_get p1) ?_
      rintro zr zM ⟨q1, q2⟩
      rw [q1, q2]
      show Ev LM (d + 4) mX11_told 76 [some (.ref 0), some (.int x1), some (.int x2)] [(.int (M.1 1 (39 + 13 * x1 + (2 : Int32)).toNatClampNeg))] M Q
      exact ev_iret dX11_told_76 rfl h
    by_cases e3 : x2 = 3
    · replace h := h3 e3
      have hk : ∃ off : Int, ¬ (x2 : Int32).toInt < 0 ∧ ¬ 7 < (x2 : Int32).toInt ∧ #[45, 52, 59, 66, 73, 79, 85, 99][((x2 : Int32).toInt - 0).toNat]? = some off ∧ ((11 : Nat) : Int) + off = ((77 : Nat) : Int) := by
        have e := e3
        · rw [e]; exact ⟨66, by decide, by decide, by decide, by decide⟩
      obtain ⟨off, k1, k2, k3, k4⟩ := hk
      refine ev_tableIn (tgt := 77) dX11_told_11 k1 k2 k3 k4 ?_
      refine ev_aload_n dX11_told_77 rfl ?_
      refine ev_iload_n dX11_told_78 rfl ?_
      refine ev_iconst (v := 3) dX11_told_79 (by decide) ?_
      obtain ⟨p1, h⟩ := h
      refine ev_callV [.int x1, .int 3] dX11_told_80 ml_WithoutEModel_92 lm_0 rfl rfl (Nat.le_of_ble_eq_true rfl) (kX11_get p1) ?_
      rintro zr zM ⟨q1, q2⟩
      rw [q1, q2]
      show Ev LM (d + 4) mX11_told 83 [some (.ref 0), some (.int x1), some (.int x2)] [(.int (M.1 1 (39 + 13 * x1 + (3 : Int32)).toNatClampNeg))] M Q
      exact ev_iret dX11_told_83 rfl h
    by_cases e4 : x2 = 4
    · replace h := h4 e4
      have hk : ∃ off : Int, ¬ (x2 : Int32).toInt < 0 ∧ ¬ 7 < (x2 : Int32).toInt ∧ #[45, 52, 59, 66, 73, 79, 85, 99][((x2 : Int32).toInt - 0).toNat]? = some off ∧ ((11 : Nat) : Int) + off = ((84 : Nat) : Int) := by
        have e := e4
        · rw [e]; exact ⟨73, by decide, by decide, by decide, by decide⟩
      obtain ⟨off, k1, k2, k3, k4⟩ := hk
      refine ev_tableIn (tgt := 84) dX11_told_11 k1 k2 k3 k4 ?_
      refine ev_aload_n dX11_told_84 rfl ?_
      refine ev_iload_n dX11_told_85 rfl ?_
      obtain ⟨p1, h⟩ := h
      refine ev_callV [.int x1] dX11_told_86 ml_WithoutEModel_96 lm_0 rfl rfl (Nat.le_of_ble_eq_true rfl) (kX11_holesOf p1) ?_
      rintro zr zM ⟨q1, q2⟩
      rw [q1, q2]
      show Ev LM (d + 4) mX11_told 89 [some (.ref 0), some (.int x1), some (.int x2)] [(.int (nI (mH M x1)))] M Q
      exact ev_iret dX11_told_89 rfl h
    by_cases e5 : x2 = 5
    · replace h := h5 e5
      have hk : ∃ off : Int, ¬ (x2 : Int32).toInt < 0 ∧ ¬ 7 < (x2 : Int32).toInt ∧ #[45, 52, 59, 66, 73, 79, 85, 99][((x2 : Int32).toInt - 0).toNat]? = some off ∧ ((11 : Nat) : Int) + off = ((90 : Nat) : Int) := by
        have e := e5
        · rw [e]; exact ⟨79, by decide, by decide, by decide, by decide⟩
      obtain ⟨off, k1, k2, k3, k4⟩ := hk
      refine ev_tableIn (tgt := 90) dX11_told_11 k1 k2 k3 k4 ?_
      refine ev_aload_n dX11_told_90 rfl ?_
      refine ev_iload_n dX11_told_91 rfl ?_
      obtain ⟨p1, h⟩ := h
      refine ev_callV [.int x1] dX11_told_92 ml_WithoutEModel_374 lm_0 rfl rfl (Nat.le_of_ble_eq_true rfl) (kX11_secondsOf p1) ?_
      rintro zr zM ⟨q1, q2⟩
      rw [q1, q2]
      show Ev LM (d + 4) mX11_told 95 [some (.ref 0), some (.int x1), some (.int x2)] [(.int (mS M x1))] M Q
      exact ev_iret dX11_told_95 rfl h
    by_cases e6 : x2 = 6
    · replace h := h6 e6
      have hk : ∃ off : Int, ¬ (x2 : Int32).toInt < 0 ∧ ¬ 7 < (x2 : Int32).toInt ∧ #[45, 52, 59, 66, 73, 79, 85, 99][((x2 : Int32).toInt - 0).toNat]? = some off ∧ ((11 : Nat) : Int) + off = ((96 : Nat) : Int) := by
        have e := e6
        · rw [e]; exact ⟨85, by decide, by decide, by decide, by decide⟩
      obtain ⟨off, k1, k2, k3, k4⟩ := hk
      refine ev_tableIn (tgt := 96) dX11_told_11 k1 k2 k3 k4 ?_
      refine ev_aload_n dX11_told_96 rfl ?_
      refine ev_iload_n dX11_told_97 rfl ?_
      obtain ⟨p1, h⟩ := h
      obtain ⟨p2, h⟩ := h
      refine ev_callV [.int x1] dX11_told_98 ml_WithoutEModel_346 lm_0 rfl rfl (Nat.le_of_ble_eq_true rfl) (kX11_canBe p1 p2) ?_
      rintro zr zM ⟨q1, q2⟩
      rw [q1, q2]
      show Ev LM (d + 4) mX11_told 101 [some (.ref 0), some (.int x1), some (.int x2)] [(.int (bi (mC M x1)))] M Q
      refine ev_if_eq (tgt := 108) dX11_told_101 (by decide) (fun c => ?_) (fun c => ?_)
      · replace h := h.1 ((bi_0 _).mp c)
        refine ev_iconst (v := 0) dX11_told_108 (by decide) ?_
        exact ev_iret dX11_told_109 rfl h
      · replace h := h.2 ((bi_n0 _).mp c)
        refine ev_iconst (v := 1) dX11_told_104 (by decide) ?_
        refine ev_goto (tgt := 109) dX11_told_105 (by decide) ?_
        exact ev_iret dX11_told_109 rfl h
    by_cases e7 : x2 = 7
    · replace h := h7 e7
      have hk : ∃ off : Int, ¬ (x2 : Int32).toInt < 0 ∧ ¬ 7 < (x2 : Int32).toInt ∧ #[45, 52, 59, 66, 73, 79, 85, 99][((x2 : Int32).toInt - 0).toNat]? = some off ∧ ((11 : Nat) : Int) + off = ((110 : Nat) : Int) := by
        have e := e7
        · rw [e]; exact ⟨99, by decide, by decide, by decide, by decide⟩
      obtain ⟨off, k1, k2, k3, k4⟩ := hk
      refine ev_tableIn (tgt := 110) dX11_told_11 k1 k2 k3 k4 ?_
      refine ev_aload_n dX11_told_110 rfl ?_
      refine ev_iload_n dX11_told_111 rfl ?_
      obtain ⟨p1, h⟩ := h
      refine ev_callV [.int x1] dX11_told_112 ml_WithoutEModel_318 lm_0 rfl rfl (Nat.le_of_ble_eq_true rfl) (kX11_extraOf p1) ?_
      rintro zr zM ⟨q1, q2⟩
      rw [q1, q2]
      show Ev LM (d + 4) mX11_told 115 [some (.ref 0), some (.int x1), some (.int x2)] [(.int (mE M x1))] M Q
      exact ev_iret dX11_told_115 rfl h
    replace h := h8 ⟨fun e => e0 (e), fun e => e1 (e), fun e => e2 (e), fun e => e3 (e), fun e => e4 (e), fun e => e5 (e), fun e => e6 (e), fun e => e7 (e)⟩
    have hk : ((x2 : Int32).toInt < 0 ∨ 7 < (x2 : Int32).toInt) ∨ (False) := by
      have t : ∀ k : Int32, ¬ (x2 : Int32) = k → (x2 : Int32).toInt ≠ k.toInt := fun k hne e => hne (Int32.toInt_inj.mp e)
      have z0 : (x2 : Int32).toInt ≠ 0 := t 0 (fun e => by simp_all)
      have z1 : (x2 : Int32).toInt ≠ 1 := t 1 (fun e => by simp_all)
      have z2 : (x2 : Int32).toInt ≠ 2 := t 2 (fun e => by simp_all)
      have z3 : (x2 : Int32).toInt ≠ 3 := t 3 (fun e => by simp_all)
      have z4 : (x2 : Int32).toInt ≠ 4 := t 4 (fun e => by simp_all)
      have z5 : (x2 : Int32).toInt ≠ 5 := t 5 (fun e => by simp_all)
      have z6 : (x2 : Int32).toInt ≠ 6 := t 6 (fun e => by simp_all)
      have z7 : (x2 : Int32).toInt ≠ 7 := t 7 (fun e => by simp_all)
      omega
    replace hk := hk.elim id False.elim
    refine ev_tableOut (tgt := 116) dX11_told_11 hk (by decide) ?_
    refine ev_iload_n dX11_told_116 rfl ?_
    refine ev_bipush (v := 8) dX11_told_117 (by decide) ?_
    refine ev_bipush (v := 7) dX11_told_119 (by decide) ?_
    refine ev_aload_n dX11_told_121 rfl ?_
    refine ev_iload_n dX11_told_122 rfl ?_
    refine ev_iconst (v := 3) dX11_told_123 (by decide) ?_
    obtain ⟨p1, h⟩ := h
    refine ev_callV [.int x1, .int 3] dX11_told_124 ml_WithoutEModel_92 lm_0 rfl rfl (Nat.le_of_ble_eq_true rfl) (kX11_get p1) ?_
    rintro zr zM ⟨q1, q2⟩
    rw [q1, q2]
    show Ev LM (d + 4) mX11_told 127 [some (.ref 0), some (.int x1), some (.int x2)] [(.int (M.1 1 (39 + 13 * x1 + (3 : Int32)).toNatClampNeg)), (.int 7), (.int 8), (.int x2)] M Q
    refine ev_iadd dX11_told_127 ?_
    refine ev_callS [.int x2, .int 8, .int (7 + (M.1 1 (39 + 13 * x1 + (3 : Int32)).toNatClampNeg))] dX11_told_128 ml_WithoutEModel_80 rfl (Nat.le_of_ble_eq_true rfl) (kX11_isIn) ?_
    rintro zr zM ⟨q1, q2⟩
    rw [q1, q2]
    show Ev LM (d + 4) mX11_told 131 [some (.ref 0), some (.int x1), some (.int x2)] [(.int (bi (iin x2 (8 : Int32) (7 + (M.1 1 (39 + 13 * x1 + (3 : Int32)).toNatClampNeg)))))] M Q
    refine ev_if_eq (tgt := 148) dX11_told_131 (by decide) (fun c => ?_) (fun c => ?_)
    · replace h := h.1 ((bi_0 _).mp c)
      refine ev_iconst (v := -1) dX11_told_148 (by decide) ?_
      exact ev_iret dX11_told_149 rfl h
    · replace h := h.2 ((bi_n0 _).mp c)
      refine ev_aload_n dX11_told_134 rfl ?_
      refine ev_iload_n dX11_told_135 rfl ?_
      refine ev_iconst (v := 4) dX11_told_136 (by decide) ?_
      refine ev_iload_n dX11_told_137 rfl ?_
      refine ev_iadd dX11_told_138 ?_
      refine ev_bipush (v := 8) dX11_told_139 (by decide) ?_
      refine ev_isub dX11_told_141 ?_
      obtain ⟨p1, h⟩ := h
      refine ev_callV [.int x1, .int ((4 + x2) - 8)] dX11_told_142 ml_WithoutEModel_92 lm_0 rfl rfl (Nat.le_of_ble_eq_true rfl) (kX11_get p1) ?_
      rintro zr zM ⟨q1, q2⟩
      rw [q1, q2]
      show Ev LM (d + 4) mX11_told 145 [some (.ref 0), some (.int x1), some (.int x2)] [(.int (M.1 1 (39 + 13 * x1 + ((4 + x2) - 8)).toNatClampNeg))] M Q
      refine ev_goto (tgt := 149) dX11_told_145 (by decide) ?_
      exact ev_iret dX11_told_149 rfl h
  · replace h := h.2 ((bi_0 _).mp c)
    refine ev_iconst (v := -1) dX11_told_8 (by decide) ?_
    exact ev_iret dX11_told_9 rfl h
theorem dX11_stiff_0 : decode cX11_stiff 0 = .ok (.aload_n 0, 1) := by decide +kernel
theorem dX11_stiff_1 : decode cX11_stiff 1 = .ok (.iload_n 1, 1) := by decide +kernel
theorem dX11_stiff_2 : decode cX11_stiff 2 = .ok (.invokevirtual 337, 3) := by decide +kernel
theorem dX11_stiff_5 : decode cX11_stiff 5 = .ok (.ifCond .eq 17, 3) := by decide +kernel
theorem dX11_stiff_8 : decode cX11_stiff 8 = .ok (.aload_n 0, 1) := by decide +kernel
theorem dX11_stiff_9 : decode cX11_stiff 9 = .ok (.aload_n 0, 1) := by decide +kernel
theorem dX11_stiff_10 : decode cX11_stiff 10 = .ok (.getfield 7, 3) := by decide +kernel
theorem dX11_stiff_13 : decode cX11_stiff 13 = .ok (.iconst 3, 1) := by decide +kernel
theorem dX11_stiff_14 : decode cX11_stiff 14 = .ok (.iaload, 1) := by decide +kernel
theorem dX11_stiff_15 : decode cX11_stiff 15 = .ok (.iload_n 1, 1) := by decide +kernel
theorem dX11_stiff_16 : decode cX11_stiff 16 = .ok (.invokevirtual 349, 3) := by decide +kernel
theorem dX11_stiff_19 : decode cX11_stiff 19 = .ok (.goto 4, 3) := by decide +kernel
theorem dX11_stiff_22 : decode cX11_stiff 22 = .ok (.iconst (-1), 1) := by decide +kernel
theorem dX11_stiff_23 : decode cX11_stiff 23 = .ok (.ireturn, 1) := by decide +kernel
theorem gX11_stiff_0 {d : Nat} {M : ev_Mem} {Q : Option Value → ev_Mem → Prop} {x1 : Int32} (h : ((((iin x1 0 (M.1 1 0 - 1)) = false) → (Q (some (.int (-1))) M)) ∧ (((iin x1 0 (M.1 1 0 - 1)) = true) → ((stOK M (M.1 1 3) x1) ∧ (∀ M1 : ev_Mem, nfr M M1 → (Q (some (.int (stN M (M.1 1 3) x1.toNatClampNeg))) M1)))))) : Ev LM (d + 5) mX11_stiff 0 [some (.ref 0), some (.int x1)] [] M Q := by
  refine ev_aload_n dX11_stiff_0 rfl ?_
  refine ev_iload_n dX11_stiff_1 rfl ?_
  refine ev_callV [.int x1] dX11_stiff_2 ml_WithoutEModel_337 lm_0 rfl rfl (Nat.le_of_ble_eq_true rfl) (kX11_isWordOf) ?_
  rintro zr zM ⟨q1, q2⟩
  rw [q1, q2]
  show Ev LM (d + 5) mX11_stiff 5 [some (.ref 0), some (.int x1)] [(.int (bi (iin x1 0 (M.1 1 0 - 1))))] M Q
  refine ev_if_eq (tgt := 22) dX11_stiff_5 (by decide) (fun c => ?_) (fun c => ?_)
  · replace h := h.1 ((bi_0 _).mp c)
    refine ev_iconst (v := -1) dX11_stiff_22 (by decide) ?_
    exact ev_iret dX11_stiff_23 rfl h
  · replace h := h.2 ((bi_n0 _).mp c)
    refine ev_aload_n dX11_stiff_8 rfl ?_
    refine ev_aload_n dX11_stiff_9 rfl ?_
    refine ev_getA dX11_stiff_10 fl_WithoutEModel_7 lm_0 rfl ?_
    refine ev_iconst (v := 3) dX11_stiff_13 (by decide) ?_
    refine ev_iaN (j := 3) dX11_stiff_14 lm_1 (by decide) (by decide) ?_
    refine ev_iload_n dX11_stiff_15 rfl ?_
    obtain ⟨p1, h⟩ := h
    refine ev_callV [.int (M.1 1 3), .int x1] dX11_stiff_16 ml_WithoutEModel_349 lm_0 rfl rfl (Nat.le_of_ble_eq_true rfl) (qX11_stiffOf p1) ?_
    rintro zr M1 ⟨q1, q⟩
    rw [q1]
    replace h := h M1 q
    show Ev LM (d + 5) mX11_stiff 19 [some (.ref 0), some (.int x1)] [(.int (stN M (M.1 1 3) x1.toNatClampNeg))] M1 Q
    refine ev_goto (tgt := 23) dX11_stiff_19 (by decide) ?_
    exact ev_iret dX11_stiff_23 rfl h
