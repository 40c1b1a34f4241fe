theorem dX4_comparison_0 : decode cX4_comparison 0 = .ok (.aload_n 0, 1) := by decide +kernel
theorem dX4_comparison_1 : decode cX4_comparison 1 = .ok (.getfield 41, 3) := by decide +kernel
theorem dX4_comparison_4 : decode cX4_comparison 4 = .ok (.lookupswitch 78 #[(4, 63), (5, 69), (35, 75), (60, 60), (61, 72), (62, 66)], 60) := by decide +kernel
theorem dX4_comparison_64 : decode cX4_comparison 64 = .ok (.bipush 12, 2) := by decide +kernel
theorem dX4_comparison_66 : decode cX4_comparison 66 = .ok (.ireturn, 1) := by decide +kernel
theorem dX4_comparison_67 : decode cX4_comparison 67 = .ok (.bipush 13, 2) := by decide +kernel
theorem dX4_comparison_69 : decode cX4_comparison 69 = .ok (.ireturn, 1) := by decide +kernel
theorem dX4_comparison_70 : decode cX4_comparison 70 = .ok (.bipush 14, 2) := by decide +kernel
theorem dX4_comparison_72 : decode cX4_comparison 72 = .ok (.ireturn, 1) := by decide +kernel
theorem dX4_comparison_73 : decode cX4_comparison 73 = .ok (.bipush 15, 2) := by decide +kernel
theorem dX4_comparison_75 : decode cX4_comparison 75 = .ok (.ireturn, 1) := by decide +kernel
theorem dX4_comparison_76 : decode cX4_comparison 76 = .ok (.bipush 16, 2) := by decide +kernel
theorem dX4_comparison_78 : decode cX4_comparison 78 = .ok (.ireturn, 1) := by decide +kernel
theorem dX4_comparison_79 : decode cX4_comparison 79 = .ok (.bipush 17, 2) := by decide +kernel
theorem dX4_comparison_81 : decode cX4_comparison 81 = .ok (.ireturn, 1) := by decide +kernel
theorem dX4_comparison_82 : decode cX4_comparison 82 = .ok (.iconst (-1), 1) := by decide +kernel
theorem dX4_comparison_83 : decode cX4_comparison 83 = .ok (.ireturn, 1) := by decide +kernel
theorem gX4_comparison_0 {d : Nat} {M : ev_Mem} {Q : Option Value → ev_Mem → Prop} (h : ((((M.1 81 5) = 4) → (Q (some (.int 13)) M)) ∧ (((M.1 81 5) = 5) → (Q (some (.int 15)) M)) ∧ (((M.1 81 5) = 35) → (Q (some (.int 17)) M)) ∧ (((M.1 81 5) = 60) → (Q (some (.int 12)) M)) ∧ (((M.1 81 5) = 61) → (Q (some (.int 16)) M)) ∧ (((M.1 81 5) = 62) → (Q (some (.int 14)) M)) ∧ ((¬ (M.1 81 5) = 4 ∧ ¬ (M.1 81 5) = 5 ∧ ¬ (M.1 81 5) = 35 ∧ ¬ (M.1 81 5) = 60 ∧ ¬ (M.1 81 5) = 61 ∧ ¬ (M.1 81 5) = 62) → (Q (some (.int (-1))) M)))) : Ev LX d mX4_comparison 0 [some (.ref 81)] [] M Q := by
  refine ev_aload_n dX4_comparison_0 rfl ?_
  refine ev_getI dX4_comparison_1 fl_WithoutE_Reader_41 lx_81 rfl ?_
  obtain ⟨h0, h1, h2, h3, h4, h5, h6⟩ := h
  by_cases e0 : (M.1 81 5) = 4
  · replace h := h0 e0
    have hk : Op.lookupswitch.offset #[(4, 63), (5, 69), (35, 75), (60, 60), (61, 72), (62, 66)].toList 78 ((M.1 81 5) : Int32).toInt = 63 := by
      have e := e0
      · rw [e]; decide
    refine ev_lookup (tgt := 67) dX4_comparison_4 (by decide) hk (by decide) ?_
    refine ev_bipush (v := 13) dX4_comparison_67 (by decide) ?_
    exact ev_iret dX4_comparison_69 rfl h
  by_cases e1 : (M.1 81 5) = 5
  · replace h := h1 e1
    have hk : Op.lookupswitch.offset #[(4, 63), (5, 69), (35, 75), (60, 60), (61, 72), (62, 66)].toList 78 ((M.1 81 5) : Int32).toInt = 69 := by
      have e := e1
      · rw [e]; decide
    refine ev_lookup (tgt := 73) dX4_comparison_4 (by decide) hk (by decide) ?_
    refine ev_bipush (v := 15) dX4_comparison_73 (by decide) ?_
    exact ev_iret dX4_comparison_75 rfl h
  by_cases e2 : (M.1 81 5) = 35
  · replace h := h2 e2
    have hk : Op.lookupswitch.offset #[(4, 63), (5, 69), (35, 75), (60, 60), (61, 72), (62, 66)].toList 78 ((M.1 81 5) : Int32).toInt = 75 := by
      have e := e2
      · rw [e]; decide
    refine ev_lookup (tgt := 79) dX4_comparison_4 (by decide) hk (by decide) ?_
    refine ev_bipush (v := 17) dX4_comparison_79 (by decide) ?_
    exact ev_iret dX4_comparison_81 rfl h
  by_cases e3 : (M.1 81 5) = 60
  · replace h := h3 e3
    have hk : Op.lookupswitch.offset #[(4, 63), (5, 69), (35, 75), (60, 60), (61, 72), (62, 66)].toList 78 ((M.1 81 5) : Int32).toInt = 60 := by
      have e := e3
      · rw [e]; decide
    refine ev_lookup (tgt := 64) dX4_comparison_4 (by decide) hk (by decide) ?_
    refine ev_bipush (v := 12) dX4_comparison_64 (by decide) ?_
    exact ev_iret dX4_comparison_66 rfl h
  by_cases e4 : (M.1 81 5) = 61
  · replace h := h4 e4
    have hk : Op.lookupswitch.offset #[(4, 63), (5, 69), (35, 75), (60, 60), (61, 72), (62, 66)].toList 78 ((M.1 81 5) : Int32).toInt = 72 := by
      have e := e4
      · rw [e]; decide
    refine ev_lookup (tgt := 76) dX4_comparison_4 (by decide) hk (by decide) ?_
    refine ev_bipush (v := 16) dX4_comparison_76 (by decide) ?_
    exact ev_iret dX4_comparison_78 rfl h
  by_cases e5 : (M.1 81 5) = 62
  · replace h := h5 e5
    have hk : Op.lookupswitch.offset #[(4, 63), (5, 69), (35, 75), (60, 60), (61, 72), (62, 66)].toList 78 ((M.1 81 5) : Int32).toInt = 66 := by
      have e := e5
      · rw [e]; decide
    refine ev_lookup (tgt := 70) dX4_comparison_4 (by decide) hk (by decide) ?_
    refine ev_bipush (v := 14) dX4_comparison_70 (by decide) ?_
    exact ev_iret dX4_comparison_72 rfl h
  replace h := h6 ⟨fun e => e0 (e), fun e => e1 (e), fun e => e2 (e), fun e => e3 (e), fun e => e4 (e), fun e => e5 (e)⟩
  have hk : Op.lookupswitch.offset #[(4, 63), (5, 69), (35, 75), (60, 60), (61, 72), (62, 66)].toList 78 ((M.1 81 5) : Int32).toInt = 78 := by
    have t : ∀ k : Int32, ¬ ((M.1 81 5) : Int32) = k → ((M.1 81 5) : Int32).toInt ≠ k.toInt := fun k hne e => hne (Int32.toInt_inj.mp e)
    have z4 : ((M.1 81 5) : Int32).toInt ≠ 4 := t 4 (fun e => by simp_all)
    have z5 : ((M.1 81 5) : Int32).toInt ≠ 5 := t 5 (fun e => by simp_all)
    have z35 : ((M.1 81 5) : Int32).toInt ≠ 35 := t 35 (fun e => by simp_all)
    have z60 : ((M.1 81 5) : Int32).toInt ≠ 60 := t 60 (fun e => by simp_all)
    have z61 : ((M.1 81 5) : Int32).toInt ≠ 61 := t 61 (fun e => by simp_all)
    have z62 : ((M.1 81 5) : Int32).toInt ≠ 62 := t 62 (fun e => by simp_all)
    have y4 : ¬ (4 : Int) = ((M.1 81 5) : Int32).toInt := fun e => z4 e.symm
    have y5 : ¬ (5 : Int) = ((M.1 81 5) : Int32).toInt := fun e => z5 e.symm
    have y35 : ¬ (35 : Int) = ((M.1 81 5) : Int32).toInt := fun e => z35 e.symm
    have y60 : ¬ (60 : Int) = ((M.1 81 5) : Int32).toInt := fun e => z60 e.symm
    have y61 : ¬ (61 : Int) = ((M.1 81 5) : Int32).toInt := fun e => z61 e.symm
    have y62 : ¬ (62 : Int) = ((M.1 81 5) : Int32).toInt := fun e => z62 e.symm
    simp only [Op.lookupswitch.offset, y4, y5, y35, y60, y61, y62, if_false, ite_false]
  refine ev_lookup (tgt := 82) dX4_comparison_4 (by decide) hk (by decide) ?_
  refine ev_iconst (v := -1) dX4_comparison_82 (by decide) ?_
  exact ev_iret dX4_comparison_83 rfl h
section
variable {d : Nat} {M : ev_Mem}
/-- put, fail, comparison -/
def putM (M : ev_Mem) (k : Nat) (x : Int32) : ev_Mem := ev_wr (ev_wr M (k + 1) (M.1 k 1).toNatClampNeg x) k 1 (M.1 k 1 + 1)
def puOK (M : ev_Mem) (k : Nat) : Prop := ev_isT k ∧ ∃ u, u < 300 ∧ M.1 k 1 = nI u
theorem kX8_put {k : Nat} {x : Int32} (h : puOK M k) : Cl LX d mX8_put [.ref k, .int x] M (ev_R none (putM M k x)) := by
  obtain ⟨hk, u, hu, e⟩ := h
  refine Cl_of rfl (Nat.le_of_ble_eq_true rfl) rfl (gX8_put_0 hk ⟨fun z => ?_, fun z => ⟨?_, fun M1 e1 M2 e2 => ⟨rfl, ?_⟩⟩⟩)
  · rw [e] at z
    exact absurd z (nI_ge (a := u) (b := 300) hu (by omega))
  · rw [e]; exact vp_in_nI (by omega) (by omega)
  · rw [e2, e1, wr_cell (by omega)]
    rfl
def flM (M : ev_Mem) (f : Int32) : ev_Mem := ev_wr (ev_wr M 81 3 f) 81 4 (M.1 81 6)
theorem kX4_fail {f : Int32} : Cl LX d mX4_fail [.ref 81, .int f] M (ev_R (some (.int 0)) (flM M f)) := by
  refine Cl_of rfl (Nat.le_of_ble_eq_true rfl) rfl (gX4_fail_0 fun M1 e1 M2 e2 => ⟨rfl, ?_⟩)
  rw [e2, e1, wr_ne (by omega)]
  rfl
def cmC (t : Int32) : Int32 := if t = 4 then 13 else if t = 5 then 15 else if t = 35 then 17 else if t = 60 then 12 else if t = 61 then 16 else if t = 62 then 14 else -1
theorem kX4_comparison : Cl LX d mX4_comparison [.ref 81] M (ev_R (some (.int (cmC (M.1 81 5)))) M) := by
  refine Cl_of rfl (Nat.le_of_ble_eq_true rfl) rfl (gX4_comparison_0 ⟨?_, ?_, ?_, ?_, ?_, ?_, ?_⟩)
  all_goals intro h
  · rw [h]; exact ⟨rfl, rfl⟩
  · rw [h]; exact ⟨rfl, rfl⟩
  · rw [h]; exact ⟨rfl, rfl⟩
  · rw [h]; exact ⟨rfl, rfl⟩
  · rw [h]; exact ⟨rfl, rfl⟩
  · rw [h]; exact ⟨rfl, rfl⟩
  · obtain ⟨h1, h2, h3, h4, h5, h6⟩ := h
    refine ⟨?_, rfl⟩
    unfold cmC
    rw [if_neg h1, if_neg h2, if_neg h3, if_neg h4, if_neg h5, if_neg h6]
end
theorem dX4_goDeeper_0 : decode cX4_goDeeper 0 = .ok (.iload_n 1, 1) := by decide +kernel
theorem dX4_goDeeper_1 : decode cX4_goDeeper 1 = .ok (.bipush 8, 2) := by decide +kernel
theorem dX4_goDeeper_3 : decode cX4_goDeeper 3 = .ok (.if_icmp .lt 9, 3) := by decide +kernel
theorem dX4_goDeeper_6 : decode cX4_goDeeper 6 = .ok (.aload_n 0, 1) := by decide +kernel
theorem dX4_goDeeper_7 : decode cX4_goDeeper 7 = .ok (.iconst 3, 1) := by decide +kernel
theorem dX4_goDeeper_8 : decode cX4_goDeeper 8 = .ok (.invokevirtual 79, 3) := by decide +kernel
theorem dX4_goDeeper_11 : decode cX4_goDeeper 11 = .ok (.ireturn, 1) := by decide +kernel
theorem dX4_goDeeper_12 : decode cX4_goDeeper 12 = .ok (.aload_n 0, 1) := by decide +kernel
theorem dX4_goDeeper_13 : decode cX4_goDeeper 13 = .ok (.invokevirtual 38, 3) := by decide +kernel
theorem dX4_goDeeper_16 : decode cX4_goDeeper 16 = .ok (.iconst 1, 1) := by decide +kernel
theorem dX4_goDeeper_17 : decode cX4_goDeeper 17 = .ok (.ireturn, 1) := by decide +kernel
theorem gX4_goDeeper_0 {d : Nat} {M : ev_Mem} {Q : Option Value → ev_Mem → Prop} {x1 : Int32} (h : (((x1 < 8) → (∃ Q2 : Option Value → ev_Mem → Prop, Cl LX d mX4_advance [.ref 81] M Q2 ∧ ∀ (zr : Option Value) (zM : ev_Mem), Q2 zr zM → Ev LX (d + 1) mX4_goDeeper 16 [none, none] (zr.toList ++ []) zM Q)) ∧ ((¬ x1 < 8) → (∀ M1 : ev_Mem, M1 = flM M (3 : Int32) → (Q (some (.int 0)) M1))))) : Ev LX (d + 1) mX4_goDeeper 0 [some (.ref 81), some (.int x1)] [] M Q := by
  refine ev_iload_n dX4_goDeeper_0 rfl ?_
  refine ev_bipush (v := 8) dX4_goDeeper_1 (by decide) ?_
  refine ev_icmp_lt (tgt := 12) dX4_goDeeper_3 (by decide) (fun c => ?_) (fun c => ?_)
  · replace h := h.1 c
    refine ev_aload_n dX4_goDeeper_12 rfl ?_
    obtain ⟨Q2, hc, h⟩ := h
    refine ev_callV [] dX4_goDeeper_13 ml_WithoutE_Reader_38 lx_81 rfl rfl (Nat.le_of_ble_eq_true rfl) hc (fun zr zM q => ?_)
    refine Ev.weak (ls := [none, none]) trivial ?_
    exact h zr zM q
  · replace h := h.2 c
    refine ev_aload_n dX4_goDeeper_6 rfl ?_
    refine ev_iconst (v := 3) dX4_goDeeper_7 (by decide) ?_
    refine ev_callV [.int 3] dX4_goDeeper_8 ml_WithoutE_Reader_79 lx_81 rfl rfl (Nat.le_of_ble_eq_true rfl) (kX4_fail) ?_
    rintro zr zM ⟨q1, q2⟩
    rw [q1, q2]
    generalize eM1 : flM M (3 : Int32) = M1
    replace h := h M1 eM1.symm
    show Ev LX (d + 1) mX4_goDeeper 11 [some (.ref 81), some (.int x1)] [(.int 0)] M1 Q
    exact ev_zret dX4_goDeeper_11 rfl (by decide) h
theorem gX4_goDeeper_16 {d : Nat} {M : ev_Mem} {Q : Option Value → ev_Mem → Prop} (h : (Q (some (.int 1)) M)) : Ev LX d mX4_goDeeper 16 [none, none] [] M Q := by
  refine ev_iconst (v := 1) dX4_goDeeper_16 (by decide) ?_
  exact ev_zret dX4_goDeeper_17 rfl (by decide) h
theorem dX4_putOp_0 : decode cX4_putOp 0 = .ok (.aload_n 0, 1) := by decide +kernel
theorem dX4_putOp_1 : decode cX4_putOp 1 = .ok (.getfield 19, 3) := by decide +kernel
theorem dX4_putOp_4 : decode cX4_putOp 4 = .ok (.iload_n 1, 1) := by decide +kernel
theorem dX4_putOp_5 : decode cX4_putOp 5 = .ok (.invokevirtual 144, 3) := by decide +kernel
theorem dX4_putOp_8 : decode cX4_putOp 8 = .ok (.iconst 1, 1) := by decide +kernel
theorem dX4_putOp_9 : decode cX4_putOp 9 = .ok (.ireturn, 1) := by decide +kernel
theorem gX4_putOp_0 {d : Nat} {M : ev_Mem} {Q : Option Value → ev_Mem → Prop} {x1 : Int32} (h : ((¬ M.1 81 1 = 0 ∧ ev_isT (M.1 81 1).toNatClampNeg) ∧ ((puOK M (M.1 81 1).toNatClampNeg) ∧ (∀ M1 : ev_Mem, M1 = putM M (M.1 81 1).toNatClampNeg x1 → (Q (some (.int 1)) M1))))) : Ev LX (d + 1) mX4_putOp 0 [some (.ref 81), some (.int x1)] [] M Q := by
  refine ev_aload_n dX4_putOp_0 rfl ?_
  obtain ⟨⟨c, t1⟩, h⟩ := h
  refine ev_getD dX4_putOp_1 fl_WithoutE_Reader_19 lx_81 rfl c ?_
  refine ev_iload_n dX4_putOp_4 rfl ?_
  obtain ⟨p1, h⟩ := h
  refine ev_callV [.int x1] dX4_putOp_5 ml_WithoutE_Reader_144 (lx_T t1) rfl rfl (Nat.le_of_ble_eq_true rfl) (kX8_put p1) ?_
  rintro zr zM ⟨q1, q2⟩
  rw [q1, q2]
  generalize eM1 : putM M (M.1 81 1).toNatClampNeg x1 = M1
  replace h := h M1 eM1.symm
  show Ev LX (d + 1) mX4_putOp 8 [some (.ref 81), some (.int x1)] [] M1 Q
  refine ev_iconst (v := 1) dX4_putOp_8 (by decide) ?_
  exact ev_zret dX4_putOp_9 rfl (by decide) h
theorem dX4_readPlainNumber_0 : decode cX4_readPlainNumber 0 = .ok (.aload_n 0, 1) := by decide +kernel
theorem dX4_readPlainNumber_1 : decode cX4_readPlainNumber 1 = .ok (.invokevirtual 141, 3) := by decide +kernel
theorem dX4_readPlainNumber_4 : decode cX4_readPlainNumber 4 = .ok (.istore_n 1, 1) := by decide +kernel
theorem dX4_readPlainNumber_5 : decode cX4_readPlainNumber 5 = .ok (.iload_n 1, 1) := by decide +kernel
theorem dX4_readPlainNumber_6 : decode cX4_readPlainNumber 6 = .ok (.sipush 9999, 3) := by decide +kernel
theorem dX4_readPlainNumber_9 : decode cX4_readPlainNumber 9 = .ok (.if_icmp .le 9, 3) := by decide +kernel
theorem dX4_readPlainNumber_12 : decode cX4_readPlainNumber 12 = .ok (.aload_n 0, 1) := by decide +kernel
theorem dX4_readPlainNumber_13 : decode cX4_readPlainNumber 13 = .ok (.iconst 2, 1) := by decide +kernel
theorem dX4_readPlainNumber_14 : decode cX4_readPlainNumber 14 = .ok (.invokevirtual 79, 3) := by decide +kernel
theorem dX4_readPlainNumber_17 : decode cX4_readPlainNumber 17 = .ok (.ireturn, 1) := by decide +kernel
theorem dX4_readPlainNumber_18 : decode cX4_readPlainNumber 18 = .ok (.aload_n 0, 1) := by decide +kernel
theorem dX4_readPlainNumber_19 : decode cX4_readPlainNumber 19 = .ok (.getfield 19, 3) := by decide +kernel
theorem dX4_readPlainNumber_22 : decode cX4_readPlainNumber 22 = .ok (.iconst 1, 1) := by decide +kernel
theorem dX4_readPlainNumber_23 : decode cX4_readPlainNumber 23 = .ok (.iload_n 1, 1) := by decide +kernel
theorem dX4_readPlainNumber_24 : decode cX4_readPlainNumber 24 = .ok (.iconst 5, 1) := by decide +kernel
theorem dX4_readPlainNumber_25 : decode cX4_readPlainNumber 25 = .ok (.ishl, 1) := by decide +kernel
theorem dX4_readPlainNumber_26 : decode cX4_readPlainNumber 26 = .ok (.ior, 1) := by decide +kernel
theorem dX4_readPlainNumber_27 : decode cX4_readPlainNumber 27 = .ok (.invokevirtual 144, 3) := by decide +kernel
theorem dX4_readPlainNumber_30 : decode cX4_readPlainNumber 30 = .ok (.aload_n 0, 1) := by decide +kernel
theorem dX4_readPlainNumber_31 : decode cX4_readPlainNumber 31 = .ok (.invokevirtual 38, 3) := by decide +kernel
theorem dX4_readPlainNumber_34 : decode cX4_readPlainNumber 34 = .ok (.iconst 1, 1) := by decide +kernel
theorem dX4_readPlainNumber_35 : decode cX4_readPlainNumber 35 = .ok (.ireturn, 1) := by decide +kernel
theorem gX4_readPlainNumber_0 {d : Nat} {M : ev_Mem} {Q : Option Value → ev_Mem → Prop} (h : (∃ Q2 : Option Value → ev_Mem → Prop, Cl LX d mX4_number [.ref 81] M Q2 ∧ ∀ (zr : Option Value) (zM : ev_Mem), Q2 zr zM → Ev LX (d + 1) mX4_readPlainNumber 4 [some (.ref 81), none] (zr.toList ++ []) zM Q)) : Ev LX (d + 1) mX4_readPlainNumber 0 [some (.ref 81), none] [] M Q := by
  refine ev_aload_n dX4_readPlainNumber_0 rfl ?_
  obtain ⟨Q2, hc, h⟩ := h
  refine ev_callV [] dX4_readPlainNumber_1 ml_WithoutE_Reader_141 lx_81 rfl rfl (Nat.le_of_ble_eq_true rfl) hc (fun zr zM q => ?_)
  exact h zr zM q
theorem gX4_readPlainNumber_4 {d : Nat} {M : ev_Mem} {Q : Option Value → ev_Mem → Prop} {s0 : Int32} (h : (((s0 ≤ 9999) → ((¬ M.1 81 1 = 0 ∧ ev_isT (M.1 81 1).toNatClampNeg) ∧ ((puOK M (M.1 81 1).toNatClampNeg) ∧ (∀ M1 : ev_Mem, M1 = putM M (M.1 81 1).toNatClampNeg ((1 : Int32) ||| (s0 <<< (5 &&& 31))) → (∃ Q2 : Option Value → ev_Mem → Prop, Cl LX d mX4_advance [.ref 81] M1 Q2 ∧ ∀ (zr : Option Value) (zM : ev_Mem), Q2 zr zM → Ev LX (d + 1) mX4_readPlainNumber 34 [none, none] (zr.toList ++ []) zM Q))))) ∧ ((¬ s0 ≤ 9999) → (∀ M2 : ev_Mem, M2 = flM M (2 : Int32) → (Q (some (.int 0)) M2))))) : Ev LX (d + 1) mX4_readPlainNumber 4 [some (.ref 81), none] [(.int s0)] M Q := by
  refine ev_istore_n (ls2 := [some (.ref 81), some (.int s0)]) dX4_readPlainNumber_4 (Nat.le_of_ble_eq_true rfl) rfl ?_
  refine ev_iload_n dX4_readPlainNumber_5 rfl ?_
  refine ev_sipush (v := 9999) dX4_readPlainNumber_6 (by decide) ?_
  refine ev_icmp_le (tgt := 18) dX4_readPlainNumber_9 (by decide) (fun c => ?_) (fun c => ?_)
  · replace h := h.1 c
    refine ev_aload_n dX4_readPlainNumber_18 rfl ?_
    obtain ⟨⟨c, t1⟩, h⟩ := h
    refine ev_getD dX4_readPlainNumber_19 fl_WithoutE_Reader_19 lx_81 rfl c ?_
    refine ev_iconst (v := 1) dX4_readPlainNumber_22 (by decide) ?_
    refine ev_iload_n dX4_readPlainNumber_23 rfl ?_
    refine ev_iconst (v := 5) dX4_readPlainNumber_24 (by decide) ?_
    refine ev_ishl dX4_readPlainNumber_25 ?_
    refine ev_ior dX4_readPlainNumber_26 ?_
    obtain ⟨p1, h⟩ := h
    refine ev_callV [.int ((1 : Int32) ||| (s0 <<< (5 &&& 31)))] dX4_readPlainNumber_27 ml_WithoutE_Reader_144 (lx_T t1) rfl rfl (Nat.le_of_ble_eq_true rfl) (kX8_put p1) ?_
    rintro zr zM ⟨q1, q2⟩
    rw [q1, q2]
    generalize eM1 : putM M (M.1 81 1).toNatClampNeg ((1 : Int32) ||| (s0 <<< (5 &&& 31))) = M1
    replace h := h M1 eM1.symm
    show Ev LX (d + 1) mX4_readPlainNumber 30 [some (.ref 81), some (.int s0)] [] M1 Q
    refine ev_aload_n dX4_readPlainNumber_30 rfl ?_
    obtain ⟨Q2, hc, h⟩ := h
    refine ev_callV [] dX4_readPlainNumber_31 ml_WithoutE_Reader_38 lx_81 rfl rfl (Nat.le_of_ble_eq_true rfl) hc (fun zr zM q => ?_)
    refine Ev.weak (ls := [none, none]) trivial ?_
    exact h zr zM q
  · replace h := h.2 c
    refine ev_aload_n dX4_readPlainNumber_12 rfl ?_
    refine ev_iconst (v := 2) dX4_readPlainNumber_13 (by decide) ?_
    refine ev_callV [.int 2] dX4_readPlainNumber_14 ml_WithoutE_Reader_79 lx_81 rfl rfl (Nat.le_of_ble_eq_true rfl) (kX4_fail) ?_
    rintro zr zM ⟨q1, q2⟩
    rw [q1, q2]
    generalize eM2 : flM M (2 : Int32) = M2
    replace h := h M2 eM2.symm
    show Ev LX (d + 1) mX4_readPlainNumber 17 [some (.ref 81), some (.int s0)] [(.int 0)] M2 Q
    exact ev_zret dX4_readPlainNumber_17 rfl (by decide) h
theorem gX4_readPlainNumber_34 {d : Nat} {M : ev_Mem} {Q : Option Value → ev_Mem → Prop} (h : (Q (some (.int 1)) M)) : Ev LX d mX4_readPlainNumber 34 [none, none] [] M Q := by
  refine ev_iconst (v := 1) dX4_readPlainNumber_34 (by decide) ?_
  exact ev_zret dX4_readPlainNumber_35 rfl (by decide) h
theorem dX4_expectSign_0 : decode cX4_expectSign 0 = .ok (.aload_n 0, 1) := by decide +kernel
theorem dX4_expectSign_1 : decode cX4_expectSign 1 = .ok (.getfield 41, 3) := by decide +kernel
theorem dX4_expectSign_4 : decode cX4_expectSign 4 = .ok (.iload_n 1, 1) := by decide +kernel
theorem dX4_expectSign_5 : decode cX4_expectSign 5 = .ok (.if_icmp .eq 9, 3) := by decide +kernel
theorem dX4_expectSign_8 : decode cX4_expectSign 8 = .ok (.aload_n 0, 1) := by decide +kernel
theorem dX4_expectSign_9 : decode cX4_expectSign 9 = .ok (.iconst 1, 1) := by decide +kernel
theorem dX4_expectSign_10 : decode cX4_expectSign 10 = .ok (.invokevirtual 79, 3) := by decide +kernel
theorem dX4_expectSign_13 : decode cX4_expectSign 13 = .ok (.ireturn, 1) := by decide +kernel
theorem dX4_expectSign_14 : decode cX4_expectSign 14 = .ok (.aload_n 0, 1) := by decide +kernel
theorem dX4_expectSign_15 : decode cX4_expectSign 15 = .ok (.invokevirtual 38, 3) := by decide +kernel
theorem dX4_expectSign_18 : decode cX4_expectSign 18 = .ok (.iconst 1, 1) := by decide +kernel
theorem dX4_expectSign_19 : decode cX4_expectSign 19 = .ok (.ireturn, 1) := by decide +kernel
theorem gX4_expectSign_0 {d : Nat} {M : ev_Mem} {Q : Option Value → ev_Mem → Prop} {x1 : Int32} (h : ((((M.1 81 5) = x1) → (∃ Q2 : Option Value → ev_Mem → Prop, Cl LX d mX4_advance [.ref 81] M Q2 ∧ ∀ (zr : Option Value) (zM : ev_Mem), Q2 zr zM → Ev LX (d + 1) mX4_expectSign 18 [none, none] (zr.toList ++ []) zM Q)) ∧ ((¬ (M.1 81 5) = x1) → (∀ M1 : ev_Mem, M1 = flM M (1 : Int32) → (Q (some (.int 0)) M1))))) : Ev LX (d + 1) mX4_expectSign 0 [some (.ref 81), some (.int x1)] [] M Q := by
  refine ev_aload_n dX4_expectSign_0 rfl ?_
  refine ev_getI dX4_expectSign_1 fl_WithoutE_Reader_41 lx_81 rfl ?_
  refine ev_iload_n dX4_expectSign_4 rfl ?_
  refine ev_icmp_eq (tgt := 14) dX4_expectSign_5 (by decide) (fun c => ?_) (fun c => ?_)
  · replace h := h.1 c
    refine ev_aload_n dX4_expectSign_14 rfl ?_
    obtain ⟨Q2, hc, h⟩ := h
    refine ev_callV [] dX4_expectSign_15 ml_WithoutE_Reader_38 lx_81 rfl rfl (Nat.le_of_ble_eq_true rfl) hc (fun zr zM q => ?_)
    refine Ev.weak (ls := [none, none]) trivial ?_
    exact h zr zM q
  · replace h := h.2 c
    refine ev_aload_n dX4_expectSign_8 rfl ?_
    refine ev_iconst (v := 1) dX4_expectSign_9 (by decide) ?_
    refine ev_callV [.int 1] dX4_expectSign_10 ml_WithoutE_Reader_79 lx_81 rfl rfl (Nat.le_of_ble_eq_true rfl) (kX4_fail) ?_
    rintro zr zM ⟨q1, q2⟩
    rw [q1, q2]
    generalize eM1 : flM M (1 : Int32) = M1
    replace h := h M1 eM1.symm
    show Ev LX (d + 1) mX4_expectSign 13 [some (.ref 81), some (.int x1)] [(.int 0)] M1 Q
    exact ev_zret dX4_expectSign_13 rfl (by decide) h
theorem gX4_expectSign_18 {d : Nat} {M : ev_Mem} {Q : Option Value → ev_Mem → Prop} (h : (Q (some (.int 1)) M)) : Ev LX d mX4_expectSign 18 [none, none] [] M Q := by
  refine ev_iconst (v := 1) dX4_expectSign_18 (by decide) ?_
  exact ev_zret dX4_expectSign_19 rfl (by decide) h
theorem dX4_expectToken_0 : decode cX4_expectToken 0 = .ok (.aload_n 0, 1) := by decide +kernel
theorem dX4_expectToken_1 : decode cX4_expectToken 1 = .ok (.aload_n 1, 1) := by decide +kernel
theorem dX4_expectToken_2 : decode cX4_expectToken 2 = .ok (.invokevirtual 82, 3) := by decide +kernel
theorem dX4_expectToken_5 : decode cX4_expectToken 5 = .ok (.ifCond .ne 9, 3) := by decide +kernel
theorem dX4_expectToken_8 : decode cX4_expectToken 8 = .ok (.aload_n 0, 1) := by decide +kernel
theorem dX4_expectToken_9 : decode cX4_expectToken 9 = .ok (.iconst 1, 1) := by decide +kernel
theorem dX4_expectToken_10 : decode cX4_expectToken 10 = .ok (.invokevirtual 79, 3) := by decide +kernel
theorem dX4_expectToken_13 : decode cX4_expectToken 13 = .ok (.ireturn, 1) := by decide +kernel
theorem dX4_expectToken_14 : decode cX4_expectToken 14 = .ok (.aload_n 0, 1) := by decide +kernel
theorem dX4_expectToken_15 : decode cX4_expectToken 15 = .ok (.invokevirtual 38, 3) := by decide +kernel
theorem dX4_expectToken_18 : decode cX4_expectToken 18 = .ok (.iconst 1, 1) := by decide +kernel
theorem dX4_expectToken_19 : decode cX4_expectToken 19 = .ok (.ireturn, 1) := by decide +kernel
theorem gX4_expectToken_0 {d : Nat} {M : ev_Mem} {Q : Option Value → ev_Mem → Prop} {si : Nat} (hsi : si < 15) (h : (∃ Q2 : Option Value → ev_Mem → Prop, Cl LX d mX4_isToken [.ref 81, .ref (1010 + si)] M Q2 ∧ ∀ (zr : Option Value) (zM : ev_Mem), Q2 zr zM → Ev LX (d + 1) mX4_expectToken 5 [some (.ref 81), none] (zr.toList ++ []) zM Q)) : Ev LX (d + 1) mX4_expectToken 0 [some (.ref 81), some (.ref (1010 + si))] [] M Q := by
  refine ev_aload_n dX4_expectToken_0 rfl ?_
  refine ev_aload_n dX4_expectToken_1 rfl ?_
  obtain ⟨Q2, hc, h⟩ := h
  refine ev_callV [.ref (1010 + si)] dX4_expectToken_2 ml_WithoutE_Reader_82 lx_81 rfl rfl (Nat.le_of_ble_eq_true rfl) hc (fun zr zM q => ?_)
  refine Ev.weak (ls := [some (.ref 81), none]) ⟨rfl, trivial⟩ ?_
  exact h zr zM q
theorem gX4_expectToken_5 {d : Nat} {M : ev_Mem} {Q : Option Value → ev_Mem → Prop} {s0 : Int32} {si : Nat} (hsi : si < 15) (h : (((¬ s0 = 0) → (∃ Q2 : Option Value → ev_Mem → Prop, Cl LX d mX4_advance [.ref 81] M Q2 ∧ ∀ (zr : Option Value) (zM : ev_Mem), Q2 zr zM → Ev LX (d + 1) mX4_expectToken 18 [none, none] (zr.toList ++ []) zM Q)) ∧ ((s0 = 0) → (∀ M1 : ev_Mem, M1 = flM M (1 : Int32) → (Q (some (.int 0)) M1))))) : Ev LX (d + 1) mX4_expectToken 5 [some (.ref 81), none] [(.int s0)] M Q := by
  refine ev_if_ne (tgt := 14) dX4_expectToken_5 (by decide) (fun c => ?_) (fun c => ?_)
  · replace h := h.1 c
    refine ev_aload_n dX4_expectToken_14 rfl ?_
    obtain ⟨Q2, hc, h⟩ := h
    refine ev_callV [] dX4_expectToken_15 ml_WithoutE_Reader_38 lx_81 rfl rfl (Nat.le_of_ble_eq_true rfl) hc (fun zr zM q => ?_)
    refine Ev.weak (ls := [none, none]) trivial ?_
    exact h zr zM q
  · replace h := h.2 c
    refine ev_aload_n dX4_expectToken_8 rfl ?_
    refine ev_iconst (v := 1) dX4_expectToken_9 (by decide) ?_
    refine ev_callV [.int 1] dX4_expectToken_10 ml_WithoutE_Reader_79 lx_81 rfl rfl (Nat.le_of_ble_eq_true rfl) (kX4_fail) ?_
    rintro zr zM ⟨q1, q2⟩
    rw [q1, q2]
    generalize eM1 : flM M (1 : Int32) = M1
    replace h := h M1 eM1.symm
    show Ev LX (d + 1) mX4_expectToken 13 [some (.ref 81), none] [(.int 0)] M1 Q
    exact ev_zret dX4_expectToken_13 rfl (by decide) h
theorem gX4_expectToken_18 {d : Nat} {M : ev_Mem} {Q : Option Value → ev_Mem → Prop} {si : Nat} (hsi : si < 15) (h : (Q (some (.int 1)) M)) : Ev LX d mX4_expectToken 18 [none, none] [] M Q := by
  refine ev_iconst (v := 1) dX4_expectToken_18 (by decide) ?_
  exact ev_zret dX4_expectToken_19 rfl (by decide) h
theorem dX4_readName_0 : decode cX4_readName 0 = .ok (.aload_n 0, 1) := by decide +kernel
theorem dX4_readName_1 : decode cX4_readName 1 = .ok (.ldc 182, 2) := by decide +kernel
theorem dX4_readName_3 : decode cX4_readName 3 = .ok (.invokevirtual 88, 3) := by decide +kernel
theorem dX4_readName_6 : decode cX4_readName 6 = .ok (.istore_n 1, 1) := by decide +kernel
theorem dX4_readName_7 : decode cX4_readName 7 = .ok (.iload_n 1, 1) := by decide +kernel
theorem dX4_readName_8 : decode cX4_readName 8 = .ok (.ifCond .lt 11, 3) := by decide +kernel
theorem dX4_readName_11 : decode cX4_readName 11 = .ok (.iload_n 1, 1) := by decide +kernel
theorem dX4_readName_12 : decode cX4_readName 12 = .ok (.getstatic 184, 3) := by decide +kernel
theorem dX4_readName_15 : decode cX4_readName 15 = .ok (.arraylength, 1) := by decide +kernel
theorem dX4_readName_16 : decode cX4_readName 16 = .ok (.if_icmp .lt 9, 3) := by decide +kernel
theorem dX4_readName_19 : decode cX4_readName 19 = .ok (.aload_n 0, 1) := by decide +kernel
theorem dX4_readName_20 : decode cX4_readName 20 = .ok (.iconst 1, 1) := by decide +kernel
theorem dX4_readName_21 : decode cX4_readName 21 = .ok (.invokevirtual 79, 3) := by decide +kernel
theorem dX4_readName_24 : decode cX4_readName 24 = .ok (.ireturn, 1) := by decide +kernel
theorem dX4_readName_25 : decode cX4_readName 25 = .ok (.getstatic 184, 3) := by decide +kernel
theorem dX4_readName_28 : decode cX4_readName 28 = .ok (.iload_n 1, 1) := by decide +kernel
theorem dX4_readName_29 : decode cX4_readName 29 = .ok (.iaload, 1) := by decide +kernel
theorem dX4_readName_30 : decode cX4_readName 30 = .ok (.iconst (-1), 1) := by decide +kernel
theorem dX4_readName_31 : decode cX4_readName 31 = .ok (.if_icmp .eq 21, 3) := by decide +kernel
theorem dX4_readName_34 : decode cX4_readName 34 = .ok (.getstatic 184, 3) := by decide +kernel
theorem dX4_readName_37 : decode cX4_readName 37 = .ok (.iload_n 1, 1) := by decide +kernel
theorem dX4_readName_38 : decode cX4_readName 38 = .ok (.iaload, 1) := by decide +kernel
theorem dX4_readName_39 : decode cX4_readName 39 = .ok (.aload_n 0, 1) := by decide +kernel
theorem dX4_readName_40 : decode cX4_readName 40 = .ok (.getfield 99, 3) := by decide +kernel
theorem dX4_readName_43 : decode cX4_readName 43 = .ok (.if_icmp .eq 9, 3) := by decide +kernel
theorem dX4_readName_46 : decode cX4_readName 46 = .ok (.aload_n 0, 1) := by decide +kernel
theorem dX4_readName_47 : decode cX4_readName 47 = .ok (.iconst 5, 1) := by decide +kernel
theorem dX4_readName_48 : decode cX4_readName 48 = .ok (.invokevirtual 79, 3) := by decide +kernel
theorem dX4_readName_51 : decode cX4_readName 51 = .ok (.ireturn, 1) := by decide +kernel
theorem dX4_readName_52 : decode cX4_readName 52 = .ok (.aload_n 0, 1) := by decide +kernel
theorem dX4_readName_53 : decode cX4_readName 53 = .ok (.getfield 19, 3) := by decide +kernel
theorem dX4_readName_56 : decode cX4_readName 56 = .ok (.iconst 2, 1) := by decide +kernel
theorem dX4_readName_57 : decode cX4_readName 57 = .ok (.iload_n 1, 1) := by decide +kernel
theorem dX4_readName_58 : decode cX4_readName 58 = .ok (.iconst 5, 1) := by decide +kernel
theorem dX4_readName_59 : decode cX4_readName 59 = .ok (.ishl, 1) := by decide +kernel
theorem dX4_readName_60 : decode cX4_readName 60 = .ok (.ior, 1) := by decide +kernel
theorem dX4_readName_61 : decode cX4_readName 61 = .ok (.invokevirtual 144, 3) := by decide +kernel
theorem dX4_readName_64 : decode cX4_readName 64 = .ok (.aload_n 0, 1) := by decide +kernel
theorem dX4_readName_65 : decode cX4_readName 65 = .ok (.invokevirtual 38, 3) := by decide +kernel
theorem dX4_readName_68 : decode cX4_readName 68 = .ok (.iconst 1, 1) := by decide +kernel
theorem dX4_readName_69 : decode cX4_readName 69 = .ok (.ireturn, 1) := by decide +kernel
theorem gX4_readName_0 {d : Nat} {M : ev_Mem} {Q : Option Value → ev_Mem → Prop} (h : (∃ Q2 : Option Value → ev_Mem → Prop, Cl LX d mX4_rankIn [.ref 81, .ref 1019] M Q2 ∧ ∀ (zr : Option Value) (zM : ev_Mem), Q2 zr zM → Ev LX (d + 1) mX4_readName 6 [some (.ref 81), none] (zr.toList ++ []) zM Q)) : Ev LX (d + 1) mX4_readName 0 [some (.ref 81), none] [] M Q := by
  refine ev_aload_n dX4_readName_0 rfl ?_
  refine ev_ldcS (i := 9) dX4_readName_1 rfl rfl ?_
  obtain ⟨Q2, hc, h⟩ := h
  refine ev_callV [.ref 1019] dX4_readName_3 ml_WithoutE_Reader_88 lx_81 rfl rfl (Nat.le_of_ble_eq_true rfl) hc (fun zr zM q => ?_)
  exact h zr zM q
theorem gX4_readName_6 {d : Nat} {M : ev_Mem} {Q : Option Value → ev_Mem → Prop} {s0 : Int32} (h : (((s0 < 0) → (∀ M1 : ev_Mem, M1 = flM M (1 : Int32) → (Q (some (.int 0)) M1))) ∧ ((¬ s0 < 0) → (((s0 < 12) → (vp_in s0 12 ∧ ((((ev_lon s0.toNatClampNeg) = (-1)) → ((¬ M.1 81 1 = 0 ∧ ev_isT (M.1 81 1).toNatClampNeg) ∧ ((puOK M (M.1 81 1).toNatClampNeg) ∧ (∀ M2 : ev_Mem, M2 = putM M (M.1 81 1).toNatClampNeg ((2 : Int32) ||| (s0 <<< (5 &&& 31))) → (∃ Q2 : Option Value → ev_Mem → Prop, Cl LX d mX4_advance [.ref 81] M2 Q2 ∧ ∀ (zr : Option Value) (zM : ev_Mem), Q2 zr zM → Ev LX (d + 1) mX4_readName 68 [none, none] (zr.toList ++ []) zM Q))))) ∧ ((¬ (ev_lon s0.toNatClampNeg) = (-1)) → (vp_in s0 12 ∧ ((((ev_lon s0.toNatClampNeg) = (M.1 81 8)) → ((¬ M.1 81 1 = 0 ∧ ev_isT (M.1 81 1).toNatClampNeg) ∧ ((puOK M (M.1 81 1).toNatClampNeg) ∧ (∀ M3 : ev_Mem, M3 = putM M (M.1 81 1).toNatClampNeg ((2 : Int32) ||| (s0 <<< (5 &&& 31))) → (∃ Q2 : Option Value → ev_Mem → Prop, Cl LX d mX4_advance [.ref 81] M3 Q2 ∧ ∀ (zr : Option Value) (zM : ev_Mem), Q2 zr zM → Ev LX (d + 1) mX4_readName 68 [none, none] (zr.toList ++ []) zM Q))))) ∧ ((¬ (ev_lon s0.toNatClampNeg) = (M.1 81 8)) → (∀ M4 : ev_Mem, M4 = flM M (5 : Int32) → (Q (some (.int 0)) M4))))))))) ∧ ((¬ s0 < 12) → (∀ M5 : ev_Mem, M5 = flM M (1 : Int32) → (Q (some (.int 0)) M5))))))) : Ev LX (d + 1) mX4_readName 6 [some (.ref 81), none] [(.int s0)] M Q := by
  refine ev_istore_n (ls2 := [some (.ref 81), some (.int s0)]) dX4_readName_6 (Nat.le_of_ble_eq_true rfl) rfl ?_
  refine ev_iload_n dX4_readName_7 rfl ?_
  refine ev_if_lt (tgt := 19) dX4_readName_8 (by decide) (fun c => ?_) (fun c => ?_)
  · replace h := h.1 c
    refine ev_aload_n dX4_readName_19 rfl ?_
    refine ev_iconst (v := 1) dX4_readName_20 (by decide) ?_
    refine ev_callV [.int 1] dX4_readName_21 ml_WithoutE_Reader_79 lx_81 rfl rfl (Nat.le_of_ble_eq_true rfl) (kX4_fail) ?_
    rintro zr zM ⟨q1, q2⟩
    rw [q1, q2]
    generalize eM1 : flM M (1 : Int32) = M1
    replace h := h M1 eM1.symm
    show Ev LX (d + 1) mX4_readName 24 [some (.ref 81), some (.int s0)] [(.int 0)] M1 Q
    exact ev_zret dX4_readName_24 rfl (by decide) h
  · replace h := h.2 c
    refine ev_iload_n dX4_readName_11 rfl ?_
    refine ev_gs_lon dX4_readName_12 rfl ?_
    refine ev_gl_lon dX4_readName_15 ?_
    refine ev_icmp_lt (tgt := 25) dX4_readName_16 (by decide) (fun c => ?_) (fun c => ?_)
    · replace h := h.1 c
      refine ev_gs_lon dX4_readName_25 rfl ?_
      refine ev_iload_n dX4_readName_28 rfl ?_
      obtain ⟨c, h⟩ := h
      refine ev_ga_lon dX4_readName_29 c ?_
      refine ev_iconst (v := -1) dX4_readName_30 (by decide) ?_
      refine ev_icmp_eq (tgt := 52) dX4_readName_31 (by decide) (fun c => ?_) (fun c => ?_)
      · replace h := h.1 c
        refine ev_aload_n dX4_readName_52 rfl ?_
        obtain ⟨⟨c, t1⟩, h⟩ := h
        refine ev_getD dX4_readName_53 fl_WithoutE_Reader_19 lx_81 rfl c ?_
        refine ev_iconst (v := 2) dX4_readName_56 (by decide) ?_
        refine ev_iload_n dX4_readName_57 rfl ?_
        refine ev_iconst (v := 5) dX4_readName_58 (by decide) ?_
        refine ev_ishl dX4_readName_59 ?_
        refine ev_ior dX4_readName_60 ?_
        obtain ⟨p1, h⟩ := h
        refine ev_callV [.int ((2 : Int32) ||| (s0 <<< (5 &&& 31)))] dX4_readName_61 ml_WithoutE_Reader_144 (lx_T t1) rfl rfl (Nat.le_of_ble_eq_true rfl) (kX8_put p1) ?_
        rintro zr zM ⟨q1, q2⟩
        rw [q1, q2]
        generalize eM2 : putM M (M.1 81 1).toNatClampNeg ((2 : Int32) ||| (s0 <<< (5 &&& 31))) = M2
        replace h := h M2 eM2.symm
        show Ev LX (d + 1) mX4_readName 64 [some (.ref 81), some (.int s0)] [] M2 Q
        refine ev_aload_n dX4_readName_64 rfl ?_
        obtain ⟨Q2, hc, h⟩ := h
        refine ev_callV [] dX4_readName_65 ml_WithoutE_Reader_38 lx_81 rfl rfl (Nat.le_of_ble_eq_true rfl) hc (fun zr zM q => ?_)
        refine Ev.weak (ls := [none, none]) trivial ?_
        exact h zr zM q
      · replace h := h.2 c
        refine ev_gs_lon dX4_readName_34 rfl ?_
        refine ev_iload_n dX4_readName_37 rfl ?_
        obtain ⟨c, h⟩ := h
        refine ev_ga_lon dX4_readName_38 c ?_
        refine ev_aload_n dX4_readName_39 rfl ?_
        refine ev_getI dX4_readName_40 fl_WithoutE_Reader_99 lx_81 rfl ?_
        refine ev_icmp_eq (tgt := 52) dX4_readName_43 (by decide) (fun c => ?_) (fun c => ?_)
        · replace h := h.1 c
          refine ev_aload_n dX4_readName_52 rfl ?_
          obtain ⟨⟨c, t2⟩, h⟩ := h
          refine ev_getD dX4_readName_53 fl_WithoutE_Reader_19 lx_81 rfl c ?_
          refine ev_iconst (v := 2) dX4_readName_56 (by decide) ?_
          refine ev_iload_n dX4_readName_57 rfl ?_
          refine ev_iconst (v := 5) dX4_readName_58 (by decide) ?_
          refine ev_ishl dX4_readName_59 ?_
          refine ev_ior dX4_readName_60 ?_
          obtain ⟨p1, h⟩ := h
          refine ev_callV [.int ((2 : Int32) ||| (s0 <<< (5 &&& 31)))] dX4_readName_61 ml_WithoutE_Reader_144 (lx_T t2) rfl rfl (Nat.le_of_ble_eq_true rfl) (kX8_put p1) ?_
          rintro zr zM ⟨q1, q2⟩
          rw [q1, q2]
          generalize eM3 : putM M (M.1 81 1).toNatClampNeg ((2 : Int32) ||| (s0 <<< (5 &&& 31))) = M3
          replace h := h M3 eM3.symm
          show Ev LX (d + 1) mX4_readName 64 [some (.ref 81), some (.int s0)] [] M3 Q
          refine ev_aload_n dX4_readName_64 rfl ?_
          obtain ⟨Q2, hc, h⟩ := h
          refine ev_callV [] dX4_readName_65 ml_WithoutE_Reader_38 lx_81 rfl rfl (Nat.le_of_ble_eq_true rfl) hc (fun zr zM q => ?_)
          refine Ev.weak (ls := [none, none]) trivial ?_
          exact h zr zM q
        · replace h := h.2 c
          refine ev_aload_n dX4_readName_46 rfl ?_
          refine ev_iconst (v := 5) dX4_readName_47 (by decide) ?_
          refine ev_callV [.int 5] dX4_readName_48 ml_WithoutE_Reader_79 lx_81 rfl rfl (Nat.le_of_ble_eq_true rfl) (kX4_fail) ?_
          rintro zr zM ⟨q1, q2⟩
          rw [q1, q2]
          generalize eM4 : flM M (5 : Int32) = M4
          replace h := h M4 eM4.symm
          show Ev LX (d + 1) mX4_readName 51 [some (.ref 81), some (.int s0)] [(.int 0)] M4 Q
          exact ev_zret dX4_readName_51 rfl (by decide) h
    · replace h := h.2 c
      refine ev_aload_n dX4_readName_19 rfl ?_
      refine ev_iconst (v := 1) dX4_readName_20 (by decide) ?_
      refine ev_callV [.int 1] dX4_readName_21 ml_WithoutE_Reader_79 lx_81 rfl rfl (Nat.le_of_ble_eq_true rfl) (kX4_fail) ?_
      rintro zr zM ⟨q1, q2⟩
      rw [q1, q2]
      generalize eM5 : flM M (1 : Int32) = M5
      replace h := h M5 eM5.symm
      show Ev LX (d + 1) mX4_readName 24 [some (.ref 81), some (.int s0)] [(.int 0)] M5 Q
      exact ev_zret dX4_readName_24 rfl (by decide) h
theorem gX4_readName_68 {d : Nat} {M : ev_Mem} {Q : Option Value → ev_Mem → Prop} (h : (Q (some (.int 1)) M)) : Ev LX d mX4_readName 68 [none, none] [] M Q := by
  refine ev_iconst (v := 1) dX4_readName_68 (by decide) ?_
  exact ev_zret dX4_readName_69 rfl (by decide) h
theorem dX4_readOne_0 : decode cX4_readOne 0 = .ok (.aload_n 0, 1) := by decide +kernel
theorem dX4_readOne_1 : decode cX4_readOne 1 = .ok (.getfield 41, 3) := by decide +kernel
theorem dX4_readOne_4 : decode cX4_readOne 4 = .ok (.iconst 2, 1) := by decide +kernel
theorem dX4_readOne_5 : decode cX4_readOne 5 = .ok (.if_icmp .ne 8, 3) := by decide +kernel
theorem dX4_readOne_8 : decode cX4_readOne 8 = .ok (.aload_n 0, 1) := by decide +kernel
theorem dX4_readOne_9 : decode cX4_readOne 9 = .ok (.invokevirtual 166, 3) := by decide +kernel
theorem dX4_readOne_12 : decode cX4_readOne 12 = .ok (.ireturn, 1) := by decide +kernel
theorem dX4_readOne_13 : decode cX4_readOne 13 = .ok (.aload_n 0, 1) := by decide +kernel
theorem dX4_readOne_14 : decode cX4_readOne 14 = .ok (.getfield 41, 3) := by decide +kernel
theorem dX4_readOne_17 : decode cX4_readOne 17 = .ok (.bipush 40, 2) := by decide +kernel
theorem dX4_readOne_19 : decode cX4_readOne 19 = .ok (.if_icmp .ne 36, 3) := by decide +kernel
theorem dX4_readOne_22 : decode cX4_readOne 22 = .ok (.aload_n 0, 1) := by decide +kernel
theorem dX4_readOne_23 : decode cX4_readOne 23 = .ok (.iload_n 1, 1) := by decide +kernel
theorem dX4_readOne_24 : decode cX4_readOne 24 = .ok (.invokevirtual 169, 3) := by decide +kernel
theorem dX4_readOne_27 : decode cX4_readOne 27 = .ok (.ifCond .eq 26, 3) := by decide +kernel
theorem dX4_readOne_30 : decode cX4_readOne 30 = .ok (.aload_n 0, 1) := by decide +kernel
theorem dX4_readOne_31 : decode cX4_readOne 31 = .ok (.iload_n 1, 1) := by decide +kernel
theorem dX4_readOne_32 : decode cX4_readOne 32 = .ok (.iconst 1, 1) := by decide +kernel
theorem dX4_readOne_33 : decode cX4_readOne 33 = .ok (.iadd, 1) := by decide +kernel
theorem dX4_readOne_34 : decode cX4_readOne 34 = .ok (.invokevirtual 102, 3) := by decide +kernel
theorem dX4_readOne_37 : decode cX4_readOne 37 = .ok (.ifCond .eq 16, 3) := by decide +kernel
theorem dX4_readOne_40 : decode cX4_readOne 40 = .ok (.aload_n 0, 1) := by decide +kernel
theorem dX4_readOne_41 : decode cX4_readOne 41 = .ok (.bipush 41, 2) := by decide +kernel
theorem dX4_readOne_43 : decode cX4_readOne 43 = .ok (.invokevirtual 111, 3) := by decide +kernel
theorem dX4_readOne_46 : decode cX4_readOne 46 = .ok (.ifCond .eq 7, 3) := by decide +kernel
theorem dX4_readOne_49 : decode cX4_readOne 49 = .ok (.iconst 1, 1) := by decide +kernel
theorem dX4_readOne_50 : decode cX4_readOne 50 = .ok (.goto 4, 3) := by decide +kernel
theorem dX4_readOne_53 : decode cX4_readOne 53 = .ok (.iconst 0, 1) := by decide +kernel
theorem dX4_readOne_54 : decode cX4_readOne 54 = .ok (.ireturn, 1) := by decide +kernel
theorem dX4_readOne_55 : decode cX4_readOne 55 = .ok (.aload_n 0, 1) := by decide +kernel
theorem dX4_readOne_56 : decode cX4_readOne 56 = .ok (.getfield 41, 3) := by decide +kernel
theorem dX4_readOne_59 : decode cX4_readOne 59 = .ok (.bipush 45, 2) := by decide +kernel
theorem dX4_readOne_61 : decode cX4_readOne 61 = .ok (.if_icmp .ne 35, 3) := by decide +kernel
theorem dX4_readOne_64 : decode cX4_readOne 64 = .ok (.aload_n 0, 1) := by decide +kernel
theorem dX4_readOne_65 : decode cX4_readOne 65 = .ok (.iload_n 1, 1) := by decide +kernel
theorem dX4_readOne_66 : decode cX4_readOne 66 = .ok (.invokevirtual 169, 3) := by decide +kernel
theorem dX4_readOne_69 : decode cX4_readOne 69 = .ok (.ifCond .eq 25, 3) := by decide +kernel
theorem dX4_readOne_72 : decode cX4_readOne 72 = .ok (.aload_n 0, 1) := by decide +kernel
theorem dX4_readOne_73 : decode cX4_readOne 73 = .ok (.iload_n 1, 1) := by decide +kernel
theorem dX4_readOne_74 : decode cX4_readOne 74 = .ok (.iconst 1, 1) := by decide +kernel
theorem dX4_readOne_75 : decode cX4_readOne 75 = .ok (.iadd, 1) := by decide +kernel
theorem dX4_readOne_76 : decode cX4_readOne 76 = .ok (.invokevirtual 163, 3) := by decide +kernel
theorem dX4_readOne_79 : decode cX4_readOne 79 = .ok (.ifCond .eq 15, 3) := by decide +kernel
theorem dX4_readOne_82 : decode cX4_readOne 82 = .ok (.aload_n 0, 1) := by decide +kernel
theorem dX4_readOne_83 : decode cX4_readOne 83 = .ok (.iconst 3, 1) := by decide +kernel
theorem dX4_readOne_84 : decode cX4_readOne 84 = .ok (.invokevirtual 105, 3) := by decide +kernel
theorem dX4_readOne_87 : decode cX4_readOne 87 = .ok (.ifCond .eq 7, 3) := by decide +kernel
theorem dX4_readOne_90 : decode cX4_readOne 90 = .ok (.iconst 1, 1) := by decide +kernel
theorem dX4_readOne_91 : decode cX4_readOne 91 = .ok (.goto 4, 3) := by decide +kernel
theorem dX4_readOne_94 : decode cX4_readOne 94 = .ok (.iconst 0, 1) := by decide +kernel
theorem dX4_readOne_95 : decode cX4_readOne 95 = .ok (.ireturn, 1) := by decide +kernel
theorem dX4_readOne_96 : decode cX4_readOne 96 = .ok (.aload_n 0, 1) := by decide +kernel
theorem dX4_readOne_97 : decode cX4_readOne 97 = .ok (.ldc 172, 2) := by decide +kernel
theorem dX4_readOne_99 : decode cX4_readOne 99 = .ok (.invokevirtual 82, 3) := by decide +kernel
theorem dX4_readOne_102 : decode cX4_readOne 102 = .ok (.ifCond .eq 35, 3) := by decide +kernel
theorem dX4_readOne_105 : decode cX4_readOne 105 = .ok (.aload_n 0, 1) := by decide +kernel
theorem dX4_readOne_106 : decode cX4_readOne 106 = .ok (.iload_n 1, 1) := by decide +kernel
theorem dX4_readOne_107 : decode cX4_readOne 107 = .ok (.invokevirtual 169, 3) := by decide +kernel
theorem dX4_readOne_110 : decode cX4_readOne 110 = .ok (.ifCond .eq 25, 3) := by decide +kernel
theorem dX4_readOne_113 : decode cX4_readOne 113 = .ok (.aload_n 0, 1) := by decide +kernel
theorem dX4_readOne_114 : decode cX4_readOne 114 = .ok (.iload_n 1, 1) := by decide +kernel
theorem dX4_readOne_115 : decode cX4_readOne 115 = .ok (.iconst 1, 1) := by decide +kernel
theorem dX4_readOne_116 : decode cX4_readOne 116 = .ok (.iadd, 1) := by decide +kernel
theorem dX4_readOne_117 : decode cX4_readOne 117 = .ok (.invokevirtual 163, 3) := by decide +kernel
theorem dX4_readOne_120 : decode cX4_readOne 120 = .ok (.ifCond .eq 15, 3) := by decide +kernel
theorem dX4_readOne_123 : decode cX4_readOne 123 = .ok (.aload_n 0, 1) := by decide +kernel
theorem dX4_readOne_124 : decode cX4_readOne 124 = .ok (.iconst 4, 1) := by decide +kernel
theorem dX4_readOne_125 : decode cX4_readOne 125 = .ok (.invokevirtual 105, 3) := by decide +kernel
theorem dX4_readOne_128 : decode cX4_readOne 128 = .ok (.ifCond .eq 7, 3) := by decide +kernel
theorem dX4_readOne_131 : decode cX4_readOne 131 = .ok (.iconst 1, 1) := by decide +kernel
theorem dX4_readOne_132 : decode cX4_readOne 132 = .ok (.goto 4, 3) := by decide +kernel
theorem dX4_readOne_135 : decode cX4_readOne 135 = .ok (.iconst 0, 1) := by decide +kernel
theorem dX4_readOne_136 : decode cX4_readOne 136 = .ok (.ireturn, 1) := by decide +kernel
theorem dX4_readOne_137 : decode cX4_readOne 137 = .ok (.aload_n 0, 1) := by decide +kernel
theorem dX4_readOne_138 : decode cX4_readOne 138 = .ok (.ldc 174, 2) := by decide +kernel
theorem dX4_readOne_140 : decode cX4_readOne 140 = .ok (.invokevirtual 82, 3) := by decide +kernel
theorem dX4_readOne_143 : decode cX4_readOne 143 = .ok (.ifCond .eq 27, 3) := by decide +kernel
theorem dX4_readOne_146 : decode cX4_readOne 146 = .ok (.aload_n 0, 1) := by decide +kernel
theorem dX4_readOne_147 : decode cX4_readOne 147 = .ok (.iload_n 1, 1) := by decide +kernel
theorem dX4_readOne_148 : decode cX4_readOne 148 = .ok (.invokevirtual 169, 3) := by decide +kernel
theorem dX4_readOne_151 : decode cX4_readOne 151 = .ok (.ifCond .eq 17, 3) := by decide +kernel
theorem dX4_readOne_154 : decode cX4_readOne 154 = .ok (.aload_n 0, 1) := by decide +kernel
theorem dX4_readOne_155 : decode cX4_readOne 155 = .ok (.iload_n 1, 1) := by decide +kernel
theorem dX4_readOne_156 : decode cX4_readOne 156 = .ok (.iconst 1, 1) := by decide +kernel
theorem dX4_readOne_157 : decode cX4_readOne 157 = .ok (.iadd, 1) := by decide +kernel
theorem dX4_readOne_158 : decode cX4_readOne 158 = .ok (.invokevirtual 176, 3) := by decide +kernel
theorem dX4_readOne_161 : decode cX4_readOne 161 = .ok (.ifCond .eq 7, 3) := by decide +kernel
theorem dX4_readOne_164 : decode cX4_readOne 164 = .ok (.iconst 1, 1) := by decide +kernel
theorem dX4_readOne_165 : decode cX4_readOne 165 = .ok (.goto 4, 3) := by decide +kernel
theorem dX4_readOne_168 : decode cX4_readOne 168 = .ok (.iconst 0, 1) := by decide +kernel
theorem dX4_readOne_169 : decode cX4_readOne 169 = .ok (.ireturn, 1) := by decide +kernel
theorem dX4_readOne_170 : decode cX4_readOne 170 = .ok (.aload_n 0, 1) := by decide +kernel
theorem dX4_readOne_171 : decode cX4_readOne 171 = .ok (.invokevirtual 179, 3) := by decide +kernel
theorem dX4_readOne_174 : decode cX4_readOne 174 = .ok (.ireturn, 1) := by decide +kernel
theorem gX4_readOne_0 {d : Nat} {M : ev_Mem} {Q : Option Value → ev_Mem → Prop} {x1 : Int32} (h : (((¬ (M.1 81 5) = 2) → (((¬ (M.1 81 5) = 40) → (((¬ (M.1 81 5) = 45) → (∃ Q2 : Option Value → ev_Mem → Prop, Cl LX d mX4_isToken [.ref 81, .ref 1011] M Q2 ∧ ∀ (zr : Option Value) (zM : ev_Mem), Q2 zr zM → Ev LX (d + 1) mX4_readOne 102 [some (.ref 81), some (.int x1)] (zr.toList ++ []) zM Q)) ∧ (((M.1 81 5) = 45) → (∃ Q2 : Option Value → ev_Mem → Prop, Cl LX d mX4_goDeeper [.ref 81, .int x1] M Q2 ∧ ∀ (zr : Option Value) (zM : ev_Mem), Q2 zr zM → Ev LX (d + 1) mX4_readOne 69 [some (.ref 81), some (.int x1)] (zr.toList ++ []) zM Q)))) ∧ (((M.1 81 5) = 40) → (∃ Q2 : Option Value → ev_Mem → Prop, Cl LX d mX4_goDeeper [.ref 81, .int x1] M Q2 ∧ ∀ (zr : Option Value) (zM : ev_Mem), Q2 zr zM → Ev LX (d + 1) mX4_readOne 27 [some (.ref 81), some (.int x1)] (zr.toList ++ []) zM Q)))) ∧ (((M.1 81 5) = 2) → (∃ Q2 : Option Value → ev_Mem → Prop, Cl LX d mX4_readPlainNumber [.ref 81] M Q2 ∧ ∀ (zr : Option Value) (zM : ev_Mem), Q2 zr zM → Ev LX (d + 1) mX4_readOne 12 [none, none] (zr.toList ++ []) zM Q)))) : Ev LX (d + 1) mX4_readOne 0 [some (.ref 81), some (.int x1)] [] M Q := by
  refine ev_aload_n dX4_readOne_0 rfl ?_
  refine ev_getI dX4_readOne_1 fl_WithoutE_Reader_41 lx_81 rfl ?_
  refine ev_iconst (v := 2) dX4_readOne_4 (by decide) ?_
  refine ev_icmp_ne (tgt := 13) dX4_readOne_5 (by decide) (fun c => ?_) (fun c => ?_)
  · replace h := h.1 c
    refine ev_aload_n dX4_readOne_13 rfl ?_
    refine ev_getI dX4_readOne_14 fl_WithoutE_Reader_41 lx_81 rfl ?_
    refine ev_bipush (v := 40) dX4_readOne_17 (by decide) ?_
    refine ev_icmp_ne (tgt := 55) dX4_readOne_19 (by decide) (fun c => ?_) (fun c => ?_)
    · replace h := h.1 c
      refine ev_aload_n dX4_readOne_55 rfl ?_
      refine ev_getI dX4_readOne_56 fl_WithoutE_Reader_41 lx_81 rfl ?_
      refine ev_bipush (v := 45) dX4_readOne_59 (by decide) ?_
      refine ev_icmp_ne (tgt := 96) dX4_readOne_61 (by decide) (fun c => ?_) (fun c => ?_)
      · replace h := h.1 c
        refine ev_aload_n dX4_readOne_96 rfl ?_
        refine ev_ldcS (i := 1) dX4_readOne_97 rfl rfl ?_
        obtain ⟨Q2, hc, h⟩ := h
        refine ev_callV [.ref 1011] dX4_readOne_99 ml_WithoutE_Reader_82 lx_81 rfl rfl (Nat.le_of_ble_eq_true rfl) hc (fun zr zM q => ?_)
        exact h zr zM q
      · replace h := h.2 c
        refine ev_aload_n dX4_readOne_64 rfl ?_
        refine ev_iload_n dX4_readOne_65 rfl ?_
        obtain ⟨Q2, hc, h⟩ := h
        refine ev_callV [.int x1] dX4_readOne_66 ml_WithoutE_Reader_169 lx_81 rfl rfl (Nat.le_of_ble_eq_true rfl) hc (fun zr zM q => ?_)
        exact h zr zM q
    · replace h := h.2 c
      refine ev_aload_n dX4_readOne_22 rfl ?_
      refine ev_iload_n dX4_readOne_23 rfl ?_
      obtain ⟨Q2, hc, h⟩ := h
      refine ev_callV [.int x1] dX4_readOne_24 ml_WithoutE_Reader_169 lx_81 rfl rfl (Nat.le_of_ble_eq_true rfl) hc (fun zr zM q => ?_)
      exact h zr zM q
  · replace h := h.2 c
    refine ev_aload_n dX4_readOne_8 rfl ?_
    obtain ⟨Q2, hc, h⟩ := h
    refine ev_callV [] dX4_readOne_9 ml_WithoutE_Reader_166 lx_81 rfl rfl (Nat.le_of_ble_eq_true rfl) hc (fun zr zM q => ?_)
    refine Ev.weak (ls := [none, none]) trivial ?_
    exact h zr zM q
theorem gX4_readOne_102 {d : Nat} {M : ev_Mem} {Q : Option Value → ev_Mem → Prop} {x1 s0 : Int32} (h : (((s0 = 0) → (∃ Q2 : Option Value → ev_Mem → Prop, Cl LX d mX4_isToken [.ref 81, .ref 1012] M Q2 ∧ ∀ (zr : Option Value) (zM : ev_Mem), Q2 zr zM → Ev LX (d + 1) mX4_readOne 143 [some (.ref 81), some (.int x1)] (zr.toList ++ []) zM Q)) ∧ ((¬ s0 = 0) → (∃ Q2 : Option Value → ev_Mem → Prop, Cl LX d mX4_goDeeper [.ref 81, .int x1] M Q2 ∧ ∀ (zr : Option Value) (zM : ev_Mem), Q2 zr zM → Ev LX (d + 1) mX4_readOne 110 [some (.ref 81), some (.int x1)] (zr.toList ++ []) zM Q)))) : Ev LX (d + 1) mX4_readOne 102 [some (.ref 81), some (.int x1)] [(.int s0)] M Q := by
  refine ev_if_eq (tgt := 137) dX4_readOne_102 (by decide) (fun c => ?_) (fun c => ?_)
  · replace h := h.1 c
    refine ev_aload_n dX4_readOne_137 rfl ?_
    refine ev_ldcS (i := 2) dX4_readOne_138 rfl rfl ?_
    obtain ⟨Q2, hc, h⟩ := h
    refine ev_callV [.ref 1012] dX4_readOne_140 ml_WithoutE_Reader_82 lx_81 rfl rfl (Nat.le_of_ble_eq_true rfl) hc (fun zr zM q => ?_)
    exact h zr zM q
  · replace h := h.2 c
    refine ev_aload_n dX4_readOne_105 rfl ?_
    refine ev_iload_n dX4_readOne_106 rfl ?_
    obtain ⟨Q2, hc, h⟩ := h
    refine ev_callV [.int x1] dX4_readOne_107 ml_WithoutE_Reader_169 lx_81 rfl rfl (Nat.le_of_ble_eq_true rfl) hc (fun zr zM q => ?_)
    exact h zr zM q
theorem gX4_readOne_69 {d : Nat} {M : ev_Mem} {Q : Option Value → ev_Mem → Prop} {x1 s0 : Int32} (h : (((s0 = 0) → (Q (some (.int 0)) M)) ∧ ((¬ s0 = 0) → (∃ Q2 : Option Value → ev_Mem → Prop, Cl LX d mX4_readOne [.ref 81, .int (x1 + 1)] M Q2 ∧ ∀ (zr : Option Value) (zM : ev_Mem), Q2 zr zM → Ev LX (d + 1) mX4_readOne 79 [some (.ref 81), none] (zr.toList ++ []) zM Q)))) : Ev LX (d + 1) mX4_readOne 69 [some (.ref 81), some (.int x1)] [(.int s0)] M Q := by
  refine ev_if_eq (tgt := 94) dX4_readOne_69 (by decide) (fun c => ?_) (fun c => ?_)
  · replace h := h.1 c
    refine ev_iconst (v := 0) dX4_readOne_94 (by decide) ?_
    exact ev_zret dX4_readOne_95 rfl (by decide) h
  · replace h := h.2 c
    refine ev_aload_n dX4_readOne_72 rfl ?_
    refine ev_iload_n dX4_readOne_73 rfl ?_
    refine ev_iconst (v := 1) dX4_readOne_74 (by decide) ?_
    refine ev_iadd dX4_readOne_75 ?_
    obtain ⟨Q2, hc, h⟩ := h
    refine ev_callV [.int (x1 + 1)] dX4_readOne_76 ml_WithoutE_Reader_163 lx_81 rfl rfl (Nat.le_of_ble_eq_true rfl) hc (fun zr zM q => ?_)
    refine Ev.weak (ls := [some (.ref 81), none]) ⟨rfl, trivial⟩ ?_
    exact h zr zM q
theorem gX4_readOne_27 {d : Nat} {M : ev_Mem} {Q : Option Value → ev_Mem → Prop} {x1 s0 : Int32} (h : (((s0 = 0) → (Q (some (.int 0)) M)) ∧ ((¬ s0 = 0) → (∃ Q2 : Option Value → ev_Mem → Prop, Cl LX d mX4_readSum [.ref 81, .int (x1 + 1)] M Q2 ∧ ∀ (zr : Option Value) (zM : ev_Mem), Q2 zr zM → Ev LX (d + 1) mX4_readOne 37 [some (.ref 81), none] (zr.toList ++ []) zM Q)))) : Ev LX (d + 1) mX4_readOne 27 [some (.ref 81), some (.int x1)] [(.int s0)] M Q := by
  refine ev_if_eq (tgt := 53) dX4_readOne_27 (by decide) (fun c => ?_) (fun c => ?_)
  · replace h := h.1 c
    refine ev_iconst (v := 0) dX4_readOne_53 (by decide) ?_
    exact ev_zret dX4_readOne_54 rfl (by decide) h
  · replace h := h.2 c
    refine ev_aload_n dX4_readOne_30 rfl ?_
    refine ev_iload_n dX4_readOne_31 rfl ?_
    refine ev_iconst (v := 1) dX4_readOne_32 (by decide) ?_
    refine ev_iadd dX4_readOne_33 ?_
    obtain ⟨Q2, hc, h⟩ := h
    refine ev_callV [.int (x1 + 1)] dX4_readOne_34 ml_WithoutE_Reader_102 lx_81 rfl rfl (Nat.le_of_ble_eq_true rfl) hc (fun zr zM q => ?_)
    refine Ev.weak (ls := [some (.ref 81), none]) ⟨rfl, trivial⟩ ?_
    exact h zr zM q
theorem gX4_readOne_12 {d : Nat} {M : ev_Mem} {Q : Option Value → ev_Mem → Prop} {s0 : Int32} (h : (narrow .boolean (.int s0) = .int s0 ∧ (Q (some (.int s0)) M))) : Ev LX d mX4_readOne 12 [none, none] [(.int s0)] M Q := by
  obtain ⟨c, h⟩ := h
  exact ev_zret dX4_readOne_12 rfl c h
theorem gX4_readOne_143 {d : Nat} {M : ev_Mem} {Q : Option Value → ev_Mem → Prop} {x1 s0 : Int32} (h : (((s0 = 0) → (∃ Q2 : Option Value → ev_Mem → Prop, Cl LX d mX4_readName [.ref 81] M Q2 ∧ ∀ (zr : Option Value) (zM : ev_Mem), Q2 zr zM → Ev LX (d + 1) mX4_readOne 174 [none, none] (zr.toList ++ []) zM Q)) ∧ ((¬ s0 = 0) → (∃ Q2 : Option Value → ev_Mem → Prop, Cl LX d mX4_goDeeper [.ref 81, .int x1] M Q2 ∧ ∀ (zr : Option Value) (zM : ev_Mem), Q2 zr zM → Ev LX (d + 1) mX4_readOne 151 [some (.ref 81), some (.int x1)] (zr.toList ++ []) zM Q)))) : Ev LX (d + 1) mX4_readOne 143 [some (.ref 81), some (.int x1)] [(.int s0)] M Q := by
  refine ev_if_eq (tgt := 170) dX4_readOne_143 (by decide) (fun c => ?_) (fun c => ?_)
  · replace h := h.1 c
    refine ev_aload_n dX4_readOne_170 rfl ?_
    obtain ⟨Q2, hc, h⟩ := h
    refine ev_callV [] dX4_readOne_171 ml_WithoutE_Reader_179 lx_81 rfl rfl (Nat.le_of_ble_eq_true rfl) hc (fun zr zM q => ?_)
    refine Ev.weak (ls := [none, none]) trivial ?_
    exact h zr zM q
  · replace h := h.2 c
    refine ev_aload_n dX4_readOne_146 rfl ?_
    refine ev_iload_n dX4_readOne_147 rfl ?_
    obtain ⟨Q2, hc, h⟩ := h
    refine ev_callV [.int x1] dX4_readOne_148 ml_WithoutE_Reader_169 lx_81 rfl rfl (Nat.le_of_ble_eq_true rfl) hc (fun zr zM q => ?_)
    exact h zr zM q
theorem gX4_readOne_110 {d : Nat} {M : ev_Mem} {Q : Option Value → ev_Mem → Prop} {x1 s0 : Int32} (h : (((s0 = 0) → (Q (some (.int 0)) M)) ∧ ((¬ s0 = 0) → (∃ Q2 : Option Value → ev_Mem → Prop, Cl LX d mX4_readOne [.ref 81, .int (x1 + 1)] M Q2 ∧ ∀ (zr : Option Value) (zM : ev_Mem), Q2 zr zM → Ev LX (d + 1) mX4_readOne 120 [some (.ref 81), none] (zr.toList ++ []) zM Q)))) : Ev LX (d + 1) mX4_readOne 110 [some (.ref 81), some (.int x1)] [(.int s0)] M Q := by
  refine ev_if_eq (tgt := 135) dX4_readOne_110 (by decide) (fun c => ?_) (fun c => ?_)
  · replace h := h.1 c
    refine ev_iconst (v := 0) dX4_readOne_135 (by decide) ?_
    exact ev_zret dX4_readOne_136 rfl (by decide) h
  · replace h := h.2 c
    refine ev_aload_n dX4_readOne_113 rfl ?_
    refine ev_iload_n dX4_readOne_114 rfl ?_
    refine ev_iconst (v := 1) dX4_readOne_115 (by decide) ?_
    refine ev_iadd dX4_readOne_116 ?_
    obtain ⟨Q2, hc, h⟩ := h
    refine ev_callV [.int (x1 + 1)] dX4_readOne_117 ml_WithoutE_Reader_163 lx_81 rfl rfl (Nat.le_of_ble_eq_true rfl) hc (fun zr zM q => ?_)
    refine Ev.weak (ls := [some (.ref 81), none]) ⟨rfl, trivial⟩ ?_
    exact h zr zM q
theorem gX4_readOne_79 {d : Nat} {M : ev_Mem} {Q : Option Value → ev_Mem → Prop} {s0 : Int32} (h : (((s0 = 0) → (Q (some (.int 0)) M)) ∧ ((¬ s0 = 0) → (∃ Q2 : Option Value → ev_Mem → Prop, Cl LX d mX4_putOp [.ref 81, .int 3] M Q2 ∧ ∀ (zr : Option Value) (zM : ev_Mem), Q2 zr zM → Ev LX (d + 1) mX4_readOne 87 [none, none] (zr.toList ++ []) zM Q)))) : Ev LX (d + 1) mX4_readOne 79 [some (.ref 81), none] [(.int s0)] M Q := by
  refine ev_if_eq (tgt := 94) dX4_readOne_79 (by decide) (fun c => ?_) (fun c => ?_)
  · replace h := h.1 c
    refine ev_iconst (v := 0) dX4_readOne_94 (by decide) ?_
    exact ev_zret dX4_readOne_95 rfl (by decide) h
  · replace h := h.2 c
    refine ev_aload_n dX4_readOne_82 rfl ?_
    refine ev_iconst (v := 3) dX4_readOne_83 (by decide) ?_
    obtain ⟨Q2, hc, h⟩ := h
    refine ev_callV [.int 3] dX4_readOne_84 ml_WithoutE_Reader_105 lx_81 rfl rfl (Nat.le_of_ble_eq_true rfl) hc (fun zr zM q => ?_)
    refine Ev.weak (ls := [none, none]) trivial ?_
    exact h zr zM q
theorem gX4_readOne_37 {d : Nat} {M : ev_Mem} {Q : Option Value → ev_Mem → Prop} {s0 : Int32} (h : (((s0 = 0) → (Q (some (.int 0)) M)) ∧ ((¬ s0 = 0) → (∃ Q2 : Option Value → ev_Mem → Prop, Cl LX d mX4_expectSign [.ref 81, .int 41] M Q2 ∧ ∀ (zr : Option Value) (zM : ev_Mem), Q2 zr zM → Ev LX (d + 1) mX4_readOne 46 [none, none] (zr.toList ++ []) zM Q)))) : Ev LX (d + 1) mX4_readOne 37 [some (.ref 81), none] [(.int s0)] M Q := by
  refine ev_if_eq (tgt := 53) dX4_readOne_37 (by decide) (fun c => ?_) (fun c => ?_)
  · replace h := h.1 c
    refine ev_iconst (v := 0) dX4_readOne_53 (by decide) ?_
    exact ev_zret dX4_readOne_54 rfl (by decide) h
  · replace h := h.2 c
    refine ev_aload_n dX4_readOne_40 rfl ?_
    refine ev_bipush (v := 41) dX4_readOne_41 (by decide) ?_
    obtain ⟨Q2, hc, h⟩ := h
    refine ev_callV [.int 41] dX4_readOne_43 ml_WithoutE_Reader_111 lx_81 rfl rfl (Nat.le_of_ble_eq_true rfl) hc (fun zr zM q => ?_)
    refine Ev.weak (ls := [none, none]) trivial ?_
    exact h zr zM q
theorem gX4_readOne_174 {d : Nat} {M : ev_Mem} {Q : Option Value → ev_Mem → Prop} {s0 : Int32} (h : (narrow .boolean (.int s0) = .int s0 ∧ (Q (some (.int s0)) M))) : Ev LX d mX4_readOne 174 [none, none] [(.int s0)] M Q := by
  obtain ⟨c, h⟩ := h
  exact ev_zret dX4_readOne_174 rfl c h
theorem gX4_readOne_151 {d : Nat} {M : ev_Mem} {Q : Option Value → ev_Mem → Prop} {x1 s0 : Int32} (h : (((s0 = 0) → (Q (some (.int 0)) M)) ∧ ((¬ s0 = 0) → (∃ Q2 : Option Value → ev_Mem → Prop, Cl LX d mX4_readChoice [.ref 81, .int (x1 + 1)] M Q2 ∧ ∀ (zr : Option Value) (zM : ev_Mem), Q2 zr zM → Ev LX (d + 1) mX4_readOne 161 [none, none] (zr.toList ++ []) zM Q)))) : Ev LX (d + 1) mX4_readOne 151 [some (.ref 81), some (.int x1)] [(.int s0)] M Q := by
  refine ev_if_eq (tgt := 168) dX4_readOne_151 (by decide) (fun c => ?_) (fun c => ?_)
  · replace h := h.1 c
    refine ev_iconst (v := 0) dX4_readOne_168 (by decide) ?_
    exact ev_zret dX4_readOne_169 rfl (by decide) h
  · replace h := h.2 c
    refine ev_aload_n dX4_readOne_154 rfl ?_
    refine ev_iload_n dX4_readOne_155 rfl ?_
    refine ev_iconst (v := 1) dX4_readOne_156 (by decide) ?_
    refine ev_iadd dX4_readOne_157 ?_
    obtain ⟨Q2, hc, h⟩ := h
    refine ev_callV [.int (x1 + 1)] dX4_readOne_158 ml_WithoutE_Reader_176 lx_81 rfl rfl (Nat.le_of_ble_eq_true rfl) hc (fun zr zM q => ?_)
    refine Ev.weak (ls := [none, none]) trivial ?_
    exact h zr zM q
theorem gX4_readOne_120 {d : Nat} {M : ev_Mem} {Q : Option Value → ev_Mem → Prop} {s0 : Int32} (h : (((s0 = 0) → (Q (some (.int 0)) M)) ∧ ((¬ s0 = 0) → (∃ Q2 : Option Value → ev_Mem → Prop, Cl LX d mX4_putOp [.ref 81, .int 4] M Q2 ∧ ∀ (zr : Option Value) (zM : ev_Mem), Q2 zr zM → Ev LX (d + 1) mX4_readOne 128 [none, none] (zr.toList ++ []) zM Q)))) : Ev LX (d + 1) mX4_readOne 120 [some (.ref 81), none] [(.int s0)] M Q := by
  refine ev_if_eq (tgt := 135) dX4_readOne_120 (by decide) (fun c => ?_) (fun c => ?_)
  · replace h := h.1 c
    refine ev_iconst (v := 0) dX4_readOne_135 (by decide) ?_
    exact ev_zret dX4_readOne_136 rfl (by decide) h
  · replace h := h.2 c
    refine ev_aload_n dX4_readOne_123 rfl ?_
    refine ev_iconst (v := 4) dX4_readOne_124 (by decide) ?_
    obtain ⟨Q2, hc, h⟩ := h
    refine ev_callV [.int 4] dX4_readOne_125 ml_WithoutE_Reader_105 lx_81 rfl rfl (Nat.le_of_ble_eq_true rfl) hc (fun zr zM q => ?_)
    refine Ev.weak (ls := [none, none]) trivial ?_
    exact h zr zM q
theorem gX4_readOne_87 {d : Nat} {M : ev_Mem} {Q : Option Value → ev_Mem → Prop} {s0 : Int32} (h : (((s0 = 0) → (Q (some (.int 0)) M)) ∧ ((¬ s0 = 0) → (Q (some (.int 1)) M)))) : Ev LX d mX4_readOne 87 [none, none] [(.int s0)] M Q := by
  refine ev_if_eq (tgt := 94) dX4_readOne_87 (by decide) (fun c => ?_) (fun c => ?_)
  · replace h := h.1 c
    refine ev_iconst (v := 0) dX4_readOne_94 (by decide) ?_
    exact ev_zret dX4_readOne_95 rfl (by decide) h
  · replace h := h.2 c
    refine ev_iconst (v := 1) dX4_readOne_90 (by decide) ?_
    refine ev_goto (tgt := 95) dX4_readOne_91 (by decide) ?_
    exact ev_zret dX4_readOne_95 rfl (by decide) h
theorem gX4_readOne_46 {d : Nat} {M : ev_Mem} {Q : Option Value → ev_Mem → Prop} {s0 : Int32} (h : (((s0 = 0) → (Q (some (.int 0)) M)) ∧ ((¬ s0 = 0) → (Q (some (.int 1)) M)))) : Ev LX d mX4_readOne 46 [none, none] [(.int s0)] M Q := by
  refine ev_if_eq (tgt := 53) dX4_readOne_46 (by decide) (fun c => ?_) (fun c => ?_)
  · replace h := h.1 c
    refine ev_iconst (v := 0) dX4_readOne_53 (by decide) ?_
    exact ev_zret dX4_readOne_54 rfl (by decide) h
  · replace h := h.2 c
    refine ev_iconst (v := 1) dX4_readOne_49 (by decide) ?_
    refine ev_goto (tgt := 54) dX4_readOne_50 (by decide) ?_
    exact ev_zret dX4_readOne_54 rfl (by decide) h
theorem gX4_readOne_161 {d : Nat} {M : ev_Mem} {Q : Option Value → ev_Mem → Prop} {s0 : Int32} (h : (((s0 = 0) → (Q (some (.int 0)) M)) ∧ ((¬ s0 = 0) → (Q (some (.int 1)) M)))) : Ev LX d mX4_readOne 161 [none, none] [(.int s0)] M Q := by
  refine ev_if_eq (tgt := 168) dX4_readOne_161 (by decide) (fun c => ?_) (fun c => ?_)
  · replace h := h.1 c
    refine ev_iconst (v := 0) dX4_readOne_168 (by decide) ?_
    exact ev_zret dX4_readOne_169 rfl (by decide) h
  · replace h := h.2 c
    refine ev_iconst (v := 1) dX4_readOne_164 (by decide) ?_
    refine ev_goto (tgt := 169) dX4_readOne_165 (by decide) ?_
    exact ev_zret dX4_readOne_169 rfl (by decide) h
theorem gX4_readOne_128 {d : Nat} {M : ev_Mem} {Q : Option Value → ev_Mem → Prop} {s0 : Int32} (h : (((s0 = 0) → (Q (some (.int 0)) M)) ∧ ((¬ s0 = 0) → (Q (some (.int 1)) M)))) : Ev LX d mX4_readOne 128 [none, none] [(.int s0)] M Q := by
  refine ev_if_eq (tgt := 135) dX4_readOne_128 (by decide) (fun c => ?_) (fun c => ?_)
  · replace h := h.1 c
    refine ev_iconst (v := 0) dX4_readOne_135 (by decide) ?_
    exact ev_zret dX4_readOne_136 rfl (by decide) h
  · replace h := h.2 c
    refine ev_iconst (v := 1) dX4_readOne_131 (by decide) ?_
    refine ev_goto (tgt := 136) dX4_readOne_132 (by decide) ?_
    exact ev_zret dX4_readOne_136 rfl (by decide) h
theorem dX4_readProduct_0 : decode cX4_readProduct 0 = .ok (.aload_n 0, 1) := by decide +kernel
theorem dX4_readProduct_1 : decode cX4_readProduct 1 = .ok (.iload_n 1, 1) := by decide +kernel
theorem dX4_readProduct_2 : decode cX4_readProduct 2 = .ok (.invokevirtual 163, 3) := by decide +kernel
theorem dX4_readProduct_5 : decode cX4_readProduct 5 = .ok (.ifCond .ne 5, 3) := by decide +kernel
theorem dX4_readProduct_8 : decode cX4_readProduct 8 = .ok (.iconst 0, 1) := by decide +kernel
theorem dX4_readProduct_9 : decode cX4_readProduct 9 = .ok (.ireturn, 1) := by decide +kernel
theorem dX4_readProduct_10 : decode cX4_readProduct 10 = .ok (.iconst 0, 1) := by decide +kernel
theorem dX4_readProduct_11 : decode cX4_readProduct 11 = .ok (.istore_n 2, 1) := by decide +kernel
theorem dX4_readProduct_12 : decode cX4_readProduct 12 = .ok (.iload_n 2, 1) := by decide +kernel
theorem dX4_readProduct_13 : decode cX4_readProduct 13 = .ok (.sipush 300, 3) := by decide +kernel
theorem dX4_readProduct_16 : decode cX4_readProduct 16 = .ok (.if_icmp .ge 66, 3) := by decide +kernel
theorem dX4_readProduct_19 : decode cX4_readProduct 19 = .ok (.aload_n 0, 1) := by decide +kernel
theorem dX4_readProduct_20 : decode cX4_readProduct 20 = .ok (.getfield 41, 3) := by decide +kernel
theorem dX4_readProduct_23 : decode cX4_readProduct 23 = .ok (.bipush 42, 2) := by decide +kernel
theorem dX4_readProduct_25 : decode cX4_readProduct 25 = .ok (.if_icmp .eq 12, 3) := by decide +kernel
theorem dX4_readProduct_28 : decode cX4_readProduct 28 = .ok (.aload_n 0, 1) := by decide +kernel
theorem dX4_readProduct_29 : decode cX4_readProduct 29 = .ok (.getfield 41, 3) := by decide +kernel
theorem dX4_readProduct_32 : decode cX4_readProduct 32 = .ok (.bipush 47, 2) := by decide +kernel
theorem dX4_readProduct_34 : decode cX4_readProduct 34 = .ok (.if_icmp .ne 48, 3) := by decide +kernel
theorem dX4_readProduct_37 : decode cX4_readProduct 37 = .ok (.aload_n 0, 1) := by decide +kernel
theorem dX4_readProduct_38 : decode cX4_readProduct 38 = .ok (.getfield 41, 3) := by decide +kernel
theorem dX4_readProduct_41 : decode cX4_readProduct 41 = .ok (.bipush 42, 2) := by decide +kernel
theorem dX4_readProduct_43 : decode cX4_readProduct 43 = .ok (.if_icmp .ne 8, 3) := by decide +kernel
theorem dX4_readProduct_46 : decode cX4_readProduct 46 = .ok (.bipush 10, 2) := by decide +kernel
theorem dX4_readProduct_48 : decode cX4_readProduct 48 = .ok (.goto 5, 3) := by decide +kernel
theorem dX4_readProduct_51 : decode cX4_readProduct 51 = .ok (.bipush 11, 2) := by decide +kernel
theorem dX4_readProduct_53 : decode cX4_readProduct 53 = .ok (.istore_n 3, 1) := by decide +kernel
theorem dX4_readProduct_54 : decode cX4_readProduct 54 = .ok (.aload_n 0, 1) := by decide +kernel
theorem dX4_readProduct_55 : decode cX4_readProduct 55 = .ok (.invokevirtual 38, 3) := by decide +kernel
theorem dX4_readProduct_58 : decode cX4_readProduct 58 = .ok (.aload_n 0, 1) := by decide +kernel
theorem dX4_readProduct_59 : decode cX4_readProduct 59 = .ok (.iload_n 1, 1) := by decide +kernel
theorem dX4_readProduct_60 : decode cX4_readProduct 60 = .ok (.invokevirtual 163, 3) := by decide +kernel
theorem dX4_readProduct_63 : decode cX4_readProduct 63 = .ok (.ifCond .ne 5, 3) := by decide +kernel
theorem dX4_readProduct_66 : decode cX4_readProduct 66 = .ok (.iconst 0, 1) := by decide +kernel
theorem dX4_readProduct_67 : decode cX4_readProduct 67 = .ok (.ireturn, 1) := by decide +kernel
theorem dX4_readProduct_68 : decode cX4_readProduct 68 = .ok (.aload_n 0, 1) := by decide +kernel
theorem dX4_readProduct_69 : decode cX4_readProduct 69 = .ok (.getfield 19, 3) := by decide +kernel
theorem dX4_readProduct_72 : decode cX4_readProduct 72 = .ok (.iload_n 3, 1) := by decide +kernel
theorem dX4_readProduct_73 : decode cX4_readProduct 73 = .ok (.invokevirtual 144, 3) := by decide +kernel
theorem dX4_readProduct_76 : decode cX4_readProduct 76 = .ok (.iinc 2 1, 3) := by decide +kernel
theorem dX4_readProduct_79 : decode cX4_readProduct 79 = .ok (.goto (-67), 3) := by decide +kernel
theorem dX4_readProduct_82 : decode cX4_readProduct 82 = .ok (.iconst 1, 1) := by decide +kernel
theorem dX4_readProduct_83 : decode cX4_readProduct 83 = .ok (.ireturn, 1) := by decide +kernel
theorem gX4_readProduct_0 {d : Nat} {M : ev_Mem} {Q : Option Value → ev_Mem → Prop} {x1 : Int32} (h : (∃ Q2 : Option Value → ev_Mem → Prop, Cl LX d mX4_readOne [.ref 81, .int x1] M Q2 ∧ ∀ (zr : Option Value) (zM : ev_Mem), Q2 zr zM → Ev LX (d + 1) mX4_readProduct 5 [some (.ref 81), some (.int x1), none, none] (zr.toList ++ []) zM Q)) : Ev LX (d + 1) mX4_readProduct 0 [some (.ref 81), some (.int x1), none, none] [] M Q := by
  refine ev_aload_n dX4_readProduct_0 rfl ?_
  refine ev_iload_n dX4_readProduct_1 rfl ?_
  obtain ⟨Q2, hc, h⟩ := h
  refine ev_callV [.int x1] dX4_readProduct_2 ml_WithoutE_Reader_163 lx_81 rfl rfl (Nat.le_of_ble_eq_true rfl) hc (fun zr zM q => ?_)
  exact h zr zM q
theorem gX4_readProduct_5 {d : Nat} {M : ev_Mem} {Q : Option Value → ev_Mem → Prop} {x1 s0 : Int32} (h : (((¬ s0 = 0) → (Ev LX d mX4_readProduct 12 [some (.ref 81), some (.int x1), some (.int 0), none] [] M Q)) ∧ ((s0 = 0) → (Q (some (.int 0)) M)))) : Ev LX d mX4_readProduct 5 [some (.ref 81), some (.int x1), none, none] [(.int s0)] M Q := by
  refine ev_if_ne (tgt := 10) dX4_readProduct_5 (by decide) (fun c => ?_) (fun c => ?_)
  · replace h := h.1 c
    refine ev_iconst (v := 0) dX4_readProduct_10 (by decide) ?_
    refine ev_istore_n (ls2 := [some (.ref 81), some (.int x1), some (.int 0), none]) dX4_readProduct_11 (Nat.le_of_ble_eq_true rfl) rfl ?_
    exact h
  · replace h := h.2 c
    refine ev_iconst (v := 0) dX4_readProduct_8 (by decide) ?_
    exact ev_zret dX4_readProduct_9 rfl (by decide) h
theorem gX4_readProduct_12 {d : Nat} {M : ev_Mem} {Q : Option Value → ev_Mem → Prop} {x1 x2 : Int32} (h : (((300 ≤ x2) → (Q (some (.int 1)) M)) ∧ ((¬ 300 ≤ x2) → ((((M.1 81 5) = 42) → (((¬ (M.1 81 5) = 42) → (∃ Q2 : Option Value → ev_Mem → Prop, Cl LX d mX4_advance [.ref 81] M Q2 ∧ ∀ (zr : Option Value) (zM : ev_Mem), Q2 zr zM → Ev LX (d + 1) mX4_readProduct 58 [some (.ref 81), some (.int x1), some (.int x2), some (.int 11)] (zr.toList ++ []) zM Q)) ∧ (((M.1 81 5) = 42) → (∃ Q2 : Option Value → ev_Mem → Prop, Cl LX d mX4_advance [.ref 81] M Q2 ∧ ∀ (zr : Option Value) (zM : ev_Mem), Q2 zr zM → Ev LX (d + 1) mX4_readProduct 58 [some (.ref 81), some (.int x1), some (.int x2), some (.int 10)] (zr.toList ++ []) zM Q)))) ∧ ((¬ (M.1 81 5) = 42) → (((¬ (M.1 81 5) = 47) → (Q (some (.int 1)) M)) ∧ (((M.1 81 5) = 47) → (((¬ (M.1 81 5) = 42) → (∃ Q2 : Option Value → ev_Mem → Prop, Cl LX d mX4_advance [.ref 81] M Q2 ∧ ∀ (zr : Option Value) (zM : ev_Mem), Q2 zr zM → Ev LX (d + 1) mX4_readProduct 58 [some (.ref 81), some (.int x1), some (.int x2), some (.int 11)] (zr.toList ++ []) zM Q)) ∧ (((M.1 81 5) = 42) → (∃ Q2 : Option Value → ev_Mem → Prop, Cl LX d mX4_advance [.ref 81] M Q2 ∧ ∀ (zr : Option Value) (zM : ev_Mem), Q2 zr zM → Ev LX (d + 1) mX4_readProduct 58 [some (.ref 81), some (.int x1), some (.int x2), some (.int 10)] (zr.toList ++ []) zM Q)))))))))) : Ev LX (d + 1) mX4_readProduct 12 [some (.ref 81), some (.int x1), some (.int x2), none] [] M Q := by
  refine ev_iload_n dX4_readProduct_12 rfl ?_
  refine ev_sipush (v := 300) dX4_readProduct_13 (by decide) ?_
  refine ev_icmp_ge (tgt := 82) dX4_readProduct_16 (by decide) (fun c => ?_) (fun c => ?_)
  · replace h := h.1 c
    refine ev_iconst (v := 1) dX4_readProduct_82 (by decide) ?_
    exact ev_zret dX4_readProduct_83 rfl (by decide) h
  · replace h := h.2 c
    refine ev_aload_n dX4_readProduct_19 rfl ?_
    refine ev_getI dX4_readProduct_20 fl_WithoutE_Reader_41 lx_81 rfl ?_
    refine ev_bipush (v := 42) dX4_readProduct_23 (by decide) ?_
    refine ev_icmp_eq (tgt := 37) dX4_readProduct_25 (by decide) (fun c => ?_) (fun c => ?_)
    · replace h := h.1 c
      refine ev_aload_n dX4_readProduct_37 rfl ?_
      refine ev_getI dX4_readProduct_38 fl_WithoutE_Reader_41 lx_81 rfl ?_
      refine ev_bipush (v := 42) dX4_readProduct_41 (by decide) ?_
      refine ev_icmp_ne (tgt := 51) dX4_readProduct_43 (by decide) (fun c => ?_) (fun c => ?_)
      · replace h := h.1 c
        refine ev_bipush (v := 11) dX4_readProduct_51 (by decide) ?_
        refine ev_istore_n (ls2 := [some (.ref 81), some (.int x1), some (.int x2), some (.int 11)]) dX4_readProduct_53 (Nat.le_of_ble_eq_true rfl) rfl ?_
        refine ev_aload_n dX4_readProduct_54 rfl ?_
        obtain ⟨Q2, hc, h⟩ := h
        refine ev_callV [] dX4_readProduct_55 ml_WithoutE_Reader_38 lx_81 rfl rfl (Nat.le_of_ble_eq_true rfl) hc (fun zr zM q => ?_)
        exact h zr zM q
      · replace h := h.2 c
        refine ev_bipush (v := 10) dX4_readProduct_46 (by decide) ?_
        refine ev_goto (tgt := 53) dX4_readProduct_48 (by decide) ?_
        refine ev_istore_n (ls2 := [some (.ref 81), some (.int x1), some (.int x2), some (.int 10)]) dX4_readProduct_53 (Nat.le_of_ble_eq_true rfl) rfl ?_
        refine ev_aload_n dX4_readProduct_54 rfl ?_
        obtain ⟨Q2, hc, h⟩ := h
        refine ev_callV [] dX4_readProduct_55 ml_WithoutE_Reader_38 lx_81 rfl rfl (Nat.le_of_ble_eq_true rfl) hc (fun zr zM q => ?_)
        exact h zr zM q
    · replace h := h.2 c
      refine ev_aload_n dX4_readProduct_28 rfl ?_
      refine ev_getI dX4_readProduct_29 fl_WithoutE_Reader_41 lx_81 rfl ?_
      refine ev_bipush (v := 47) dX4_readProduct_32 (by decide) ?_
      refine ev_icmp_ne (tgt := 82) dX4_readProduct_34 (by decide) (fun c => ?_) (fun c => ?_)
      · replace h := h.1 c
        refine ev_iconst (v := 1) dX4_readProduct_82 (by decide) ?_
        exact ev_zret dX4_readProduct_83 rfl (by decide) h
      · replace h := h.2 c
        refine ev_aload_n dX4_readProduct_37 rfl ?_
        refine ev_getI dX4_readProduct_38 fl_WithoutE_Reader_41 lx_81 rfl ?_
        refine ev_bipush (v := 42) dX4_readProduct_41 (by decide) ?_
        refine ev_icmp_ne (tgt := 51) dX4_readProduct_43 (by decide) (fun c => ?_) (fun c => ?_)
        · replace h := h.1 c
          refine ev_bipush (v := 11) dX4_readProduct_51 (by decide) ?_
          refine ev_istore_n (ls2 := [some (.ref 81), some (.int x1), some (.int x2), some (.int 11)]) dX4_readProduct_53 (Nat.le_of_ble_eq_true rfl) rfl ?_
          refine ev_aload_n dX4_readProduct_54 rfl ?_
          obtain ⟨Q2, hc, h⟩ := h
          refine ev_callV [] dX4_readProduct_55 ml_WithoutE_Reader_38 lx_81 rfl rfl (Nat.le_of_ble_eq_true rfl) hc (fun zr zM q => ?_)
          exact h zr zM q
        · replace h := h.2 c
          refine ev_bipush (v := 10) dX4_readProduct_46 (by decide) ?_
          refine ev_goto (tgt := 53) dX4_readProduct_48 (by decide) ?_
          refine ev_istore_n (ls2 := [some (.ref 81), some (.int x1), some (.int x2), some (.int 10)]) dX4_readProduct_53 (Nat.le_of_ble_eq_true rfl) rfl ?_
          refine ev_aload_n dX4_readProduct_54 rfl ?_
          obtain ⟨Q2, hc, h⟩ := h
          refine ev_callV [] dX4_readProduct_55 ml_WithoutE_Reader_38 lx_81 rfl rfl (Nat.le_of_ble_eq_true rfl) hc (fun zr zM q => ?_)
          exact h zr zM q
theorem gX4_readProduct_58 {d : Nat} {M : ev_Mem} {Q : Option Value → ev_Mem → Prop} {x1 x2 x3 : Int32} (h : (∃ Q2 : Option Value → ev_Mem → Prop, Cl LX d mX4_readOne [.ref 81, .int x1] M Q2 ∧ ∀ (zr : Option Value) (zM : ev_Mem), Q2 zr zM → Ev LX (d + 1) mX4_readProduct 63 [some (.ref 81), some (.int x1), some (.int x2), some (.int x3)] (zr.toList ++ []) zM Q)) : Ev LX (d + 1) mX4_readProduct 58 [some (.ref 81), some (.int x1), some (.int x2), some (.int x3)] [] M Q := by
  refine ev_aload_n dX4_readProduct_58 rfl ?_
  refine ev_iload_n dX4_readProduct_59 rfl ?_
  obtain ⟨Q2, hc, h⟩ := h
  refine ev_callV [.int x1] dX4_readProduct_60 ml_WithoutE_Reader_163 lx_81 rfl rfl (Nat.le_of_ble_eq_true rfl) hc (fun zr zM q => ?_)
  exact h zr zM q
theorem gX4_readProduct_63 {d : Nat} {M : ev_Mem} {Q : Option Value → ev_Mem → Prop} {x1 x2 x3 s0 : Int32} (h : (((¬ s0 = 0) → ((¬ M.1 81 1 = 0 ∧ ev_isT (M.1 81 1).toNatClampNeg) ∧ ((puOK M (M.1 81 1).toNatClampNeg) ∧ (∀ M1 : ev_Mem, M1 = putM M (M.1 81 1).toNatClampNeg x3 → (Ev LX (d + 1) mX4_readProduct 12 [some (.ref 81), some (.int x1), some (.int (x2 + 1)), none] [] M1 Q))))) ∧ ((s0 = 0) → (Q (some (.int 0)) M)))) : Ev LX (d + 1) mX4_readProduct 63 [some (.ref 81), some (.int x1), some (.int x2), some (.int x3)] [(.int s0)] M Q := by
  refine ev_if_ne (tgt := 68) dX4_readProduct_63 (by decide) (fun c => ?_) (fun c => ?_)
  · replace h := h.1 c
    refine ev_aload_n dX4_readProduct_68 rfl ?_
    obtain ⟨⟨c, t1⟩, h⟩ := h
    refine ev_getD dX4_readProduct_69 fl_WithoutE_Reader_19 lx_81 rfl c ?_
    refine ev_iload_n dX4_readProduct_72 rfl ?_
    obtain ⟨p1, h⟩ := h
    refine ev_callV [.int x3] dX4_readProduct_73 ml_WithoutE_Reader_144 (lx_T t1) rfl rfl (Nat.le_of_ble_eq_true rfl) (kX8_put p1) ?_
    rintro zr zM ⟨q1, q2⟩
    rw [q1, q2]
    generalize eM1 : putM M (M.1 81 1).toNatClampNeg x3 = M1
    replace h := h M1 eM1.symm
    show Ev LX (d + 1) mX4_readProduct 76 [some (.ref 81), some (.int x1), some (.int x2), some (.int x3)] [] M1 Q
    refine ev_iinc (v := x2 + 1) (ls2 := [some (.ref 81), some (.int x1), some (.int (x2 + 1)), some (.int x3)]) dX4_readProduct_76 rfl rfl rfl ?_
    refine ev_goto (tgt := 12) dX4_readProduct_79 (by decide) ?_
    refine Ev.weak (ls := [some (.ref 81), some (.int x1), some (.int (x2 + 1)), none]) ⟨rfl, rfl, rfl, trivial⟩ ?_
    exact h
  · replace h := h.2 c
    refine ev_iconst (v := 0) dX4_readProduct_66 (by decide) ?_
    exact ev_zret dX4_readProduct_67 rfl (by decide) h
theorem dX4_readSum_0 : decode cX4_readSum 0 = .ok (.aload_n 0, 1) := by decide +kernel
theorem dX4_readSum_1 : decode cX4_readSum 1 = .ok (.iload_n 1, 1) := by decide +kernel
theorem dX4_readSum_2 : decode cX4_readSum 2 = .ok (.invokevirtual 160, 3) := by decide +kernel
theorem dX4_readSum_5 : decode cX4_readSum 5 = .ok (.ifCond .ne 5, 3) := by decide +kernel
theorem dX4_readSum_8 : decode cX4_readSum 8 = .ok (.iconst 0, 1) := by decide +kernel
theorem dX4_readSum_9 : decode cX4_readSum 9 = .ok (.ireturn, 1) := by decide +kernel
theorem dX4_readSum_10 : decode cX4_readSum 10 = .ok (.iconst 0, 1) := by decide +kernel
theorem dX4_readSum_11 : decode cX4_readSum 11 = .ok (.istore_n 2, 1) := by decide +kernel
theorem dX4_readSum_12 : decode cX4_readSum 12 = .ok (.iload_n 2, 1) := by decide +kernel
theorem dX4_readSum_13 : decode cX4_readSum 13 = .ok (.sipush 300, 3) := by decide +kernel
theorem dX4_readSum_16 : decode cX4_readSum 16 = .ok (.if_icmp .ge 66, 3) := by decide +kernel
theorem dX4_readSum_19 : decode cX4_readSum 19 = .ok (.aload_n 0, 1) := by decide +kernel
theorem dX4_readSum_20 : decode cX4_readSum 20 = .ok (.getfield 41, 3) := by decide +kernel
theorem dX4_readSum_23 : decode cX4_readSum 23 = .ok (.bipush 43, 2) := by decide +kernel
theorem dX4_readSum_25 : decode cX4_readSum 25 = .ok (.if_icmp .eq 12, 3) := by decide +kernel
theorem dX4_readSum_28 : decode cX4_readSum 28 = .ok (.aload_n 0, 1) := by decide +kernel
theorem dX4_readSum_29 : decode cX4_readSum 29 = .ok (.getfield 41, 3) := by decide +kernel
theorem dX4_readSum_32 : decode cX4_readSum 32 = .ok (.bipush 45, 2) := by decide +kernel
theorem dX4_readSum_34 : decode cX4_readSum 34 = .ok (.if_icmp .ne 48, 3) := by decide +kernel
theorem dX4_readSum_37 : decode cX4_readSum 37 = .ok (.aload_n 0, 1) := by decide +kernel
theorem dX4_readSum_38 : decode cX4_readSum 38 = .ok (.getfield 41, 3) := by decide +kernel
theorem dX4_readSum_41 : decode cX4_readSum 41 = .ok (.bipush 43, 2) := by decide +kernel
theorem dX4_readSum_43 : decode cX4_readSum 43 = .ok (.if_icmp .ne 8, 3) := by decide +kernel
theorem dX4_readSum_46 : decode cX4_readSum 46 = .ok (.bipush 8, 2) := by decide +kernel
theorem dX4_readSum_48 : decode cX4_readSum 48 = .ok (.goto 5, 3) := by decide +kernel
theorem dX4_readSum_51 : decode cX4_readSum 51 = .ok (.bipush 9, 2) := by decide +kernel
theorem dX4_readSum_53 : decode cX4_readSum 53 = .ok (.istore_n 3, 1) := by decide +kernel
theorem dX4_readSum_54 : decode cX4_readSum 54 = .ok (.aload_n 0, 1) := by decide +kernel
theorem dX4_readSum_55 : decode cX4_readSum 55 = .ok (.invokevirtual 38, 3) := by decide +kernel
theorem dX4_readSum_58 : decode cX4_readSum 58 = .ok (.aload_n 0, 1) := by decide +kernel
theorem dX4_readSum_59 : decode cX4_readSum 59 = .ok (.iload_n 1, 1) := by decide +kernel
theorem dX4_readSum_60 : decode cX4_readSum 60 = .ok (.invokevirtual 160, 3) := by decide +kernel
theorem dX4_readSum_63 : decode cX4_readSum 63 = .ok (.ifCond .ne 5, 3) := by decide +kernel
theorem dX4_readSum_66 : decode cX4_readSum 66 = .ok (.iconst 0, 1) := by decide +kernel
theorem dX4_readSum_67 : decode cX4_readSum 67 = .ok (.ireturn, 1) := by decide +kernel
theorem dX4_readSum_68 : decode cX4_readSum 68 = .ok (.aload_n 0, 1) := by decide +kernel
theorem dX4_readSum_69 : decode cX4_readSum 69 = .ok (.getfield 19, 3) := by decide +kernel
theorem dX4_readSum_72 : decode cX4_readSum 72 = .ok (.iload_n 3, 1) := by decide +kernel
theorem dX4_readSum_73 : decode cX4_readSum 73 = .ok (.invokevirtual 144, 3) := by decide +kernel
theorem dX4_readSum_76 : decode cX4_readSum 76 = .ok (.iinc 2 1, 3) := by decide +kernel
theorem dX4_readSum_79 : decode cX4_readSum 79 = .ok (.goto (-67), 3) := by decide +kernel
theorem dX4_readSum_82 : decode cX4_readSum 82 = .ok (.iconst 1, 1) := by decide +kernel
theorem dX4_readSum_83 : decode cX4_readSum 83 = .ok (.ireturn, 1) := by decide +kernel
theorem gX4_readSum_0 {d : Nat} {M : ev_Mem} {Q : Option Value → ev_Mem → Prop} {x1 : Int32} (h : (∃ Q2 : Option Value → ev_Mem → Prop, Cl LX d mX4_readProduct [.ref 81, .int x1] M Q2 ∧ ∀ (zr : Option Value) (zM : ev_Mem), Q2 zr zM → Ev LX (d + 1) mX4_readSum 5 [some (.ref 81), some (.int x1), none, none] (zr.toList ++ []) zM Q)) : Ev LX (d + 1) mX4_readSum 0 [some (.ref 81), some (.int x1), none, none] [] M Q := by
  refine ev_aload_n dX4_readSum_0 rfl ?_
  refine ev_iload_n dX4_readSum_1 rfl ?_
  obtain ⟨Q2, hc, h⟩ := h
  refine ev_callV [.int x1] dX4_readSum_2 ml_WithoutE_Reader_160 lx_81 rfl rfl (Nat.le_of_ble_eq_true rfl) hc (fun zr zM q => ?_)
  exact h zr zM q
theorem gX4_readSum_5 {d : Nat} {M : ev_Mem} {Q : Option Value → ev_Mem → Prop} {x1 s0 : Int32} (h : (((¬ s0 = 0) → (Ev LX d mX4_readSum 12 [some (.ref 81), some (.int x1), some (.int 0), none] [] M Q)) ∧ ((s0 = 0) → (Q (some (.int 0)) M)))) : Ev LX d mX4_readSum 5 [some (.ref 81), some (.int x1), none, none] [(.int s0)] M Q := by
  refine ev_if_ne (tgt := 10) dX4_readSum_5 (by decide) (fun c => ?_) (fun c => ?_)
  · replace h := h.1 c
    refine ev_iconst (v := 0) dX4_readSum_10 (by decide) ?_
    refine ev_istore_n (ls2 := [some (.ref 81), some (.int x1), some (.int 0), none]) dX4_readSum_11 (Nat.le_of_ble_eq_true rfl) rfl ?_
    exact h
  · replace h := h.2 c
    refine ev_iconst (v := 0) dX4_readSum_8 (by decide) ?_
    exact ev_zret dX4_readSum_9 rfl (by decide) h
theorem gX4_readSum_12 {d : Nat} {M : ev_Mem} {Q : Option Value → ev_Mem → Prop} {x1 x2 : Int32} (h : (((300 ≤ x2) → (Q (some (.int 1)) M)) ∧ ((¬ 300 ≤ x2) → ((((M.1 81 5) = 43) → (((¬ (M.1 81 5) = 43) → (∃ Q2 : Option Value → ev_Mem → Prop, Cl LX d mX4_advance [.ref 81] M Q2 ∧ ∀ (zr : Option Value) (zM : ev_Mem), Q2 zr zM → Ev LX (d + 1) mX4_readSum 58 [some (.ref 81), some (.int x1), some (.int x2), some (.int 9)] (zr.toList ++ []) zM Q)) ∧ (((M.1 81 5) = 43) → (∃ Q2 : Option Value → ev_Mem → Prop, Cl LX d mX4_advance [.ref 81] M Q2 ∧ ∀ (zr : Option Value) (zM : ev_Mem), Q2 zr zM → Ev LX (d + 1) mX4_readSum 58 [some (.ref 81), some (.int x1), some (.int x2), some (.int 8)] (zr.toList ++ []) zM Q)))) ∧ ((¬ (M.1 81 5) = 43) → (((¬ (M.1 81 5) = 45) → (Q (some (.int 1)) M)) ∧ (((M.1 81 5) = 45) → (((¬ (M.1 81 5) = 43) → (∃ Q2 : Option Value → ev_Mem → Prop, Cl LX d mX4_advance [.ref 81] M Q2 ∧ ∀ (zr : Option Value) (zM : ev_Mem), Q2 zr zM → Ev LX (d + 1) mX4_readSum 58 [some (.ref 81), some (.int x1), some (.int x2), some (.int 9)] (zr.toList ++ []) zM Q)) ∧ (((M.1 81 5) = 43) → (∃ Q2 : Option Value → ev_Mem → Prop, Cl LX d mX4_advance [.ref 81] M Q2 ∧ ∀ (zr : Option Value) (zM : ev_Mem), Q2 zr zM → Ev LX (d + 1) mX4_readSum 58 [some (.ref 81), some (.int x1), some (.int x2), some (.int 8)] (zr.toList ++ []) zM Q)))))))))) : Ev LX (d + 1) mX4_readSum 12 [some (.ref 81), some (.int x1), some (.int x2), none] [] M Q := by
  refine ev_iload_n dX4_readSum_12 rfl ?_
  refine ev_sipush (v := 300) dX4_readSum_13 (by decide) ?_
  refine ev_icmp_ge (tgt := 82) dX4_readSum_16 (by decide) (fun c => ?_) (fun c => ?_)
  · replace h := h.1 c
    refine ev_iconst (v := 1) dX4_readSum_82 (by decide) ?_
    exact ev_zret dX4_readSum_83 rfl (by decide) h
  · replace h := h.2 c
    refine ev_aload_n dX4_readSum_19 rfl ?_
    refine ev_getI dX4_readSum_20 fl_WithoutE_Reader_41 lx_81 rfl ?_
    refine ev_bipush (v := 43) dX4_readSum_23 (by decide) ?_
    refine ev_icmp_eq (tgt := 37) dX4_readSum_25 (by decide) (fun c => ?_) (fun c => ?_)
    · replace h := h.1 c
      refine ev_aload_n dX4_readSum_37 rfl ?_
      refine ev_getI dX4_readSum_38 fl_WithoutE_Reader_41 lx_81 rfl ?_
      refine ev_bipush (v := 43) dX4_readSum_41 (by decide) ?_
      refine ev_icmp_ne (tgt := 51) dX4_readSum_43 (by decide) (fun c => ?_) (fun c => ?_)
      · replace h := h.1 c
        refine ev_bipush (v := 9) dX4_readSum_51 (by decide) ?_
        refine ev_istore_n (ls2 := [some (.ref 81), some (.int x1), some (.int x2), some (.int 9)]) dX4_readSum_53 (Nat.le_of_ble_eq_true rfl) rfl ?_
        refine ev_aload_n dX4_readSum_54 rfl ?_
        obtain ⟨Q2, hc, h⟩ := h
        refine ev_callV [] dX4_readSum_55 ml_WithoutE_Reader_38 lx_81 rfl rfl (Nat.le_of_ble_eq_true rfl) hc (fun zr zM q => ?_)
        exact h zr zM q
      · replace h := h.2 c
        refine ev_bipush (v := 8) dX4_readSum_46 (by decide) ?_
        refine ev_goto (tgt := 53) dX4_readSum_48 (by decide) ?_
        refine ev_istore_n (ls2 := [some (.ref 81), some (.int x1), some (.int x2), some (.int 8)]) dX4_readSum_53 (Nat.le_of_ble_eq_true rfl) rfl ?_
        refine ev_aload_n dX4_readSum_54 rfl ?_
        obtain ⟨Q2, hc, h⟩ := h
        refine ev_callV [] dX4_readSum_55 ml_WithoutE_Reader_38 lx_81 rfl rfl (Nat.le_of_ble_eq_true rfl) hc (fun zr zM q => ?_)
        exact h zr zM q
    · replace h := h.2 c
      refine ev_aload_n dX4_readSum_28 rfl ?_
      refine ev_getI dX4_readSum_29 fl_WithoutE_Reader_41 lx_81 rfl ?_
      refine ev_bipush (v := 45) dX4_readSum_32 (by decide) ?_
      refine ev_icmp_ne (tgt := 82) dX4_readSum_34 (by decide) (fun c => ?_) (fun c => ?_)
      · replace h := h.1 c
        refine ev_iconst (v := 1) dX4_readSum_82 (by decide) ?_
        exact ev_zret dX4_readSum_83 rfl (by decide) h
      · replace h := h.2 c
        refine ev_aload_n dX4_readSum_37 rfl ?_
        refine ev_getI dX4_readSum_38 fl_WithoutE_Reader_41 lx_81 rfl ?_
        refine ev_bipush (v := 43) dX4_readSum_41 (by decide) ?_
        refine ev_icmp_ne (tgt := 51) dX4_readSum_43 (by decide) (fun c => ?_) (fun c => ?_)
        · replace h := h.1 c
          refine ev_bipush (v := 9) dX4_readSum_51 (by decide) ?_
          refine ev_istore_n (ls2 := [some (.ref 81), some (.int x1), some (.int x2), some (.int 9)]) dX4_readSum_53 (Nat.le_of_ble_eq_true rfl) rfl ?_
          refine ev_aload_n dX4_readSum_54 rfl ?_
          obtain ⟨Q2, hc, h⟩ := h
          refine ev_callV [] dX4_readSum_55 ml_WithoutE_Reader_38 lx_81 rfl rfl (Nat.le_of_ble_eq_true rfl) hc (fun zr zM q => ?_)
          exact h zr zM q
        · replace h := h.2 c
          refine ev_bipush (v := 8) dX4_readSum_46 (by decide) ?_
          refine ev_goto (tgt := 53) dX4_readSum_48 (by decide) ?_
          refine ev_istore_n (ls2 := [some (.ref 81), some (.int x1), some (.int x2), some (.int 8)]) dX4_readSum_53 (Nat.le_of_ble_eq_true rfl) rfl ?_
          refine ev_aload_n dX4_readSum_54 rfl ?_
          obtain ⟨Q2, hc, h⟩ := h
          refine ev_callV [] dX4_readSum_55 ml_WithoutE_Reader_38 lx_81 rfl rfl (Nat.le_of_ble_eq_true rfl) hc (fun zr zM q => ?_)
          exact h zr zM q
theorem gX4_readSum_58 {d : Nat} {M : ev_Mem} {Q : Option Value → ev_Mem → Prop} {x1 x2 x3 : Int32} (h : (∃ Q2 : Option Value → ev_Mem → Prop, Cl LX d mX4_readProduct [.ref 81, .int x1] M Q2 ∧ ∀ (zr : Option Value) (zM : ev_Mem), Q2 zr zM → Ev LX (d + 1) mX4_readSum 63 [some (.ref 81), some (.int x1), some (.int x2), some (.int x3)] (zr.toList ++ []) zM Q)) : Ev LX (d + 1) mX4_readSum 58 [some (.ref 81), some (.int x1), some (.int x2), some (.int x3)] [] M Q := by
  refine ev_aload_n dX4_readSum_58 rfl ?_
  refine ev_iload_n dX4_readSum_59 rfl ?_
  obtain ⟨Q2, hc, h⟩ := h
  refine ev_callV [.int x1] dX4_readSum_60 ml_WithoutE_Reader_160 lx_81 rfl rfl (Nat.le_of_ble_eq_true rfl) hc (fun zr zM q => ?_)
  exact h zr zM q
theorem gX4_readSum_63 {d : Nat} {M : ev_Mem} {Q : Option Value → ev_Mem → Prop} {x1 x2 x3 s0 : Int32} (h : (((¬ s0 = 0) → ((¬ M.1 81 1 = 0 ∧ ev_isT (M.1 81 1).toNatClampNeg) ∧ ((puOK M (M.1 81 1).toNatClampNeg) ∧ (∀ M1 : ev_Mem, M1 = putM M (M.1 81 1).toNatClampNeg x3 → (Ev LX (d + 1) mX4_readSum 12 [some (.ref 81), some (.int x1), some (.int (x2 + 1)), none] [] M1 Q))))) ∧ ((s0 = 0) → (Q (some (.int 0)) M)))) : Ev LX (d + 1) mX4_readSum 63 [some (.ref 81), some (.int x1), some (.int x2), some (.int x3)] [(.int s0)] M Q := by
  refine ev_if_ne (tgt := 68) dX4_readSum_63 (by decide) (fun c => ?_) (fun c => ?_)
  · replace h := h.1 c
    refine ev_aload_n dX4_readSum_68 rfl ?_
    obtain ⟨⟨c, t1⟩, h⟩ := h
    refine ev_getD dX4_readSum_69 fl_WithoutE_Reader_19 lx_81 rfl c ?_
    refine ev_iload_n dX4_readSum_72 rfl ?_
    obtain ⟨p1, h⟩ := h
    refine ev_callV [.int x3] dX4_readSum_73 ml_WithoutE_Reader_144 (lx_T t1) rfl rfl (Nat.le_of_ble_eq_true rfl) (kX8_put p1) ?_
    rintro zr zM ⟨q1, q2⟩
    rw [q1, q2]
    generalize eM1 : putM M (M.1 81 1).toNatClampNeg x3 = M1
    replace h := h M1 eM1.symm
    show Ev LX (d + 1) mX4_readSum 76 [some (.ref 81), some (.int x1), some (.int x2), some (.int x3)] [] M1 Q
    refine ev_iinc (v := x2 + 1) (ls2 := [some (.ref 81), some (.int x1), some (.int (x2 + 1)), some (.int x3)]) dX4_readSum_76 rfl rfl rfl ?_
    refine ev_goto (tgt := 12) dX4_readSum_79 (by decide) ?_
    refine Ev.weak (ls := [some (.ref 81), some (.int x1), some (.int (x2 + 1)), none]) ⟨rfl, rfl, rfl, trivial⟩ ?_
    exact h
  · replace h := h.2 c
    refine ev_iconst (v := 0) dX4_readSum_66 (by decide) ?_
    exact ev_zret dX4_readSum_67 rfl (by decide) h
theorem dX4_readAsk_0 : decode cX4_readAsk 0 = .ok (.aload_n 0, 1) := by decide +kernel
theorem dX4_readAsk_1 : decode cX4_readAsk 1 = .ok (.ldc 206, 2) := by decide +kernel
theorem dX4_readAsk_3 : decode cX4_readAsk 3 = .ok (.invokevirtual 82, 3) := by decide +kernel
theorem dX4_readAsk_6 : decode cX4_readAsk 6 = .ok (.ifCond .eq 35, 3) := by decide +kernel
theorem dX4_readAsk_9 : decode cX4_readAsk 9 = .ok (.aload_n 0, 1) := by decide +kernel
theorem dX4_readAsk_10 : decode cX4_readAsk 10 = .ok (.iload_n 1, 1) := by decide +kernel
theorem dX4_readAsk_11 : decode cX4_readAsk 11 = .ok (.invokevirtual 169, 3) := by decide +kernel
theorem dX4_readAsk_14 : decode cX4_readAsk 14 = .ok (.ifCond .eq 25, 3) := by decide +kernel
theorem dX4_readAsk_17 : decode cX4_readAsk 17 = .ok (.aload_n 0, 1) := by decide +kernel
theorem dX4_readAsk_18 : decode cX4_readAsk 18 = .ok (.iload_n 1, 1) := by decide +kernel
theorem dX4_readAsk_19 : decode cX4_readAsk 19 = .ok (.iconst 1, 1) := by decide +kernel
theorem dX4_readAsk_20 : decode cX4_readAsk 20 = .ok (.iadd, 1) := by decide +kernel
theorem dX4_readAsk_21 : decode cX4_readAsk 21 = .ok (.invokevirtual 201, 3) := by decide +kernel
theorem dX4_readAsk_24 : decode cX4_readAsk 24 = .ok (.ifCond .eq 15, 3) := by decide +kernel
theorem dX4_readAsk_27 : decode cX4_readAsk 27 = .ok (.aload_n 0, 1) := by decide +kernel
theorem dX4_readAsk_28 : decode cX4_readAsk 28 = .ok (.iconst 5, 1) := by decide +kernel
theorem dX4_readAsk_29 : decode cX4_readAsk 29 = .ok (.invokevirtual 105, 3) := by decide +kernel
theorem dX4_readAsk_32 : decode cX4_readAsk 32 = .ok (.ifCond .eq 7, 3) := by decide +kernel
theorem dX4_readAsk_35 : decode cX4_readAsk 35 = .ok (.iconst 1, 1) := by decide +kernel
theorem dX4_readAsk_36 : decode cX4_readAsk 36 = .ok (.goto 4, 3) := by decide +kernel
theorem dX4_readAsk_39 : decode cX4_readAsk 39 = .ok (.iconst 0, 1) := by decide +kernel
theorem dX4_readAsk_40 : decode cX4_readAsk 40 = .ok (.ireturn, 1) := by decide +kernel
theorem dX4_readAsk_41 : decode cX4_readAsk 41 = .ok (.aload_n 0, 1) := by decide +kernel
theorem dX4_readAsk_42 : decode cX4_readAsk 42 = .ok (.iload_n 1, 1) := by decide +kernel
theorem dX4_readAsk_43 : decode cX4_readAsk 43 = .ok (.invokevirtual 102, 3) := by decide +kernel
theorem dX4_readAsk_46 : decode cX4_readAsk 46 = .ok (.ifCond .ne 5, 3) := by decide +kernel
theorem dX4_readAsk_49 : decode cX4_readAsk 49 = .ok (.iconst 0, 1) := by decide +kernel
theorem dX4_readAsk_50 : decode cX4_readAsk 50 = .ok (.ireturn, 1) := by decide +kernel
theorem dX4_readAsk_51 : decode cX4_readAsk 51 = .ok (.aload_n 0, 1) := by decide +kernel
theorem dX4_readAsk_52 : decode cX4_readAsk 52 = .ok (.invokevirtual 208, 3) := by decide +kernel
theorem dX4_readAsk_55 : decode cX4_readAsk 55 = .ok (.istore_n 2, 1) := by decide +kernel
theorem dX4_readAsk_56 : decode cX4_readAsk 56 = .ok (.iload_n 2, 1) := by decide +kernel
theorem dX4_readAsk_57 : decode cX4_readAsk 57 = .ok (.iconst (-1), 1) := by decide +kernel
theorem dX4_readAsk_58 : decode cX4_readAsk 58 = .ok (.if_icmp .ne 9, 3) := by decide +kernel
theorem dX4_readAsk_61 : decode cX4_readAsk 61 = .ok (.aload_n 0, 1) := by decide +kernel
theorem dX4_readAsk_62 : decode cX4_readAsk 62 = .ok (.iconst 1, 1) := by decide +kernel
theorem dX4_readAsk_63 : decode cX4_readAsk 63 = .ok (.invokevirtual 79, 3) := by decide +kernel
theorem dX4_readAsk_66 : decode cX4_readAsk 66 = .ok (.ireturn, 1) := by decide +kernel
theorem dX4_readAsk_67 : decode cX4_readAsk 67 = .ok (.aload_n 0, 1) := by decide +kernel
theorem dX4_readAsk_68 : decode cX4_readAsk 68 = .ok (.invokevirtual 38, 3) := by decide +kernel
theorem dX4_readAsk_71 : decode cX4_readAsk 71 = .ok (.aload_n 0, 1) := by decide +kernel
theorem dX4_readAsk_72 : decode cX4_readAsk 72 = .ok (.iload_n 1, 1) := by decide +kernel
theorem dX4_readAsk_73 : decode cX4_readAsk 73 = .ok (.invokevirtual 102, 3) := by decide +kernel
theorem dX4_readAsk_76 : decode cX4_readAsk 76 = .ok (.ifCond .eq 15, 3) := by decide +kernel
theorem dX4_readAsk_79 : decode cX4_readAsk 79 = .ok (.aload_n 0, 1) := by decide +kernel
theorem dX4_readAsk_80 : decode cX4_readAsk 80 = .ok (.iload_n 2, 1) := by decide +kernel
theorem dX4_readAsk_81 : decode cX4_readAsk 81 = .ok (.invokevirtual 105, 3) := by decide +kernel
theorem dX4_readAsk_84 : decode cX4_readAsk 84 = .ok (.ifCond .eq 7, 3) := by decide +kernel
theorem dX4_readAsk_87 : decode cX4_readAsk 87 = .ok (.iconst 1, 1) := by decide +kernel
theorem dX4_readAsk_88 : decode cX4_readAsk 88 = .ok (.goto 4, 3) := by decide +kernel
theorem dX4_readAsk_91 : decode cX4_readAsk 91 = .ok (.iconst 0, 1) := by decide +kernel
theorem dX4_readAsk_92 : decode cX4_readAsk 92 = .ok (.ireturn, 1) := by decide +kernel
theorem gX4_readAsk_0 {d : Nat} {M : ev_Mem} {Q : Option Value → ev_Mem → Prop} {x1 : Int32} (h : (∃ Q2 : Option Value → ev_Mem → Prop, Cl LX d mX4_isToken [.ref 81, .ref 1013] M Q2 ∧ ∀ (zr : Option Value) (zM : ev_Mem), Q2 zr zM → Ev LX (d + 1) mX4_readAsk 6 [some (.ref 81), some (.int x1), none] (zr.toList ++ []) zM Q)) : Ev LX (d + 1) mX4_readAsk 0 [some (.ref 81), some (.int x1), none] [] M Q := by
  refine ev_aload_n dX4_readAsk_0 rfl ?_
  refine ev_ldcS (i := 3) dX4_readAsk_1 rfl rfl ?_
  obtain ⟨Q2, hc, h⟩ := h
  refine ev_callV [.ref 1013] dX4_readAsk_3 ml_WithoutE_Reader_82 lx_81 rfl rfl (Nat.le_of_ble_eq_true rfl) hc (fun zr zM q => ?_)
  exact h zr zM q
theorem gX4_readAsk_6 {d : Nat} {M : ev_Mem} {Q : Option Value → ev_Mem → Prop} {x1 s0 : Int32} (h : (((s0 = 0) → (∃ Q2 : Option Value → ev_Mem → Prop, Cl LX d mX4_readSum [.ref 81, .int x1] M Q2 ∧ ∀ (zr : Option Value) (zM : ev_Mem), Q2 zr zM → Ev LX (d + 1) mX4_readAsk 46 [some (.ref 81), some (.int x1), none] (zr.toList ++ []) zM Q)) ∧ ((¬ s0 = 0) → (∃ Q2 : Option Value → ev_Mem → Prop, Cl LX d mX4_goDeeper [.ref 81, .int x1] M Q2 ∧ ∀ (zr : Option Value) (zM : ev_Mem), Q2 zr zM → Ev LX (d + 1) mX4_readAsk 14 [some (.ref 81), some (.int x1), none] (zr.toList ++ []) zM Q)))) : Ev LX (d + 1) mX4_readAsk 6 [some (.ref 81), some (.int x1), none] [(.int s0)] M Q := by
  refine ev_if_eq (tgt := 41) dX4_readAsk_6 (by decide) (fun c => ?_) (fun c => ?_)
  · replace h := h.1 c
    refine ev_aload_n dX4_readAsk_41 rfl ?_
    refine ev_iload_n dX4_readAsk_42 rfl ?_
    obtain ⟨Q2, hc, h⟩ := h
    refine ev_callV [.int x1] dX4_readAsk_43 ml_WithoutE_Reader_102 lx_81 rfl rfl (Nat.le_of_ble_eq_true rfl) hc (fun zr zM q => ?_)
    exact h zr zM q
  · replace h := h.2 c
    refine ev_aload_n dX4_readAsk_9 rfl ?_
    refine ev_iload_n dX4_readAsk_10 rfl ?_
    obtain ⟨Q2, hc, h⟩ := h
    refine ev_callV [.int x1] dX4_readAsk_11 ml_WithoutE_Reader_169 lx_81 rfl rfl (Nat.le_of_ble_eq_true rfl) hc (fun zr zM q => ?_)
    exact h zr zM q
theorem gX4_readAsk_46 {d : Nat} {M : ev_Mem} {Q : Option Value → ev_Mem → Prop} {x1 s0 : Int32} (h : (((¬ s0 = 0) → (((¬ (cmC (M.1 81 5)) = (-1)) → (∃ Q2 : Option Value → ev_Mem → Prop, Cl LX d mX4_advance [.ref 81] M Q2 ∧ ∀ (zr : Option Value) (zM : ev_Mem), Q2 zr zM → Ev LX (d + 1) mX4_readAsk 71 [some (.ref 81), some (.int x1), some (.int (cmC (M.1 81 5)))] (zr.toList ++ []) zM Q)) ∧ (((cmC (M.1 81 5)) = (-1)) → (∀ M1 : ev_Mem, M1 = flM M (1 : Int32) → (Q (some (.int 0)) M1))))) ∧ ((s0 = 0) → (Q (some (.int 0)) M)))) : Ev LX (d + 1) mX4_readAsk 46 [some (.ref 81), some (.int x1), none] [(.int s0)] M Q := by
  refine ev_if_ne (tgt := 51) dX4_readAsk_46 (by decide) (fun c => ?_) (fun c => ?_)
  · replace h := h.1 c
    refine ev_aload_n dX4_readAsk_51 rfl ?_
    refine ev_callV [] dX4_readAsk_52 ml_WithoutE_Reader_208 lx_81 rfl rfl (Nat.le_of_ble_eq_true rfl) (kX4_comparison) ?_
    rintro zr zM ⟨q1, q2⟩
    rw [q1, q2]
    show Ev LX (d + 1) mX4_readAsk 55 [some (.ref 81), some (.int x1), none] [(.int (cmC (M.1 81 5)))] M Q
    refine ev_istore_n (ls2 := [some (.ref 81), some (.int x1), some (.int (cmC (M.1 81 5)))]) dX4_readAsk_55 (Nat.le_of_ble_eq_true rfl) rfl ?_
    refine ev_iload_n dX4_readAsk_56 rfl ?_
    refine ev_iconst (v := -1) dX4_readAsk_57 (by decide) ?_
    refine ev_icmp_ne (tgt := 67) dX4_readAsk_58 (by decide) (fun c => ?_) (fun c => ?_)
    · replace h := h.1 c
      refine ev_aload_n dX4_readAsk_67 rfl ?_
      obtain ⟨Q2, hc, h⟩ := h
      refine ev_callV [] dX4_readAsk_68 ml_WithoutE_Reader_38 lx_81 rfl rfl (Nat.le_of_ble_eq_true rfl) hc (fun zr zM q => ?_)
      exact h zr zM q
    · replace h := h.2 c
      refine ev_aload_n dX4_readAsk_61 rfl ?_
      refine ev_iconst (v := 1) dX4_readAsk_62 (by decide) ?_
      refine ev_callV [.int 1] dX4_readAsk_63 ml_WithoutE_Reader_79 lx_81 rfl rfl (Nat.le_of_ble_eq_true rfl) (kX4_fail) ?_
      rintro zr zM ⟨q1, q2⟩
      rw [q1, q2]
      generalize eM1 : flM M (1 : Int32) = M1
      replace h := h M1 eM1.symm
      show Ev LX (d + 1) mX4_readAsk 66 [some (.ref 81), some (.int x1), some (.int (cmC (M.1 81 5)))] [(.int 0)] M1 Q
      exact ev_zret dX4_readAsk_66 rfl (by decide) h
  · replace h := h.2 c
    refine ev_iconst (v := 0) dX4_readAsk_49 (by decide) ?_
    exact ev_zret dX4_readAsk_50 rfl (by decide) h
theorem gX4_readAsk_14 {d : Nat} {M : ev_Mem} {Q : Option Value → ev_Mem → Prop} {x1 s0 : Int32} (h : (((s0 = 0) → (Q (some (.int 0)) M)) ∧ ((¬ s0 = 0) → (∃ Q2 : Option Value → ev_Mem → Prop, Cl LX d mX4_readAsk [.ref 81, .int (x1 + 1)] M Q2 ∧ ∀ (zr : Option Value) (zM : ev_Mem), Q2 zr zM → Ev LX (d + 1) mX4_readAsk 24 [some (.ref 81), none, none] (zr.toList ++ []) zM Q)))) : Ev LX (d + 1) mX4_readAsk 14 [some (.ref 81), some (.int x1), none] [(.int s0)] M Q := by
  refine ev_if_eq (tgt := 39) dX4_readAsk_14 (by decide) (fun c => ?_) (fun c => ?_)
  · replace h := h.1 c
    refine ev_iconst (v := 0) dX4_readAsk_39 (by decide) ?_
    exact ev_zret dX4_readAsk_40 rfl (by decide) h
  · replace h := h.2 c
    refine ev_aload_n dX4_readAsk_17 rfl ?_
    refine ev_iload_n dX4_readAsk_18 rfl ?_
    refine ev_iconst (v := 1) dX4_readAsk_19 (by decide) ?_
    refine ev_iadd dX4_readAsk_20 ?_
    obtain ⟨Q2, hc, h⟩ := h
    refine ev_callV [.int (x1 + 1)] dX4_readAsk_21 ml_WithoutE_Reader_201 lx_81 rfl rfl (Nat.le_of_ble_eq_true rfl) hc (fun zr zM q => ?_)
    refine Ev.weak (ls := [some (.ref 81), none, none]) ⟨rfl, trivial⟩ ?_
    exact h zr zM q
theorem gX4_readAsk_71 {d : Nat} {M : ev_Mem} {Q : Option Value → ev_Mem → Prop} {x1 x2 : Int32} (h : (∃ Q2 : Option Value → ev_Mem → Prop, Cl LX d mX4_readSum [.ref 81, .int x1] M Q2 ∧ ∀ (zr : Option Value) (zM : ev_Mem), Q2 zr zM → Ev LX (d + 1) mX4_readAsk 76 [some (.ref 81), none, some (.int x2)] (zr.toList ++ []) zM Q)) : Ev LX (d + 1) mX4_readAsk 71 [some (.ref 81), some (.int x1), some (.int x2)] [] M Q := by
  refine ev_aload_n dX4_readAsk_71 rfl ?_
  refine ev_iload_n dX4_readAsk_72 rfl ?_
  obtain ⟨Q2, hc, h⟩ := h
  refine ev_callV [.int x1] dX4_readAsk_73 ml_WithoutE_Reader_102 lx_81 rfl rfl (Nat.le_of_ble_eq_true rfl) hc (fun zr zM q => ?_)
  refine Ev.weak (ls := [some (.ref 81), none, some (.int x2)]) ⟨rfl, rfl, trivial⟩ ?_
  exact h zr zM q
theorem gX4_readAsk_24 {d : Nat} {M : ev_Mem} {Q : Option Value → ev_Mem → Prop} {s0 : Int32} (h : (((s0 = 0) → (Q (some (.int 0)) M)) ∧ ((¬ s0 = 0) → (∃ Q2 : Option Value → ev_Mem → Prop, Cl LX d mX4_putOp [.ref 81, .int 5] M Q2 ∧ ∀ (zr : Option Value) (zM : ev_Mem), Q2 zr zM → Ev LX (d + 1) mX4_readAsk 32 [none, none, none] (zr.toList ++ []) zM Q)))) : Ev LX (d + 1) mX4_readAsk 24 [some (.ref 81), none, none] [(.int s0)] M Q := by
  refine ev_if_eq (tgt := 39) dX4_readAsk_24 (by decide) (fun c => ?_) (fun c => ?_)
  · replace h := h.1 c
    refine ev_iconst (v := 0) dX4_readAsk_39 (by decide) ?_
    exact ev_zret dX4_readAsk_40 rfl (by decide) h
  · replace h := h.2 c
    refine ev_aload_n dX4_readAsk_27 rfl ?_
    refine ev_iconst (v := 5) dX4_readAsk_28 (by decide) ?_
    obtain ⟨Q2, hc, h⟩ := h
    refine ev_callV [.int 5] dX4_readAsk_29 ml_WithoutE_Reader_105 lx_81 rfl rfl (Nat.le_of_ble_eq_true rfl) hc (fun zr zM q => ?_)
    refine Ev.weak (ls := [none, none, none]) trivial ?_
    exact h zr zM q
theorem gX4_readAsk_76 {d : Nat} {M : ev_Mem} {Q : Option Value → ev_Mem → Prop} {x2 s0 : Int32} (h : (((s0 = 0) → (Q (some (.int 0)) M)) ∧ ((¬ s0 = 0) → (∃ Q2 : Option Value → ev_Mem → Prop, Cl LX d mX4_putOp [.ref 81, .int x2] M Q2 ∧ ∀ (zr : Option Value) (zM : ev_Mem), Q2 zr zM → Ev LX (d + 1) mX4_readAsk 84 [none, none, none] (zr.toList ++ []) zM Q)))) : Ev LX (d + 1) mX4_readAsk 76 [some (.ref 81), none, some (.int x2)] [(.int s0)] M Q := by
  refine ev_if_eq (tgt := 91) dX4_readAsk_76 (by decide) (fun c => ?_) (fun c => ?_)
  · replace h := h.1 c
    refine ev_iconst (v := 0) dX4_readAsk_91 (by decide) ?_
    exact ev_zret dX4_readAsk_92 rfl (by decide) h
  · replace h := h.2 c
    refine ev_aload_n dX4_readAsk_79 rfl ?_
    refine ev_iload_n dX4_readAsk_80 rfl ?_
    obtain ⟨Q2, hc, h⟩ := h
    refine ev_callV [.int x2] dX4_readAsk_81 ml_WithoutE_Reader_105 lx_81 rfl rfl (Nat.le_of_ble_eq_true rfl) hc (fun zr zM q => ?_)
    refine Ev.weak (ls := [none, none, none]) trivial ?_
    exact h zr zM q
theorem gX4_readAsk_32 {d : Nat} {M : ev_Mem} {Q : Option Value → ev_Mem → Prop} {s0 : Int32} (h : (((s0 = 0) → (Q (some (.int 0)) M)) ∧ ((¬ s0 = 0) → (Q (some (.int 1)) M)))) : Ev LX d mX4_readAsk 32 [none, none, none] [(.int s0)] M Q := by
  refine ev_if_eq (tgt := 39) dX4_readAsk_32 (by decide) (fun c => ?_) (fun c => ?_)
  · replace h := h.1 c
    refine ev_iconst (v := 0) dX4_readAsk_39 (by decide) ?_
    exact ev_zret dX4_readAsk_40 rfl (by decide) h
  · replace h := h.2 c
    refine ev_iconst (v := 1) dX4_readAsk_35 (by decide) ?_
    refine ev_goto (tgt := 40) dX4_readAsk_36 (by decide) ?_
    exact ev_zret dX4_readAsk_40 rfl (by decide) h
theorem gX4_readAsk_84 {d : Nat} {M : ev_Mem} {Q : Option Value → ev_Mem → Prop} {s0 : Int32} (h : (((s0 = 0) → (Q (some (.int 0)) M)) ∧ ((¬ s0 = 0) → (Q (some (.int 1)) M)))) : Ev LX d mX4_readAsk 84 [none, none, none] [(.int s0)] M Q := by
  refine ev_if_eq (tgt := 91) dX4_readAsk_84 (by decide) (fun c => ?_) (fun c => ?_)
  · replace h := h.1 c
    refine ev_iconst (v := 0) dX4_readAsk_91 (by decide) ?_
    exact ev_zret dX4_readAsk_92 rfl (by decide) h
  · replace h := h.2 c
    refine ev_iconst (v := 1) dX4_readAsk_87 (by decide) ?_
    refine ev_goto (tgt := 92) dX4_readAsk_88 (by decide) ?_
    exact ev_zret dX4_readAsk_92 rfl (by decide) h
theorem dX4_readBoth_0 : decode cX4_readBoth 0 = .ok (.aload_n 0, 1) := by decide +kernel
theorem dX4_readBoth_1 : decode cX4_readBoth 1 = .ok (.iload_n 1, 1) := by decide +kernel
theorem dX4_readBoth_2 : decode cX4_readBoth 2 = .ok (.invokevirtual 201, 3) := by decide +kernel
theorem dX4_readBoth_5 : decode cX4_readBoth 5 = .ok (.ifCond .ne 5, 3) := by decide +kernel
theorem dX4_readBoth_8 : decode cX4_readBoth 8 = .ok (.iconst 0, 1) := by decide +kernel
theorem dX4_readBoth_9 : decode cX4_readBoth 9 = .ok (.ireturn, 1) := by decide +kernel
theorem dX4_readBoth_10 : decode cX4_readBoth 10 = .ok (.iconst 0, 1) := by decide +kernel
theorem dX4_readBoth_11 : decode cX4_readBoth 11 = .ok (.istore_n 2, 1) := by decide +kernel
theorem dX4_readBoth_12 : decode cX4_readBoth 12 = .ok (.iload_n 2, 1) := by decide +kernel
theorem dX4_readBoth_13 : decode cX4_readBoth 13 = .ok (.sipush 300, 3) := by decide +kernel
theorem dX4_readBoth_16 : decode cX4_readBoth 16 = .ok (.if_icmp .ge 41, 3) := by decide +kernel
theorem dX4_readBoth_19 : decode cX4_readBoth 19 = .ok (.aload_n 0, 1) := by decide +kernel
theorem dX4_readBoth_20 : decode cX4_readBoth 20 = .ok (.ldc 204, 2) := by decide +kernel
theorem dX4_readBoth_22 : decode cX4_readBoth 22 = .ok (.invokevirtual 82, 3) := by decide +kernel
theorem dX4_readBoth_25 : decode cX4_readBoth 25 = .ok (.ifCond .eq 32, 3) := by decide +kernel
theorem dX4_readBoth_28 : decode cX4_readBoth 28 = .ok (.aload_n 0, 1) := by decide +kernel
theorem dX4_readBoth_29 : decode cX4_readBoth 29 = .ok (.invokevirtual 38, 3) := by decide +kernel
theorem dX4_readBoth_32 : decode cX4_readBoth 32 = .ok (.aload_n 0, 1) := by decide +kernel
theorem dX4_readBoth_33 : decode cX4_readBoth 33 = .ok (.iload_n 1, 1) := by decide +kernel
theorem dX4_readBoth_34 : decode cX4_readBoth 34 = .ok (.invokevirtual 201, 3) := by decide +kernel
theorem dX4_readBoth_37 : decode cX4_readBoth 37 = .ok (.ifCond .ne 5, 3) := by decide +kernel
theorem dX4_readBoth_40 : decode cX4_readBoth 40 = .ok (.iconst 0, 1) := by decide +kernel
theorem dX4_readBoth_41 : decode cX4_readBoth 41 = .ok (.ireturn, 1) := by decide +kernel
theorem dX4_readBoth_42 : decode cX4_readBoth 42 = .ok (.aload_n 0, 1) := by decide +kernel
theorem dX4_readBoth_43 : decode cX4_readBoth 43 = .ok (.getfield 19, 3) := by decide +kernel
theorem dX4_readBoth_46 : decode cX4_readBoth 46 = .ok (.bipush 18, 2) := by decide +kernel
theorem dX4_readBoth_48 : decode cX4_readBoth 48 = .ok (.invokevirtual 144, 3) := by decide +kernel
theorem dX4_readBoth_51 : decode cX4_readBoth 51 = .ok (.iinc 2 1, 3) := by decide +kernel
theorem dX4_readBoth_54 : decode cX4_readBoth 54 = .ok (.goto (-42), 3) := by decide +kernel
theorem dX4_readBoth_57 : decode cX4_readBoth 57 = .ok (.iconst 1, 1) := by decide +kernel
theorem dX4_readBoth_58 : decode cX4_readBoth 58 = .ok (.ireturn, 1) := by decide +kernel
theorem gX4_readBoth_0 {d : Nat} {M : ev_Mem} {Q : Option Value → ev_Mem → Prop} {x1 : Int32} (h : (∃ Q2 : Option Value → ev_Mem → Prop, Cl LX d mX4_readAsk [.ref 81, .int x1] M Q2 ∧ ∀ (zr : Option Value) (zM : ev_Mem), Q2 zr zM → Ev LX (d + 1) mX4_readBoth 5 [some (.ref 81), some (.int x1), none] (zr.toList ++ []) zM Q)) : Ev LX (d + 1) mX4_readBoth 0 [some (.ref 81), some (.int x1), none] [] M Q := by
  refine ev_aload_n dX4_readBoth_0 rfl ?_
  refine ev_iload_n dX4_readBoth_1 rfl ?_
  obtain ⟨Q2, hc, h⟩ := h
  refine ev_callV [.int x1] dX4_readBoth_2 ml_WithoutE_Reader_201 lx_81 rfl rfl (Nat.le_of_ble_eq_true rfl) hc (fun zr zM q => ?_)
  exact h zr zM q
theorem gX4_readBoth_5 {d : Nat} {M : ev_Mem} {Q : Option Value → ev_Mem → Prop} {x1 s0 : Int32} (h : (((¬ s0 = 0) → (Ev LX d mX4_readBoth 12 [some (.ref 81), some (.int x1), some (.int 0)] [] M Q)) ∧ ((s0 = 0) → (Q (some (.int 0)) M)))) : Ev LX d mX4_readBoth 5 [some (.ref 81), some (.int x1), none] [(.int s0)] M Q := by
  refine ev_if_ne (tgt := 10) dX4_readBoth_5 (by decide) (fun c => ?_) (fun c => ?_)
  · replace h := h.1 c
    refine ev_iconst (v := 0) dX4_readBoth_10 (by decide) ?_
    refine ev_istore_n (ls2 := [some (.ref 81), some (.int x1), some (.int 0)]) dX4_readBoth_11 (Nat.le_of_ble_eq_true rfl) rfl ?_
    exact h
  · replace h := h.2 c
    refine ev_iconst (v := 0) dX4_readBoth_8 (by decide) ?_
    exact ev_zret dX4_readBoth_9 rfl (by decide) h
theorem gX4_readBoth_12 {d : Nat} {M : ev_Mem} {Q : Option Value → ev_Mem → Prop} {x1 x2 : Int32} (h : (((300 ≤ x2) → (Q (some (.int 1)) M)) ∧ ((¬ 300 ≤ x2) → (∃ Q2 : Option Value → ev_Mem → Prop, Cl LX d mX4_isToken [.ref 81, .ref 1014] M Q2 ∧ ∀ (zr : Option Value) (zM : ev_Mem), Q2 zr zM → Ev LX (d + 1) mX4_readBoth 25 [some (.ref 81), some (.int x1), some (.int x2)] (zr.toList ++ []) zM Q)))) : Ev LX (d + 1) mX4_readBoth 12 [some (.ref 81), some (.int x1), some (.int x2)] [] M Q := by
  refine ev_iload_n dX4_readBoth_12 rfl ?_
  refine ev_sipush (v := 300) dX4_readBoth_13 (by decide) ?_
  refine ev_icmp_ge (tgt := 57) dX4_readBoth_16 (by decide) (fun c => ?_) (fun c => ?_)
  · replace h := h.1 c
    refine ev_iconst (v := 1) dX4_readBoth_57 (by decide) ?_
    exact ev_zret dX4_readBoth_58 rfl (by decide) h
  · replace h := h.2 c
    refine ev_aload_n dX4_readBoth_19 rfl ?_
    refine ev_ldcS (i := 4) dX4_readBoth_20 rfl rfl ?_
    obtain ⟨Q2, hc, h⟩ := h
    refine ev_callV [.ref 1014] dX4_readBoth_22 ml_WithoutE_Reader_82 lx_81 rfl rfl (Nat.le_of_ble_eq_true rfl) hc (fun zr zM q => ?_)
    exact h zr zM q
theorem gX4_readBoth_25 {d : Nat} {M : ev_Mem} {Q : Option Value → ev_Mem → Prop} {x1 x2 s0 : Int32} (h : (((s0 = 0) → (Q (some (.int 1)) M)) ∧ ((¬ s0 = 0) → (∃ Q2 : Option Value → ev_Mem → Prop, Cl LX d mX4_advance [.ref 81] M Q2 ∧ ∀ (zr : Option Value) (zM : ev_Mem), Q2 zr zM → Ev LX (d + 1) mX4_readBoth 32 [some (.ref 81), some (.int x1), some (.int x2)] (zr.toList ++ []) zM Q)))) : Ev LX (d + 1) mX4_readBoth 25 [some (.ref 81), some (.int x1), some (.int x2)] [(.int s0)] M Q := by
  refine ev_if_eq (tgt := 57) dX4_readBoth_25 (by decide) (fun c => ?_) (fun c => ?_)
  · replace h := h.1 c
    refine ev_iconst (v := 1) dX4_readBoth_57 (by decide) ?_
    exact ev_zret dX4_readBoth_58 rfl (by decide) h
  · replace h := h.2 c
    refine ev_aload_n dX4_readBoth_28 rfl ?_
    obtain ⟨Q2, hc, h⟩ := h
    refine ev_callV [] dX4_readBoth_29 ml_WithoutE_Reader_38 lx_81 rfl rfl (Nat.le_of_ble_eq_true rfl) hc (fun zr zM q => ?_)
    exact h zr zM q
theorem gX4_readBoth_32 {d : Nat} {M : ev_Mem} {Q : Option Value → ev_Mem → Prop} {x1 x2 : Int32} (h : (∃ Q2 : Option Value → ev_Mem → Prop, Cl LX d mX4_readAsk [.ref 81, .int x1] M Q2 ∧ ∀ (zr : Option Value) (zM : ev_Mem), Q2 zr zM → Ev LX (d + 1) mX4_readBoth 37 [some (.ref 81), some (.int x1), some (.int x2)] (zr.toList ++ []) zM Q)) : Ev LX (d + 1) mX4_readBoth 32 [some (.ref 81), some (.int x1), some (.int x2)] [] M Q := by
  refine ev_aload_n dX4_readBoth_32 rfl ?_
  refine ev_iload_n dX4_readBoth_33 rfl ?_
  obtain ⟨Q2, hc, h⟩ := h
  refine ev_callV [.int x1] dX4_readBoth_34 ml_WithoutE_Reader_201 lx_81 rfl rfl (Nat.le_of_ble_eq_true rfl) hc (fun zr zM q => ?_)
  exact h zr zM q
theorem gX4_readBoth_37 {d : Nat} {M : ev_Mem} {Q : Option Value → ev_Mem → Prop} {x1 x2 s0 : Int32} (h : (((¬ s0 = 0) → ((¬ M.1 81 1 = 0 ∧ ev_isT (M.1 81 1).toNatClampNeg) ∧ ((puOK M (M.1 81 1).toNatClampNeg) ∧ (∀ M1 : ev_Mem, M1 = putM M (M.1 81 1).toNatClampNeg (18 : Int32) → (Ev LX (d + 1) mX4_readBoth 12 [some (.ref 81), some (.int x1), some (.int (x2 + 1))] [] M1 Q))))) ∧ ((s0 = 0) → (Q (some (.int 0)) M)))) : Ev LX (d + 1) mX4_readBoth 37 [some (.ref 81), some (.int x1), some (.int x2)] [(.int s0)] M Q := by
  refine ev_if_ne (tgt := 42) dX4_readBoth_37 (by decide) (fun c => ?_) (fun c => ?_)
  · replace h := h.1 c
    refine ev_aload_n dX4_readBoth_42 rfl ?_
    obtain ⟨⟨c, t1⟩, h⟩ := h
    refine ev_getD dX4_readBoth_43 fl_WithoutE_Reader_19 lx_81 rfl c ?_
    refine ev_bipush (v := 18) dX4_readBoth_46 (by decide) ?_
    obtain ⟨p1, h⟩ := h
    refine ev_callV [.int 18] dX4_readBoth_48 ml_WithoutE_Reader_144 (lx_T t1) rfl rfl (Nat.le_of_ble_eq_true rfl) (kX8_put p1) ?_
    rintro zr zM ⟨q1, q2⟩
    rw [q1, q2]
    generalize eM1 : putM M (M.1 81 1).toNatClampNeg (18 : Int32) = M1
    replace h := h M1 eM1.symm
    show Ev LX (d + 1) mX4_readBoth 51 [some (.ref 81), some (.int x1), some (.int x2)] [] M1 Q
    refine ev_iinc (v := x2 + 1) (ls2 := [some (.ref 81), some (.int x1), some (.int (x2 + 1))]) dX4_readBoth_51 rfl rfl rfl ?_
    refine ev_goto (tgt := 12) dX4_readBoth_54 (by decide) ?_
    exact h
  · replace h := h.2 c
    refine ev_iconst (v := 0) dX4_readBoth_40 (by decide) ?_
    exact ev_zret dX4_readBoth_41 rfl (by decide) h
theorem dX4_readEither_0 : decode cX4_readEither 0 = .ok (.aload_n 0, 1) := by decide +kernel
theorem dX4_readEither_1 : decode cX4_readEither 1 = .ok (.iload_n 1, 1) := by decide +kernel
theorem dX4_readEither_2 : decode cX4_readEither 2 = .ok (.invokevirtual 196, 3) := by decide +kernel
theorem dX4_readEither_5 : decode cX4_readEither 5 = .ok (.ifCond .ne 5, 3) := by decide +kernel
theorem dX4_readEither_8 : decode cX4_readEither 8 = .ok (.iconst 0, 1) := by decide +kernel
theorem dX4_readEither_9 : decode cX4_readEither 9 = .ok (.ireturn, 1) := by decide +kernel
theorem dX4_readEither_10 : decode cX4_readEither 10 = .ok (.iconst 0, 1) := by decide +kernel
theorem dX4_readEither_11 : decode cX4_readEither 11 = .ok (.istore_n 2, 1) := by decide +kernel
theorem dX4_readEither_12 : decode cX4_readEither 12 = .ok (.iload_n 2, 1) := by decide +kernel
theorem dX4_readEither_13 : decode cX4_readEither 13 = .ok (.sipush 300, 3) := by decide +kernel
theorem dX4_readEither_16 : decode cX4_readEither 16 = .ok (.if_icmp .ge 41, 3) := by decide +kernel
theorem dX4_readEither_19 : decode cX4_readEither 19 = .ok (.aload_n 0, 1) := by decide +kernel
theorem dX4_readEither_20 : decode cX4_readEither 20 = .ok (.ldc 199, 2) := by decide +kernel
theorem dX4_readEither_22 : decode cX4_readEither 22 = .ok (.invokevirtual 82, 3) := by decide +kernel
theorem dX4_readEither_25 : decode cX4_readEither 25 = .ok (.ifCond .eq 32, 3) := by decide +kernel
theorem dX4_readEither_28 : decode cX4_readEither 28 = .ok (.aload_n 0, 1) := by decide +kernel
theorem dX4_readEither_29 : decode cX4_readEither 29 = .ok (.invokevirtual 38, 3) := by decide +kernel
theorem dX4_readEither_32 : decode cX4_readEither 32 = .ok (.aload_n 0, 1) := by decide +kernel
theorem dX4_readEither_33 : decode cX4_readEither 33 = .ok (.iload_n 1, 1) := by decide +kernel
theorem dX4_readEither_34 : decode cX4_readEither 34 = .ok (.invokevirtual 196, 3) := by decide +kernel
theorem dX4_readEither_37 : decode cX4_readEither 37 = .ok (.ifCond .ne 5, 3) := by decide +kernel
theorem dX4_readEither_40 : decode cX4_readEither 40 = .ok (.iconst 0, 1) := by decide +kernel
theorem dX4_readEither_41 : decode cX4_readEither 41 = .ok (.ireturn, 1) := by decide +kernel
theorem dX4_readEither_42 : decode cX4_readEither 42 = .ok (.aload_n 0, 1) := by decide +kernel
theorem dX4_readEither_43 : decode cX4_readEither 43 = .ok (.getfield 19, 3) := by decide +kernel
theorem dX4_readEither_46 : decode cX4_readEither 46 = .ok (.bipush 19, 2) := by decide +kernel
theorem dX4_readEither_48 : decode cX4_readEither 48 = .ok (.invokevirtual 144, 3) := by decide +kernel
theorem dX4_readEither_51 : decode cX4_readEither 51 = .ok (.iinc 2 1, 3) := by decide +kernel
theorem dX4_readEither_54 : decode cX4_readEither 54 = .ok (.goto (-42), 3) := by decide +kernel
theorem dX4_readEither_57 : decode cX4_readEither 57 = .ok (.iconst 1, 1) := by decide +kernel
theorem dX4_readEither_58 : decode cX4_readEither 58 = .ok (.ireturn, 1) := by decide +kernel
theorem gX4_readEither_0 {d : Nat} {M : ev_Mem} {Q : Option Value → ev_Mem → Prop} {x1 : Int32} (h : (∃ Q2 : Option Value → ev_Mem → Prop, Cl LX d mX4_readBoth [.ref 81, .int x1] M Q2 ∧ ∀ (zr : Option Value) (zM : ev_Mem), Q2 zr zM → Ev LX (d + 1) mX4_readEither 5 [some (.ref 81), some (.int x1), none] (zr.toList ++ []) zM Q)) : Ev LX (d + 1) mX4_readEither 0 [some (.ref 81), some (.int x1), none] [] M Q := by
  refine ev_aload_n dX4_readEither_0 rfl ?_
  refine ev_iload_n dX4_readEither_1 rfl ?_
  obtain ⟨Q2, hc, h⟩ := h
  refine ev_callV [.int x1] dX4_readEither_2 ml_WithoutE_Reader_196 lx_81 rfl rfl (Nat.le_of_ble_eq_true rfl) hc (fun zr zM q => ?_)
  exact h zr zM q
theorem gX4_readEither_5 {d : Nat} {M : ev_Mem} {Q : Option Value → ev_Mem → Prop} {x1 s0 : Int32} (h : (((¬ s0 = 0) → (Ev LX d mX4_readEither 12 [some (.ref 81), some (.int x1), some (.int 0)] [] M Q)) ∧ ((s0 = 0) → (Q (some (.int 0)) M)))) : Ev LX d mX4_readEither 5 [some (.ref 81), some (.int x1), none] [(.int s0)] M Q := by
  refine ev_if_ne (tgt := 10) dX4_readEither_5 (by decide) (fun c => ?_) (fun c => ?_)
  · replace h := h.1 c
    refine ev_iconst (v := 0) dX4_readEither_10 (by decide) ?_
    refine ev_istore_n (ls2 := [some (.ref 81), some (.int x1), some (.int 0)]) dX4_readEither_11 (Nat.le_of_ble_eq_true rfl) rfl ?_
    exact h
  · replace h := h.2 c
    refine ev_iconst (v := 0) dX4_readEither_8 (by decide) ?_
    exact ev_zret dX4_readEither_9 rfl (by decide) h
theorem gX4_readEither_12 {d : Nat} {M : ev_Mem} {Q : Option Value → ev_Mem → Prop} {x1 x2 : Int32} (h : (((300 ≤ x2) → (Q (some (.int 1)) M)) ∧ ((¬ 300 ≤ x2) → (∃ Q2 : Option Value → ev_Mem → Prop, Cl LX d mX4_isToken [.ref 81, .ref 1015] M Q2 ∧ ∀ (zr : Option Value) (zM : ev_Mem), Q2 zr zM → Ev LX (d + 1) mX4_readEither 25 [some (.ref 81), some (.int x1), some (.int x2)] (zr.toList ++ []) zM Q)))) : Ev LX (d + 1) mX4_readEither 12 [some (.ref 81), some (.int x1), some (.int x2)] [] M Q := by
  refine ev_iload_n dX4_readEither_12 rfl ?_
  refine ev_sipush (v := 300) dX4_readEither_13 (by decide) ?_
  refine ev_icmp_ge (tgt := 57) dX4_readEither_16 (by decide) (fun c => ?_) (fun c => ?_)
  · replace h := h.1 c
    refine ev_iconst (v := 1) dX4_readEither_57 (by decide) ?_
    exact ev_zret dX4_readEither_58 rfl (by decide) h
  · replace h := h.2 c
    refine ev_aload_n dX4_readEither_19 rfl ?_
    refine ev_ldcS (i := 5) dX4_readEither_20 rfl rfl ?_
    obtain ⟨Q2, hc, h⟩ := h
    refine ev_callV [.ref 1015] dX4_readEither_22 ml_WithoutE_Reader_82 lx_81 rfl rfl (Nat.le_of_ble_eq_true rfl) hc (fun zr zM q => ?_)
    exact h zr zM q
theorem gX4_readEither_25 {d : Nat} {M : ev_Mem} {Q : Option Value → ev_Mem → Prop} {x1 x2 s0 : Int32} (h : (((s0 = 0) → (Q (some (.int 1)) M)) ∧ ((¬ s0 = 0) → (∃ Q2 : Option Value → ev_Mem → Prop, Cl LX d mX4_advance [.ref 81] M Q2 ∧ ∀ (zr : Option Value) (zM : ev_Mem), Q2 zr zM → Ev LX (d + 1) mX4_readEither 32 [some (.ref 81), some (.int x1), some (.int x2)] (zr.toList ++ []) zM Q)))) : Ev LX (d + 1) mX4_readEither 25 [some (.ref 81), some (.int x1), some (.int x2)] [(.int s0)] M Q := by
  refine ev_if_eq (tgt := 57) dX4_readEither_25 (by decide) (fun c => ?_) (fun c => ?_)
  · replace h := h.1 c
    refine ev_iconst (v := 1) dX4_readEither_57 (by decide) ?_
    exact ev_zret dX4_readEither_58 rfl (by decide) h
  · replace h := h.2 c
    refine ev_aload_n dX4_readEither_28 rfl ?_
    obtain ⟨Q2, hc, h⟩ := h
    refine ev_callV [] dX4_readEither_29 ml_WithoutE_Reader_38 lx_81 rfl rfl (Nat.le_of_ble_eq_true rfl) hc (fun zr zM q => ?_)
    exact h zr zM q
theorem gX4_readEither_32 {d : Nat} {M : ev_Mem} {Q : Option Value → ev_Mem → Prop} {x1 x2 : Int32} (h : (∃ Q2 : Option Value → ev_Mem → Prop, Cl LX d mX4_readBoth [.ref 81, .int x1] M Q2 ∧ ∀ (zr : Option Value) (zM : ev_Mem), Q2 zr zM → Ev LX (d + 1) mX4_readEither 37 [some (.ref 81), some (.int x1), some (.int x2)] (zr.toList ++ []) zM Q)) : Ev LX (d + 1) mX4_readEither 32 [some (.ref 81), some (.int x1), some (.int x2)] [] M Q := by
  refine ev_aload_n dX4_readEither_32 rfl ?_
  refine ev_iload_n dX4_readEither_33 rfl ?_
  obtain ⟨Q2, hc, h⟩ := h
  refine ev_callV [.int x1] dX4_readEither_34 ml_WithoutE_Reader_196 lx_81 rfl rfl (Nat.le_of_ble_eq_true rfl) hc (fun zr zM q => ?_)
  exact h zr zM q
theorem gX4_readEither_37 {d : Nat} {M : ev_Mem} {Q : Option Value → ev_Mem → Prop} {x1 x2 s0 : Int32} (h : (((¬ s0 = 0) → ((¬ M.1 81 1 = 0 ∧ ev_isT (M.1 81 1).toNatClampNeg) ∧ ((puOK M (M.1 81 1).toNatClampNeg) ∧ (∀ M1 : ev_Mem, M1 = putM M (M.1 81 1).toNatClampNeg (19 : Int32) → (Ev LX (d + 1) mX4_readEither 12 [some (.ref 81), some (.int x1), some (.int (x2 + 1))] [] M1 Q))))) ∧ ((s0 = 0) → (Q (some (.int 0)) M)))) : Ev LX (d + 1) mX4_readEither 37 [some (.ref 81), some (.int x1), some (.int x2)] [(.int s0)] M Q := by
  refine ev_if_ne (tgt := 42) dX4_readEither_37 (by decide) (fun c => ?_) (fun c => ?_)
  · replace h := h.1 c
    refine ev_aload_n dX4_readEither_42 rfl ?_
    obtain ⟨⟨c, t1⟩, h⟩ := h
    refine ev_getD dX4_readEither_43 fl_WithoutE_Reader_19 lx_81 rfl c ?_
    refine ev_bipush (v := 19) dX4_readEither_46 (by decide) ?_
    obtain ⟨p1, h⟩ := h
    refine ev_callV [.int 19] dX4_readEither_48 ml_WithoutE_Reader_144 (lx_T t1) rfl rfl (Nat.le_of_ble_eq_true rfl) (kX8_put p1) ?_
    rintro zr zM ⟨q1, q2⟩
    rw [q1, q2]
    generalize eM1 : putM M (M.1 81 1).toNatClampNeg (19 : Int32) = M1
    replace h := h M1 eM1.symm
    show Ev LX (d + 1) mX4_readEither 51 [some (.ref 81), some (.int x1), some (.int x2)] [] M1 Q
    refine ev_iinc (v := x2 + 1) (ls2 := [some (.ref 81), some (.int x1), some (.int (x2 + 1))]) dX4_readEither_51 rfl rfl rfl ?_
    refine ev_goto (tgt := 12) dX4_readEither_54 (by decide) ?_
    exact h
  · replace h := h.2 c
    refine ev_iconst (v := 0) dX4_readEither_40 (by decide) ?_
    exact ev_zret dX4_readEither_41 rfl (by decide) h
theorem dX4_readChoice_0 : decode cX4_readChoice 0 = .ok (.aload_n 0, 1) := by decide +kernel
theorem dX4_readChoice_1 : decode cX4_readChoice 1 = .ok (.iload_n 1, 1) := by decide +kernel
theorem dX4_readChoice_2 : decode cX4_readChoice 2 = .ok (.invokevirtual 187, 3) := by decide +kernel
theorem dX4_readChoice_5 : decode cX4_readChoice 5 = .ok (.ifCond .eq 12, 3) := by decide +kernel
theorem dX4_readChoice_8 : decode cX4_readChoice 8 = .ok (.aload_n 0, 1) := by decide +kernel
theorem dX4_readChoice_9 : decode cX4_readChoice 9 = .ok (.ldc 190, 2) := by decide +kernel
theorem dX4_readChoice_11 : decode cX4_readChoice 11 = .ok (.invokevirtual 120, 3) := by decide +kernel
theorem dX4_readChoice_14 : decode cX4_readChoice 14 = .ok (.ifCond .ne 5, 3) := by decide +kernel
theorem dX4_readChoice_17 : decode cX4_readChoice 17 = .ok (.iconst 0, 1) := by decide +kernel
theorem dX4_readChoice_18 : decode cX4_readChoice 18 = .ok (.ireturn, 1) := by decide +kernel
theorem dX4_readChoice_19 : decode cX4_readChoice 19 = .ok (.aload_n 0, 1) := by decide +kernel
theorem dX4_readChoice_20 : decode cX4_readChoice 20 = .ok (.getfield 19, 3) := by decide +kernel
theorem dX4_readChoice_23 : decode cX4_readChoice 23 = .ok (.getfield 147, 3) := by decide +kernel
theorem dX4_readChoice_26 : decode cX4_readChoice 26 = .ok (.istore_n 2, 1) := by decide +kernel
theorem dX4_readChoice_27 : decode cX4_readChoice 27 = .ok (.aload_n 0, 1) := by decide +kernel
theorem dX4_readChoice_28 : decode cX4_readChoice 28 = .ok (.getfield 19, 3) := by decide +kernel
theorem dX4_readChoice_31 : decode cX4_readChoice 31 = .ok (.bipush 6, 2) := by decide +kernel
theorem dX4_readChoice_33 : decode cX4_readChoice 33 = .ok (.invokevirtual 144, 3) := by decide +kernel
theorem dX4_readChoice_36 : decode cX4_readChoice 36 = .ok (.aload_n 0, 1) := by decide +kernel
theorem dX4_readChoice_37 : decode cX4_readChoice 37 = .ok (.iload_n 1, 1) := by decide +kernel
theorem dX4_readChoice_38 : decode cX4_readChoice 38 = .ok (.invokevirtual 102, 3) := by decide +kernel
theorem dX4_readChoice_41 : decode cX4_readChoice 41 = .ok (.ifCond .eq 12, 3) := by decide +kernel
theorem dX4_readChoice_44 : decode cX4_readChoice 44 = .ok (.aload_n 0, 1) := by decide +kernel
theorem dX4_readChoice_45 : decode cX4_readChoice 45 = .ok (.ldc 192, 2) := by decide +kernel
theorem dX4_readChoice_47 : decode cX4_readChoice 47 = .ok (.invokevirtual 120, 3) := by decide +kernel
theorem dX4_readChoice_50 : decode cX4_readChoice 50 = .ok (.ifCond .ne 5, 3) := by decide +kernel
theorem dX4_readChoice_53 : decode cX4_readChoice 53 = .ok (.iconst 0, 1) := by decide +kernel
theorem dX4_readChoice_54 : decode cX4_readChoice 54 = .ok (.ireturn, 1) := by decide +kernel
theorem dX4_readChoice_55 : decode cX4_readChoice 55 = .ok (.aload_n 0, 1) := by decide +kernel
theorem dX4_readChoice_56 : decode cX4_readChoice 56 = .ok (.getfield 19, 3) := by decide +kernel
theorem dX4_readChoice_59 : decode cX4_readChoice 59 = .ok (.getfield 147, 3) := by decide +kernel
theorem dX4_readChoice_62 : decode cX4_readChoice 62 = .ok (.istore_n 3, 1) := by decide +kernel
theorem dX4_readChoice_63 : decode cX4_readChoice 63 = .ok (.aload_n 0, 1) := by decide +kernel
theorem dX4_readChoice_64 : decode cX4_readChoice 64 = .ok (.getfield 19, 3) := by decide +kernel
theorem dX4_readChoice_67 : decode cX4_readChoice 67 = .ok (.bipush 7, 2) := by decide +kernel
theorem dX4_readChoice_69 : decode cX4_readChoice 69 = .ok (.invokevirtual 144, 3) := by decide +kernel
theorem dX4_readChoice_72 : decode cX4_readChoice 72 = .ok (.aload_n 0, 1) := by decide +kernel
theorem dX4_readChoice_73 : decode cX4_readChoice 73 = .ok (.getfield 19, 3) := by decide +kernel
theorem dX4_readChoice_76 : decode cX4_readChoice 76 = .ok (.iload_n 2, 1) := by decide +kernel
theorem dX4_readChoice_77 : decode cX4_readChoice 77 = .ok (.bipush 6, 2) := by decide +kernel
theorem dX4_readChoice_79 : decode cX4_readChoice 79 = .ok (.aload_n 0, 1) := by decide +kernel
theorem dX4_readChoice_80 : decode cX4_readChoice 80 = .ok (.getfield 19, 3) := by decide +kernel
theorem dX4_readChoice_83 : decode cX4_readChoice 83 = .ok (.getfield 147, 3) := by decide +kernel
theorem dX4_readChoice_86 : decode cX4_readChoice 86 = .ok (.iconst 5, 1) := by decide +kernel
theorem dX4_readChoice_87 : decode cX4_readChoice 87 = .ok (.ishl, 1) := by decide +kernel
theorem dX4_readChoice_88 : decode cX4_readChoice 88 = .ok (.ior, 1) := by decide +kernel
theorem dX4_readChoice_89 : decode cX4_readChoice 89 = .ok (.invokevirtual 150, 3) := by decide +kernel
theorem dX4_readChoice_92 : decode cX4_readChoice 92 = .ok (.aload_n 0, 1) := by decide +kernel
theorem dX4_readChoice_93 : decode cX4_readChoice 93 = .ok (.iload_n 1, 1) := by decide +kernel
theorem dX4_readChoice_94 : decode cX4_readChoice 94 = .ok (.invokevirtual 102, 3) := by decide +kernel
theorem dX4_readChoice_97 : decode cX4_readChoice 97 = .ok (.ifCond .eq 12, 3) := by decide +kernel
theorem dX4_readChoice_100 : decode cX4_readChoice 100 = .ok (.aload_n 0, 1) := by decide +kernel
theorem dX4_readChoice_101 : decode cX4_readChoice 101 = .ok (.ldc 194, 2) := by decide +kernel
theorem dX4_readChoice_103 : decode cX4_readChoice 103 = .ok (.invokevirtual 120, 3) := by decide +kernel
theorem dX4_readChoice_106 : decode cX4_readChoice 106 = .ok (.ifCond .ne 5, 3) := by decide +kernel
theorem dX4_readChoice_109 : decode cX4_readChoice 109 = .ok (.iconst 0, 1) := by decide +kernel
theorem dX4_readChoice_110 : decode cX4_readChoice 110 = .ok (.ireturn, 1) := by decide +kernel
theorem dX4_readChoice_111 : decode cX4_readChoice 111 = .ok (.aload_n 0, 1) := by decide +kernel
theorem dX4_readChoice_112 : decode cX4_readChoice 112 = .ok (.getfield 19, 3) := by decide +kernel
theorem dX4_readChoice_115 : decode cX4_readChoice 115 = .ok (.iload_n 3, 1) := by decide +kernel
theorem dX4_readChoice_116 : decode cX4_readChoice 116 = .ok (.bipush 7, 2) := by decide +kernel
theorem dX4_readChoice_118 : decode cX4_readChoice 118 = .ok (.aload_n 0, 1) := by decide +kernel
theorem dX4_readChoice_119 : decode cX4_readChoice 119 = .ok (.getfield 19, 3) := by decide +kernel
theorem dX4_readChoice_122 : decode cX4_readChoice 122 = .ok (.getfield 147, 3) := by decide +kernel
theorem dX4_readChoice_125 : decode cX4_readChoice 125 = .ok (.iconst 5, 1) := by decide +kernel
theorem dX4_readChoice_126 : decode cX4_readChoice 126 = .ok (.ishl, 1) := by decide +kernel
theorem dX4_readChoice_127 : decode cX4_readChoice 127 = .ok (.ior, 1) := by decide +kernel
theorem dX4_readChoice_128 : decode cX4_readChoice 128 = .ok (.invokevirtual 150, 3) := by decide +kernel
theorem dX4_readChoice_131 : decode cX4_readChoice 131 = .ok (.iconst 1, 1) := by decide +kernel
theorem dX4_readChoice_132 : decode cX4_readChoice 132 = .ok (.ireturn, 1) := by decide +kernel
theorem gX4_readChoice_0 {d : Nat} {M : ev_Mem} {Q : Option Value → ev_Mem → Prop} {x1 : Int32} (h : (∃ Q2 : Option Value → ev_Mem → Prop, Cl LX d mX4_readEither [.ref 81, .int x1] M Q2 ∧ ∀ (zr : Option Value) (zM : ev_Mem), Q2 zr zM → Ev LX (d + 1) mX4_readChoice 5 [some (.ref 81), some (.int x1), none, none] (zr.toList ++ []) zM Q)) : Ev LX (d + 1) mX4_readChoice 0 [some (.ref 81), some (.int x1), none, none] [] M Q := by
  refine ev_aload_n dX4_readChoice_0 rfl ?_
  refine ev_iload_n dX4_readChoice_1 rfl ?_
  obtain ⟨Q2, hc, h⟩ := h
  refine ev_callV [.int x1] dX4_readChoice_2 ml_WithoutE_Reader_187 lx_81 rfl rfl (Nat.le_of_ble_eq_true rfl) hc (fun zr zM q => ?_)
  exact h zr zM q
theorem gX4_readChoice_5 {d : Nat} {M : ev_Mem} {Q : Option Value → ev_Mem → Prop} {x1 s0 : Int32} (h : (((s0 = 0) → (Q (some (.int 0)) M)) ∧ ((¬ s0 = 0) → (∃ Q2 : Option Value → ev_Mem → Prop, Cl LX d mX4_expectToken [.ref 81, .ref 1016] M Q2 ∧ ∀ (zr : Option Value) (zM : ev_Mem), Q2 zr zM → Ev LX (d + 1) mX4_readChoice 14 [some (.ref 81), some (.int x1), none, none] (zr.toList ++ []) zM Q)))) : Ev LX (d + 1) mX4_readChoice 5 [some (.ref 81), some (.int x1), none, none] [(.int s0)] M Q := by
  refine ev_if_eq (tgt := 17) dX4_readChoice_5 (by decide) (fun c => ?_) (fun c => ?_)
  · replace h := h.1 c
    refine ev_iconst (v := 0) dX4_readChoice_17 (by decide) ?_
    exact ev_zret dX4_readChoice_18 rfl (by decide) h
  · replace h := h.2 c
    refine ev_aload_n dX4_readChoice_8 rfl ?_
    refine ev_ldcS (i := 6) dX4_readChoice_9 rfl rfl ?_
    obtain ⟨Q2, hc, h⟩ := h
    refine ev_callV [.ref 1016] dX4_readChoice_11 ml_WithoutE_Reader_120 lx_81 rfl rfl (Nat.le_of_ble_eq_true rfl) hc (fun zr zM q => ?_)
    exact h zr zM q
theorem gX4_readChoice_14 {d : Nat} {M : ev_Mem} {Q : Option Value → ev_Mem → Prop} {x1 s0 : Int32} (h : (((¬ s0 = 0) → ((¬ M.1 81 1 = 0 ∧ ev_isT (M.1 81 1).toNatClampNeg) ∧ (∀ v1 : Int32, v1 = M.1 ((M.1 81 1).toNatClampNeg) 1 → ((¬ M.1 81 1 = 0 ∧ ev_isT (M.1 81 1).toNatClampNeg) ∧ ((puOK M (M.1 81 1).toNatClampNeg) ∧ (∀ M1 : ev_Mem, M1 = putM M (M.1 81 1).toNatClampNeg (6 : Int32) → (∃ Q2 : Option Value → ev_Mem → Prop, Cl LX d mX4_readSum [.ref 81, .int x1] M1 Q2 ∧ ∀ (zr : Option Value) (zM : ev_Mem), Q2 zr zM → Ev LX (d + 1) mX4_readChoice 41 [some (.ref 81), some (.int x1), some (.int v1), none] (zr.toList ++ []) zM Q))))))) ∧ ((s0 = 0) → (Q (some (.int 0)) M)))) : Ev LX (d + 1) mX4_readChoice 14 [some (.ref 81), some (.int x1), none, none] [(.int s0)] M Q := by
  refine ev_if_ne (tgt := 19) dX4_readChoice_14 (by decide) (fun c => ?_) (fun c => ?_)
  · replace h := h.1 c
    refine ev_aload_n dX4_readChoice_19 rfl ?_
    obtain ⟨⟨c, t1⟩, h⟩ := h
    refine ev_getD dX4_readChoice_20 fl_WithoutE_Reader_19 lx_81 rfl c ?_
    refine ev_getI dX4_readChoice_23 fl_WithoutE_Reader_147 (lx_T t1) rfl ?_
    refine ev_istore_n (ls2 := [some (.ref 81), some (.int x1), some (.int (M.1 ((M.1 81 1).toNatClampNeg) 1)), none]) dX4_readChoice_26 (Nat.le_of_ble_eq_true rfl) rfl ?_
    generalize ev1 : M.1 ((M.1 81 1).toNatClampNeg) 1 = v1
    replace h := h v1 ev1.symm
    refine ev_aload_n dX4_readChoice_27 rfl ?_
    obtain ⟨⟨c, t2⟩, h⟩ := h
    refine ev_getD dX4_readChoice_28 fl_WithoutE_Reader_19 lx_81 rfl c ?_
    refine ev_bipush (v := 6) dX4_readChoice_31 (by decide) ?_
    obtain ⟨p1, h⟩ := h
    refine ev_callV [.int 6] dX4_readChoice_33 ml_WithoutE_Reader_144 (lx_T t2) rfl rfl (Nat.le_of_ble_eq_true rfl) (kX8_put p1) ?_
    rintro zr zM ⟨q1, q2⟩
    rw [q1, q2]
    generalize eM1 : putM M (M.1 81 1).toNatClampNeg (6 : Int32) = M1
    replace h := h M1 eM1.symm
    show Ev LX (d + 1) mX4_readChoice 36 [some (.ref 81), some (.int x1), some (.int v1), none] [] M1 Q
    refine ev_aload_n dX4_readChoice_36 rfl ?_
    refine ev_iload_n dX4_readChoice_37 rfl ?_
    obtain ⟨Q2, hc, h⟩ := h
    refine ev_callV [.int x1] dX4_readChoice_38 ml_WithoutE_Reader_102 lx_81 rfl rfl (Nat.le_of_ble_eq_true rfl) hc (fun zr zM q => ?_)
    exact h zr zM q
  · replace h := h.2 c
    refine ev_iconst (v := 0) dX4_readChoice_17 (by decide) ?_
    exact ev_zret dX4_readChoice_18 rfl (by decide) h
theorem gX4_readChoice_41 {d : Nat} {M : ev_Mem} {Q : Option Value → ev_Mem → Prop} {x1 x2 s0 : Int32} (h : (((s0 = 0) → (Q (some (.int 0)) M)) ∧ ((¬ s0 = 0) → (∃ Q2 : Option Value → ev_Mem → Prop, Cl LX d mX4_expectToken [.ref 81, .ref 1017] M Q2 ∧ ∀ (zr : Option Value) (zM : ev_Mem), Q2 zr zM → Ev LX (d + 1) mX4_readChoice 50 [some (.ref 81), some (.int x1), some (.int x2), none] (zr.toList ++ []) zM Q)))) : Ev LX (d + 1) mX4_readChoice 41 [some (.ref 81), some (.int x1), some (.int x2), none] [(.int s0)] M Q := by
  refine ev_if_eq (tgt := 53) dX4_readChoice_41 (by decide) (fun c => ?_) (fun c => ?_)
  · replace h := h.1 c
    refine ev_iconst (v := 0) dX4_readChoice_53 (by decide) ?_
    exact ev_zret dX4_readChoice_54 rfl (by decide) h
  · replace h := h.2 c
    refine ev_aload_n dX4_readChoice_44 rfl ?_
    refine ev_ldcS (i := 7) dX4_readChoice_45 rfl rfl ?_
    obtain ⟨Q2, hc, h⟩ := h
    refine ev_callV [.ref 1017] dX4_readChoice_47 ml_WithoutE_Reader_120 lx_81 rfl rfl (Nat.le_of_ble_eq_true rfl) hc (fun zr zM q => ?_)
    exact h zr zM q
theorem gX4_readChoice_50 {d : Nat} {M : ev_Mem} {Q : Option Value → ev_Mem → Prop} {x1 x2 s0 : Int32} (h : (((¬ s0 = 0) → ((¬ M.1 81 1 = 0 ∧ ev_isT (M.1 81 1).toNatClampNeg) ∧ (∀ v1 : Int32, v1 = M.1 ((M.1 81 1).toNatClampNeg) 1 → ((¬ M.1 81 1 = 0 ∧ ev_isT (M.1 81 1).toNatClampNeg) ∧ ((puOK M (M.1 81 1).toNatClampNeg) ∧ (∀ M1 : ev_Mem, M1 = putM M (M.1 81 1).toNatClampNeg (7 : Int32) → ((¬ M1.1 81 1 = 0 ∧ ev_isT (M1.1 81 1).toNatClampNeg) ∧ ((¬ M1.1 81 1 = 0 ∧ ev_isT (M1.1 81 1).toNatClampNeg) ∧ (∃ Q2 : Option Value → ev_Mem → Prop, Cl LX d mX8_set [.ref ((M1.1 81 1).toNatClampNeg), .int x2, .int ((6 : Int32) ||| ((M1.1 ((M1.1 81 1).toNatClampNeg) 1) <<< (5 &&& 31)))] M1 Q2 ∧ ∀ (zr : Option Value) (zM : ev_Mem), Q2 zr zM → Ev LX (d + 1) mX4_readChoice 92 [some (.ref 81), some (.int x1), none, some (.int v1)] (zr.toList ++ []) zM Q))))))))) ∧ ((s0 = 0) → (Q (some (.int 0)) M)))) : Ev LX (d + 1) mX4_readChoice 50 [some (.ref 81), some (.int x1), some (.int x2), none] [(.int s0)] M Q := by
  refine ev_if_ne (tgt := 55) dX4_readChoice_50 (by decide) (fun c => ?_) (fun c => ?_)
  · replace h := h.1 c
    refine ev_aload_n dX4_readChoice_55 rfl ?_
    obtain ⟨⟨c, t1⟩, h⟩ := h
    refine ev_getD dX4_readChoice_56 fl_WithoutE_Reader_19 lx_81 rfl c ?_
    refine ev_getI dX4_readChoice_59 fl_WithoutE_Reader_147 (lx_T t1) rfl ?_
    refine ev_istore_n (ls2 := [some (.ref 81), some (.int x1), some (.int x2), some (.int (M.1 ((M.1 81 1).toNatClampNeg) 1))]) dX4_readChoice_62 (Nat.le_of_ble_eq_true rfl) rfl ?_
    generalize ev1 : M.1 ((M.1 81 1).toNatClampNeg) 1 = v1
    replace h := h v1 ev1.symm
    refine ev_aload_n dX4_readChoice_63 rfl ?_
    obtain ⟨⟨c, t2⟩, h⟩ := h
    refine ev_getD dX4_readChoice_64 fl_WithoutE_Reader_19 lx_81 rfl c ?_
    refine ev_bipush (v := 7) dX4_readChoice_67 (by decide) ?_
    obtain ⟨p1, h⟩ := h
    refine ev_callV [.int 7] dX4_readChoice_69 ml_WithoutE_Reader_144 (lx_T t2) rfl rfl (Nat.le_of_ble_eq_true rfl) (kX8_put p1) ?_
    rintro zr zM ⟨q1, q2⟩
    rw [q1, q2]
    generalize eM1 : putM M (M.1 81 1).toNatClampNeg (7 : Int32) = M1
    replace h := h M1 eM1.symm
    show Ev LX (d + 1) mX4_readChoice 72 [some (.ref 81), some (.int x1), some (.int x2), some (.int v1)] [] M1 Q
    refine ev_aload_n dX4_readChoice_72 rfl ?_
    obtain ⟨⟨c, t3⟩, h⟩ := h
    refine ev_getD dX4_readChoice_73 fl_WithoutE_Reader_19 lx_81 rfl c ?_
    refine ev_iload_n dX4_readChoice_76 rfl ?_
    refine ev_bipush (v := 6) dX4_readChoice_77 (by decide) ?_
    refine ev_aload_n dX4_readChoice_79 rfl ?_
    obtain ⟨⟨c, t4⟩, h⟩ := h
    refine ev_getD dX4_readChoice_80 fl_WithoutE_Reader_19 lx_81 rfl c ?_
    refine ev_getI dX4_readChoice_83 fl_WithoutE_Reader_147 (lx_T t4) rfl ?_
    refine ev_iconst (v := 5) dX4_readChoice_86 (by decide) ?_
    refine ev_ishl dX4_readChoice_87 ?_
    refine ev_ior dX4_readChoice_88 ?_
    obtain ⟨Q2, hc, h⟩ := h
    refine ev_callV [.int x2, .int ((6 : Int32) ||| ((M1.1 ((M1.1 81 1).toNatClampNeg) 1) <<< (5 &&& 31)))] dX4_readChoice_89 ml_WithoutE_Reader_150 (lx_T t3) rfl rfl (Nat.le_of_ble_eq_true rfl) hc (fun zr zM q => ?_)
    refine Ev.weak (ls := [some (.ref 81), some (.int x1), none, some (.int v1)]) ⟨rfl, rfl, rfl, trivial⟩ ?_
    exact h zr zM q
  · replace h := h.2 c
    refine ev_iconst (v := 0) dX4_readChoice_53 (by decide) ?_
    exact ev_zret dX4_readChoice_54 rfl (by decide) h
theorem gX4_readChoice_92 {d : Nat} {M : ev_Mem} {Q : Option Value → ev_Mem → Prop} {x1 x3 : Int32} (h : (∃ Q2 : Option Value → ev_Mem → Prop, Cl LX d mX4_readSum [.ref 81, .int x1] M Q2 ∧ ∀ (zr : Option Value) (zM : ev_Mem), Q2 zr zM → Ev LX (d + 1) mX4_readChoice 97 [some (.ref 81), none, none, some (.int x3)] (zr.toList ++ []) zM Q)) : Ev LX (d + 1) mX4_readChoice 92 [some (.ref 81), some (.int x1), none, some (.int x3)] [] M Q := by
  refine ev_aload_n dX4_readChoice_92 rfl ?_
  refine ev_iload_n dX4_readChoice_93 rfl ?_
  obtain ⟨Q2, hc, h⟩ := h
  refine ev_callV [.int x1] dX4_readChoice_94 ml_WithoutE_Reader_102 lx_81 rfl rfl (Nat.le_of_ble_eq_true rfl) hc (fun zr zM q => ?_)
  refine Ev.weak (ls := [some (.ref 81), none, none, some (.int x3)]) ⟨rfl, rfl, trivial⟩ ?_
  exact h zr zM q
theorem gX4_readChoice_97 {d : Nat} {M : ev_Mem} {Q : Option Value → ev_Mem → Prop} {x3 s0 : Int32} (h : (((s0 = 0) → (Q (some (.int 0)) M)) ∧ ((¬ s0 = 0) → (∃ Q2 : Option Value → ev_Mem → Prop, Cl LX d mX4_expectToken [.ref 81, .ref 1018] M Q2 ∧ ∀ (zr : Option Value) (zM : ev_Mem), Q2 zr zM → Ev LX (d + 1) mX4_readChoice 106 [some (.ref 81), none, none, some (.int x3)] (zr.toList ++ []) zM Q)))) : Ev LX (d + 1) mX4_readChoice 97 [some (.ref 81), none, none, some (.int x3)] [(.int s0)] M Q := by
  refine ev_if_eq (tgt := 109) dX4_readChoice_97 (by decide) (fun c => ?_) (fun c => ?_)
  · replace h := h.1 c
    refine ev_iconst (v := 0) dX4_readChoice_109 (by decide) ?_
    exact ev_zret dX4_readChoice_110 rfl (by decide) h
  · replace h := h.2 c
    refine ev_aload_n dX4_readChoice_100 rfl ?_
    refine ev_ldcS (i := 8) dX4_readChoice_101 rfl rfl ?_
    obtain ⟨Q2, hc, h⟩ := h
    refine ev_callV [.ref 1018] dX4_readChoice_103 ml_WithoutE_Reader_120 lx_81 rfl rfl (Nat.le_of_ble_eq_true rfl) hc (fun zr zM q => ?_)
    exact h zr zM q
theorem gX4_readChoice_106 {d : Nat} {M : ev_Mem} {Q : Option Value → ev_Mem → Prop} {x3 s0 : Int32} (h : (((¬ s0 = 0) → ((¬ M.1 81 1 = 0 ∧ ev_isT (M.1 81 1).toNatClampNeg) ∧ ((¬ M.1 81 1 = 0 ∧ ev_isT (M.1 81 1).toNatClampNeg) ∧ (∃ Q2 : Option Value → ev_Mem → Prop, Cl LX d mX8_set [.ref ((M.1 81 1).toNatClampNeg), .int x3, .int ((7 : Int32) ||| ((M.1 ((M.1 81 1).toNatClampNeg) 1) <<< (5 &&& 31)))] M Q2 ∧ ∀ (zr : Option Value) (zM : ev_Mem), Q2 zr zM → Ev LX (d + 1) mX4_readChoice 131 [none, none, none, none] (zr.toList ++ []) zM Q)))) ∧ ((s0 = 0) → (Q (some (.int 0)) M)))) : Ev LX (d + 1) mX4_readChoice 106 [some (.ref 81), none, none, some (.int x3)] [(.int s0)] M Q := by
  refine ev_if_ne (tgt := 111) dX4_readChoice_106 (by decide) (fun c => ?_) (fun c => ?_)
  · replace h := h.1 c
    refine ev_aload_n dX4_readChoice_111 rfl ?_
    obtain ⟨⟨c, t1⟩, h⟩ := h
    refine ev_getD dX4_readChoice_112 fl_WithoutE_Reader_19 lx_81 rfl c ?_
    refine ev_iload_n dX4_readChoice_115 rfl ?_
    refine ev_bipush (v := 7) dX4_readChoice_116 (by decide) ?_
    refine ev_aload_n dX4_readChoice_118 rfl ?_
    obtain ⟨⟨c, t2⟩, h⟩ := h
    refine ev_getD dX4_readChoice_119 fl_WithoutE_Reader_19 lx_81 rfl c ?_
    refine ev_getI dX4_readChoice_122 fl_WithoutE_Reader_147 (lx_T t2) rfl ?_
    refine ev_iconst (v := 5) dX4_readChoice_125 (by decide) ?_
    refine ev_ishl dX4_readChoice_126 ?_
    refine ev_ior dX4_readChoice_127 ?_
    obtain ⟨Q2, hc, h⟩ := h
    refine ev_callV [.int x3, .int ((7 : Int32) ||| ((M.1 ((M.1 81 1).toNatClampNeg) 1) <<< (5 &&& 31)))] dX4_readChoice_128 ml_WithoutE_Reader_150 (lx_T t1) rfl rfl (Nat.le_of_ble_eq_true rfl) hc (fun zr zM q => ?_)
    refine Ev.weak (ls := [none, none, none, none]) trivial ?_
    exact h zr zM q
  · replace h := h.2 c
    refine ev_iconst (v := 0) dX4_readChoice_109 (by decide) ?_
    exact ev_zret dX4_readChoice_110 rfl (by decide) h
theorem gX4_readChoice_131 {d : Nat} {M : ev_Mem} {Q : Option Value → ev_Mem → Prop} (h : (Q (some (.int 1)) M)) : Ev LX d mX4_readChoice 131 [none, none, none, none] [] M Q := by
  refine ev_iconst (v := 1) dX4_readChoice_131 (by decide) ?_
  exact ev_zret dX4_readChoice_132 rfl (by decide) h
