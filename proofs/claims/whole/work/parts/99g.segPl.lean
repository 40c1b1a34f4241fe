theorem dX10_playClause_0 : decode cX10_playClause 0 = .ok (.aload_n 1, 1) := by decide +kernel
theorem dX10_playClause_1 : decode cX10_playClause 1 = .ok (.iload_n 2, 1) := by decide +kernel
theorem dX10_playClause_2 : decode cX10_playClause 2 = .ok (.iconst 0, 1) := by decide +kernel
theorem dX10_playClause_3 : decode cX10_playClause 3 = .ok (.invokevirtual 140, 3) := by decide +kernel
theorem dX10_playClause_6 : decode cX10_playClause 6 = .ok (.istore_n 3, 1) := by decide +kernel
theorem dX10_playClause_7 : decode cX10_playClause 7 = .ok (.aload_n 1, 1) := by decide +kernel
theorem dX10_playClause_8 : decode cX10_playClause 8 = .ok (.getfield 144, 3) := by decide +kernel
theorem dX10_playClause_11 : decode cX10_playClause 11 = .ok (.iload_n 2, 1) := by decide +kernel
theorem dX10_playClause_12 : decode cX10_playClause 12 = .ok (.iaload, 1) := by decide +kernel
theorem dX10_playClause_13 : decode cX10_playClause 13 = .ok (.tableswitch 181 3 9 #[43, 94, 121, 139, 145, 160, 175], 43) := by decide +kernel
theorem dX10_playClause_56 : decode cX10_playClause 56 = .ok (.aload_n 0, 1) := by decide +kernel
theorem dX10_playClause_57 : decode cX10_playClause 57 = .ok (.aload_n 1, 1) := by decide +kernel
theorem dX10_playClause_58 : decode cX10_playClause 58 = .ok (.getfield 147, 3) := by decide +kernel
theorem dX10_playClause_61 : decode cX10_playClause 61 = .ok (.aload_n 1, 1) := by decide +kernel
theorem dX10_playClause_62 : decode cX10_playClause 62 = .ok (.getfield 150, 3) := by decide +kernel
theorem dX10_playClause_65 : decode cX10_playClause 65 = .ok (.iload_n 2, 1) := by decide +kernel
theorem dX10_playClause_66 : decode cX10_playClause 66 = .ok (.iaload, 1) := by decide +kernel
theorem dX10_playClause_67 : decode cX10_playClause 67 = .ok (.iconst 1, 1) := by decide +kernel
theorem dX10_playClause_68 : decode cX10_playClause 68 = .ok (.iadd, 1) := by decide +kernel
theorem dX10_playClause_69 : decode cX10_playClause 69 = .ok (.iload_n 3, 1) := by decide +kernel
theorem dX10_playClause_70 : decode cX10_playClause 70 = .ok (.aload_n 1, 1) := by decide +kernel
theorem dX10_playClause_71 : decode cX10_playClause 71 = .ok (.iload_n 2, 1) := by decide +kernel
theorem dX10_playClause_72 : decode cX10_playClause 72 = .ok (.iload_n 3, 1) := by decide +kernel
theorem dX10_playClause_73 : decode cX10_playClause 73 = .ok (.iconst 1, 1) := by decide +kernel
theorem dX10_playClause_74 : decode cX10_playClause 74 = .ok (.iadd, 1) := by decide +kernel
theorem dX10_playClause_75 : decode cX10_playClause 75 = .ok (.invokevirtual 140, 3) := by decide +kernel
theorem dX10_playClause_78 : decode cX10_playClause 78 = .ok (.aload_n 1, 1) := by decide +kernel
theorem dX10_playClause_79 : decode cX10_playClause 79 = .ok (.iload_n 2, 1) := by decide +kernel
theorem dX10_playClause_80 : decode cX10_playClause 80 = .ok (.iload_n 3, 1) := by decide +kernel
theorem dX10_playClause_81 : decode cX10_playClause 81 = .ok (.iconst 2, 1) := by decide +kernel
theorem dX10_playClause_82 : decode cX10_playClause 82 = .ok (.iadd, 1) := by decide +kernel
theorem dX10_playClause_83 : decode cX10_playClause 83 = .ok (.invokevirtual 140, 3) := by decide +kernel
theorem dX10_playClause_86 : decode cX10_playClause 86 = .ok (.aload_n 1, 1) := by decide +kernel
theorem dX10_playClause_87 : decode cX10_playClause 87 = .ok (.iload_n 2, 1) := by decide +kernel
theorem dX10_playClause_88 : decode cX10_playClause 88 = .ok (.iload_n 3, 1) := by decide +kernel
theorem dX10_playClause_89 : decode cX10_playClause 89 = .ok (.iconst 3, 1) := by decide +kernel
theorem dX10_playClause_90 : decode cX10_playClause 90 = .ok (.iadd, 1) := by decide +kernel
theorem dX10_playClause_91 : decode cX10_playClause 91 = .ok (.invokevirtual 140, 3) := by decide +kernel
theorem dX10_playClause_94 : decode cX10_playClause 94 = .ok (.invokevirtual 153, 3) := by decide +kernel
theorem dX10_playClause_97 : decode cX10_playClause 97 = .ok (.iconst (-1), 1) := by decide +kernel
theorem dX10_playClause_98 : decode cX10_playClause 98 = .ok (.if_icmp .eq 7, 3) := by decide +kernel
theorem dX10_playClause_101 : decode cX10_playClause 101 = .ok (.iconst 1, 1) := by decide +kernel
theorem dX10_playClause_102 : decode cX10_playClause 102 = .ok (.goto 4, 3) := by decide +kernel
theorem dX10_playClause_105 : decode cX10_playClause 105 = .ok (.iconst 0, 1) := by decide +kernel
theorem dX10_playClause_106 : decode cX10_playClause 106 = .ok (.ireturn, 1) := by decide +kernel
theorem dX10_playClause_107 : decode cX10_playClause 107 = .ok (.aload_n 0, 1) := by decide +kernel
theorem dX10_playClause_108 : decode cX10_playClause 108 = .ok (.aload_n 1, 1) := by decide +kernel
theorem dX10_playClause_109 : decode cX10_playClause 109 = .ok (.getfield 147, 3) := by decide +kernel
theorem dX10_playClause_112 : decode cX10_playClause 112 = .ok (.aload_n 1, 1) := by decide +kernel
theorem dX10_playClause_113 : decode cX10_playClause 113 = .ok (.getfield 150, 3) := by decide +kernel
theorem dX10_playClause_116 : decode cX10_playClause 116 = .ok (.iload_n 2, 1) := by decide +kernel
theorem dX10_playClause_117 : decode cX10_playClause 117 = .ok (.iaload, 1) := by decide +kernel
theorem dX10_playClause_118 : decode cX10_playClause 118 = .ok (.iconst 1, 1) := by decide +kernel
theorem dX10_playClause_119 : decode cX10_playClause 119 = .ok (.iadd, 1) := by decide +kernel
theorem dX10_playClause_120 : decode cX10_playClause 120 = .ok (.iload_n 3, 1) := by decide +kernel
theorem dX10_playClause_121 : decode cX10_playClause 121 = .ok (.invokevirtual 157, 3) := by decide +kernel
theorem dX10_playClause_124 : decode cX10_playClause 124 = .ok (.iconst (-1), 1) := by decide +kernel
theorem dX10_playClause_125 : decode cX10_playClause 125 = .ok (.if_icmp .eq 7, 3) := by decide +kernel
theorem dX10_playClause_128 : decode cX10_playClause 128 = .ok (.iconst 1, 1) := by decide +kernel
theorem dX10_playClause_129 : decode cX10_playClause 129 = .ok (.goto 4, 3) := by decide +kernel
theorem dX10_playClause_132 : decode cX10_playClause 132 = .ok (.iconst 0, 1) := by decide +kernel
theorem dX10_playClause_133 : decode cX10_playClause 133 = .ok (.ireturn, 1) := by decide +kernel
theorem dX10_playClause_134 : decode cX10_playClause 134 = .ok (.aload_n 0, 1) := by decide +kernel
theorem dX10_playClause_135 : decode cX10_playClause 135 = .ok (.iload_n 3, 1) := by decide +kernel
theorem dX10_playClause_136 : decode cX10_playClause 136 = .ok (.aload_n 1, 1) := by decide +kernel
theorem dX10_playClause_137 : decode cX10_playClause 137 = .ok (.iload_n 2, 1) := by decide +kernel
theorem dX10_playClause_138 : decode cX10_playClause 138 = .ok (.iconst 1, 1) := by decide +kernel
theorem dX10_playClause_139 : decode cX10_playClause 139 = .ok (.invokevirtual 140, 3) := by decide +kernel
theorem dX10_playClause_142 : decode cX10_playClause 142 = .ok (.aload_n 1, 1) := by decide +kernel
theorem dX10_playClause_143 : decode cX10_playClause 143 = .ok (.iload_n 2, 1) := by decide +kernel
theorem dX10_playClause_144 : decode cX10_playClause 144 = .ok (.iconst 2, 1) := by decide +kernel
theorem dX10_playClause_145 : decode cX10_playClause 145 = .ok (.invokevirtual 140, 3) := by decide +kernel
theorem dX10_playClause_148 : decode cX10_playClause 148 = .ok (.invokevirtual 161, 3) := by decide +kernel
theorem dX10_playClause_151 : decode cX10_playClause 151 = .ok (.ireturn, 1) := by decide +kernel
theorem dX10_playClause_152 : decode cX10_playClause 152 = .ok (.aload_n 0, 1) := by decide +kernel
theorem dX10_playClause_153 : decode cX10_playClause 153 = .ok (.iload_n 3, 1) := by decide +kernel
theorem dX10_playClause_154 : decode cX10_playClause 154 = .ok (.invokevirtual 165, 3) := by decide +kernel
theorem dX10_playClause_157 : decode cX10_playClause 157 = .ok (.ireturn, 1) := by decide +kernel
theorem dX10_playClause_158 : decode cX10_playClause 158 = .ok (.aload_n 0, 1) := by decide +kernel
theorem dX10_playClause_159 : decode cX10_playClause 159 = .ok (.iload_n 3, 1) := by decide +kernel
theorem dX10_playClause_160 : decode cX10_playClause 160 = .ok (.invokevirtual 168, 3) := by decide +kernel
theorem dX10_playClause_163 : decode cX10_playClause 163 = .ok (.iconst (-1), 1) := by decide +kernel
theorem dX10_playClause_164 : decode cX10_playClause 164 = .ok (.if_icmp .eq 7, 3) := by decide +kernel
theorem dX10_playClause_167 : decode cX10_playClause 167 = .ok (.iconst 1, 1) := by decide +kernel
theorem dX10_playClause_168 : decode cX10_playClause 168 = .ok (.goto 4, 3) := by decide +kernel
theorem dX10_playClause_171 : decode cX10_playClause 171 = .ok (.iconst 0, 1) := by decide +kernel
theorem dX10_playClause_172 : decode cX10_playClause 172 = .ok (.ireturn, 1) := by decide +kernel
theorem dX10_playClause_173 : decode cX10_playClause 173 = .ok (.aload_n 0, 1) := by decide +kernel
theorem dX10_playClause_174 : decode cX10_playClause 174 = .ok (.iload_n 3, 1) := by decide +kernel
theorem dX10_playClause_175 : decode cX10_playClause 175 = .ok (.invokevirtual 172, 3) := by decide +kernel
theorem dX10_playClause_178 : decode cX10_playClause 178 = .ok (.iconst (-1), 1) := by decide +kernel
theorem dX10_playClause_179 : decode cX10_playClause 179 = .ok (.if_icmp .eq 7, 3) := by decide +kernel
theorem dX10_playClause_182 : decode cX10_playClause 182 = .ok (.iconst 1, 1) := by decide +kernel
theorem dX10_playClause_183 : decode cX10_playClause 183 = .ok (.goto 4, 3) := by decide +kernel
theorem dX10_playClause_186 : decode cX10_playClause 186 = .ok (.iconst 0, 1) := by decide +kernel
theorem dX10_playClause_187 : decode cX10_playClause 187 = .ok (.ireturn, 1) := by decide +kernel
theorem dX10_playClause_188 : decode cX10_playClause 188 = .ok (.aload_n 0, 1) := by decide +kernel
theorem dX10_playClause_189 : decode cX10_playClause 189 = .ok (.iload_n 3, 1) := by decide +kernel
theorem dX10_playClause_190 : decode cX10_playClause 190 = .ok (.invokevirtual 175, 3) := by decide +kernel
theorem dX10_playClause_193 : decode cX10_playClause 193 = .ok (.ireturn, 1) := by decide +kernel
theorem dX10_playClause_194 : decode cX10_playClause 194 = .ok (.iconst 1, 1) := by decide +kernel
theorem dX10_playClause_195 : decode cX10_playClause 195 = .ok (.ireturn, 1) := by decide +kernel
theorem gX10_playClause_0 {d : Nat} {M : ev_Mem} {Q : Option Value → ev_Mem → Prop} {x2 : Int32} {kt : Nat} (hk : ev_isT kt) (h : (∃ Q2 : Option Value → ev_Mem → Prop, Cl LX d mX8_part [.ref kt, .int x2, .int 0] M Q2 ∧ ∀ (zr : Option Value) (zM : ev_Mem), Q2 zr zM → Ev LX (d + 1) mX10_playClause 6 [some (.ref 0), some (.ref kt), some (.int x2), none] (zr.toList ++ []) zM Q)) : Ev LX (d + 1) mX10_playClause 0 [some (.ref 0), some (.ref kt), some (.int x2), none] [] M Q := by
  refine ev_aload_n dX10_playClause_0 rfl ?_
  refine ev_iload_n dX10_playClause_1 rfl ?_
  refine ev_iconst (v := 0) dX10_playClause_2 (by decide) ?_
  obtain ⟨Q2, hc, h⟩ := h
  refine ev_callV [.int x2, .int 0] dX10_playClause_3 ml_WithoutE_140 (lx_T hk) rfl rfl (Nat.le_of_ble_eq_true rfl) hc (fun zr zM q => ?_)
  exact h zr zM q
theorem gX10_playClause_6 {d : Nat} {M : ev_Mem} {Q : Option Value → ev_Mem → Prop} {x2 s0 : Int32} {kt : Nat} (hk : ev_isT kt) (h : (vp_in x2 24 ∧ ((((M.1 (kt + 2) x2.toNatClampNeg) = 3) → (vp_in x2 24 ∧ (∃ Q2 : Option Value → ev_Mem → Prop, Cl LX d mX8_part [.ref kt, .int x2, .int (s0 + 1)] M Q2 ∧ ∀ (zr : Option Value) (zM : ev_Mem), Q2 zr zM → Ev LX (d + 1) mX10_playClause 78 [none, some (.ref kt), some (.int x2), some (.int s0)] (zr.toList ++ [(.int s0), (.int ((M.1 (kt + 3) x2.toNatClampNeg) + 1)), (.ref (kt + 1)), (.ref 0)]) zM Q))) ∧ (((M.1 (kt + 2) x2.toNatClampNeg) = 4) → (vp_in x2 24 ∧ (∃ Q2 : Option Value → ev_Mem → Prop, Cl LX d mX10_addSentence [.ref 0, .ref (kt + 1), .int ((M.1 (kt + 3) x2.toNatClampNeg) + 1), .int s0] M Q2 ∧ ∀ (zr : Option Value) (zM : ev_Mem), Q2 zr zM → Ev LX (d + 1) mX10_playClause 124 [none, none, none, none] (zr.toList ++ []) zM Q))) ∧ (((M.1 (kt + 2) x2.toNatClampNeg) = 5) → (∃ Q2 : Option Value → ev_Mem → Prop, Cl LX d mX8_part [.ref kt, .int x2, .int 1] M Q2 ∧ ∀ (zr : Option Value) (zM : ev_Mem), Q2 zr zM → Ev LX (d + 1) mX10_playClause 142 [none, some (.ref kt), some (.int x2), none] (zr.toList ++ [(.int s0), (.ref 0)]) zM Q)) ∧ (((M.1 (kt + 2) x2.toNatClampNeg) = 6) → (∃ Q2 : Option Value → ev_Mem → Prop, Cl LX d mX10_key [.ref 0, .int s0] M Q2 ∧ ∀ (zr : Option Value) (zM : ev_Mem), Q2 zr zM → Ev LX (d + 1) mX10_playClause 157 [none, none, none, none] (zr.toList ++ []) zM Q)) ∧ (((M.1 (kt + 2) x2.toNatClampNeg) = 7) → (∃ Q2 : Option Value → ev_Mem → Prop, Cl LX d mX10_turn [.ref 0, .int s0] M Q2 ∧ ∀ (zr : Option Value) (zM : ev_Mem), Q2 zr zM → Ev LX (d + 1) mX10_playClause 163 [none, none, none, none] (zr.toList ++ []) zM Q)) ∧ (((M.1 (kt + 2) x2.toNatClampNeg) = 8) → (∃ Q2 : Option Value → ev_Mem → Prop, Cl LX d mX10_write [.ref 0, .int s0] M Q2 ∧ ∀ (zr : Option Value) (zM : ev_Mem), Q2 zr zM → Ev LX (d + 1) mX10_playClause 178 [none, none, none, none] (zr.toList ++ []) zM Q)) ∧ (((M.1 (kt + 2) x2.toNatClampNeg) = 9) → (∃ Q2 : Option Value → ev_Mem → Prop, Cl LX d mX10_passDays [.ref 0, .int s0] M Q2 ∧ ∀ (zr : Option Value) (zM : ev_Mem), Q2 zr zM → Ev LX (d + 1) mX10_playClause 193 [none, none, none, none] (zr.toList ++ []) zM Q)) ∧ ((¬ (M.1 (kt + 2) x2.toNatClampNeg) = 3 ∧ ¬ (M.1 (kt + 2) x2.toNatClampNeg) = 4 ∧ ¬ (M.1 (kt + 2) x2.toNatClampNeg) = 5 ∧ ¬ (M.1 (kt + 2) x2.toNatClampNeg) = 6 ∧ ¬ (M.1 (kt + 2) x2.toNatClampNeg) = 7 ∧ ¬ (M.1 (kt + 2) x2.toNatClampNeg) = 8 ∧ ¬ (M.1 (kt + 2) x2.toNatClampNeg) = 9) → (Q (some (.int 1)) M))))) : Ev LX (d + 1) mX10_playClause 6 [some (.ref 0), some (.ref kt), some (.int x2), none] [(.int s0)] M Q := by
  refine ev_istore_n (ls2 := [some (.ref 0), some (.ref kt), some (.int x2), some (.int s0)]) dX10_playClause_6 (Nat.le_of_ble_eq_true rfl) rfl ?_
  refine ev_aload_n dX10_playClause_7 rfl ?_
  refine ev_getA dX10_playClause_8 fl_WithoutE_144 (lx_T hk) rfl ?_
  refine ev_iload_n dX10_playClause_11 rfl ?_
  obtain ⟨c, h⟩ := h
  refine ev_iald dX10_playClause_12 (lx_T2 hk) c ?_
  obtain ⟨h0, h1, h2, h3, h4, h5, h6, h7⟩ := h
  by_cases e0 : (M.1 (kt + 2) x2.toNatClampNeg) = 3
  · replace h := h0 e0
    have hk : ∃ off : Int, ¬ ((M.1 (kt + 2) x2.toNatClampNeg) : Int32).toInt < 3 ∧ ¬ 9 < ((M.1 (kt + 2) x2.toNatClampNeg) : Int32).toInt ∧ #[43, 94, 121, 139, 145, 160, 175][(((M.1 (kt + 2) x2.toNatClampNeg) : Int32).toInt - 3).toNat]? = some off ∧ ((13 : Nat) : Int) + off = ((56 : Nat) : Int) := by
      have e := e0
      · rw [e]; exact ⟨43, by decide, by decide, by decide, by decide⟩
    obtain ⟨off, k1, k2, k3, k4⟩ := hk
    refine ev_tableIn (tgt := 56) dX10_playClause_13 k1 k2 k3 k4 ?_
    refine ev_aload_n dX10_playClause_56 rfl ?_
    refine ev_aload_n dX10_playClause_57 rfl ?_
    refine ev_getA dX10_playClause_58 fl_WithoutE_147 (lx_T hk) rfl ?_
    refine ev_aload_n dX10_playClause_61 rfl ?_
    refine ev_getA dX10_playClause_62 fl_WithoutE_150 (lx_T hk) rfl ?_
    refine ev_iload_n dX10_playClause_65 rfl ?_
    obtain ⟨c, h⟩ := h
    refine ev_iald dX10_playClause_66 (lx_T3 hk) c ?_
    refine ev_iconst (v := 1) dX10_playClause_67 (by decide) ?_
    refine ev_iadd dX10_playClause_68 ?_
    refine ev_iload_n dX10_playClause_69 rfl ?_
    refine ev_aload_n dX10_playClause_70 rfl ?_
    refine ev_iload_n dX10_playClause_71 rfl ?_
    refine ev_iload_n dX10_playClause_72 rfl ?_
    refine ev_iconst (v := 1) dX10_playClause_73 (by decide) ?_
    refine ev_iadd dX10_playClause_74 ?_
    obtain ⟨Q2, hc, h⟩ := h
    refine ev_callV [.int x2, .int (s0 + 1)] dX10_playClause_75 ml_WithoutE_140 (lx_T hk) rfl rfl (Nat.le_of_ble_eq_true rfl) hc (fun zr zM q => ?_)
    refine Ev.weak (ls := [none, some (.ref kt), some (.int x2), some (.int s0)]) ⟨rfl, rfl, rfl, trivial⟩ ?_
    exact h zr zM q
  by_cases e1 : (M.1 (kt + 2) x2.toNatClampNeg) = 4
  · replace h := h1 e1
    have hk : ∃ off : Int, ¬ ((M.1 (kt + 2) x2.toNatClampNeg) : Int32).toInt < 3 ∧ ¬ 9 < ((M.1 (kt + 2) x2.toNatClampNeg) : Int32).toInt ∧ #[43, 94, 121, 139, 145, 160, 175][(((M.1 (kt + 2) x2.toNatClampNeg) : Int32).toInt - 3).toNat]? = some off ∧ ((13 : Nat) : Int) + off = ((107 : Nat) : Int) := by
      have e := e1
      · rw [e]; exact ⟨94, by decide, by decide, by decide, by decide⟩
    obtain ⟨off, k1, k2, k3, k4⟩ := hk
    refine ev_tableIn (tgt := 107) dX10_playClause_13 k1 k2 k3 k4 ?_
    refine ev_aload_n dX10_playClause_107 rfl ?_
    refine ev_aload_n dX10_playClause_108 rfl ?_
    refine ev_getA dX10_playClause_109 fl_WithoutE_147 (lx_T hk) rfl ?_
    refine ev_aload_n dX10_playClause_112 rfl ?_
    refine ev_getA dX10_playClause_113 fl_WithoutE_150 (lx_T hk) rfl ?_
    refine ev_iload_n dX10_playClause_116 rfl ?_
    obtain ⟨c, h⟩ := h
    refine ev_iald dX10_playClause_117 (lx_T3 hk) c ?_
    refine ev_iconst (v := 1) dX10_playClause_118 (by decide) ?_
    refine ev_iadd dX10_playClause_119 ?_
    refine ev_iload_n dX10_playClause_120 rfl ?_
    obtain ⟨Q2, hc, h⟩ := h
    refine ev_callV [.ref (kt + 1), .int ((M.1 (kt + 3) x2.toNatClampNeg) + 1), .int s0] dX10_playClause_121 ml_WithoutE_157 lx_0 rfl rfl (Nat.le_of_ble_eq_true rfl) hc (fun zr zM q => ?_)
    refine Ev.weak (ls := [none, none, none, none]) trivial ?_
    exact h zr zM q
  by_cases e2 : (M.1 (kt + 2) x2.toNatClampNeg) = 5
  · replace h := h2 e2
    have hk : ∃ off : Int, ¬ ((M.1 (kt + 2) x2.toNatClampNeg) : Int32).toInt < 3 ∧ ¬ 9 < ((M.1 (kt + 2) x2.toNatClampNeg) : Int32).toInt ∧ #[43, 94, 121, 139, 145, 160, 175][(((M.1 (kt + 2) x2.toNatClampNeg) : Int32).toInt - 3).toNat]? = some off ∧ ((13 : Nat) : Int) + off = ((134 : Nat) : Int) := by
      have e := e2
      · rw [e]; exact ⟨121, by decide, by decide, by decide, by decide⟩
    obtain ⟨off, k1, k2, k3, k4⟩ := hk
    refine ev_tableIn (tgt := 134) dX10_playClause_13 k1 k2 k3 k4 ?_
    refine ev_aload_n dX10_playClause_134 rfl ?_
    refine ev_iload_n dX10_playClause_135 rfl ?_
    refine ev_aload_n dX10_playClause_136 rfl ?_
    refine ev_iload_n dX10_playClause_137 rfl ?_
    refine ev_iconst (v := 1) dX10_playClause_138 (by decide) ?_
    obtain ⟨Q2, hc, h⟩ := h
    refine ev_callV [.int x2, .int 1] dX10_playClause_139 ml_WithoutE_140 (lx_T hk) rfl rfl (Nat.le_of_ble_eq_true rfl) hc (fun zr zM q => ?_)
    refine Ev.weak (ls := [none, some (.ref kt), some (.int x2), none]) ⟨rfl, rfl, trivial⟩ ?_
    exact h zr zM q
  by_cases e3 : (M.1 (kt + 2) x2.toNatClampNeg) = 6
  · replace h := h3 e3
    have hk : ∃ off : Int, ¬ ((M.1 (kt + 2) x2.toNatClampNeg) : Int32).toInt < 3 ∧ ¬ 9 < ((M.1 (kt + 2) x2.toNatClampNeg) : Int32).toInt ∧ #[43, 94, 121, 139, 145, 160, 175][(((M.1 (kt + 2) x2.toNatClampNeg) : Int32).toInt - 3).toNat]? = some off ∧ ((13 : Nat) : Int) + off = ((152 : Nat) : Int) := by
      have e := e3
      · rw [e]; exact ⟨139, by decide, by decide, by decide, by decide⟩
    obtain ⟨off, k1, k2, k3, k4⟩ := hk
    refine ev_tableIn (tgt := 152) dX10_playClause_13 k1 k2 k3 k4 ?_
    refine ev_aload_n dX10_playClause_152 rfl ?_
    refine ev_iload_n dX10_playClause_153 rfl ?_
    obtain ⟨Q2, hc, h⟩ := h
    refine ev_callV [.int s0] dX10_playClause_154 ml_WithoutE_165 lx_0 rfl rfl (Nat.le_of_ble_eq_true rfl) hc (fun zr zM q => ?_)
    refine Ev.weak (ls := [none, none, none, none]) trivial ?_
    exact h zr zM q
  by_cases e4 : (M.1 (kt + 2) x2.toNatClampNeg) = 7
  · replace h := h4 e4
    have hk : ∃ off : Int, ¬ ((M.1 (kt + 2) x2.toNatClampNeg) : Int32).toInt < 3 ∧ ¬ 9 < ((M.1 (kt + 2) x2.toNatClampNeg) : Int32).toInt ∧ #[43, 94, 121, 139, 145, 160, 175][(((M.1 (kt + 2) x2.toNatClampNeg) : Int32).toInt - 3).toNat]? = some off ∧ ((13 : Nat) : Int) + off = ((158 : Nat) : Int) := by
      have e := e4
      · rw [e]; exact ⟨145, by decide, by decide, by decide, by decide⟩
    obtain ⟨off, k1, k2, k3, k4⟩ := hk
    refine ev_tableIn (tgt := 158) dX10_playClause_13 k1 k2 k3 k4 ?_
    refine ev_aload_n dX10_playClause_158 rfl ?_
    refine ev_iload_n dX10_playClause_159 rfl ?_
    obtain ⟨Q2, hc, h⟩ := h
    refine ev_callV [.int s0] dX10_playClause_160 ml_WithoutE_168 lx_0 rfl rfl (Nat.le_of_ble_eq_true rfl) hc (fun zr zM q => ?_)
    refine Ev.weak (ls := [none, none, none, none]) trivial ?_
    exact h zr zM q
  by_cases e5 : (M.1 (kt + 2) x2.toNatClampNeg) = 8
  · replace h := h5 e5
    have hk : ∃ off : Int, ¬ ((M.1 (kt + 2) x2.toNatClampNeg) : Int32).toInt < 3 ∧ ¬ 9 < ((M.1 (kt + 2) x2.toNatClampNeg) : Int32).toInt ∧ #[43, 94, 121, 139, 145, 160, 175][(((M.1 (kt + 2) x2.toNatClampNeg) : Int32).toInt - 3).toNat]? = some off ∧ ((13 : Nat) : Int) + off = ((173 : Nat) : Int) := by
      have e := e5
      · rw [e]; exact ⟨160, by decide, by decide, by decide, by decide⟩
    obtain ⟨off, k1, k2, k3, k4⟩ := hk
    refine ev_tableIn (tgt := 173) dX10_playClause_13 k1 k2 k3 k4 ?_
    refine ev_aload_n dX10_playClause_173 rfl ?_
    refine ev_iload_n dX10_playClause_174 rfl ?_
    obtain ⟨Q2, hc, h⟩ := h
    refine ev_callV [.int s0] dX10_playClause_175 ml_WithoutE_172 lx_0 rfl rfl (Nat.le_of_ble_eq_true rfl) hc (fun zr zM q => ?_)
    refine Ev.weak (ls := [none, none, none, none]) trivial ?_
    exact h zr zM q
  by_cases e6 : (M.1 (kt + 2) x2.toNatClampNeg) = 9
  · replace h := h6 e6
    have hk : ∃ off : Int, ¬ ((M.1 (kt + 2) x2.toNatClampNeg) : Int32).toInt < 3 ∧ ¬ 9 < ((M.1 (kt + 2) x2.toNatClampNeg) : Int32).toInt ∧ #[43, 94, 121, 139, 145, 160, 175][(((M.1 (kt + 2) x2.toNatClampNeg) : Int32).toInt - 3).toNat]? = some off ∧ ((13 : Nat) : Int) + off = ((188 : Nat) : Int) := by
      have e := e6
      · rw [e]; exact ⟨175, by decide, by decide, by decide, by decide⟩
    obtain ⟨off, k1, k2, k3, k4⟩ := hk
    refine ev_tableIn (tgt := 188) dX10_playClause_13 k1 k2 k3 k4 ?_
    refine ev_aload_n dX10_playClause_188 rfl ?_
    refine ev_iload_n dX10_playClause_189 rfl ?_
    obtain ⟨Q2, hc, h⟩ := h
    refine ev_callV [.int s0] dX10_playClause_190 ml_WithoutE_175 lx_0 rfl rfl (Nat.le_of_ble_eq_true rfl) hc (fun zr zM q => ?_)
    refine Ev.weak (ls := [none, none, none, none]) trivial ?_
    exact h zr zM q
  replace h := h7 ⟨fun e => e0 (e), fun e => e1 (e), fun e => e2 (e), fun e => e3 (e), fun e => e4 (e), fun e => e5 (e), fun e => e6 (e)⟩
  have hk : (((M.1 (kt + 2) x2.toNatClampNeg) : Int32).toInt < 3 ∨ 9 < ((M.1 (kt + 2) x2.toNatClampNeg) : Int32).toInt) ∨ (False) := by
    have t : ∀ k : Int32, ¬ ((M.1 (kt + 2) x2.toNatClampNeg) : Int32) = k → ((M.1 (kt + 2) x2.toNatClampNeg) : Int32).toInt ≠ k.toInt := fun k hne e => hne (Int32.toInt_inj.mp e)
    have z3 : ((M.1 (kt + 2) x2.toNatClampNeg) : Int32).toInt ≠ 3 := t 3 (fun e => by simp_all)
    have z4 : ((M.1 (kt + 2) x2.toNatClampNeg) : Int32).toInt ≠ 4 := t 4 (fun e => by simp_all)
    have z5 : ((M.1 (kt + 2) x2.toNatClampNeg) : Int32).toInt ≠ 5 := t 5 (fun e => by simp_all)
    have z6 : ((M.1 (kt + 2) x2.toNatClampNeg) : Int32).toInt ≠ 6 := t 6 (fun e => by simp_all)
    have z7 : ((M.1 (kt + 2) x2.toNatClampNeg) : Int32).toInt ≠ 7 := t 7 (fun e => by simp_all)
    have z8 : ((M.1 (kt + 2) x2.toNatClampNeg) : Int32).toInt ≠ 8 := t 8 (fun e => by simp_all)
    have z9 : ((M.1 (kt + 2) x2.toNatClampNeg) : Int32).toInt ≠ 9 := t 9 (fun e => by simp_all)
    omega
  replace hk := hk.elim id False.elim
  refine ev_tableOut (tgt := 194) dX10_playClause_13 hk (by decide) ?_
  refine ev_iconst (v := 1) dX10_playClause_194 (by decide) ?_
  exact ev_zret dX10_playClause_195 rfl (by decide) h
theorem gX10_playClause_78 {d : Nat} {M : ev_Mem} {Q : Option Value → ev_Mem → Prop} {x2 x3 s0 s1 s2 : Int32} {kt : Nat} (hk : ev_isT kt) (h : (∃ Q2 : Option Value → ev_Mem → Prop, Cl LX d mX8_part [.ref kt, .int x2, .int (x3 + 2)] M Q2 ∧ ∀ (zr : Option Value) (zM : ev_Mem), Q2 zr zM → Ev LX (d + 1) mX10_playClause 86 [none, some (.ref kt), some (.int x2), some (.int x3)] (zr.toList ++ [(.int s0), (.int s1), (.int s2), (.ref (kt + 1)), (.ref 0)]) zM Q)) : Ev LX (d + 1) mX10_playClause 78 [none, some (.ref kt), some (.int x2), some (.int x3)] [(.int s0), (.int s1), (.int s2), (.ref (kt + 1)), (.ref 0)] M Q := by
  refine ev_aload_n dX10_playClause_78 rfl ?_
  refine ev_iload_n dX10_playClause_79 rfl ?_
  refine ev_iload_n dX10_playClause_80 rfl ?_
  refine ev_iconst (v := 2) dX10_playClause_81 (by decide) ?_
  refine ev_iadd dX10_playClause_82 ?_
  obtain ⟨Q2, hc, h⟩ := h
  refine ev_callV [.int x2, .int (x3 + 2)] dX10_playClause_83 ml_WithoutE_140 (lx_T hk) rfl rfl (Nat.le_of_ble_eq_true rfl) hc (fun zr zM q => ?_)
  exact h zr zM q
theorem gX10_playClause_124 {d : Nat} {M : ev_Mem} {Q : Option Value → ev_Mem → Prop} {s0 : Int32} {kt : Nat} (hk : ev_isT kt) (h : (((s0 = (-1)) → (Q (some (.int 0)) M)) ∧ ((¬ s0 = (-1)) → (Q (some (.int 1)) M)))) : Ev LX d mX10_playClause 124 [none, none, none, none] [(.int s0)] M Q := by
  refine ev_iconst (v := -1) dX10_playClause_124 (by decide) ?_
  refine ev_icmp_eq (tgt := 132) dX10_playClause_125 (by decide) (fun c => ?_) (fun c => ?_)
  · replace h := h.1 c
    refine ev_iconst (v := 0) dX10_playClause_132 (by decide) ?_
    exact ev_zret dX10_playClause_133 rfl (by decide) h
  · replace h := h.2 c
    refine ev_iconst (v := 1) dX10_playClause_128 (by decide) ?_
    refine ev_goto (tgt := 133) dX10_playClause_129 (by decide) ?_
    exact ev_zret dX10_playClause_133 rfl (by decide) h
theorem gX10_playClause_142 {d : Nat} {M : ev_Mem} {Q : Option Value → ev_Mem → Prop} {x2 s0 s1 : Int32} {kt : Nat} (hk : ev_isT kt) (h : (∃ Q2 : Option Value → ev_Mem → Prop, Cl LX d mX8_part [.ref kt, .int x2, .int 2] M Q2 ∧ ∀ (zr : Option Value) (zM : ev_Mem), Q2 zr zM → Ev LX (d + 1) mX10_playClause 148 [none, none, none, none] (zr.toList ++ [(.int s0), (.int s1), (.ref 0)]) zM Q)) : Ev LX (d + 1) mX10_playClause 142 [none, some (.ref kt), some (.int x2), none] [(.int s0), (.int s1), (.ref 0)] M Q := by
  refine ev_aload_n dX10_playClause_142 rfl ?_
  refine ev_iload_n dX10_playClause_143 rfl ?_
  refine ev_iconst (v := 2) dX10_playClause_144 (by decide) ?_
  obtain ⟨Q2, hc, h⟩ := h
  refine ev_callV [.int x2, .int 2] dX10_playClause_145 ml_WithoutE_140 (lx_T hk) rfl rfl (Nat.le_of_ble_eq_true rfl) hc (fun zr zM q => ?_)
  refine Ev.weak (ls := [none, none, none, none]) trivial ?_
  exact h zr zM q
theorem gX10_playClause_157 {d : Nat} {M : ev_Mem} {Q : Option Value → ev_Mem → Prop} {s0 : Int32} {kt : Nat} (hk : ev_isT kt) (h : (narrow .boolean (.int s0) = .int s0 ∧ (Q (some (.int s0)) M))) : Ev LX d mX10_playClause 157 [none, none, none, none] [(.int s0)] M Q := by
  obtain ⟨c, h⟩ := h
  exact ev_zret dX10_playClause_157 rfl c h
theorem gX10_playClause_163 {d : Nat} {M : ev_Mem} {Q : Option Value → ev_Mem → Prop} {s0 : Int32} {kt : Nat} (hk : ev_isT kt) (h : (((s0 = (-1)) → (Q (some (.int 0)) M)) ∧ ((¬ s0 = (-1)) → (Q (some (.int 1)) M)))) : Ev LX d mX10_playClause 163 [none, none, none, none] [(.int s0)] M Q := by
  refine ev_iconst (v := -1) dX10_playClause_163 (by decide) ?_
  refine ev_icmp_eq (tgt := 171) dX10_playClause_164 (by decide) (fun c => ?_) (fun c => ?_)
  · replace h := h.1 c
    refine ev_iconst (v := 0) dX10_playClause_171 (by decide) ?_
    exact ev_zret dX10_playClause_172 rfl (by decide) h
  · replace h := h.2 c
    refine ev_iconst (v := 1) dX10_playClause_167 (by decide) ?_
    refine ev_goto (tgt := 172) dX10_playClause_168 (by decide) ?_
    exact ev_zret dX10_playClause_172 rfl (by decide) h
theorem gX10_playClause_178 {d : Nat} {M : ev_Mem} {Q : Option Value → ev_Mem → Prop} {s0 : Int32} {kt : Nat} (hk : ev_isT kt) (h : (((s0 = (-1)) → (Q (some (.int 0)) M)) ∧ ((¬ s0 = (-1)) → (Q (some (.int 1)) M)))) : Ev LX d mX10_playClause 178 [none, none, none, none] [(.int s0)] M Q := by
  refine ev_iconst (v := -1) dX10_playClause_178 (by decide) ?_
  refine ev_icmp_eq (tgt := 186) dX10_playClause_179 (by decide) (fun c => ?_) (fun c => ?_)
  · replace h := h.1 c
    refine ev_iconst (v := 0) dX10_playClause_186 (by decide) ?_
    exact ev_zret dX10_playClause_187 rfl (by decide) h
  · replace h := h.2 c
    refine ev_iconst (v := 1) dX10_playClause_182 (by decide) ?_
    refine ev_goto (tgt := 187) dX10_playClause_183 (by decide) ?_
    exact ev_zret dX10_playClause_187 rfl (by decide) h
theorem gX10_playClause_193 {d : Nat} {M : ev_Mem} {Q : Option Value → ev_Mem → Prop} {s0 : Int32} {kt : Nat} (hk : ev_isT kt) (h : (narrow .boolean (.int s0) = .int s0 ∧ (Q (some (.int s0)) M))) : Ev LX d mX10_playClause 193 [none, none, none, none] [(.int s0)] M Q := by
  obtain ⟨c, h⟩ := h
  exact ev_zret dX10_playClause_193 rfl c h
theorem gX10_playClause_86 {d : Nat} {M : ev_Mem} {Q : Option Value → ev_Mem → Prop} {x2 x3 s0 s1 s2 s3 : Int32} {kt : Nat} (hk : ev_isT kt) (h : (∃ Q2 : Option Value → ev_Mem → Prop, Cl LX d mX8_part [.ref kt, .int x2, .int (x3 + 3)] M Q2 ∧ ∀ (zr : Option Value) (zM : ev_Mem), Q2 zr zM → Ev LX (d + 1) mX10_playClause 94 [none, none, none, none] (zr.toList ++ [(.int s0), (.int s1), (.int s2), (.int s3), (.ref (kt + 1)), (.ref 0)]) zM Q)) : Ev LX (d + 1) mX10_playClause 86 [none, some (.ref kt), some (.int x2), some (.int x3)] [(.int s0), (.int s1), (.int s2), (.int s3), (.ref (kt + 1)), (.ref 0)] M Q := by
  refine ev_aload_n dX10_playClause_86 rfl ?_
  refine ev_iload_n dX10_playClause_87 rfl ?_
  refine ev_iload_n dX10_playClause_88 rfl ?_
  refine ev_iconst (v := 3) dX10_playClause_89 (by decide) ?_
  refine ev_iadd dX10_playClause_90 ?_
  obtain ⟨Q2, hc, h⟩ := h
  refine ev_callV [.int x2, .int (x3 + 3)] dX10_playClause_91 ml_WithoutE_140 (lx_T hk) rfl rfl (Nat.le_of_ble_eq_true rfl) hc (fun zr zM q => ?_)
  refine Ev.weak (ls := [none, none, none, none]) trivial ?_
  exact h zr zM q
theorem gX10_playClause_148 {d : Nat} {M : ev_Mem} {Q : Option Value → ev_Mem → Prop} {s0 s1 s2 : Int32} {kt : Nat} (hk : ev_isT kt) (h : (∃ Q2 : Option Value → ev_Mem → Prop, Cl LX d mX10_made [.ref 0, .int s2, .int s1, .int s0] M Q2 ∧ ∀ (zr : Option Value) (zM : ev_Mem), Q2 zr zM → Ev LX (d + 1) mX10_playClause 151 [none, none, none, none] (zr.toList ++ []) zM Q)) : Ev LX (d + 1) mX10_playClause 148 [none, none, none, none] [(.int s0), (.int s1), (.int s2), (.ref 0)] M Q := by
  obtain ⟨Q2, hc, h⟩ := h
  refine ev_callV [.int s2, .int s1, .int s0] dX10_playClause_148 ml_WithoutE_161 lx_0 rfl rfl (Nat.le_of_ble_eq_true rfl) hc (fun zr zM q => ?_)
  exact h zr zM q
theorem gX10_playClause_94 {d : Nat} {M : ev_Mem} {Q : Option Value → ev_Mem → Prop} {s0 s1 s2 s3 s4 : Int32} {kt : Nat} (hk : ev_isT kt) (h : (∃ Q2 : Option Value → ev_Mem → Prop, Cl LX d mX10_addWord [.ref 0, .ref (kt + 1), .int s4, .int s3, .int s2, .int s1, .int s0] M Q2 ∧ ∀ (zr : Option Value) (zM : ev_Mem), Q2 zr zM → Ev LX (d + 1) mX10_playClause 97 [none, none, none, none] (zr.toList ++ []) zM Q)) : Ev LX (d + 1) mX10_playClause 94 [none, none, none, none] [(.int s0), (.int s1), (.int s2), (.int s3), (.int s4), (.ref (kt + 1)), (.ref 0)] M Q := by
  obtain ⟨Q2, hc, h⟩ := h
  refine ev_callV [.ref (kt + 1), .int s4, .int s3, .int s2, .int s1, .int s0] dX10_playClause_94 ml_WithoutE_153 lx_0 rfl rfl (Nat.le_of_ble_eq_true rfl) hc (fun zr zM q => ?_)
  exact h zr zM q
theorem gX10_playClause_151 {d : Nat} {M : ev_Mem} {Q : Option Value → ev_Mem → Prop} {s0 : Int32} {kt : Nat} (hk : ev_isT kt) (h : (narrow .boolean (.int s0) = .int s0 ∧ (Q (some (.int s0)) M))) : Ev LX d mX10_playClause 151 [none, none, none, none] [(.int s0)] M Q := by
  obtain ⟨c, h⟩ := h
  exact ev_zret dX10_playClause_151 rfl c h
theorem gX10_playClause_97 {d : Nat} {M : ev_Mem} {Q : Option Value → ev_Mem → Prop} {s0 : Int32} {kt : Nat} (hk : ev_isT kt) (h : (((s0 = (-1)) → (Q (some (.int 0)) M)) ∧ ((¬ s0 = (-1)) → (Q (some (.int 1)) M)))) : Ev LX d mX10_playClause 97 [none, none, none, none] [(.int s0)] M Q := by
  refine ev_iconst (v := -1) dX10_playClause_97 (by decide) ?_
  refine ev_icmp_eq (tgt := 105) dX10_playClause_98 (by decide) (fun c => ?_) (fun c => ?_)
  · replace h := h.1 c
    refine ev_iconst (v := 0) dX10_playClause_105 (by decide) ?_
    exact ev_zret dX10_playClause_106 rfl (by decide) h
  · replace h := h.2 c
    refine ev_iconst (v := 1) dX10_playClause_101 (by decide) ?_
    refine ev_goto (tgt := 106) dX10_playClause_102 (by decide) ?_
    exact ev_zret dX10_playClause_106 rfl (by decide) h
theorem dX10_played_0 : decode cX10_played 0 = .ok (.aload_n 0, 1) := by decide +kernel
theorem dX10_played_1 : decode cX10_played 1 = .ok (.iload_n 1, 1) := by decide +kernel
theorem dX10_played_2 : decode cX10_played 2 = .ok (.invokevirtual 126, 3) := by decide +kernel
theorem dX10_played_5 : decode cX10_played 5 = .ok (.ifCond .ne 6, 3) := by decide +kernel
theorem dX10_played_8 : decode cX10_played 8 = .ok (.bipush (-2), 2) := by decide +kernel
theorem dX10_played_10 : decode cX10_played 10 = .ok (.ireturn, 1) := by decide +kernel
theorem dX10_played_11 : decode cX10_played 11 = .ok (.aload_n 0, 1) := by decide +kernel
theorem dX10_played_12 : decode cX10_played 12 = .ok (.getfield 39, 3) := by decide +kernel
theorem dX10_played_15 : decode cX10_played 15 = .ok (.iload_n 1, 1) := by decide +kernel
theorem dX10_played_16 : decode cX10_played 16 = .ok (.aaload, 1) := by decide +kernel
theorem dX10_played_17 : decode cX10_played 17 = .ok (.astore_n 2, 1) := by decide +kernel
theorem dX10_played_18 : decode cX10_played 18 = .ok (.iconst 0, 1) := by decide +kernel
theorem dX10_played_19 : decode cX10_played 19 = .ok (.istore_n 3, 1) := by decide +kernel
theorem dX10_played_20 : decode cX10_played 20 = .ok (.iload_n 3, 1) := by decide +kernel
theorem dX10_played_21 : decode cX10_played 21 = .ok (.aload_n 2, 1) := by decide +kernel
theorem dX10_played_22 : decode cX10_played 22 = .ok (.getfield 133, 3) := by decide +kernel
theorem dX10_played_25 : decode cX10_played 25 = .ok (.if_icmp .ge 20, 3) := by decide +kernel
theorem dX10_played_28 : decode cX10_played 28 = .ok (.aload_n 0, 1) := by decide +kernel
theorem dX10_played_29 : decode cX10_played 29 = .ok (.aload_n 2, 1) := by decide +kernel
theorem dX10_played_30 : decode cX10_played 30 = .ok (.iload_n 3, 1) := by decide +kernel
theorem dX10_played_31 : decode cX10_played 31 = .ok (.invokevirtual 136, 3) := by decide +kernel
theorem dX10_played_34 : decode cX10_played 34 = .ok (.ifCond .ne 5, 3) := by decide +kernel
theorem dX10_played_37 : decode cX10_played 37 = .ok (.iload_n 3, 1) := by decide +kernel
theorem dX10_played_38 : decode cX10_played 38 = .ok (.ireturn, 1) := by decide +kernel
theorem dX10_played_39 : decode cX10_played 39 = .ok (.iinc 3 1, 3) := by decide +kernel
theorem dX10_played_42 : decode cX10_played 42 = .ok (.goto (-22), 3) := by decide +kernel
theorem dX10_played_45 : decode cX10_played 45 = .ok (.iconst (-1), 1) := by decide +kernel
theorem dX10_played_46 : decode cX10_played 46 = .ok (.ireturn, 1) := by decide +kernel
theorem gX10_played_0 {d : Nat} {M : ev_Mem} {Q : Option Value → ev_Mem → Prop} {x1 : Int32} (h : ((okT M) ∧ ((((iin x1 0 (M.1 47 2 - 1)) = true) → (vp_in x1 4 ∧ (Ev LX (d + 1) mX10_played 20 [some (.ref 0), none, some (.ref (61 + 5 * x1.toNatClampNeg)), some (.int 0)] [] M Q))) ∧ (((iin x1 0 (M.1 47 2 - 1)) = false) → (Q (some (.int (-2))) M))))) : Ev LX (d + 1) mX10_played 0 [some (.ref 0), some (.int x1), none, none] [] M Q := by
  refine ev_aload_n dX10_played_0 rfl ?_
  refine ev_iload_n dX10_played_1 rfl ?_
  obtain ⟨p1, h⟩ := h
  refine ev_callV [.int x1] dX10_played_2 ml_WithoutE_126 lx_0 rfl rfl (Nat.le_of_ble_eq_true rfl) (kX10_hasText p1) ?_
  rintro zr zM ⟨q1, q2⟩
  rw [q1, q2]
  show Ev LX (d + 1) mX10_played 5 [some (.ref 0), some (.int x1), none, none] [(.int (bi (iin x1 0 (M.1 47 2 - 1))))] M Q
  refine ev_if_ne (tgt := 11) dX10_played_5 (by decide) (fun c => ?_) (fun c => ?_)
  · replace h := h.1 ((bi_n0 _).mp c)
    refine ev_aload_n dX10_played_11 rfl ?_
    refine ev_getA dX10_played_12 fl_WithoutE_39 lx_0 rfl ?_
    refine ev_iload_n dX10_played_15 rfl ?_
    obtain ⟨b1, h⟩ := h
    refine ev_aald dX10_played_16 lx_60 (fun _ => rfl) rfl b1 ?_
    refine ev_astore_n (ls2 := [some (.ref 0), some (.int x1), some (.ref (61 + 5 * x1.toNatClampNeg)), none]) dX10_played_17 (Nat.le_of_ble_eq_true rfl) rfl ?_
    refine ev_iconst (v := 0) dX10_played_18 (by decide) ?_
    refine ev_istore_n (ls2 := [some (.ref 0), some (.int x1), some (.ref (61 + 5 * x1.toNatClampNeg)), some (.int 0)]) dX10_played_19 (Nat.le_of_ble_eq_true rfl) rfl ?_
    refine Ev.weak (ls := [some (.ref 0), none, some (.ref (61 + 5 * x1.toNatClampNeg)), some (.int 0)]) ⟨rfl, rfl, rfl, trivial⟩ ?_
    exact h
  · replace h := h.2 ((bi_0 _).mp c)
    refine ev_bipush (v := -2) dX10_played_8 (by decide) ?_
    exact ev_iret dX10_played_10 rfl h
theorem gX10_played_20 {d : Nat} {kt : Nat} (hkt : ev_isT kt) {M : ev_Mem} {Q : Option Value → ev_Mem → Prop} {x3 : Int32} (h : ((((M.1 kt 4) ≤ x3) → (Q (some (.int (-1))) M)) ∧ ((¬ (M.1 kt 4) ≤ x3) → (∃ Q2 : Option Value → ev_Mem → Prop, Cl LX d mX10_playClause [.ref 0, .ref kt, .int x3] M Q2 ∧ ∀ (zr : Option Value) (zM : ev_Mem), Q2 zr zM → Ev LX (d + 1) mX10_played 34 [some (.ref 0), none, some (.ref kt), some (.int x3)] (zr.toList ++ []) zM Q)))) : Ev LX (d + 1) mX10_played 20 [some (.ref 0), none, some (.ref kt), some (.int x3)] [] M Q := by
  refine ev_iload_n dX10_played_20 rfl ?_
  refine ev_aload_n dX10_played_21 rfl ?_
  refine ev_getI dX10_played_22 fl_WithoutE_133 (lx_T hkt) rfl ?_
  refine ev_icmp_ge (tgt := 45) dX10_played_25 (by decide) (fun c => ?_) (fun c => ?_)
  · replace h := h.1 c
    refine ev_iconst (v := -1) dX10_played_45 (by decide) ?_
    exact ev_iret dX10_played_46 rfl h
  · replace h := h.2 c
    refine ev_aload_n dX10_played_28 rfl ?_
    refine ev_aload_n dX10_played_29 rfl ?_
    refine ev_iload_n dX10_played_30 rfl ?_
    obtain ⟨Q2, hc, h⟩ := h
    refine ev_callV [.ref kt, .int x3] dX10_played_31 ml_WithoutE_136 lx_0 rfl rfl (Nat.le_of_ble_eq_true rfl) hc (fun zr zM q => ?_)
    exact h zr zM q
theorem gX10_played_34 {d : Nat} {kt : Nat} (hkt : ev_isT kt) {M : ev_Mem} {Q : Option Value → ev_Mem → Prop} {x3 s0 : Int32} (h : (((¬ s0 = 0) → (Ev LX d mX10_played 20 [some (.ref 0), none, some (.ref kt), some (.int (x3 + 1))] [] M Q)) ∧ ((s0 = 0) → (Q (some (.int x3)) M)))) : Ev LX d mX10_played 34 [some (.ref 0), none, some (.ref kt), some (.int x3)] [(.int s0)] M Q := by
  refine ev_if_ne (tgt := 39) dX10_played_34 (by decide) (fun c => ?_) (fun c => ?_)
  · replace h := h.1 c
    refine ev_iinc (v := x3 + 1) (ls2 := [some (.ref 0), none, some (.ref kt), some (.int (x3 + 1))]) dX10_played_39 rfl rfl rfl ?_
    refine ev_goto (tgt := 20) dX10_played_42 (by decide) ?_
    exact h
  · replace h := h.2 c
    refine ev_iload_n dX10_played_37 rfl ?_
    exact ev_iret dX10_played_38 rfl h
theorem dX11_isSaid_0 : decode cX11_isSaid 0 = .ok (.iconst 0, 1) := by decide +kernel
theorem dX11_isSaid_1 : decode cX11_isSaid 1 = .ok (.istore_n 2, 1) := by decide +kernel
theorem dX11_isSaid_2 : decode cX11_isSaid 2 = .ok (.iload_n 2, 1) := by decide +kernel
theorem dX11_isSaid_3 : decode cX11_isSaid 3 = .ok (.aload_n 0, 1) := by decide +kernel
theorem dX11_isSaid_4 : decode cX11_isSaid 4 = .ok (.getfield 19, 3) := by decide +kernel
theorem dX11_isSaid_7 : decode cX11_isSaid 7 = .ok (.iload_n 1, 1) := by decide +kernel
theorem dX11_isSaid_8 : decode cX11_isSaid 8 = .ok (.iconst 1, 1) := by decide +kernel
theorem dX11_isSaid_9 : decode cX11_isSaid 9 = .ok (.iadd, 1) := by decide +kernel
theorem dX11_isSaid_10 : decode cX11_isSaid 10 = .ok (.iaload, 1) := by decide +kernel
theorem dX11_isSaid_11 : decode cX11_isSaid 11 = .ok (.if_icmp .ge 25, 3) := by decide +kernel
theorem dX11_isSaid_14 : decode cX11_isSaid 14 = .ok (.aload_n 0, 1) := by decide +kernel
theorem dX11_isSaid_15 : decode cX11_isSaid 15 = .ok (.getfield 46, 3) := by decide +kernel
theorem dX11_isSaid_18 : decode cX11_isSaid 18 = .ok (.iload_n 2, 1) := by decide +kernel
theorem dX11_isSaid_19 : decode cX11_isSaid 19 = .ok (.aload_n 0, 1) := by decide +kernel
theorem dX11_isSaid_20 : decode cX11_isSaid 20 = .ok (.getfield 19, 3) := by decide +kernel
theorem dX11_isSaid_23 : decode cX11_isSaid 23 = .ok (.iload_n 1, 1) := by decide +kernel
theorem dX11_isSaid_24 : decode cX11_isSaid 24 = .ok (.iconst 2, 1) := by decide +kernel
theorem dX11_isSaid_25 : decode cX11_isSaid 25 = .ok (.iadd, 1) := by decide +kernel
theorem dX11_isSaid_26 : decode cX11_isSaid 26 = .ok (.iload_n 2, 1) := by decide +kernel
theorem dX11_isSaid_27 : decode cX11_isSaid 27 = .ok (.iadd, 1) := by decide +kernel
theorem dX11_isSaid_28 : decode cX11_isSaid 28 = .ok (.iaload, 1) := by decide +kernel
theorem dX11_isSaid_29 : decode cX11_isSaid 29 = .ok (.iastore, 1) := by decide +kernel
theorem dX11_isSaid_30 : decode cX11_isSaid 30 = .ok (.iinc 2 1, 3) := by decide +kernel
theorem dX11_isSaid_33 : decode cX11_isSaid 33 = .ok (.goto (-31), 3) := by decide +kernel
theorem dX11_isSaid_36 : decode cX11_isSaid 36 = .ok (.aload_n 0, 1) := by decide +kernel
theorem dX11_isSaid_37 : decode cX11_isSaid 37 = .ok (.aload_n 0, 1) := by decide +kernel
theorem dX11_isSaid_38 : decode cX11_isSaid 38 = .ok (.getfield 19, 3) := by decide +kernel
theorem dX11_isSaid_41 : decode cX11_isSaid 41 = .ok (.iload_n 1, 1) := by decide +kernel
theorem dX11_isSaid_42 : decode cX11_isSaid 42 = .ok (.iconst 1, 1) := by decide +kernel
theorem dX11_isSaid_43 : decode cX11_isSaid 43 = .ok (.iadd, 1) := by decide +kernel
theorem dX11_isSaid_44 : decode cX11_isSaid 44 = .ok (.iaload, 1) := by decide +kernel
theorem dX11_isSaid_45 : decode cX11_isSaid 45 = .ok (.invokevirtual 340, 3) := by decide +kernel
theorem dX11_isSaid_48 : decode cX11_isSaid 48 = .ok (.ifCond .lt 7, 3) := by decide +kernel
theorem dX11_isSaid_51 : decode cX11_isSaid 51 = .ok (.iconst 1, 1) := by decide +kernel
theorem dX11_isSaid_52 : decode cX11_isSaid 52 = .ok (.goto 4, 3) := by decide +kernel
theorem dX11_isSaid_55 : decode cX11_isSaid 55 = .ok (.iconst 0, 1) := by decide +kernel
theorem dX11_isSaid_56 : decode cX11_isSaid 56 = .ok (.ireturn, 1) := by decide +kernel
theorem gX11_isSaid_0 {d : Nat} {M : ev_Mem} {Q : Option Value → ev_Mem → Prop} {x1 : Int32} (h : (Ev LM d mX11_isSaid 2 [some (.ref 0), some (.int x1), some (.int 0)] [] M Q)) : Ev LM d mX11_isSaid 0 [some (.ref 0), some (.int x1), none] [] M Q := by
  refine ev_iconst (v := 0) dX11_isSaid_0 (by decide) ?_
  refine ev_istore_n (ls2 := [some (.ref 0), some (.int x1), some (.int 0)]) dX11_isSaid_1 (Nat.le_of_ble_eq_true rfl) rfl ?_
  exact h
theorem gX11_isSaid_2 {d : Nat} {M : ev_Mem} {Q : Option Value → ev_Mem → Prop} {x1 x2 : Int32} (h : (vp_in (x1 + 1) 3780 ∧ ((((M.1 4 (x1 + 1).toNatClampNeg) ≤ x2) → (vp_in (x1 + 1) 3780 ∧ (∃ Q2 : Option Value → ev_Mem → Prop, Cl LM d mX11_sentenceOf [.ref 0, .int (M.1 4 (x1 + 1).toNatClampNeg)] M Q2 ∧ ∀ (zr : Option Value) (zM : ev_Mem), Q2 zr zM → Ev LM (d + 1) mX11_isSaid 48 [none, none, none] (zr.toList ++ []) zM Q))) ∧ ((¬ (M.1 4 (x1 + 1).toNatClampNeg) ≤ x2) → (vp_in ((x1 + 2) + x2) 3780 ∧ (vp_in x2 5 ∧ (∀ M1 : ev_Mem, M1 = ev_wr M 10 x2.toNatClampNeg (M.1 4 ((x1 + 2) + x2).toNatClampNeg) → (Ev LM (d + 1) mX11_isSaid 2 [some (.ref 0), some (.int x1), some (.int (x2 + 1))] [] M1 Q)))))))) : Ev LM (d + 1) mX11_isSaid 2 [some (.ref 0), some (.int x1), some (.int x2)] [] M Q := by
  refine ev_iload_n dX11_isSaid_2 rfl ?_
  refine ev_aload_n dX11_isSaid_3 rfl ?_
  refine ev_getA dX11_isSaid_4 fl_WithoutEModel_19 lm_0 rfl ?_
  refine ev_iload_n dX11_isSaid_7 rfl ?_
  refine ev_iconst (v := 1) dX11_isSaid_8 (by decide) ?_
  refine ev_iadd dX11_isSaid_9 ?_
  obtain ⟨c, h⟩ := h
  refine ev_iald dX11_isSaid_10 lm_4 c ?_
  refine ev_icmp_ge (tgt := 36) dX11_isSaid_11 (by decide) (fun c => ?_) (fun c => ?_)
  · replace h := h.1 c
    refine ev_aload_n dX11_isSaid_36 rfl ?_
    refine ev_aload_n dX11_isSaid_37 rfl ?_
    refine ev_getA dX11_isSaid_38 fl_WithoutEModel_19 lm_0 rfl ?_
    refine ev_iload_n dX11_isSaid_41 rfl ?_
    refine ev_iconst (v := 1) dX11_isSaid_42 (by decide) ?_
    refine ev_iadd dX11_isSaid_43 ?_
    obtain ⟨c, h⟩ := h
    refine ev_iald dX11_isSaid_44 lm_4 c ?_
    obtain ⟨Q2, hc, h⟩ := h
    refine ev_callV [.int (M.1 4 (x1 + 1).toNatClampNeg)] dX11_isSaid_45 ml_WithoutEModel_340 lm_0 rfl rfl (Nat.le_of_ble_eq_true rfl) hc (fun zr zM q => ?_)
    refine Ev.weak (ls := [none, none, none]) trivial ?_
    exact h zr zM q
  · replace h := h.2 c
    refine ev_aload_n dX11_isSaid_14 rfl ?_
    refine ev_getA dX11_isSaid_15 fl_WithoutEModel_46 lm_0 rfl ?_
    refine ev_iload_n dX11_isSaid_18 rfl ?_
    refine ev_aload_n dX11_isSaid_19 rfl ?_
    refine ev_getA dX11_isSaid_20 fl_WithoutEModel_19 lm_0 rfl ?_
    refine ev_iload_n dX11_isSaid_23 rfl ?_
    refine ev_iconst (v := 2) dX11_isSaid_24 (by decide) ?_
    refine ev_iadd dX11_isSaid_25 ?_
    refine ev_iload_n dX11_isSaid_26 rfl ?_
    refine ev_iadd dX11_isSaid_27 ?_
    obtain ⟨c, h⟩ := h
    refine ev_iald dX11_isSaid_28 lm_4 c ?_
    obtain ⟨c, h⟩ := h
    refine ev_iast dX11_isSaid_29 lm_10 c ?_
    generalize eM1 : ev_wr M 10 x2.toNatClampNeg (M.1 4 ((x1 + 2) + x2).toNatClampNeg) = M1
    replace h := h M1 eM1.symm
    refine ev_iinc (v := x2 + 1) (ls2 := [some (.ref 0), some (.int x1), some (.int (x2 + 1))]) dX11_isSaid_30 rfl rfl rfl ?_
    refine ev_goto (tgt := 2) dX11_isSaid_33 (by decide) ?_
    exact h
theorem gX11_isSaid_48 {d : Nat} {M : ev_Mem} {Q : Option Value → ev_Mem → Prop} {s0 : Int32} (h : (((s0 < 0) → (Q (some (.int 0)) M)) ∧ ((¬ s0 < 0) → (Q (some (.int 1)) M)))) : Ev LM d mX11_isSaid 48 [none, none, none] [(.int s0)] M Q := by
  refine ev_if_lt (tgt := 55) dX11_isSaid_48 (by decide) (fun c => ?_) (fun c => ?_)
  · replace h := h.1 c
    refine ev_iconst (v := 0) dX11_isSaid_55 (by decide) ?_
    exact ev_zret dX11_isSaid_56 rfl (by decide) h
  · replace h := h.2 c
    refine ev_iconst (v := 1) dX11_isSaid_51 (by decide) ?_
    refine ev_goto (tgt := 56) dX11_isSaid_52 (by decide) ?_
    exact ev_zret dX11_isSaid_56 rfl (by decide) h
theorem dX11_isPlayed_0 : decode cX11_isPlayed 0 = .ok (.aload_n 0, 1) := by decide +kernel
theorem dX11_isPlayed_1 : decode cX11_isPlayed 1 = .ok (.getfield 19, 3) := by decide +kernel
theorem dX11_isPlayed_4 : decode cX11_isPlayed 4 = .ok (.iload_n 1, 1) := by decide +kernel
theorem dX11_isPlayed_5 : decode cX11_isPlayed 5 = .ok (.iconst 1, 1) := by decide +kernel
theorem dX11_isPlayed_6 : decode cX11_isPlayed 6 = .ok (.iadd, 1) := by decide +kernel
theorem dX11_isPlayed_7 : decode cX11_isPlayed 7 = .ok (.iaload, 1) := by decide +kernel
theorem dX11_isPlayed_8 : decode cX11_isPlayed 8 = .ok (.istore_n 2, 1) := by decide +kernel
theorem dX11_isPlayed_9 : decode cX11_isPlayed 9 = .ok (.aload_n 0, 1) := by decide +kernel
theorem dX11_isPlayed_10 : decode cX11_isPlayed 10 = .ok (.getfield 19, 3) := by decide +kernel
theorem dX11_isPlayed_13 : decode cX11_isPlayed 13 = .ok (.iload_n 1, 1) := by decide +kernel
theorem dX11_isPlayed_14 : decode cX11_isPlayed 14 = .ok (.iaload, 1) := by decide +kernel
theorem dX11_isPlayed_15 : decode cX11_isPlayed 15 = .ok (.tableswitch 145 3 9 #[41, 55, 61, 90, 103, 117, 131], 41) := by decide +kernel
theorem dX11_isPlayed_56 : decode cX11_isPlayed 56 = .ok (.aload_n 0, 1) := by decide +kernel
theorem dX11_isPlayed_57 : decode cX11_isPlayed 57 = .ok (.iload_n 1, 1) := by decide +kernel
theorem dX11_isPlayed_58 : decode cX11_isPlayed 58 = .ok (.invokevirtual 420, 3) := by decide +kernel
theorem dX11_isPlayed_61 : decode cX11_isPlayed 61 = .ok (.ifCond .lt 7, 3) := by decide +kernel
theorem dX11_isPlayed_64 : decode cX11_isPlayed 64 = .ok (.iconst 1, 1) := by decide +kernel
theorem dX11_isPlayed_65 : decode cX11_isPlayed 65 = .ok (.goto 4, 3) := by decide +kernel
theorem dX11_isPlayed_68 : decode cX11_isPlayed 68 = .ok (.iconst 0, 1) := by decide +kernel
theorem dX11_isPlayed_69 : decode cX11_isPlayed 69 = .ok (.ireturn, 1) := by decide +kernel
theorem dX11_isPlayed_70 : decode cX11_isPlayed 70 = .ok (.aload_n 0, 1) := by decide +kernel
theorem dX11_isPlayed_71 : decode cX11_isPlayed 71 = .ok (.iload_n 1, 1) := by decide +kernel
theorem dX11_isPlayed_72 : decode cX11_isPlayed 72 = .ok (.invokevirtual 423, 3) := by decide +kernel
theorem dX11_isPlayed_75 : decode cX11_isPlayed 75 = .ok (.ireturn, 1) := by decide +kernel
theorem dX11_isPlayed_76 : decode cX11_isPlayed 76 = .ok (.aload_n 0, 1) := by decide +kernel
theorem dX11_isPlayed_77 : decode cX11_isPlayed 77 = .ok (.aload_n 0, 1) := by decide +kernel
theorem dX11_isPlayed_78 : decode cX11_isPlayed 78 = .ok (.getfield 19, 3) := by decide +kernel
theorem dX11_isPlayed_81 : decode cX11_isPlayed 81 = .ok (.iload_n 1, 1) := by decide +kernel
theorem dX11_isPlayed_82 : decode cX11_isPlayed 82 = .ok (.iconst 2, 1) := by decide +kernel
theorem dX11_isPlayed_83 : decode cX11_isPlayed 83 = .ok (.iadd, 1) := by decide +kernel
theorem dX11_isPlayed_84 : decode cX11_isPlayed 84 = .ok (.iaload, 1) := by decide +kernel
theorem dX11_isPlayed_85 : decode cX11_isPlayed 85 = .ok (.aload_n 0, 1) := by decide +kernel
theorem dX11_isPlayed_86 : decode cX11_isPlayed 86 = .ok (.getfield 19, 3) := by decide +kernel
theorem dX11_isPlayed_89 : decode cX11_isPlayed 89 = .ok (.iload_n 1, 1) := by decide +kernel
theorem dX11_isPlayed_90 : decode cX11_isPlayed 90 = .ok (.iconst 4, 1) := by decide +kernel
theorem dX11_isPlayed_91 : decode cX11_isPlayed 91 = .ok (.iadd, 1) := by decide +kernel
theorem dX11_isPlayed_92 : decode cX11_isPlayed 92 = .ok (.iaload, 1) := by decide +kernel
theorem dX11_isPlayed_93 : decode cX11_isPlayed 93 = .ok (.aload_n 0, 1) := by decide +kernel
theorem dX11_isPlayed_94 : decode cX11_isPlayed 94 = .ok (.getfield 19, 3) := by decide +kernel
theorem dX11_isPlayed_97 : decode cX11_isPlayed 97 = .ok (.iload_n 1, 1) := by decide +kernel
theorem dX11_isPlayed_98 : decode cX11_isPlayed 98 = .ok (.iconst 5, 1) := by decide +kernel
theorem dX11_isPlayed_99 : decode cX11_isPlayed 99 = .ok (.iadd, 1) := by decide +kernel
theorem dX11_isPlayed_100 : decode cX11_isPlayed 100 = .ok (.iaload, 1) := by decide +kernel
theorem dX11_isPlayed_101 : decode cX11_isPlayed 101 = .ok (.invokevirtual 426, 3) := by decide +kernel
theorem dX11_isPlayed_104 : decode cX11_isPlayed 104 = .ok (.ireturn, 1) := by decide +kernel
theorem dX11_isPlayed_105 : decode cX11_isPlayed 105 = .ok (.aload_n 0, 1) := by decide +kernel
theorem dX11_isPlayed_106 : decode cX11_isPlayed 106 = .ok (.aload_n 0, 1) := by decide +kernel
theorem dX11_isPlayed_107 : decode cX11_isPlayed 107 = .ok (.getfield 19, 3) := by decide +kernel
theorem dX11_isPlayed_110 : decode cX11_isPlayed 110 = .ok (.iload_n 1, 1) := by decide +kernel
theorem dX11_isPlayed_111 : decode cX11_isPlayed 111 = .ok (.iconst 2, 1) := by decide +kernel
theorem dX11_isPlayed_112 : decode cX11_isPlayed 112 = .ok (.iadd, 1) := by decide +kernel
theorem dX11_isPlayed_113 : decode cX11_isPlayed 113 = .ok (.iaload, 1) := by decide +kernel
theorem dX11_isPlayed_114 : decode cX11_isPlayed 114 = .ok (.invokevirtual 429, 3) := by decide +kernel
theorem dX11_isPlayed_117 : decode cX11_isPlayed 117 = .ok (.ireturn, 1) := by decide +kernel
theorem dX11_isPlayed_118 : decode cX11_isPlayed 118 = .ok (.aload_n 0, 1) := by decide +kernel
theorem dX11_isPlayed_119 : decode cX11_isPlayed 119 = .ok (.iload_n 2, 1) := by decide +kernel
theorem dX11_isPlayed_120 : decode cX11_isPlayed 120 = .ok (.invokevirtual 432, 3) := by decide +kernel
theorem dX11_isPlayed_123 : decode cX11_isPlayed 123 = .ok (.ifCond .lt 7, 3) := by decide +kernel
theorem dX11_isPlayed_126 : decode cX11_isPlayed 126 = .ok (.iconst 1, 1) := by decide +kernel
theorem dX11_isPlayed_127 : decode cX11_isPlayed 127 = .ok (.goto 4, 3) := by decide +kernel
theorem dX11_isPlayed_130 : decode cX11_isPlayed 130 = .ok (.iconst 0, 1) := by decide +kernel
theorem dX11_isPlayed_131 : decode cX11_isPlayed 131 = .ok (.ireturn, 1) := by decide +kernel
theorem dX11_isPlayed_132 : decode cX11_isPlayed 132 = .ok (.aload_n 0, 1) := by decide +kernel
theorem dX11_isPlayed_133 : decode cX11_isPlayed 133 = .ok (.iload_n 2, 1) := by decide +kernel
theorem dX11_isPlayed_134 : decode cX11_isPlayed 134 = .ok (.invokevirtual 435, 3) := by decide +kernel
theorem dX11_isPlayed_137 : decode cX11_isPlayed 137 = .ok (.ifCond .lt 7, 3) := by decide +kernel
theorem dX11_isPlayed_140 : decode cX11_isPlayed 140 = .ok (.iconst 1, 1) := by decide +kernel
theorem dX11_isPlayed_141 : decode cX11_isPlayed 141 = .ok (.goto 4, 3) := by decide +kernel
theorem dX11_isPlayed_144 : decode cX11_isPlayed 144 = .ok (.iconst 0, 1) := by decide +kernel
theorem dX11_isPlayed_145 : decode cX11_isPlayed 145 = .ok (.ireturn, 1) := by decide +kernel
theorem dX11_isPlayed_146 : decode cX11_isPlayed 146 = .ok (.aload_n 0, 1) := by decide +kernel
theorem dX11_isPlayed_147 : decode cX11_isPlayed 147 = .ok (.iload_n 2, 1) := by decide +kernel
theorem dX11_isPlayed_148 : decode cX11_isPlayed 148 = .ok (.invokevirtual 438, 3) := by decide +kernel
theorem dX11_isPlayed_151 : decode cX11_isPlayed 151 = .ok (.ifCond .lt 7, 3) := by decide +kernel
theorem dX11_isPlayed_154 : decode cX11_isPlayed 154 = .ok (.iconst 1, 1) := by decide +kernel
theorem dX11_isPlayed_155 : decode cX11_isPlayed 155 = .ok (.goto 4, 3) := by decide +kernel
theorem dX11_isPlayed_158 : decode cX11_isPlayed 158 = .ok (.iconst 0, 1) := by decide +kernel
theorem dX11_isPlayed_159 : decode cX11_isPlayed 159 = .ok (.ireturn, 1) := by decide +kernel
theorem dX11_isPlayed_160 : decode cX11_isPlayed 160 = .ok (.iconst 1, 1) := by decide +kernel
theorem dX11_isPlayed_161 : decode cX11_isPlayed 161 = .ok (.ireturn, 1) := by decide +kernel
theorem gX11_isPlayed_0 {d : Nat} {M : ev_Mem} {Q : Option Value → ev_Mem → Prop} {x1 : Int32} (h : (vp_in (x1 + 1) 3780 ∧ (∀ v1 : Int32, v1 = M.1 4 (x1 + 1).toNatClampNeg → (vp_in x1 3780 ∧ ((((M.1 4 x1.toNatClampNeg) = 3) → (∃ Q2 : Option Value → ev_Mem → Prop, Cl LM d mX11_wordOf [.ref 0, .int x1] M Q2 ∧ ∀ (zr : Option Value) (zM : ev_Mem), Q2 zr zM → Ev LM (d + 1) mX11_isPlayed 61 [none, none, none] (zr.toList ++ []) zM Q)) ∧ (((M.1 4 x1.toNatClampNeg) = 4) → (∃ Q2 : Option Value → ev_Mem → Prop, Cl LM d mX11_isSaid [.ref 0, .int x1] M Q2 ∧ ∀ (zr : Option Value) (zM : ev_Mem), Q2 zr zM → Ev LM (d + 1) mX11_isPlayed 75 [none, none, none] (zr.toList ++ []) zM Q)) ∧ (((M.1 4 x1.toNatClampNeg) = 5) → (vp_in (x1 + 2) 3780 ∧ (vp_in (x1 + 4) 3780 ∧ (vp_in (x1 + 5) 3780 ∧ (∃ Q2 : Option Value → ev_Mem → Prop, Cl LM d mX11_made [.ref 0, .int (M.1 4 (x1 + 2).toNatClampNeg), .int (M.1 4 (x1 + 4).toNatClampNeg), .int (M.1 4 (x1 + 5).toNatClampNeg)] M Q2 ∧ ∀ (zr : Option Value) (zM : ev_Mem), Q2 zr zM → Ev LM (d + 1) mX11_isPlayed 104 [none, none, none] (zr.toList ++ []) zM Q))))) ∧ (((M.1 4 x1.toNatClampNeg) = 6) → (vp_in (x1 + 2) 3780 ∧ (∃ Q2 : Option Value → ev_Mem → Prop, Cl LM d mX11_key [.ref 0, .int (M.1 4 (x1 + 2).toNatClampNeg)] M Q2 ∧ ∀ (zr : Option Value) (zM : ev_Mem), Q2 zr zM → Ev LM (d + 1) mX11_isPlayed 117 [none, none, none] (zr.toList ++ []) zM Q))) ∧ (((M.1 4 x1.toNatClampNeg) = 7) → (∃ Q2 : Option Value → ev_Mem → Prop, Cl LM d mX11_turn [.ref 0, .int v1] M Q2 ∧ ∀ (zr : Option Value) (zM : ev_Mem), Q2 zr zM → Ev LM (d + 1) mX11_isPlayed 123 [none, none, none] (zr.toList ++ []) zM Q)) ∧ (((M.1 4 x1.toNatClampNeg) = 8) → (∃ Q2 : Option Value → ev_Mem → Prop, Cl LM d mX11_write [.ref 0, .int v1] M Q2 ∧ ∀ (zr : Option Value) (zM : ev_Mem), Q2 zr zM → Ev LM (d + 1) mX11_isPlayed 137 [none, none, none] (zr.toList ++ []) zM Q)) ∧ (((M.1 4 x1.toNatClampNeg) = 9) → (∃ Q2 : Option Value → ev_Mem → Prop, Cl LM d mX11_weekOf [.ref 0, .int v1] M Q2 ∧ ∀ (zr : Option Value) (zM : ev_Mem), Q2 zr zM → Ev LM (d + 1) mX11_isPlayed 151 [none, none, none] (zr.toList ++ []) zM Q)) ∧ ((¬ (M.1 4 x1.toNatClampNeg) = 3 ∧ ¬ (M.1 4 x1.toNatClampNeg) = 4 ∧ ¬ (M.1 4 x1.toNatClampNeg) = 5 ∧ ¬ (M.1 4 x1.toNatClampNeg) = 6 ∧ ¬ (M.1 4 x1.toNatClampNeg) = 7 ∧ ¬ (M.1 4 x1.toNatClampNeg) = 8 ∧ ¬ (M.1 4 x1.toNatClampNeg) = 9) → (Q (some (.int 1)) M))))))) : Ev LM (d + 1) mX11_isPlayed 0 [some (.ref 0), some (.int x1), none] [] M Q := by
  refine ev_aload_n dX11_isPlayed_0 rfl ?_
  refine ev_getA dX11_isPlayed_1 fl_WithoutEModel_19 lm_0 rfl ?_
  refine ev_iload_n dX11_isPlayed_4 rfl ?_
  refine ev_iconst (v := 1) dX11_isPlayed_5 (by decide) ?_
  refine ev_iadd dX11_isPlayed_6 ?_
  obtain ⟨c, h⟩ := h
  refine ev_iald dX11_isPlayed_7 lm_4 c ?_
  refine ev_istore_n (ls2 := [some (.ref 0), some (.int x1), some (.int (M.1 4 (x1 + 1).toNatClampNeg))]) dX11_isPlayed_8 (Nat.le_of_ble_eq_true rfl) rfl ?_
  generalize ev1 : M.1 4 (x1 + 1).toNatClampNeg = v1
  replace h := h v1 ev1.symm
  refine ev_aload_n dX11_isPlayed_9 rfl ?_
  refine ev_getA dX11_isPlayed_10 fl_WithoutEModel_19 lm_0 rfl ?_
  refine ev_iload_n dX11_isPlayed_13 rfl ?_
  obtain ⟨c, h⟩ := h
  refine ev_iald dX11_isPlayed_14 lm_4 c ?_
  obtain ⟨h0, h1, h2, h3, h4, h5, h6, h7⟩ := h
  by_cases e0 : (M.1 4 x1.toNatClampNeg) = 3
  · replace h := h0 e0
    have hk : ∃ off : Int, ¬ ((M.1 4 x1.toNatClampNeg) : Int32).toInt < 3 ∧ ¬ 9 < ((M.1 4 x1.toNatClampNeg) : Int32).toInt ∧ #[41, 55, 61, 90, 103, 117, 131][(((M.1 4 x1.toNatClampNeg) : Int32).toInt - 3).toNat]? = some off ∧ ((15 : Nat) : Int) + off = ((56 : Nat) : Int) := by
      have e := e0
      · rw [e]; exact ⟨41, by decide, by decide, by decide, by decide⟩
    obtain ⟨off, k1, k2, k3, k4⟩ := hk
    refine ev_tableIn (tgt := 56) dX11_isPlayed_15 k1 k2 k3 k4 ?_
    refine ev_aload_n dX11_isPlayed_56 rfl ?_
    refine ev_iload_n dX11_isPlayed_57 rfl ?_
    obtain ⟨Q2, hc, h⟩ := h
    refine ev_callV [.int x1] dX11_isPlayed_58 ml_WithoutEModel_420 lm_0 rfl rfl (Nat.le_of_ble_eq_true rfl) hc (fun zr zM q => ?_)
    refine Ev.weak (ls := [none, none, none]) trivial ?_
    exact h zr zM q
  by_cases e1 : (M.1 4 x1.toNatClampNeg) = 4
  · replace h := h1 e1
    have hk : ∃ off : Int, ¬ ((M.1 4 x1.toNatClampNeg) : Int32).toInt < 3 ∧ ¬ 9 < ((M.1 4 x1.toNatClampNeg) : Int32).toInt ∧ #[41, 55, 61, 90, 103, 117, 131][(((M.1 4 x1.toNatClampNeg) : Int32).toInt - 3).toNat]? = some off ∧ ((15 : Nat) : Int) + off = ((70 : Nat) : Int) := by
      have e := e1
      · rw [e]; exact ⟨55, by decide, by decide, by decide, by decide⟩
    obtain ⟨off, k1, k2, k3, k4⟩ := hk
    refine ev_tableIn (tgt := 70) dX11_isPlayed_15 k1 k2 k3 k4 ?_
    refine ev_aload_n dX11_isPlayed_70 rfl ?_
    refine ev_iload_n dX11_isPlayed_71 rfl ?_
    obtain ⟨Q2, hc, h⟩ := h
    refine ev_callV [.int x1] dX11_isPlayed_72 ml_WithoutEModel_423 lm_0 rfl rfl (Nat.le_of_ble_eq_true rfl) hc (fun zr zM q => ?_)
    refine Ev.weak (ls := [none, none, none]) trivial ?_
    exact h zr zM q
  by_cases e2 : (M.1 4 x1.toNatClampNeg) = 5
  · replace h := h2 e2
    have hk : ∃ off : Int, ¬ ((M.1 4 x1.toNatClampNeg) : Int32).toInt < 3 ∧ ¬ 9 < ((M.1 4 x1.toNatClampNeg) : Int32).toInt ∧ #[41, 55, 61, 90, 103, 117, 131][(((M.1 4 x1.toNatClampNeg) : Int32).toInt - 3).toNat]? = some off ∧ ((15 : Nat) : Int) + off = ((76 : Nat) : Int) := by
      have e := e2
      · rw [e]; exact ⟨61, by decide, by decide, by decide, by decide⟩
    obtain ⟨off, k1, k2, k3, k4⟩ := hk
    refine ev_tableIn (tgt := 76) dX11_isPlayed_15 k1 k2 k3 k4 ?_
    refine ev_aload_n dX11_isPlayed_76 rfl ?_
    refine ev_aload_n dX11_isPlayed_77 rfl ?_
    refine ev_getA dX11_isPlayed_78 fl_WithoutEModel_19 lm_0 rfl ?_
    refine ev_iload_n dX11_isPlayed_81 rfl ?_
    refine ev_iconst (v := 2) dX11_isPlayed_82 (by decide) ?_
    refine ev_iadd dX11_isPlayed_83 ?_
    obtain ⟨c, h⟩ := h
    refine ev_iald dX11_isPlayed_84 lm_4 c ?_
    refine ev_aload_n dX11_isPlayed_85 rfl ?_
    refine ev_getA dX11_isPlayed_86 fl_WithoutEModel_19 lm_0 rfl ?_
    refine ev_iload_n dX11_isPlayed_89 rfl ?_
    refine ev_iconst (v := 4) dX11_isPlayed_90 (by decide) ?_
    refine ev_iadd dX11_isPlayed_91 ?_
    obtain ⟨c, h⟩ := h
    refine ev_iald dX11_isPlayed_92 lm_4 c ?_
    refine ev_aload_n dX11_isPlayed_93 rfl ?_
    refine ev_getA dX11_isPlayed_94 fl_WithoutEModel_19 lm_0 rfl ?_
    refine ev_iload_n dX11_isPlayed_97 rfl ?_
    refine ev_iconst (v := 5) dX11_isPlayed_98 (by decide) ?_
    refine ev_iadd dX11_isPlayed_99 ?_
    obtain ⟨c, h⟩ := h
    refine ev_iald dX11_isPlayed_100 lm_4 c ?_
    obtain ⟨Q2, hc, h⟩ := h
    refine ev_callV [.int (M.1 4 (x1 + 2).toNatClampNeg), .int (M.1 4 (x1 + 4).toNatClampNeg), .int (M.1 4 (x1 + 5).toNatClampNeg)] dX11_isPlayed_101 ml_WithoutEModel_426 lm_0 rfl rfl (Nat.le_of_ble_eq_true rfl) hc (fun zr zM q => ?_)
    refine Ev.weak (ls := [none, none, none]) trivial ?_
    exact h zr zM q
  by_cases e3 : (M.1 4 x1.toNatClampNeg) = 6
  · replace h := h3 e3
    have hk : ∃ off : Int, ¬ ((M.1 4 x1.toNatClampNeg) : Int32).toInt < 3 ∧ ¬ 9 < ((M.1 4 x1.toNatClampNeg) : Int32).toInt ∧ #[41, 55, 61, 90, 103, 117, 131][(((M.1 4 x1.toNatClampNeg) : Int32).toInt - 3).toNat]? = some off ∧ ((15 : Nat) : Int) + off = ((105 : Nat) : Int) := by
      have e := e3
      · rw [e]; exact ⟨90, by decide, by decide, by decide, by decide⟩
    obtain ⟨off, k1, k2, k3, k4⟩ := hk
    refine ev_tableIn (tgt := 105) dX11_isPlayed_15 k1 k2 k3 k4 ?_
    refine ev_aload_n dX11_isPlayed_105 rfl ?_
    refine ev_aload_n dX11_isPlayed_106 rfl ?_
    refine ev_getA dX11_isPlayed_107 fl_WithoutEModel_19 lm_0 rfl ?_
    refine ev_iload_n dX11_isPlayed_110 rfl ?_
    refine ev_iconst (v := 2) dX11_isPlayed_111 (by decide) ?_
    refine ev_iadd dX11_isPlayed_112 ?_
    obtain ⟨c, h⟩ := h
    refine ev_iald dX11_isPlayed_113 lm_4 c ?_
    obtain ⟨Q2, hc, h⟩ := h
    refine ev_callV [.int (M.1 4 (x1 + 2).toNatClampNeg)] dX11_isPlayed_114 ml_WithoutEModel_429 lm_0 rfl rfl (Nat.le_of_ble_eq_true rfl) hc (fun zr zM q => ?_)
    refine Ev.weak (ls := [none, none, none]) trivial ?_
    exact h zr zM q
  by_cases e4 : (M.1 4 x1.toNatClampNeg) = 7
  · replace h := h4 e4
    have hk : ∃ off : Int, ¬ ((M.1 4 x1.toNatClampNeg) : Int32).toInt < 3 ∧ ¬ 9 < ((M.1 4 x1.toNatClampNeg) : Int32).toInt ∧ #[41, 55, 61, 90, 103, 117, 131][(((M.1 4 x1.toNatClampNeg) : Int32).toInt - 3).toNat]? = some off ∧ ((15 : Nat) : Int) + off = ((118 : Nat) : Int) := by
      have e := e4
      · rw [e]; exact ⟨103, by decide, by decide, by decide, by decide⟩
    obtain ⟨off, k1, k2, k3, k4⟩ := hk
    refine ev_tableIn (tgt := 118) dX11_isPlayed_15 k1 k2 k3 k4 ?_
    refine ev_aload_n dX11_isPlayed_118 rfl ?_
    refine ev_iload_n dX11_isPlayed_119 rfl ?_
    obtain ⟨Q2, hc, h⟩ := h
    refine ev_callV [.int v1] dX11_isPlayed_120 ml_WithoutEModel_432 lm_0 rfl rfl (Nat.le_of_ble_eq_true rfl) hc (fun zr zM q => ?_)
    refine Ev.weak (ls := [none, none, none]) trivial ?_
    exact h zr zM q
  by_cases e5 : (M.1 4 x1.toNatClampNeg) = 8
  · replace h := h5 e5
    have hk : ∃ off : Int, ¬ ((M.1 4 x1.toNatClampNeg) : Int32).toInt < 3 ∧ ¬ 9 < ((M.1 4 x1.toNatClampNeg) : Int32).toInt ∧ #[41, 55, 61, 90, 103, 117, 131][(((M.1 4 x1.toNatClampNeg) : Int32).toInt - 3).toNat]? = some off ∧ ((15 : Nat) : Int) + off = ((132 : Nat) : Int) := by
      have e := e5
      · rw [e]; exact ⟨117, by decide, by decide, by decide, by decide⟩
    obtain ⟨off, k1, k2, k3, k4⟩ := hk
    refine ev_tableIn (tgt := 132) dX11_isPlayed_15 k1 k2 k3 k4 ?_
    refine ev_aload_n dX11_isPlayed_132 rfl ?_
    refine ev_iload_n dX11_isPlayed_133 rfl ?_
    obtain ⟨Q2, hc, h⟩ := h
    refine ev_callV [.int v1] dX11_isPlayed_134 ml_WithoutEModel_435 lm_0 rfl rfl (Nat.le_of_ble_eq_true rfl) hc (fun zr zM q => ?_)
    refine Ev.weak (ls := [none, none, none]) trivial ?_
    exact h zr zM q
  by_cases e6 : (M.1 4 x1.toNatClampNeg) = 9
  · replace h := h6 e6
    have hk : ∃ off : Int, ¬ ((M.1 4 x1.toNatClampNeg) : Int32).toInt < 3 ∧ ¬ 9 < ((M.1 4 x1.toNatClampNeg) : Int32).toInt ∧ #[41, 55, 61, 90, 103, 117, 131][(((M.1 4 x1.toNatClampNeg) : Int32).toInt - 3).toNat]? = some off ∧ ((15 : Nat) : Int) + off = ((146 : Nat) : Int) := by
      have e := e6
      · rw [e]; exact ⟨131, by decide, by decide, by decide, by decide⟩
    obtain ⟨off, k1, k2, k3, k4⟩ := hk
    refine ev_tableIn (tgt := 146) dX11_isPlayed_15 k1 k2 k3 k4 ?_
    refine ev_aload_n dX11_isPlayed_146 rfl ?_
    refine ev_iload_n dX11_isPlayed_147 rfl ?_
    obtain ⟨Q2, hc, h⟩ := h
    refine ev_callV [.int v1] dX11_isPlayed_148 ml_WithoutEModel_438 lm_0 rfl rfl (Nat.le_of_ble_eq_true rfl) hc (fun zr zM q => ?_)
    refine Ev.weak (ls := [none, none, none]) trivial ?_
    exact h zr zM q
  replace h := h7 ⟨fun e => e0 (e), fun e => e1 (e), fun e => e2 (e), fun e => e3 (e), fun e => e4 (e), fun e => e5 (e), fun e => e6 (e)⟩
  have hk : (((M.1 4 x1.toNatClampNeg) : Int32).toInt < 3 ∨ 9 < ((M.1 4 x1.toNatClampNeg) : Int32).toInt) ∨ (False) := by
    have t : ∀ k : Int32, ¬ ((M.1 4 x1.toNatClampNeg) : Int32) = k → ((M.1 4 x1.toNatClampNeg) : Int32).toInt ≠ k.toInt := fun k hne e => hne (Int32.toInt_inj.mp e)
    have z3 : ((M.1 4 x1.toNatClampNeg) : Int32).toInt ≠ 3 := t 3 (fun e => by simp_all)
    have z4 : ((M.1 4 x1.toNatClampNeg) : Int32).toInt ≠ 4 := t 4 (fun e => by simp_all)
    have z5 : ((M.1 4 x1.toNatClampNeg) : Int32).toInt ≠ 5 := t 5 (fun e => by simp_all)
    have z6 : ((M.1 4 x1.toNatClampNeg) : Int32).toInt ≠ 6 := t 6 (fun e => by simp_all)
    have z7 : ((M.1 4 x1.toNatClampNeg) : Int32).toInt ≠ 7 := t 7 (fun e => by simp_all)
    have z8 : ((M.1 4 x1.toNatClampNeg) : Int32).toInt ≠ 8 := t 8 (fun e => by simp_all)
    have z9 : ((M.1 4 x1.toNatClampNeg) : Int32).toInt ≠ 9 := t 9 (fun e => by simp_all)
    omega
  replace hk := hk.elim id False.elim
  refine ev_tableOut (tgt := 160) dX11_isPlayed_15 hk (by decide) ?_
  refine ev_iconst (v := 1) dX11_isPlayed_160 (by decide) ?_
  exact ev_zret dX11_isPlayed_161 rfl (by decide) h
theorem gX11_isPlayed_61 {d : Nat} {M : ev_Mem} {Q : Option Value → ev_Mem → Prop} {s0 : Int32} (h : (((s0 < 0) → (Q (some (.int 0)) M)) ∧ ((¬ s0 < 0) → (Q (some (.int 1)) M)))) : Ev LM d mX11_isPlayed 61 [none, none, none] [(.int s0)] M Q := by
  refine ev_if_lt (tgt := 68) dX11_isPlayed_61 (by decide) (fun c => ?_) (fun c => ?_)
  · replace h := h.1 c
    refine ev_iconst (v := 0) dX11_isPlayed_68 (by decide) ?_
    exact ev_zret dX11_isPlayed_69 rfl (by decide) h
  · replace h := h.2 c
    refine ev_iconst (v := 1) dX11_isPlayed_64 (by decide) ?_
    refine ev_goto (tgt := 69) dX11_isPlayed_65 (by decide) ?_
    exact ev_zret dX11_isPlayed_69 rfl (by decide) h
theorem gX11_isPlayed_75 {d : Nat} {M : ev_Mem} {Q : Option Value → ev_Mem → Prop} {s0 : Int32} (h : (narrow .boolean (.int s0) = .int s0 ∧ (Q (some (.int s0)) M))) : Ev LM d mX11_isPlayed 75 [none, none, none] [(.int s0)] M Q := by
  obtain ⟨c, h⟩ := h
  exact ev_zret dX11_isPlayed_75 rfl c h
theorem gX11_isPlayed_104 {d : Nat} {M : ev_Mem} {Q : Option Value → ev_Mem → Prop} {s0 : Int32} (h : (narrow .boolean (.int s0) = .int s0 ∧ (Q (some (.int s0)) M))) : Ev LM d mX11_isPlayed 104 [none, none, none] [(.int s0)] M Q := by
  obtain ⟨c, h⟩ := h
  exact ev_zret dX11_isPlayed_104 rfl c h
theorem gX11_isPlayed_117 {d : Nat} {M : ev_Mem} {Q : Option Value → ev_Mem → Prop} {s0 : Int32} (h : (narrow .boolean (.int s0) = .int s0 ∧ (Q (some (.int s0)) M))) : Ev LM d mX11_isPlayed 117 [none, none, none] [(.int s0)] M Q := by
  obtain ⟨c, h⟩ := h
  exact ev_zret dX11_isPlayed_117 rfl c h
theorem gX11_isPlayed_123 {d : Nat} {M : ev_Mem} {Q : Option Value → ev_Mem → Prop} {s0 : Int32} (h : (((s0 < 0) → (Q (some (.int 0)) M)) ∧ ((¬ s0 < 0) → (Q (some (.int 1)) M)))) : Ev LM d mX11_isPlayed 123 [none, none, none] [(.int s0)] M Q := by
  refine ev_if_lt (tgt := 130) dX11_isPlayed_123 (by decide) (fun c => ?_) (fun c => ?_)
  · replace h := h.1 c
    refine ev_iconst (v := 0) dX11_isPlayed_130 (by decide) ?_
    exact ev_zret dX11_isPlayed_131 rfl (by decide) h
  · replace h := h.2 c
    refine ev_iconst (v := 1) dX11_isPlayed_126 (by decide) ?_
    refine ev_goto (tgt := 131) dX11_isPlayed_127 (by decide) ?_
    exact ev_zret dX11_isPlayed_131 rfl (by decide) h
theorem gX11_isPlayed_137 {d : Nat} {M : ev_Mem} {Q : Option Value → ev_Mem → Prop} {s0 : Int32} (h : (((s0 < 0) → (Q (some (.int 0)) M)) ∧ ((¬ s0 < 0) → (Q (some (.int 1)) M)))) : Ev LM d mX11_isPlayed 137 [none, none, none] [(.int s0)] M Q := by
  refine ev_if_lt (tgt := 144) dX11_isPlayed_137 (by decide) (fun c => ?_) (fun c => ?_)
  · replace h := h.1 c
    refine ev_iconst (v := 0) dX11_isPlayed_144 (by decide) ?_
    exact ev_zret dX11_isPlayed_145 rfl (by decide) h
  · replace h := h.2 c
    refine ev_iconst (v := 1) dX11_isPlayed_140 (by decide) ?_
    refine ev_goto (tgt := 145) dX11_isPlayed_141 (by decide) ?_
    exact ev_zret dX11_isPlayed_145 rfl (by decide) h
theorem gX11_isPlayed_151 {d : Nat} {M : ev_Mem} {Q : Option Value → ev_Mem → Prop} {s0 : Int32} (h : (((s0 < 0) → (Q (some (.int 0)) M)) ∧ ((¬ s0 < 0) → (Q (some (.int 1)) M)))) : Ev LM d mX11_isPlayed 151 [none, none, none] [(.int s0)] M Q := by
  refine ev_if_lt (tgt := 158) dX11_isPlayed_151 (by decide) (fun c => ?_) (fun c => ?_)
  · replace h := h.1 c
    refine ev_iconst (v := 0) dX11_isPlayed_158 (by decide) ?_
    exact ev_zret dX11_isPlayed_159 rfl (by decide) h
  · replace h := h.2 c
    refine ev_iconst (v := 1) dX11_isPlayed_154 (by decide) ?_
    refine ev_goto (tgt := 159) dX11_isPlayed_155 (by decide) ?_
    exact ev_zret dX11_isPlayed_159 rfl (by decide) h
theorem dX11_played_0 : decode cX11_played 0 = .ok (.iload_n 1, 1) := by decide +kernel
theorem dX11_played_1 : decode cX11_played 1 = .ok (.iconst 0, 1) := by decide +kernel
theorem dX11_played_2 : decode cX11_played 2 = .ok (.aload_n 0, 1) := by decide +kernel
theorem dX11_played_3 : decode cX11_played 3 = .ok (.getfield 7, 3) := by decide +kernel
theorem dX11_played_6 : decode cX11_played 6 = .ok (.iconst 2, 1) := by decide +kernel
theorem dX11_played_7 : decode cX11_played 7 = .ok (.iaload, 1) := by decide +kernel
theorem dX11_played_8 : decode cX11_played 8 = .ok (.iconst 1, 1) := by decide +kernel
theorem dX11_played_9 : decode cX11_played 9 = .ok (.isub, 1) := by decide +kernel
theorem dX11_played_10 : decode cX11_played 10 = .ok (.invokestatic 80, 3) := by decide +kernel
theorem dX11_played_13 : decode cX11_played 13 = .ok (.ifCond .ne 6, 3) := by decide +kernel
theorem dX11_played_16 : decode cX11_played 16 = .ok (.bipush (-2), 2) := by decide +kernel
theorem dX11_played_18 : decode cX11_played 18 = .ok (.ireturn, 1) := by decide +kernel
theorem dX11_played_19 : decode cX11_played 19 = .ok (.iconst 0, 1) := by decide +kernel
theorem dX11_played_20 : decode cX11_played 20 = .ok (.istore_n 2, 1) := by decide +kernel
theorem dX11_played_21 : decode cX11_played 21 = .ok (.iload_n 2, 1) := by decide +kernel
theorem dX11_played_22 : decode cX11_played 22 = .ok (.aload_n 0, 1) := by decide +kernel
theorem dX11_played_23 : decode cX11_played 23 = .ok (.getfield 19, 3) := by decide +kernel
theorem dX11_played_26 : decode cX11_played 26 = .ok (.sipush 945, 3) := by decide +kernel
theorem dX11_played_29 : decode cX11_played 29 = .ok (.iload_n 1, 1) := by decide +kernel
theorem dX11_played_30 : decode cX11_played 30 = .ok (.imul, 1) := by decide +kernel
theorem dX11_played_31 : decode cX11_played 31 = .ok (.iaload, 1) := by decide +kernel
theorem dX11_played_32 : decode cX11_played 32 = .ok (.if_icmp .ge 30, 3) := by decide +kernel
theorem dX11_played_35 : decode cX11_played 35 = .ok (.aload_n 0, 1) := by decide +kernel
theorem dX11_played_36 : decode cX11_played 36 = .ok (.sipush 945, 3) := by decide +kernel
theorem dX11_played_39 : decode cX11_played 39 = .ok (.iload_n 1, 1) := by decide +kernel
theorem dX11_played_40 : decode cX11_played 40 = .ok (.imul, 1) := by decide +kernel
theorem dX11_played_41 : decode cX11_played 41 = .ok (.iconst 1, 1) := by decide +kernel
theorem dX11_played_42 : decode cX11_played 42 = .ok (.iadd, 1) := by decide +kernel
theorem dX11_played_43 : decode cX11_played 43 = .ok (.bipush 14, 2) := by decide +kernel
theorem dX11_played_45 : decode cX11_played 45 = .ok (.iload_n 2, 1) := by decide +kernel
theorem dX11_played_46 : decode cX11_played 46 = .ok (.imul, 1) := by decide +kernel
theorem dX11_played_47 : decode cX11_played 47 = .ok (.iadd, 1) := by decide +kernel
theorem dX11_played_48 : decode cX11_played 48 = .ok (.invokevirtual 441, 3) := by decide +kernel
theorem dX11_played_51 : decode cX11_played 51 = .ok (.ifCond .ne 5, 3) := by decide +kernel
theorem dX11_played_54 : decode cX11_played 54 = .ok (.iload_n 2, 1) := by decide +kernel
theorem dX11_played_55 : decode cX11_played 55 = .ok (.ireturn, 1) := by decide +kernel
theorem dX11_played_56 : decode cX11_played 56 = .ok (.iinc 2 1, 3) := by decide +kernel
theorem dX11_played_59 : decode cX11_played 59 = .ok (.goto (-38), 3) := by decide +kernel
theorem dX11_played_62 : decode cX11_played 62 = .ok (.iconst (-1), 1) := by decide +kernel
theorem dX11_played_63 : decode cX11_played 63 = .ok (.ireturn, 1) := by decide +kernel
theorem gX11_played_0 {d : Nat} {M : ev_Mem} {Q : Option Value → ev_Mem → Prop} {x1 : Int32} (h : ((((iin x1 (0 : Int32) ((M.1 1 2) - 1)) = true) → (Ev LM (d + 1) mX11_played 21 [some (.ref 0), some (.int x1), some (.int 0)] [] M Q)) ∧ (((iin x1 (0 : Int32) ((M.1 1 2) - 1)) = false) → (Q (some (.int (-2))) M)))) : Ev LM (d + 1) mX11_played 0 [some (.ref 0), some (.int x1), none] [] M Q := by
  refine ev_iload_n dX11_played_0 rfl ?_
  refine ev_iconst (v := 0) dX11_played_1 (by decide) ?_
  refine ev_aload_n dX11_played_2 rfl ?_
  refine ev_getA dX11_played_3 fl_WithoutEModel_7 lm_0 rfl ?_
  refine ev_iconst (v := 2) dX11_played_6 (by decide) ?_
  refine ev_iaN (j := 2) dX11_played_7 lm_1 (by decide) (by decide) ?_
  refine ev_iconst (v := 1) dX11_played_8 (by decide) ?_
  refine ev_isub dX11_played_9 ?_
  refine ev_callS [.int x1, .int 0, .int ((M.1 1 2) - 1)] dX11_played_10 ml_WithoutEModel_80 rfl (Nat.le_of_ble_eq_true rfl) (kX11_isIn) ?_
  rintro zr zM ⟨q1, q2⟩
  rw [q1, q2]
  show Ev LM (d + 1) mX11_played 13 [some (.ref 0), some (.int x1), none] [(.int (bi (iin x1 (0 : Int32) ((M.1 1 2) - 1))))] M Q
  refine ev_if_ne (tgt := 19) dX11_played_13 (by decide) (fun c => ?_) (fun c => ?_)
  · replace h := h.1 ((bi_n0 _).mp c)
    refine ev_iconst (v := 0) dX11_played_19 (by decide) ?_
    refine ev_istore_n (ls2 := [some (.ref 0), some (.int x1), some (.int 0)]) dX11_played_20 (Nat.le_of_ble_eq_true rfl) rfl ?_
    exact h
  · replace h := h.2 ((bi_0 _).mp c)
    refine ev_bipush (v := -2) dX11_played_16 (by decide) ?_
    exact ev_iret dX11_played_18 rfl h
theorem gX11_played_21 {d : Nat} {M : ev_Mem} {Q : Option Value → ev_Mem → Prop} {x1 x2 : Int32} (h : (vp_in (945 * x1) 3780 ∧ ((((M.1 4 (945 * x1).toNatClampNeg) ≤ x2) → (Q (some (.int (-1))) M)) ∧ ((¬ (M.1 4 (945 * x1).toNatClampNeg) ≤ x2) → (∃ Q2 : Option Value → ev_Mem → Prop, Cl LM d mX11_isPlayed [.ref 0, .int (((945 * x1) + 1) + (14 * x2))] M Q2 ∧ ∀ (zr : Option Value) (zM : ev_Mem), Q2 zr zM → Ev LM (d + 1) mX11_played 51 [some (.ref 0), some (.int x1), some (.int x2)] (zr.toList ++ []) zM Q))))) : Ev LM (d + 1) mX11_played 21 [some (.ref 0), some (.int x1), some (.int x2)] [] M Q := by
  refine ev_iload_n dX11_played_21 rfl ?_
  refine ev_aload_n dX11_played_22 rfl ?_
  refine ev_getA dX11_played_23 fl_WithoutEModel_19 lm_0 rfl ?_
  refine ev_sipush (v := 945) dX11_played_26 (by decide) ?_
  refine ev_iload_n dX11_played_29 rfl ?_
  refine ev_imul dX11_played_30 ?_
  obtain ⟨c, h⟩ := h
  refine ev_iald dX11_played_31 lm_4 c ?_
  refine ev_icmp_ge (tgt := 62) dX11_played_32 (by decide) (fun c => ?_) (fun c => ?_)
  · replace h := h.1 c
    refine ev_iconst (v := -1) dX11_played_62 (by decide) ?_
    exact ev_iret dX11_played_63 rfl h
  · replace h := h.2 c
    refine ev_aload_n dX11_played_35 rfl ?_
    refine ev_sipush (v := 945) dX11_played_36 (by decide) ?_
    refine ev_iload_n dX11_played_39 rfl ?_
    refine ev_imul dX11_played_40 ?_
    refine ev_iconst (v := 1) dX11_played_41 (by decide) ?_
    refine ev_iadd dX11_played_42 ?_
    refine ev_bipush (v := 14) dX11_played_43 (by decide) ?_
    refine ev_iload_n dX11_played_45 rfl ?_
    refine ev_imul dX11_played_46 ?_
    refine ev_iadd dX11_played_47 ?_
    obtain ⟨Q2, hc, h⟩ := h
    refine ev_callV [.int (((945 * x1) + 1) + (14 * x2))] dX11_played_48 ml_WithoutEModel_441 lm_0 rfl rfl (Nat.le_of_ble_eq_true rfl) hc (fun zr zM q => ?_)
    exact h zr zM q
theorem gX11_played_51 {d : Nat} {M : ev_Mem} {Q : Option Value → ev_Mem → Prop} {x1 x2 s0 : Int32} (h : (((¬ s0 = 0) → (Ev LM d mX11_played 21 [some (.ref 0), some (.int x1), some (.int (x2 + 1))] [] M Q)) ∧ ((s0 = 0) → (Q (some (.int x2)) M)))) : Ev LM d mX11_played 51 [some (.ref 0), some (.int x1), some (.int x2)] [(.int s0)] M Q := by
  refine ev_if_ne (tgt := 56) dX11_played_51 (by decide) (fun c => ?_) (fun c => ?_)
  · replace h := h.1 c
    refine ev_iinc (v := x2 + 1) (ls2 := [some (.ref 0), some (.int x1), some (.int (x2 + 1))]) dX11_played_56 rfl rfl rfl ?_
    refine ev_goto (tgt := 21) dX11_played_59 (by decide) ?_
    exact h
  · replace h := h.2 c
    refine ev_iload_n dX11_played_54 rfl ?_
    exact ev_iret dX11_played_55 rfl h
