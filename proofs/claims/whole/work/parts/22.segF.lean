theorem dX11_two_0 : decode cX11_two 0 = .ok (.iload_n 0, 1) := by decide +kernel
theorem dX11_two_1 : decode cX11_two 1 = .ok (.tableswitch 48 5 7 #[27, 34, 41], 27) := by decide +kernel
theorem dX11_two_28 : decode cX11_two 28 = .ok (.lload_n 1, 1) := by decide +kernel
theorem dX11_two_29 : decode cX11_two 29 = .ok (.lload_n 3, 1) := by decide +kernel
theorem dX11_two_30 : decode cX11_two 30 = .ok (.ladd, 1) := by decide +kernel
theorem dX11_two_31 : decode cX11_two 31 = .ok (.invokestatic 284, 3) := by decide +kernel
theorem dX11_two_34 : decode cX11_two 34 = .ok (.lreturn, 1) := by decide +kernel
theorem dX11_two_35 : decode cX11_two 35 = .ok (.lload_n 1, 1) := by decide +kernel
theorem dX11_two_36 : decode cX11_two 36 = .ok (.lload_n 3, 1) := by decide +kernel
theorem dX11_two_37 : decode cX11_two 37 = .ok (.lsub, 1) := by decide +kernel
theorem dX11_two_38 : decode cX11_two 38 = .ok (.invokestatic 284, 3) := by decide +kernel
theorem dX11_two_41 : decode cX11_two 41 = .ok (.lreturn, 1) := by decide +kernel
theorem dX11_two_42 : decode cX11_two 42 = .ok (.lload_n 1, 1) := by decide +kernel
theorem dX11_two_43 : decode cX11_two 43 = .ok (.lload_n 3, 1) := by decide +kernel
theorem dX11_two_44 : decode cX11_two 44 = .ok (.lmul, 1) := by decide +kernel
theorem dX11_two_45 : decode cX11_two 45 = .ok (.invokestatic 284, 3) := by decide +kernel
theorem dX11_two_48 : decode cX11_two 48 = .ok (.lreturn, 1) := by decide +kernel
theorem dX11_two_49 : decode cX11_two 49 = .ok (.lload_n 3, 1) := by decide +kernel
theorem dX11_two_50 : decode cX11_two 50 = .ok (.lconst 0, 1) := by decide +kernel
theorem dX11_two_51 : decode cX11_two 51 = .ok (.lcmp, 1) := by decide +kernel
theorem dX11_two_52 : decode cX11_two 52 = .ok (.ifCond .ne 7, 3) := by decide +kernel
theorem dX11_two_55 : decode cX11_two 55 = .ok (.lconst 0, 1) := by decide +kernel
theorem dX11_two_56 : decode cX11_two 56 = .ok (.goto 9, 3) := by decide +kernel
theorem dX11_two_59 : decode cX11_two 59 = .ok (.lload_n 1, 1) := by decide +kernel
theorem dX11_two_60 : decode cX11_two 60 = .ok (.lload_n 3, 1) := by decide +kernel
theorem dX11_two_61 : decode cX11_two 61 = .ok (.ldiv, 1) := by decide +kernel
theorem dX11_two_62 : decode cX11_two 62 = .ok (.invokestatic 284, 3) := by decide +kernel
theorem dX11_two_65 : decode cX11_two 65 = .ok (.lreturn, 1) := by decide +kernel
theorem gX11_two_0 {d : Nat} {M : ev_Mem} {Q : Option Value → ev_Mem → Prop} {x0 : Int32} {x1 x3 : Int64} (h : (((x0 = 5) → (Q (some (.long (clp (x1 + x3)))) M)) ∧ ((x0 = 6) → (Q (some (.long (clp (x1 - x3)))) M)) ∧ ((x0 = 7) → (Q (some (.long (clp (x1 * x3)))) M)) ∧ ((¬ x0 = 5 ∧ ¬ x0 = 6 ∧ ¬ x0 = 7) → (((¬ (lg_cmp x3 0) = 0) → (¬ (x3 : Int64) = 0 ∧ (Q (some (.long (clp (x1 / x3)))) M))) ∧ (((lg_cmp x3 0) = 0) → (Q (some (.long 0)) M)))))) : Ev LM (d + 1) mX11_two 0 [some (.int x0), some (.long x1), none, some (.long x3), none] [] M Q := by
  refine ev_iload_n dX11_two_0 rfl ?_
  obtain ⟨h0, h1, h2, h3⟩ := h
  by_cases e0 : x0 = 5
  · replace h := h0 e0
    have hk : ∃ off : Int, ¬ (x0 : Int32).toInt < 5 ∧ ¬ 7 < (x0 : Int32).toInt ∧ #[27, 34, 41][((x0 : Int32).toInt - 5).toNat]? = some off ∧ ((1 : Nat) : Int) + off = ((28 : Nat) : Int) := by
      have e := e0
      · rw [e]; exact ⟨27, by decide, by decide, by decide, by decide⟩
    obtain ⟨off, k1, k2, k3, k4⟩ := hk
    refine ev_tableIn (tgt := 28) dX11_two_1 k1 k2 k3 k4 ?_
    refine ev_lload_n dX11_two_28 rfl ?_
    refine ev_lload_n dX11_two_29 rfl ?_
    refine ev_ladd dX11_two_30 ?_
    refine ev_callS [.long (x1 + x3)] dX11_two_31 ml_WithoutEModel_284 rfl (Nat.le_of_ble_eq_true rfl) (kX11_clip) ?_
    rintro zr zM ⟨q1, q2⟩
    rw [q1, q2]
    show Ev LM (d + 1) mX11_two 34 [some (.int x0), some (.long x1), none, some (.long x3), none] [(.long (clp (x1 + x3)))] M Q
    exact ev_lret dX11_two_34 rfl h
  by_cases e1 : x0 = 6
  · replace h := h1 e1
    have hk : ∃ off : Int, ¬ (x0 : Int32).toInt < 5 ∧ ¬ 7 < (x0 : Int32).toInt ∧ #[27, 34, 41][((x0 : Int32).toInt - 5).toNat]? = some off ∧ ((1 : Nat) : Int) + off = ((35 : Nat) : Int) := by
      have e := e1
      · rw [e]; exact ⟨34, by decide, by decide, by decide, by decide⟩
    obtain ⟨off, k1, k2, k3, k4⟩ := hk
    refine ev_tableIn (tgt := 35) dX11_two_1 k1 k2 k3 k4 ?_
    refine ev_lload_n dX11_two_35 rfl ?_
    refine ev_lload_n dX11_two_36 rfl ?_
    refine ev_lsub dX11_two_37 ?_
    refine ev_callS [.long (x1 - x3)] dX11_two_38 ml_WithoutEModel_284 rfl (Nat.le_of_ble_eq_true rfl) (kX11_clip) ?_
    rintro zr zM ⟨q1, q2⟩
    rw [q1, q2]
    show Ev LM (d + 1) mX11_two 41 [some (.int x0), some (.long x1), none, some (.long x3), none] [(.long (clp (x1 - x3)))] M Q
    exact ev_lret dX11_two_41 rfl h
  by_cases e2 : x0 = 7
  · replace h := h2 e2
    have hk : ∃ off : Int, ¬ (x0 : Int32).toInt < 5 ∧ ¬ 7 < (x0 : Int32).toInt ∧ #[27, 34, 41][((x0 : Int32).toInt - 5).toNat]? = some off ∧ ((1 : Nat) : Int) + off = ((42 : Nat) : Int) := by
      have e := e2
      · rw [e]; exact ⟨41, by decide, by decide, by decide, by decide⟩
    obtain ⟨off, k1, k2, k3, k4⟩ := hk
    refine ev_tableIn (tgt := 42) dX11_two_1 k1 k2 k3 k4 ?_
    refine ev_lload_n dX11_two_42 rfl ?_
    refine ev_lload_n dX11_two_43 rfl ?_
    refine ev_lmul dX11_two_44 ?_
    refine ev_callS [.long (x1 * x3)] dX11_two_45 ml_WithoutEModel_284 rfl (Nat.le_of_ble_eq_true rfl) (kX11_clip) ?_
    rintro zr zM ⟨q1, q2⟩
    rw [q1, q2]
    show Ev LM (d + 1) mX11_two 48 [some (.int x0), some (.long x1), none, some (.long x3), none] [(.long (clp (x1 * x3)))] M Q
    exact ev_lret dX11_two_48 rfl h
  replace h := h3 ⟨fun e => e0 (e), fun e => e1 (e), fun e => e2 (e)⟩
  have hk : ((x0 : Int32).toInt < 5 ∨ 7 < (x0 : Int32).toInt) ∨ (False) := by
    have t : ∀ k : Int32, ¬ (x0 : Int32) = k → (x0 : Int32).toInt ≠ k.toInt := fun k hne e => hne (Int32.toInt_inj.mp e)
    have z5 : (x0 : Int32).toInt ≠ 5 := t 5 (fun e => by simp_all)
    have z6 : (x0 : Int32).toInt ≠ 6 := t 6 (fun e => by simp_all)
    have z7 : (x0 : Int32).toInt ≠ 7 := t 7 (fun e => by simp_all)
    omega
  replace hk := hk.elim id False.elim
  refine ev_tableOut (tgt := 49) dX11_two_1 hk (by decide) ?_
  refine ev_lload_n dX11_two_49 rfl ?_
  refine ev_lconst (v := 0) dX11_two_50 (by decide) ?_
  refine ev_lcmp dX11_two_51 ?_
  refine ev_if_ne (tgt := 59) dX11_two_52 (by decide) (fun c => ?_) (fun c => ?_)
  · replace h := h.1 c
    refine ev_lload_n dX11_two_59 rfl ?_
    refine ev_lload_n dX11_two_60 rfl ?_
    obtain ⟨c, h⟩ := h
    refine ev_ldiv dX11_two_61 c ?_
    refine ev_callS [.long (x1 / x3)] dX11_two_62 ml_WithoutEModel_284 rfl (Nat.le_of_ble_eq_true rfl) (kX11_clip) ?_
    rintro zr zM ⟨q1, q2⟩
    rw [q1, q2]
    show Ev LM (d + 1) mX11_two 65 [some (.int x0), some (.long x1), none, some (.long x3), none] [(.long (clp (x1 / x3)))] M Q
    exact ev_lret dX11_two_65 rfl h
  · replace h := h.2 c
    refine ev_lconst (v := 0) dX11_two_55 (by decide) ?_
    refine ev_goto (tgt := 65) dX11_two_56 (by decide) ?_
    exact ev_lret dX11_two_65 rfl h
