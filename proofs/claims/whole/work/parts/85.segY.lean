theorem dX10_keysOfPage_0 : decode cX10_keysOfPage 0 = .ok (.iconst 0, 1) := by decide +kernel
theorem dX10_keysOfPage_1 : decode cX10_keysOfPage 1 = .ok (.istore_n 1, 1) := by decide +kernel
theorem dX10_keysOfPage_2 : decode cX10_keysOfPage 2 = .ok (.iconst 0, 1) := by decide +kernel
theorem dX10_keysOfPage_3 : decode cX10_keysOfPage 3 = .ok (.istore_n 2, 1) := by decide +kernel
theorem dX10_keysOfPage_4 : decode cX10_keysOfPage 4 = .ok (.iload_n 2, 1) := by decide +kernel
theorem dX10_keysOfPage_5 : decode cX10_keysOfPage 5 = .ok (.aload_n 0, 1) := by decide +kernel
theorem dX10_keysOfPage_6 : decode cX10_keysOfPage 6 = .ok (.getfield 33, 3) := by decide +kernel
theorem dX10_keysOfPage_9 : decode cX10_keysOfPage 9 = .ok (.getfield 404, 3) := by decide +kernel
theorem dX10_keysOfPage_12 : decode cX10_keysOfPage 12 = .ok (.if_icmp .ge 54, 3) := by decide +kernel
theorem dX10_keysOfPage_15 : decode cX10_keysOfPage 15 = .ok (.aload_n 0, 1) := by decide +kernel
theorem dX10_keysOfPage_16 : decode cX10_keysOfPage 16 = .ok (.getfield 33, 3) := by decide +kernel
theorem dX10_keysOfPage_19 : decode cX10_keysOfPage 19 = .ok (.getfield 407, 3) := by decide +kernel
theorem dX10_keysOfPage_22 : decode cX10_keysOfPage 22 = .ok (.iload_n 2, 1) := by decide +kernel
theorem dX10_keysOfPage_23 : decode cX10_keysOfPage 23 = .ok (.iaload, 1) := by decide +kernel
theorem dX10_keysOfPage_24 : decode cX10_keysOfPage 24 = .ok (.istore_n 3, 1) := by decide +kernel
theorem dX10_keysOfPage_25 : decode cX10_keysOfPage 25 = .ok (.aload_n 0, 1) := by decide +kernel
theorem dX10_keysOfPage_26 : decode cX10_keysOfPage 26 = .ok (.getfield 19, 3) := by decide +kernel
theorem dX10_keysOfPage_29 : decode cX10_keysOfPage 29 = .ok (.iload_n 3, 1) := by decide +kernel
theorem dX10_keysOfPage_30 : decode cX10_keysOfPage 30 = .ok (.invokevirtual 191, 3) := by decide +kernel
theorem dX10_keysOfPage_33 : decode cX10_keysOfPage 33 = .ok (.ifCond .eq 27, 3) := by decide +kernel
theorem dX10_keysOfPage_36 : decode cX10_keysOfPage 36 = .ok (.aload_n 0, 1) := by decide +kernel
theorem dX10_keysOfPage_37 : decode cX10_keysOfPage 37 = .ok (.getfield 19, 3) := by decide +kernel
theorem dX10_keysOfPage_40 : decode cX10_keysOfPage 40 = .ok (.getfield 200, 3) := by decide +kernel
theorem dX10_keysOfPage_43 : decode cX10_keysOfPage 43 = .ok (.iload_n 3, 1) := by decide +kernel
theorem dX10_keysOfPage_44 : decode cX10_keysOfPage 44 = .ok (.iaload, 1) := by decide +kernel
theorem dX10_keysOfPage_45 : decode cX10_keysOfPage 45 = .ok (.iconst 3, 1) := by decide +kernel
theorem dX10_keysOfPage_46 : decode cX10_keysOfPage 46 = .ok (.if_icmp .gt 14, 3) := by decide +kernel
theorem dX10_keysOfPage_49 : decode cX10_keysOfPage 49 = .ok (.iload_n 1, 1) := by decide +kernel
theorem dX10_keysOfPage_50 : decode cX10_keysOfPage 50 = .ok (.aload_n 0, 1) := by decide +kernel
theorem dX10_keysOfPage_51 : decode cX10_keysOfPage 51 = .ok (.getfield 19, 3) := by decide +kernel
theorem dX10_keysOfPage_54 : decode cX10_keysOfPage 54 = .ok (.iload_n 3, 1) := by decide +kernel
theorem dX10_keysOfPage_55 : decode cX10_keysOfPage 55 = .ok (.invokevirtual 415, 3) := by decide +kernel
theorem dX10_keysOfPage_58 : decode cX10_keysOfPage 58 = .ok (.ior, 1) := by decide +kernel
theorem dX10_keysOfPage_59 : decode cX10_keysOfPage 59 = .ok (.istore_n 1, 1) := by decide +kernel
theorem dX10_keysOfPage_60 : decode cX10_keysOfPage 60 = .ok (.iinc 2 1, 3) := by decide +kernel
theorem dX10_keysOfPage_63 : decode cX10_keysOfPage 63 = .ok (.goto (-59), 3) := by decide +kernel
theorem dX10_keysOfPage_66 : decode cX10_keysOfPage 66 = .ok (.iload_n 1, 1) := by decide +kernel
theorem dX10_keysOfPage_67 : decode cX10_keysOfPage 67 = .ok (.ireturn, 1) := by decide +kernel
theorem gX10_keysOfPage_0 {d : Nat} {M : ev_Mem} {Q : Option Value → ev_Mem → Prop} (h : (Ev LX d mX10_keysOfPage 4 [some (.ref 0), some (.int 0), some (.int 0), none] [] M Q)) : Ev LX d mX10_keysOfPage 0 [some (.ref 0), none, none, none] [] M Q := by
  refine ev_iconst (v := 0) dX10_keysOfPage_0 (by decide) ?_
  refine ev_istore_n (ls2 := [some (.ref 0), some (.int 0), none, none]) dX10_keysOfPage_1 (Nat.le_of_ble_eq_true rfl) rfl ?_
  refine ev_iconst (v := 0) dX10_keysOfPage_2 (by decide) ?_
  refine ev_istore_n (ls2 := [some (.ref 0), some (.int 0), some (.int 0), none]) dX10_keysOfPage_3 (Nat.le_of_ble_eq_true rfl) rfl ?_
  exact h
theorem gX10_keysOfPage_4 {d : Nat} {M : ev_Mem} {Q : Option Value → ev_Mem → Prop} {x1 x2 : Int32} (h : ((((M.1 47 5) ≤ x2) → (Q (some (.int x1)) M)) ∧ ((¬ (M.1 47 5) ≤ x2) → (vp_in x2 8 ∧ ((okW M) ∧ ((((iin (M.1 50 x2.toNatClampNeg) 0 (M.1 3 5 - 1)) = false) → (Ev LX (d + 1) mX10_keysOfPage 4 [some (.ref 0), some (.int x1), some (.int (x2 + 1)), none] [] M Q)) ∧ (((iin (M.1 50 x2.toNatClampNeg) 0 (M.1 3 5 - 1)) = true) → (vp_in (M.1 50 x2.toNatClampNeg) 24 ∧ (((3 < (M.1 30 (M.1 50 x2.toNatClampNeg).toNatClampNeg)) → (Ev LX (d + 1) mX10_keysOfPage 4 [some (.ref 0), some (.int x1), some (.int (x2 + 1)), none] [] M Q)) ∧ ((¬ 3 < (M.1 30 (M.1 50 x2.toNatClampNeg).toNatClampNeg)) → ((wd M (M.1 50 x2.toNatClampNeg)) ∧ (∀ v1 : Int32, v1 = x1 ||| (lts (M.1 (5 + (M.1 50 x2.toNatClampNeg).toNatClampNeg)) (M.1 29 (M.1 50 x2.toNatClampNeg).toNatClampNeg).toNatClampNeg) → (Ev LX (d + 1) mX10_keysOfPage 4 [some (.ref 0), some (.int v1), some (.int (x2 + 1)), none] [] M Q))))))))))))) : Ev LX (d + 1) mX10_keysOfPage 4 [some (.ref 0), some (.int x1), some (.int x2), none] [] M Q := by
  refine ev_iload_n dX10_keysOfPage_4 rfl ?_
  refine ev_aload_n dX10_keysOfPage_5 rfl ?_
  refine ev_getA dX10_keysOfPage_6 fl_WithoutE_33 lx_0 rfl ?_
  refine ev_getI dX10_keysOfPage_9 fl_WithoutE_404 lx_47 rfl ?_
  refine ev_icmp_ge (tgt := 66) dX10_keysOfPage_12 (by decide) (fun c => ?_) (fun c => ?_)
  · replace h := h.1 c
    refine ev_iload_n dX10_keysOfPage_66 rfl ?_
    exact ev_iret dX10_keysOfPage_67 rfl h
  · replace h := h.2 c
    refine ev_aload_n dX10_keysOfPage_15 rfl ?_
    refine ev_getA dX10_keysOfPage_16 fl_WithoutE_33 lx_0 rfl ?_
    refine ev_getA dX10_keysOfPage_19 fl_WithoutE_407 lx_47 rfl ?_
    refine ev_iload_n dX10_keysOfPage_22 rfl ?_
    obtain ⟨c, h⟩ := h
    refine ev_iald dX10_keysOfPage_23 lx_50 c ?_
    refine ev_istore_n (ls2 := [some (.ref 0), some (.int x1), some (.int x2), some (.int (M.1 50 x2.toNatClampNeg))]) dX10_keysOfPage_24 (Nat.le_of_ble_eq_true rfl) rfl ?_
    refine ev_aload_n dX10_keysOfPage_25 rfl ?_
    refine ev_getA dX10_keysOfPage_26 fl_WithoutE_19 lx_0 rfl ?_
    refine ev_iload_n dX10_keysOfPage_29 rfl ?_
    obtain ⟨p1, h⟩ := h
    refine ev_callV [.int (M.1 50 x2.toNatClampNeg)] dX10_keysOfPage_30 ml_WithoutE_191 lx_3 rfl rfl (Nat.le_of_ble_eq_true rfl) (kX0_hasWord p1) ?_
    rintro zr zM ⟨q1, q2⟩
    rw [q1, q2]
    show Ev LX (d + 1) mX10_keysOfPage 33 [some (.ref 0), some (.int x1), some (.int x2), some (.int (M.1 50 x2.toNatClampNeg))] [(.int (bi (iin (M.1 50 x2.toNatClampNeg) 0 (M.1 3 5 - 1))))] M Q
    refine ev_if_eq (tgt := 60) dX10_keysOfPage_33 (by decide) (fun c => ?_) (fun c => ?_)
    · replace h := h.1 ((bi_0 _).mp c)
      refine ev_iinc (v := x2 + 1) (ls2 := [some (.ref 0), some (.int x1), some (.int (x2 + 1)), some (.int (M.1 50 x2.toNatClampNeg))]) dX10_keysOfPage_60 rfl rfl rfl ?_
      refine ev_goto (tgt := 4) dX10_keysOfPage_63 (by decide) ?_
      refine Ev.weak (ls := [some (.ref 0), some (.int x1), some (.int (x2 + 1)), none]) ⟨rfl, rfl, rfl, trivial⟩ ?_
      exact h
    · replace h := h.2 ((bi_n0 _).mp c)
      refine ev_aload_n dX10_keysOfPage_36 rfl ?_
      refine ev_getA dX10_keysOfPage_37 fl_WithoutE_19 lx_0 rfl ?_
      refine ev_getA dX10_keysOfPage_40 fl_WithoutE_200 lx_3 rfl ?_
      refine ev_iload_n dX10_keysOfPage_43 rfl ?_
      obtain ⟨c, h⟩ := h
      refine ev_iald dX10_keysOfPage_44 lx_30 c ?_
      refine ev_iconst (v := 3) dX10_keysOfPage_45 (by decide) ?_
      refine ev_icmp_gt (tgt := 60) dX10_keysOfPage_46 (by decide) (fun c => ?_) (fun c => ?_)
      · replace h := h.1 c
        refine ev_iinc (v := x2 + 1) (ls2 := [some (.ref 0), some (.int x1), some (.int (x2 + 1)), some (.int (M.1 50 x2.toNatClampNeg))]) dX10_keysOfPage_60 rfl rfl rfl ?_
        refine ev_goto (tgt := 4) dX10_keysOfPage_63 (by decide) ?_
        refine Ev.weak (ls := [some (.ref 0), some (.int x1), some (.int (x2 + 1)), none]) ⟨rfl, rfl, rfl, trivial⟩ ?_
        exact h
      · replace h := h.2 c
        refine ev_iload_n dX10_keysOfPage_49 rfl ?_
        refine ev_aload_n dX10_keysOfPage_50 rfl ?_
        refine ev_getA dX10_keysOfPage_51 fl_WithoutE_19 lx_0 rfl ?_
        refine ev_iload_n dX10_keysOfPage_54 rfl ?_
        obtain ⟨p1, h⟩ := h
        refine ev_callV [.int (M.1 50 x2.toNatClampNeg)] dX10_keysOfPage_55 ml_WithoutE_415 lx_3 rfl rfl (Nat.le_of_ble_eq_true rfl) (qX0_lettersOf p1) ?_
        rintro zr zM ⟨q1, q2⟩
        rw [q1, q2]
        show Ev LX (d + 1) mX10_keysOfPage 58 [some (.ref 0), some (.int x1), some (.int x2), some (.int (M.1 50 x2.toNatClampNeg))] [(.int (lts (M.1 (5 + (M.1 50 x2.toNatClampNeg).toNatClampNeg)) (M.1 29 (M.1 50 x2.toNatClampNeg).toNatClampNeg).toNatClampNeg)), (.int x1)] M Q
        refine ev_ior dX10_keysOfPage_58 ?_
        refine ev_istore_n (ls2 := [some (.ref 0), some (.int (x1 ||| (lts (M.1 (5 + (M.1 50 x2.toNatClampNeg).toNatClampNeg)) (M.1 29 (M.1 50 x2.toNatClampNeg).toNatClampNeg).toNatClampNeg))), some (.int x2), some (.int (M.1 50 x2.toNatClampNeg))]) dX10_keysOfPage_59 (Nat.le_of_ble_eq_true rfl) rfl ?_
        generalize ev1 : x1 ||| (lts (M.1 (5 + (M.1 50 x2.toNatClampNeg).toNatClampNeg)) (M.1 29 (M.1 50 x2.toNatClampNeg).toNatClampNeg).toNatClampNeg) = v1
        replace h := h v1 ev1.symm
        refine ev_iinc (v := x2 + 1) (ls2 := [some (.ref 0), some (.int v1), some (.int (x2 + 1)), some (.int (M.1 50 x2.toNatClampNeg))]) dX10_keysOfPage_60 rfl rfl rfl ?_
        refine ev_goto (tgt := 4) dX10_keysOfPage_63 (by decide) ?_
        refine Ev.weak (ls := [some (.ref 0), some (.int v1), some (.int (x2 + 1)), none]) ⟨rfl, rfl, rfl, trivial⟩ ?_
        exact h
theorem dX10_wrote_0 : decode cX10_wrote 0 = .ok (.aload_n 0, 1) := by decide +kernel
theorem dX10_wrote_1 : decode cX10_wrote 1 = .ok (.invokevirtual 410, 3) := by decide +kernel
theorem dX10_wrote_4 : decode cX10_wrote 4 = .ok (.istore_n 2, 1) := by decide +kernel
theorem dX10_wrote_5 : decode cX10_wrote 5 = .ok (.bipush 26, 2) := by decide +kernel
theorem dX10_wrote_7 : decode cX10_wrote 7 = .ok (.iload_n 2, 1) := by decide +kernel
theorem dX10_wrote_8 : decode cX10_wrote 8 = .ok (.invokestatic 251, 3) := by decide +kernel
theorem dX10_wrote_11 : decode cX10_wrote 11 = .ok (.isub, 1) := by decide +kernel
theorem dX10_wrote_12 : decode cX10_wrote 12 = .ok (.istore_n 3, 1) := by decide +kernel
theorem dX10_wrote_13 : decode cX10_wrote 13 = .ok (.iload_n 1, 1) := by decide +kernel
theorem dX10_wrote_14 : decode cX10_wrote 14 = .ok (.tableswitch 53 0 2 #[26, 36, 51], 26) := by decide +kernel
theorem dX10_wrote_40 : decode cX10_wrote 40 = .ok (.iload_n 3, 1) := by decide +kernel
theorem dX10_wrote_41 : decode cX10_wrote 41 = .ok (.iload_n 3, 1) := by decide +kernel
theorem dX10_wrote_42 : decode cX10_wrote 42 = .ok (.iload_n 3, 1) := by decide +kernel
theorem dX10_wrote_43 : decode cX10_wrote 43 = .ok (.iconst 1, 1) := by decide +kernel
theorem dX10_wrote_44 : decode cX10_wrote 44 = .ok (.isub, 1) := by decide +kernel
theorem dX10_wrote_45 : decode cX10_wrote 45 = .ok (.imul, 1) := by decide +kernel
theorem dX10_wrote_46 : decode cX10_wrote 46 = .ok (.iconst 2, 1) := by decide +kernel
theorem dX10_wrote_47 : decode cX10_wrote 47 = .ok (.idiv, 1) := by decide +kernel
theorem dX10_wrote_48 : decode cX10_wrote 48 = .ok (.iadd, 1) := by decide +kernel
theorem dX10_wrote_49 : decode cX10_wrote 49 = .ok (.ireturn, 1) := by decide +kernel
theorem dX10_wrote_50 : decode cX10_wrote 50 = .ok (.iload_n 3, 1) := by decide +kernel
theorem dX10_wrote_51 : decode cX10_wrote 51 = .ok (.iconst 1, 1) := by decide +kernel
theorem dX10_wrote_52 : decode cX10_wrote 52 = .ok (.if_icmp .ne 11, 3) := by decide +kernel
theorem dX10_wrote_55 : decode cX10_wrote 55 = .ok (.ldc_w 414, 3) := by decide +kernel
theorem dX10_wrote_58 : decode cX10_wrote 58 = .ok (.iload_n 2, 1) := by decide +kernel
theorem dX10_wrote_59 : decode cX10_wrote 59 = .ok (.isub, 1) := by decide +kernel
theorem dX10_wrote_60 : decode cX10_wrote 60 = .ok (.goto 4, 3) := by decide +kernel
theorem dX10_wrote_63 : decode cX10_wrote 63 = .ok (.iconst 0, 1) := by decide +kernel
theorem dX10_wrote_64 : decode cX10_wrote 64 = .ok (.ireturn, 1) := by decide +kernel
theorem dX10_wrote_65 : decode cX10_wrote 65 = .ok (.iload_n 2, 1) := by decide +kernel
theorem dX10_wrote_66 : decode cX10_wrote 66 = .ok (.ireturn, 1) := by decide +kernel
theorem dX10_wrote_67 : decode cX10_wrote 67 = .ok (.iconst (-1), 1) := by decide +kernel
theorem dX10_wrote_68 : decode cX10_wrote 68 = .ok (.ireturn, 1) := by decide +kernel
theorem gX10_wrote_0 {d : Nat} {M : ev_Mem} {Q : Option Value → ev_Mem → Prop} {x1 : Int32} (h : (∃ Q2 : Option Value → ev_Mem → Prop, Cl LX d mX10_keysOfPage [.ref 0] M Q2 ∧ ∀ (zr : Option Value) (zM : ev_Mem), Q2 zr zM → Ev LX (d + 1) mX10_wrote 4 [none, some (.int x1), none, none] (zr.toList ++ []) zM Q)) : Ev LX (d + 1) mX10_wrote 0 [some (.ref 0), some (.int x1), none, none] [] M Q := by
  refine ev_aload_n dX10_wrote_0 rfl ?_
  obtain ⟨Q2, hc, h⟩ := h
  refine ev_callV [] dX10_wrote_1 ml_WithoutE_410 lx_0 rfl rfl (Nat.le_of_ble_eq_true rfl) hc (fun zr zM q => ?_)
  refine Ev.weak (ls := [none, some (.int x1), none, none]) ⟨rfl, trivial⟩ ?_
  exact h zr zM q
theorem gX10_wrote_4 {d : Nat} {M : ev_Mem} {Q : Option Value → ev_Mem → Prop} {x1 s0 : Int32} (h : (((x1 = 0) → (Q (some (.int ((26 - (bc s0)) + (((26 - (bc s0)) * ((26 - (bc s0)) - 1)) / 2)))) M)) ∧ ((x1 = 1) → (((¬ (26 - (bc s0)) = 1) → (Q (some (.int 0)) M)) ∧ (((26 - (bc s0)) = 1) → (Q (some (.int (67108863 - s0))) M)))) ∧ ((x1 = 2) → (Q (some (.int s0)) M)) ∧ ((¬ x1 = 0 ∧ ¬ x1 = 1 ∧ ¬ x1 = 2) → (Q (some (.int (-1))) M)))) : Ev LX (d + 1) mX10_wrote 4 [none, some (.int x1), none, none] [(.int s0)] M Q := by
  refine ev_istore_n (ls2 := [none, some (.int x1), some (.int s0), none]) dX10_wrote_4 (Nat.le_of_ble_eq_true rfl) rfl ?_
  refine ev_bipush (v := 26) dX10_wrote_5 (by decide) ?_
  refine ev_iload_n dX10_wrote_7 rfl ?_
  refine ev_callS [.int s0] dX10_wrote_8 ml_WithoutE_251 rfl (Nat.le_of_ble_eq_true rfl) (kJ6_bitCount) ?_
  rintro zr zM ⟨q1, q2⟩
  rw [q1, q2]
  show Ev LX (d + 1) mX10_wrote 11 [none, some (.int x1), some (.int s0), none] [(.int (bc s0)), (.int 26)] M Q
  refine ev_isub dX10_wrote_11 ?_
  refine ev_istore_n (ls2 := [none, some (.int x1), some (.int s0), some (.int (26 - (bc s0)))]) dX10_wrote_12 (Nat.le_of_ble_eq_true rfl) rfl ?_
  refine ev_iload_n dX10_wrote_13 rfl ?_
  obtain ⟨h0, h1, h2, h3⟩ := h
  by_cases e0 : x1 = 0
  · replace h := h0 e0
    have hk : ∃ off : Int, ¬ (x1 : Int32).toInt < 0 ∧ ¬ 2 < (x1 : Int32).toInt ∧ #[26, 36, 51][((x1 : Int32).toInt - 0).toNat]? = some off ∧ ((14 : Nat) : Int) + off = ((40 : Nat) : Int) := by
      have e := e0
      · rw [e]; exact ⟨26, by decide, by decide, by decide, by decide⟩
    obtain ⟨off, k1, k2, k3, k4⟩ := hk
    refine ev_tableIn (tgt := 40) dX10_wrote_14 k1 k2 k3 k4 ?_
    refine ev_iload_n dX10_wrote_40 rfl ?_
    refine ev_iload_n dX10_wrote_41 rfl ?_
    refine ev_iload_n dX10_wrote_42 rfl ?_
    refine ev_iconst (v := 1) dX10_wrote_43 (by decide) ?_
    refine ev_isub dX10_wrote_44 ?_
    refine ev_imul dX10_wrote_45 ?_
    refine ev_iconst (v := 2) dX10_wrote_46 (by decide) ?_
    refine ev_idiv dX10_wrote_47 (by decide) ?_
    refine ev_iadd dX10_wrote_48 ?_
    exact ev_iret dX10_wrote_49 rfl h
  by_cases e1 : x1 = 1
  · replace h := h1 e1
    have hk : ∃ off : Int, ¬ (x1 : Int32).toInt < 0 ∧ ¬ 2 < (x1 : Int32).toInt ∧ #[26, 36, 51][((x1 : Int32).toInt - 0).toNat]? = some off ∧ ((14 : Nat) : Int) + off = ((50 : Nat) : Int) := by
      have e := e1
      · rw [e]; exact ⟨36, by decide, by decide, by decide, by decide⟩
    obtain ⟨off, k1, k2, k3, k4⟩ := hk
    refine ev_tableIn (tgt := 50) dX10_wrote_14 k1 k2 k3 k4 ?_
    refine ev_iload_n dX10_wrote_50 rfl ?_
    refine ev_iconst (v := 1) dX10_wrote_51 (by decide) ?_
    refine ev_icmp_ne (tgt := 63) dX10_wrote_52 (by decide) (fun c => ?_) (fun c => ?_)
    · replace h := h.1 c
      refine ev_iconst (v := 0) dX10_wrote_63 (by decide) ?_
      exact ev_iret dX10_wrote_64 rfl h
    · replace h := h.2 c
      refine ev_ldcw (v := 67108863) dX10_wrote_55 cw_WithoutE_414 ?_
      refine ev_iload_n dX10_wrote_58 rfl ?_
      refine ev_isub dX10_wrote_59 ?_
      refine ev_goto (tgt := 64) dX10_wrote_60 (by decide) ?_
      exact ev_iret dX10_wrote_64 rfl h
  by_cases e2 : x1 = 2
  · replace h := h2 e2
    have hk : ∃ off : Int, ¬ (x1 : Int32).toInt < 0 ∧ ¬ 2 < (x1 : Int32).toInt ∧ #[26, 36, 51][((x1 : Int32).toInt - 0).toNat]? = some off ∧ ((14 : Nat) : Int) + off = ((65 : Nat) : Int) := by
      have e := e2
      · rw [e]; exact ⟨51, by decide, by decide, by decide, by decide⟩
    obtain ⟨off, k1, k2, k3, k4⟩ := hk
    refine ev_tableIn (tgt := 65) dX10_wrote_14 k1 k2 k3 k4 ?_
    refine ev_iload_n dX10_wrote_65 rfl ?_
    exact ev_iret dX10_wrote_66 rfl h
  replace h := h3 ⟨fun e => e0 (e), fun e => e1 (e), fun e => e2 (e)⟩
  have hk : ((x1 : Int32).toInt < 0 ∨ 2 < (x1 : Int32).toInt) ∨ (False) := by
    have t : ∀ k : Int32, ¬ (x1 : Int32) = k → (x1 : Int32).toInt ≠ k.toInt := fun k hne e => hne (Int32.toInt_inj.mp e)
    have z0 : (x1 : Int32).toInt ≠ 0 := t 0 (fun e => by simp_all)
    have z1 : (x1 : Int32).toInt ≠ 1 := t 1 (fun e => by simp_all)
    have z2 : (x1 : Int32).toInt ≠ 2 := t 2 (fun e => by simp_all)
    omega
  replace hk := hk.elim id False.elim
  refine ev_tableOut (tgt := 67) dX10_wrote_14 hk (by decide) ?_
  refine ev_iconst (v := -1) dX10_wrote_67 (by decide) ?_
  exact ev_iret dX10_wrote_68 rfl h
theorem dX10_fewest_0 : decode cX10_fewest 0 = .ok (.aload_n 0, 1) := by decide +kernel
theorem dX10_fewest_1 : decode cX10_fewest 1 = .ok (.invokevirtual 410, 3) := by decide +kernel
theorem dX10_fewest_4 : decode cX10_fewest 4 = .ok (.istore_n 1, 1) := by decide +kernel
theorem dX10_fewest_5 : decode cX10_fewest 5 = .ok (.iconst (-1), 1) := by decide +kernel
theorem dX10_fewest_6 : decode cX10_fewest 6 = .ok (.istore_n 2, 1) := by decide +kernel
theorem dX10_fewest_7 : decode cX10_fewest 7 = .ok (.iconst 0, 1) := by decide +kernel
theorem dX10_fewest_8 : decode cX10_fewest 8 = .ok (.istore_n 3, 1) := by decide +kernel
theorem dX10_fewest_9 : decode cX10_fewest 9 = .ok (.iconst 0, 1) := by decide +kernel
theorem dX10_fewest_10 : decode cX10_fewest 10 = .ok (.istore 4, 2) := by decide +kernel
theorem dX10_fewest_12 : decode cX10_fewest 12 = .ok (.iload 4, 2) := by decide +kernel
theorem dX10_fewest_14 : decode cX10_fewest 14 = .ok (.aload_n 0, 1) := by decide +kernel
theorem dX10_fewest_15 : decode cX10_fewest 15 = .ok (.getfield 19, 3) := by decide +kernel
theorem dX10_fewest_18 : decode cX10_fewest 18 = .ok (.getfield 194, 3) := by decide +kernel
theorem dX10_fewest_21 : decode cX10_fewest 21 = .ok (.if_icmp .ge 53, 3) := by decide +kernel
theorem dX10_fewest_24 : decode cX10_fewest 24 = .ok (.aload_n 0, 1) := by decide +kernel
theorem dX10_fewest_25 : decode cX10_fewest 25 = .ok (.getfield 19, 3) := by decide +kernel
theorem dX10_fewest_28 : decode cX10_fewest 28 = .ok (.getfield 200, 3) := by decide +kernel
theorem dX10_fewest_31 : decode cX10_fewest 31 = .ok (.iload 4, 2) := by decide +kernel
theorem dX10_fewest_33 : decode cX10_fewest 33 = .ok (.iaload, 1) := by decide +kernel
theorem dX10_fewest_34 : decode cX10_fewest 34 = .ok (.iconst 3, 1) := by decide +kernel
theorem dX10_fewest_35 : decode cX10_fewest 35 = .ok (.if_icmp .gt 33, 3) := by decide +kernel
theorem dX10_fewest_38 : decode cX10_fewest 38 = .ok (.aload_n 0, 1) := by decide +kernel
theorem dX10_fewest_39 : decode cX10_fewest 39 = .ok (.getfield 19, 3) := by decide +kernel
theorem dX10_fewest_42 : decode cX10_fewest 42 = .ok (.iload 4, 2) := by decide +kernel
theorem dX10_fewest_44 : decode cX10_fewest 44 = .ok (.invokevirtual 415, 3) := by decide +kernel
theorem dX10_fewest_47 : decode cX10_fewest 47 = .ok (.iload_n 1, 1) := by decide +kernel
theorem dX10_fewest_48 : decode cX10_fewest 48 = .ok (.iconst (-1), 1) := by decide +kernel
theorem dX10_fewest_49 : decode cX10_fewest 49 = .ok (.ixor, 1) := by decide +kernel
theorem dX10_fewest_50 : decode cX10_fewest 50 = .ok (.iand, 1) := by decide +kernel
theorem dX10_fewest_51 : decode cX10_fewest 51 = .ok (.invokestatic 251, 3) := by decide +kernel
theorem dX10_fewest_54 : decode cX10_fewest 54 = .ok (.istore 5, 2) := by decide +kernel
theorem dX10_fewest_56 : decode cX10_fewest 56 = .ok (.iload 5, 2) := by decide +kernel
theorem dX10_fewest_58 : decode cX10_fewest 58 = .ok (.iload_n 3, 1) := by decide +kernel
theorem dX10_fewest_59 : decode cX10_fewest 59 = .ok (.if_icmp .le 9, 3) := by decide +kernel
theorem dX10_fewest_62 : decode cX10_fewest 62 = .ok (.iload 5, 2) := by decide +kernel
theorem dX10_fewest_64 : decode cX10_fewest 64 = .ok (.istore_n 3, 1) := by decide +kernel
theorem dX10_fewest_65 : decode cX10_fewest 65 = .ok (.iload 4, 2) := by decide +kernel
theorem dX10_fewest_67 : decode cX10_fewest 67 = .ok (.istore_n 2, 1) := by decide +kernel
theorem dX10_fewest_68 : decode cX10_fewest 68 = .ok (.iinc 4 1, 3) := by decide +kernel
theorem dX10_fewest_71 : decode cX10_fewest 71 = .ok (.goto (-59), 3) := by decide +kernel
theorem dX10_fewest_74 : decode cX10_fewest 74 = .ok (.iload_n 2, 1) := by decide +kernel
theorem dX10_fewest_75 : decode cX10_fewest 75 = .ok (.ireturn, 1) := by decide +kernel
theorem gX10_fewest_0 {d : Nat} {M : ev_Mem} {Q : Option Value → ev_Mem → Prop} (h : (∃ Q2 : Option Value → ev_Mem → Prop, Cl LX d mX10_keysOfPage [.ref 0] M Q2 ∧ ∀ (zr : Option Value) (zM : ev_Mem), Q2 zr zM → Ev LX (d + 1) mX10_fewest 4 [some (.ref 0), none, none, none, none, none] (zr.toList ++ []) zM Q)) : Ev LX (d + 1) mX10_fewest 0 [some (.ref 0), none, none, none, none, none] [] M Q := by
  refine ev_aload_n dX10_fewest_0 rfl ?_
  obtain ⟨Q2, hc, h⟩ := h
  refine ev_callV [] dX10_fewest_1 ml_WithoutE_410 lx_0 rfl rfl (Nat.le_of_ble_eq_true rfl) hc (fun zr zM q => ?_)
  exact h zr zM q
theorem gX10_fewest_4 {d : Nat} {M : ev_Mem} {Q : Option Value → ev_Mem → Prop} {s0 : Int32} (h : (Ev LX d mX10_fewest 12 [some (.ref 0), some (.int s0), some (.int (-1)), some (.int 0), some (.int 0), none] [] M Q)) : Ev LX d mX10_fewest 4 [some (.ref 0), none, none, none, none, none] [(.int s0)] M Q := by
  refine ev_istore_n (ls2 := [some (.ref 0), some (.int s0), none, none, none, none]) dX10_fewest_4 (Nat.le_of_ble_eq_true rfl) rfl ?_
  refine ev_iconst (v := -1) dX10_fewest_5 (by decide) ?_
  refine ev_istore_n (ls2 := [some (.ref 0), some (.int s0), some (.int (-1)), none, none, none]) dX10_fewest_6 (Nat.le_of_ble_eq_true rfl) rfl ?_
  refine ev_iconst (v := 0) dX10_fewest_7 (by decide) ?_
  refine ev_istore_n (ls2 := [some (.ref 0), some (.int s0), some (.int (-1)), some (.int 0), none, none]) dX10_fewest_8 (Nat.le_of_ble_eq_true rfl) rfl ?_
  refine ev_iconst (v := 0) dX10_fewest_9 (by decide) ?_
  refine ev_istore (ls2 := [some (.ref 0), some (.int s0), some (.int (-1)), some (.int 0), some (.int 0), none]) dX10_fewest_10 (Nat.le_of_ble_eq_true rfl) rfl ?_
  exact h
theorem gX10_fewest_12 {d : Nat} {M : ev_Mem} {Q : Option Value → ev_Mem → Prop} {x1 x2 x3 x4 : Int32} (h : ((((M.1 3 5) ≤ x4) → (Q (some (.int x2)) M)) ∧ ((¬ (M.1 3 5) ≤ x4) → (vp_in x4 24 ∧ (((3 < (M.1 30 x4.toNatClampNeg)) → (Ev LX (d + 1) mX10_fewest 12 [some (.ref 0), some (.int x1), some (.int x2), some (.int x3), some (.int (x4 + 1)), none] [] M Q)) ∧ ((¬ 3 < (M.1 30 x4.toNatClampNeg)) → ((wd M x4) ∧ (∀ v1 : Int32, v1 = bc ((lts (M.1 (5 + x4.toNatClampNeg)) (M.1 29 x4.toNatClampNeg).toNatClampNeg) &&& (x1 ^^^ (-1))) → (((v1 ≤ x3) → (Ev LX (d + 1) mX10_fewest 12 [some (.ref 0), some (.int x1), some (.int x2), some (.int x3), some (.int (x4 + 1)), none] [] M Q)) ∧ ((¬ v1 ≤ x3) → (Ev LX (d + 1) mX10_fewest 12 [some (.ref 0), some (.int x1), some (.int x4), some (.int v1), some (.int (x4 + 1)), none] [] M Q))))))))))) : Ev LX (d + 1) mX10_fewest 12 [some (.ref 0), some (.int x1), some (.int x2), some (.int x3), some (.int x4), none] [] M Q := by
  refine ev_iload dX10_fewest_12 rfl ?_
  refine ev_aload_n dX10_fewest_14 rfl ?_
  refine ev_getA dX10_fewest_15 fl_WithoutE_19 lx_0 rfl ?_
  refine ev_getI dX10_fewest_18 fl_WithoutE_194 lx_3 rfl ?_
  refine ev_icmp_ge (tgt := 74) dX10_fewest_21 (by decide) (fun c => ?_) (fun c => ?_)
  · replace h := h.1 c
    refine ev_iload_n dX10_fewest_74 rfl ?_
    exact ev_iret dX10_fewest_75 rfl h
  · replace h := h.2 c
    refine ev_aload_n dX10_fewest_24 rfl ?_
    refine ev_getA dX10_fewest_25 fl_WithoutE_19 lx_0 rfl ?_
    refine ev_getA dX10_fewest_28 fl_WithoutE_200 lx_3 rfl ?_
    refine ev_iload dX10_fewest_31 rfl ?_
    obtain ⟨c, h⟩ := h
    refine ev_iald dX10_fewest_33 lx_30 c ?_
    refine ev_iconst (v := 3) dX10_fewest_34 (by decide) ?_
    refine ev_icmp_gt (tgt := 68) dX10_fewest_35 (by decide) (fun c => ?_) (fun c => ?_)
    · replace h := h.1 c
      refine ev_iinc (v := x4 + 1) (ls2 := [some (.ref 0), some (.int x1), some (.int x2), some (.int x3), some (.int (x4 + 1)), none]) dX10_fewest_68 rfl rfl rfl ?_
      refine ev_goto (tgt := 12) dX10_fewest_71 (by decide) ?_
      exact h
    · replace h := h.2 c
      refine ev_aload_n dX10_fewest_38 rfl ?_
      refine ev_getA dX10_fewest_39 fl_WithoutE_19 lx_0 rfl ?_
      refine ev_iload dX10_fewest_42 rfl ?_
      obtain ⟨p1, h⟩ := h
      refine ev_callV [.int x4] dX10_fewest_44 ml_WithoutE_415 lx_3 rfl rfl (Nat.le_of_ble_eq_true rfl) (qX0_lettersOf p1) ?_
      rintro zr zM ⟨q1, q2⟩
      rw [q1, q2]
      show Ev LX (d + 1) mX10_fewest 47 [some (.ref 0), some (.int x1), some (.int x2), some (.int x3), some (.int x4), none] [(.int (lts (M.1 (5 + x4.toNatClampNeg)) (M.1 29 x4.toNatClampNeg).toNatClampNeg))] M Q
      refine ev_iload_n dX10_fewest_47 rfl ?_
      refine ev_iconst (v := -1) dX10_fewest_48 (by decide) ?_
      refine ev_ixor dX10_fewest_49 ?_
      refine ev_iand dX10_fewest_50 ?_
      refine ev_callS [.int ((lts (M.1 (5 + x4.toNatClampNeg)) (M.1 29 x4.toNatClampNeg).toNatClampNeg) &&& (x1 ^^^ (-1)))] dX10_fewest_51 ml_WithoutE_251 rfl (Nat.le_of_ble_eq_true rfl) (kJ6_bitCount) ?_
      rintro zr zM ⟨q1, q2⟩
      rw [q1, q2]
      show Ev LX (d + 1) mX10_fewest 54 [some (.ref 0), some (.int x1), some (.int x2), some (.int x3), some (.int x4), none] [(.int (bc ((lts (M.1 (5 + x4.toNatClampNeg)) (M.1 29 x4.toNatClampNeg).toNatClampNeg) &&& (x1 ^^^ (-1)))))] M Q
      refine ev_istore (ls2 := [some (.ref 0), some (.int x1), some (.int x2), some (.int x3), some (.int x4), some (.int (bc ((lts (M.1 (5 + x4.toNatClampNeg)) (M.1 29 x4.toNatClampNeg).toNatClampNeg) &&& (x1 ^^^ (-1)))))]) dX10_fewest_54 (Nat.le_of_ble_eq_true rfl) rfl ?_
      generalize ev1 : bc ((lts (M.1 (5 + x4.toNatClampNeg)) (M.1 29 x4.toNatClampNeg).toNatClampNeg) &&& (x1 ^^^ (-1))) = v1
      replace h := h v1 ev1.symm
      refine ev_iload dX10_fewest_56 rfl ?_
      refine ev_iload_n dX10_fewest_58 rfl ?_
      refine ev_icmp_le (tgt := 68) dX10_fewest_59 (by decide) (fun c => ?_) (fun c => ?_)
      · replace h := h.1 c
        refine ev_iinc (v := x4 + 1) (ls2 := [some (.ref 0), some (.int x1), some (.int x2), some (.int x3), some (.int (x4 + 1)), some (.int v1)]) dX10_fewest_68 rfl rfl rfl ?_
        refine ev_goto (tgt := 12) dX10_fewest_71 (by decide) ?_
        refine Ev.weak (ls := [some (.ref 0), some (.int x1), some (.int x2), some (.int x3), some (.int (x4 + 1)), none]) ⟨rfl, rfl, rfl, rfl, rfl, trivial⟩ ?_
        exact h
      · replace h := h.2 c
        refine ev_iload dX10_fewest_62 rfl ?_
        refine ev_istore_n (ls2 := [some (.ref 0), some (.int x1), some (.int x2), some (.int v1), some (.int x4), some (.int v1)]) dX10_fewest_64 (Nat.le_of_ble_eq_true rfl) rfl ?_
        refine ev_iload dX10_fewest_65 rfl ?_
        refine ev_istore_n (ls2 := [some (.ref 0), some (.int x1), some (.int x4), some (.int v1), some (.int x4), some (.int v1)]) dX10_fewest_67 (Nat.le_of_ble_eq_true rfl) rfl ?_
        refine ev_iinc (v := x4 + 1) (ls2 := [some (.ref 0), some (.int x1), some (.int x4), some (.int v1), some (.int (x4 + 1)), some (.int v1)]) dX10_fewest_68 rfl rfl rfl ?_
        refine ev_goto (tgt := 12) dX10_fewest_71 (by decide) ?_
        refine Ev.weak (ls := [some (.ref 0), some (.int x1), some (.int x4), some (.int v1), some (.int (x4 + 1)), none]) ⟨rfl, rfl, rfl, rfl, rfl, trivial⟩ ?_
        exact h
theorem dX10_bitOfRank_0 : decode cX10_bitOfRank 0 = .ok (.iconst 0, 1) := by decide +kernel
theorem dX10_bitOfRank_1 : decode cX10_bitOfRank 1 = .ok (.istore_n 2, 1) := by decide +kernel
theorem dX10_bitOfRank_2 : decode cX10_bitOfRank 2 = .ok (.iconst 0, 1) := by decide +kernel
theorem dX10_bitOfRank_3 : decode cX10_bitOfRank 3 = .ok (.istore_n 3, 1) := by decide +kernel
theorem dX10_bitOfRank_4 : decode cX10_bitOfRank 4 = .ok (.iload_n 3, 1) := by decide +kernel
theorem dX10_bitOfRank_5 : decode cX10_bitOfRank 5 = .ok (.bipush 26, 2) := by decide +kernel
theorem dX10_bitOfRank_7 : decode cX10_bitOfRank 7 = .ok (.if_icmp .ge 27, 3) := by decide +kernel
theorem dX10_bitOfRank_10 : decode cX10_bitOfRank 10 = .ok (.iload_n 0, 1) := by decide +kernel
theorem dX10_bitOfRank_11 : decode cX10_bitOfRank 11 = .ok (.iload_n 3, 1) := by decide +kernel
theorem dX10_bitOfRank_12 : decode cX10_bitOfRank 12 = .ok (.invokestatic 226, 3) := by decide +kernel
theorem dX10_bitOfRank_15 : decode cX10_bitOfRank 15 = .ok (.ifCond .eq 13, 3) := by decide +kernel
theorem dX10_bitOfRank_18 : decode cX10_bitOfRank 18 = .ok (.iload_n 2, 1) := by decide +kernel
theorem dX10_bitOfRank_19 : decode cX10_bitOfRank 19 = .ok (.iload_n 1, 1) := by decide +kernel
theorem dX10_bitOfRank_20 : decode cX10_bitOfRank 20 = .ok (.if_icmp .ne 5, 3) := by decide +kernel
theorem dX10_bitOfRank_23 : decode cX10_bitOfRank 23 = .ok (.iload_n 3, 1) := by decide +kernel
theorem dX10_bitOfRank_24 : decode cX10_bitOfRank 24 = .ok (.ireturn, 1) := by decide +kernel
theorem dX10_bitOfRank_25 : decode cX10_bitOfRank 25 = .ok (.iinc 2 1, 3) := by decide +kernel
theorem dX10_bitOfRank_28 : decode cX10_bitOfRank 28 = .ok (.iinc 3 1, 3) := by decide +kernel
theorem dX10_bitOfRank_31 : decode cX10_bitOfRank 31 = .ok (.goto (-27), 3) := by decide +kernel
theorem dX10_bitOfRank_34 : decode cX10_bitOfRank 34 = .ok (.iconst (-1), 1) := by decide +kernel
theorem dX10_bitOfRank_35 : decode cX10_bitOfRank 35 = .ok (.ireturn, 1) := by decide +kernel
theorem gX10_bitOfRank_0 {d : Nat} {M : ev_Mem} {Q : Option Value → ev_Mem → Prop} {x0 x1 : Int32} (h : (Ev LX d mX10_bitOfRank 4 [some (.int x0), some (.int x1), some (.int 0), some (.int 0)] [] M Q)) : Ev LX d mX10_bitOfRank 0 [some (.int x0), some (.int x1), none, none] [] M Q := by
  refine ev_iconst (v := 0) dX10_bitOfRank_0 (by decide) ?_
  refine ev_istore_n (ls2 := [some (.int x0), some (.int x1), some (.int 0), none]) dX10_bitOfRank_1 (Nat.le_of_ble_eq_true rfl) rfl ?_
  refine ev_iconst (v := 0) dX10_bitOfRank_2 (by decide) ?_
  refine ev_istore_n (ls2 := [some (.int x0), some (.int x1), some (.int 0), some (.int 0)]) dX10_bitOfRank_3 (Nat.le_of_ble_eq_true rfl) rfl ?_
  exact h
theorem gX10_bitOfRank_4 {d : Nat} {M : ev_Mem} {Q : Option Value → ev_Mem → Prop} {x0 x1 x2 x3 : Int32} (h : (((26 ≤ x3) → (Q (some (.int (-1))) M)) ∧ ((¬ 26 ≤ x3) → ((((hs x0 x3) = false) → (Ev LX (d + 1) mX10_bitOfRank 4 [some (.int x0), some (.int x1), some (.int x2), some (.int (x3 + 1))] [] M Q)) ∧ (((hs x0 x3) = true) → (((¬ x2 = x1) → (Ev LX (d + 1) mX10_bitOfRank 4 [some (.int x0), some (.int x1), some (.int (x2 + 1)), some (.int (x3 + 1))] [] M Q)) ∧ ((x2 = x1) → (Q (some (.int x3)) M)))))))) : Ev LX (d + 1) mX10_bitOfRank 4 [some (.int x0), some (.int x1), some (.int x2), some (.int x3)] [] M Q := by
  refine ev_iload_n dX10_bitOfRank_4 rfl ?_
  refine ev_bipush (v := 26) dX10_bitOfRank_5 (by decide) ?_
  refine ev_icmp_ge (tgt := 34) dX10_bitOfRank_7 (by decide) (fun c => ?_) (fun c => ?_)
  · replace h := h.1 c
    refine ev_iconst (v := -1) dX10_bitOfRank_34 (by decide) ?_
    exact ev_iret dX10_bitOfRank_35 rfl h
  · replace h := h.2 c
    refine ev_iload_n dX10_bitOfRank_10 rfl ?_
    refine ev_iload_n dX10_bitOfRank_11 rfl ?_
    refine ev_callS [.int x0, .int x3] dX10_bitOfRank_12 ml_WithoutE_226 rfl (Nat.le_of_ble_eq_true rfl) (kX10_has) ?_
    rintro zr zM ⟨q1, q2⟩
    rw [q1, q2]
    show Ev LX (d + 1) mX10_bitOfRank 15 [some (.int x0), some (.int x1), some (.int x2), some (.int x3)] [(.int (bi (hs x0 x3)))] M Q
    refine ev_if_eq (tgt := 28) dX10_bitOfRank_15 (by decide) (fun c => ?_) (fun c => ?_)
    · replace h := h.1 ((bi_0 _).mp c)
      refine ev_iinc (v := x3 + 1) (ls2 := [some (.int x0), some (.int x1), some (.int x2), some (.int (x3 + 1))]) dX10_bitOfRank_28 rfl rfl rfl ?_
      refine ev_goto (tgt := 4) dX10_bitOfRank_31 (by decide) ?_
      exact h
    · replace h := h.2 ((bi_n0 _).mp c)
      refine ev_iload_n dX10_bitOfRank_18 rfl ?_
      refine ev_iload_n dX10_bitOfRank_19 rfl ?_
      refine ev_icmp_ne (tgt := 25) dX10_bitOfRank_20 (by decide) (fun c => ?_) (fun c => ?_)
      · replace h := h.1 c
        refine ev_iinc (v := x2 + 1) (ls2 := [some (.int x0), some (.int x1), some (.int (x2 + 1)), some (.int x3)]) dX10_bitOfRank_25 rfl rfl rfl ?_
        refine ev_iinc (v := x3 + 1) (ls2 := [some (.int x0), some (.int x1), some (.int (x2 + 1)), some (.int (x3 + 1))]) dX10_bitOfRank_28 rfl rfl rfl ?_
        refine ev_goto (tgt := 4) dX10_bitOfRank_31 (by decide) ?_
        exact h
      · replace h := h.2 c
        refine ev_iload_n dX10_bitOfRank_23 rfl ?_
        exact ev_iret dX10_bitOfRank_24 rfl h
theorem dX10_lot_0 : decode cX10_lot 0 = .ok (.aload_n 0, 1) := by decide +kernel
theorem dX10_lot_1 : decode cX10_lot 1 = .ok (.getfield 19, 3) := by decide +kernel
theorem dX10_lot_4 : decode cX10_lot 4 = .ok (.iload_n 1, 1) := by decide +kernel
theorem dX10_lot_5 : decode cX10_lot 5 = .ok (.invokevirtual 191, 3) := by decide +kernel
theorem dX10_lot_8 : decode cX10_lot 8 = .ok (.ifCond .ne 5, 3) := by decide +kernel
theorem dX10_lot_11 : decode cX10_lot 11 = .ok (.iconst (-1), 1) := by decide +kernel
theorem dX10_lot_12 : decode cX10_lot 12 = .ok (.ireturn, 1) := by decide +kernel
theorem dX10_lot_13 : decode cX10_lot 13 = .ok (.iconst 0, 1) := by decide +kernel
theorem dX10_lot_14 : decode cX10_lot 14 = .ok (.istore_n 2, 1) := by decide +kernel
theorem dX10_lot_15 : decode cX10_lot 15 = .ok (.ldc_w 334, 3) := by decide +kernel
theorem dX10_lot_18 : decode cX10_lot 18 = .ok (.istore_n 3, 1) := by decide +kernel
theorem dX10_lot_19 : decode cX10_lot 19 = .ok (.iconst 0, 1) := by decide +kernel
theorem dX10_lot_20 : decode cX10_lot 20 = .ok (.istore 4, 2) := by decide +kernel
theorem dX10_lot_22 : decode cX10_lot 22 = .ok (.iload 4, 2) := by decide +kernel
theorem dX10_lot_24 : decode cX10_lot 24 = .ok (.aload_n 0, 1) := by decide +kernel
theorem dX10_lot_25 : decode cX10_lot 25 = .ok (.getfield 19, 3) := by decide +kernel
theorem dX10_lot_28 : decode cX10_lot 28 = .ok (.getfield 197, 3) := by decide +kernel
theorem dX10_lot_31 : decode cX10_lot 31 = .ok (.iload_n 1, 1) := by decide +kernel
theorem dX10_lot_32 : decode cX10_lot 32 = .ok (.iaload, 1) := by decide +kernel
theorem dX10_lot_33 : decode cX10_lot 33 = .ok (.if_icmp .ge 93, 3) := by decide +kernel
theorem dX10_lot_36 : decode cX10_lot 36 = .ok (.aload_n 0, 1) := by decide +kernel
theorem dX10_lot_37 : decode cX10_lot 37 = .ok (.getfield 19, 3) := by decide +kernel
theorem dX10_lot_40 : decode cX10_lot 40 = .ok (.getfield 201, 3) := by decide +kernel
theorem dX10_lot_43 : decode cX10_lot 43 = .ok (.iload_n 1, 1) := by decide +kernel
theorem dX10_lot_44 : decode cX10_lot 44 = .ok (.aaload, 1) := by decide +kernel
theorem dX10_lot_45 : decode cX10_lot 45 = .ok (.iload 4, 2) := by decide +kernel
theorem dX10_lot_47 : decode cX10_lot 47 = .ok (.iaload, 1) := by decide +kernel
theorem dX10_lot_48 : decode cX10_lot 48 = .ok (.istore 5, 2) := by decide +kernel
theorem dX10_lot_50 : decode cX10_lot 50 = .ok (.aload_n 0, 1) := by decide +kernel
theorem dX10_lot_51 : decode cX10_lot 51 = .ok (.getfield 26, 3) := by decide +kernel
theorem dX10_lot_54 : decode cX10_lot 54 = .ok (.getfield 223, 3) := by decide +kernel
theorem dX10_lot_57 : decode cX10_lot 57 = .ok (.iload 5, 2) := by decide +kernel
theorem dX10_lot_59 : decode cX10_lot 59 = .ok (.invokestatic 226, 3) := by decide +kernel
theorem dX10_lot_62 : decode cX10_lot 62 = .ok (.ifCond .eq 58, 3) := by decide +kernel
theorem dX10_lot_65 : decode cX10_lot 65 = .ok (.aload_n 0, 1) := by decide +kernel
theorem dX10_lot_66 : decode cX10_lot 66 = .ok (.getfield 80, 3) := by decide +kernel
theorem dX10_lot_69 : decode cX10_lot 69 = .ok (.iload 5, 2) := by decide +kernel
theorem dX10_lot_71 : decode cX10_lot 71 = .ok (.aload_n 0, 1) := by decide +kernel
theorem dX10_lot_72 : decode cX10_lot 72 = .ok (.getfield 26, 3) := by decide +kernel
theorem dX10_lot_75 : decode cX10_lot 75 = .ok (.getfield 223, 3) := by decide +kernel
theorem dX10_lot_78 : decode cX10_lot 78 = .ok (.invokevirtual 418, 3) := by decide +kernel
theorem dX10_lot_81 : decode cX10_lot 81 = .ok (.ifCond .eq 39, 3) := by decide +kernel
theorem dX10_lot_84 : decode cX10_lot 84 = .ok (.aload_n 0, 1) := by decide +kernel
theorem dX10_lot_85 : decode cX10_lot 85 = .ok (.getfield 33, 3) := by decide +kernel
theorem dX10_lot_88 : decode cX10_lot 88 = .ok (.getfield 220, 3) := by decide +kernel
theorem dX10_lot_91 : decode cX10_lot 91 = .ok (.iload 5, 2) := by decide +kernel
theorem dX10_lot_93 : decode cX10_lot 93 = .ok (.iaload, 1) := by decide +kernel
theorem dX10_lot_94 : decode cX10_lot 94 = .ok (.istore 6, 2) := by decide +kernel
theorem dX10_lot_96 : decode cX10_lot 96 = .ok (.iload 6, 2) := by decide +kernel
theorem dX10_lot_98 : decode cX10_lot 98 = .ok (.iload_n 3, 1) := by decide +kernel
theorem dX10_lot_99 : decode cX10_lot 99 = .ok (.if_icmp .ge 8, 3) := by decide +kernel
theorem dX10_lot_102 : decode cX10_lot 102 = .ok (.iload 6, 2) := by decide +kernel
theorem dX10_lot_104 : decode cX10_lot 104 = .ok (.istore_n 3, 1) := by decide +kernel
theorem dX10_lot_105 : decode cX10_lot 105 = .ok (.iconst 0, 1) := by decide +kernel
theorem dX10_lot_106 : decode cX10_lot 106 = .ok (.istore_n 2, 1) := by decide +kernel
theorem dX10_lot_107 : decode cX10_lot 107 = .ok (.iload 6, 2) := by decide +kernel
theorem dX10_lot_109 : decode cX10_lot 109 = .ok (.iload_n 3, 1) := by decide +kernel
theorem dX10_lot_110 : decode cX10_lot 110 = .ok (.if_icmp .ne 10, 3) := by decide +kernel
theorem dX10_lot_113 : decode cX10_lot 113 = .ok (.iload_n 2, 1) := by decide +kernel
theorem dX10_lot_114 : decode cX10_lot 114 = .ok (.iconst 1, 1) := by decide +kernel
theorem dX10_lot_115 : decode cX10_lot 115 = .ok (.iload 5, 2) := by decide +kernel
theorem dX10_lot_117 : decode cX10_lot 117 = .ok (.ishl, 1) := by decide +kernel
theorem dX10_lot_118 : decode cX10_lot 118 = .ok (.ior, 1) := by decide +kernel
theorem dX10_lot_119 : decode cX10_lot 119 = .ok (.istore_n 2, 1) := by decide +kernel
theorem dX10_lot_120 : decode cX10_lot 120 = .ok (.iinc 4 1, 3) := by decide +kernel
theorem dX10_lot_123 : decode cX10_lot 123 = .ok (.goto (-101), 3) := by decide +kernel
theorem dX10_lot_126 : decode cX10_lot 126 = .ok (.iload_n 2, 1) := by decide +kernel
theorem dX10_lot_127 : decode cX10_lot 127 = .ok (.ifCond .ne 7, 3) := by decide +kernel
theorem dX10_lot_130 : decode cX10_lot 130 = .ok (.iconst (-1), 1) := by decide +kernel
theorem dX10_lot_131 : decode cX10_lot 131 = .ok (.goto 19, 3) := by decide +kernel
theorem dX10_lot_134 : decode cX10_lot 134 = .ok (.iload_n 2, 1) := by decide +kernel
theorem dX10_lot_135 : decode cX10_lot 135 = .ok (.aload_n 0, 1) := by decide +kernel
theorem dX10_lot_136 : decode cX10_lot 136 = .ok (.getfield 26, 3) := by decide +kernel
theorem dX10_lot_139 : decode cX10_lot 139 = .ok (.getfield 421, 3) := by decide +kernel
theorem dX10_lot_142 : decode cX10_lot 142 = .ok (.iload_n 2, 1) := by decide +kernel
theorem dX10_lot_143 : decode cX10_lot 143 = .ok (.invokestatic 251, 3) := by decide +kernel
theorem dX10_lot_146 : decode cX10_lot 146 = .ok (.irem, 1) := by decide +kernel
theorem dX10_lot_147 : decode cX10_lot 147 = .ok (.invokestatic 424, 3) := by decide +kernel
theorem dX10_lot_150 : decode cX10_lot 150 = .ok (.ireturn, 1) := by decide +kernel
theorem gX10_lot_0 {d : Nat} {M : ev_Mem} {Q : Option Value → ev_Mem → Prop} {x1 : Int32} (h : ((okW M) ∧ ((((iin x1 0 (M.1 3 5 - 1)) = true) → (Ev LX (d + 1) mX10_lot 22 [some (.ref 0), some (.int x1), some (.int 0), some (.int 1000000), some (.int 0), none, none] [] M Q)) ∧ (((iin x1 0 (M.1 3 5 - 1)) = false) → (Q (some (.int (-1))) M))))) : Ev LX (d + 1) mX10_lot 0 [some (.ref 0), some (.int x1), none, none, none, none, none] [] M Q := by
  refine ev_aload_n dX10_lot_0 rfl ?_
  refine ev_getA dX10_lot_1 fl_WithoutE_19 lx_0 rfl ?_
  refine ev_iload_n dX10_lot_4 rfl ?_
  obtain ⟨p1, h⟩ := h
  refine ev_callV [.int x1] dX10_lot_5 ml_WithoutE_191 lx_3 rfl rfl (Nat.le_of_ble_eq_true rfl) (kX0_hasWord p1) ?_
  rintro zr zM ⟨q1, q2⟩
  rw [q1, q2]
  show Ev LX (d + 1) mX10_lot 8 [some (.ref 0), some (.int x1), none, none, none, none, none] [(.int (bi (iin x1 0 (M.1 3 5 - 1))))] M Q
  refine ev_if_ne (tgt := 13) dX10_lot_8 (by decide) (fun c => ?_) (fun c => ?_)
  · replace h := h.1 ((bi_n0 _).mp c)
    refine ev_iconst (v := 0) dX10_lot_13 (by decide) ?_
    refine ev_istore_n (ls2 := [some (.ref 0), some (.int x1), some (.int 0), none, none, none, none]) dX10_lot_14 (Nat.le_of_ble_eq_true rfl) rfl ?_
    refine ev_ldcw (v := 1000000) dX10_lot_15 cw_WithoutE_334 ?_
    refine ev_istore_n (ls2 := [some (.ref 0), some (.int x1), some (.int 0), some (.int 1000000), none, none, none]) dX10_lot_18 (Nat.le_of_ble_eq_true rfl) rfl ?_
    refine ev_iconst (v := 0) dX10_lot_19 (by decide) ?_
    refine ev_istore (ls2 := [some (.ref 0), some (.int x1), some (.int 0), some (.int 1000000), some (.int 0), none, none]) dX10_lot_20 (Nat.le_of_ble_eq_true rfl) rfl ?_
    exact h
  · replace h := h.2 ((bi_0 _).mp c)
    refine ev_iconst (v := -1) dX10_lot_11 (by decide) ?_
    exact ev_iret dX10_lot_12 rfl h
theorem gX10_lot_22 {d : Nat} {M : ev_Mem} {Q : Option Value → ev_Mem → Prop} {x1 x2 x3 x4 : Int32} (h : (vp_in x1 24 ∧ ((((M.1 29 x1.toNatClampNeg) ≤ x4) → (((¬ x2 = 0) → (¬ (bc x2 : Int32) = 0 ∧ (∃ Q2 : Option Value → ev_Mem → Prop, Cl LX (d + 1) mX10_bitOfRank [.int x2, .int ((M.1 43 4) - (M.1 43 4) / (bc x2) * (bc x2))] M Q2 ∧ ∀ (zr : Option Value) (zM : ev_Mem), Q2 zr zM → Ev LX (d + 2) mX10_lot 150 [none, none, none, none, none, none, none] (zr.toList ++ []) zM Q))) ∧ ((x2 = 0) → (Ev LX (d + 2) mX10_lot 150 [none, none, none, none, none, none, none] [(.int (-1))] M Q)))) ∧ ((¬ (M.1 29 x1.toNatClampNeg) ≤ x4) → (vp_in x1 24 ∧ (vp_in x4 9 ∧ (∀ v1 : Int32, v1 = M.1 (5 + x1.toNatClampNeg) x4.toNatClampNeg → ((((hs (M.1 43 0) v1) = false) → (Ev LX (d + 2) mX10_lot 22 [some (.ref 0), some (.int x1), some (.int x2), some (.int x3), some (.int (x4 + 1)), none, none] [] M Q)) ∧ (((hs (M.1 43 0) v1) = true) → ((vp_in v1 26) ∧ ((((mnd (M.1 48) (M.1 43 0) v1) = false) → (Ev LX (d + 2) mX10_lot 22 [some (.ref 0), some (.int x1), some (.int x2), some (.int x3), some (.int (x4 + 1)), none, none] [] M Q)) ∧ (((mnd (M.1 48) (M.1 43 0) v1) = true) → (vp_in v1 26 ∧ (((x3 ≤ (M.1 49 v1.toNatClampNeg)) → (((¬ (M.1 49 v1.toNatClampNeg) = x3) → (Ev LX (d + 2) mX10_lot 22 [some (.ref 0), some (.int x1), some (.int x2), some (.int x3), some (.int (x4 + 1)), none, none] [] M Q)) ∧ (((M.1 49 v1.toNatClampNeg) = x3) → (∀ v2 : Int32, v2 = x2 ||| (1 <<< (v1 &&& 31)) → (Ev LX (d + 2) mX10_lot 22 [some (.ref 0), some (.int x1), some (.int v2), some (.int x3), some (.int (x4 + 1)), none, none] [] M Q))))) ∧ ((¬ x3 ≤ (M.1 49 v1.toNatClampNeg)) → (((¬ (M.1 49 v1.toNatClampNeg) = (M.1 49 v1.toNatClampNeg)) → (Ev LX (d + 2) mX10_lot 22 [some (.ref 0), some (.int x1), some (.int 0), some (.int (M.1 49 v1.toNatClampNeg)), some (.int (x4 + 1)), none, none] [] M Q)) ∧ (((M.1 49 v1.toNatClampNeg) = (M.1 49 v1.toNatClampNeg)) → (∀ v3 : Int32, v3 = (0 : Int32) ||| (1 <<< (v1 &&& 31)) → (Ev LX (d + 2) mX10_lot 22 [some (.ref 0), some (.int x1), some (.int v3), some (.int (M.1 49 v1.toNatClampNeg)), some (.int (x4 + 1)), none, none] [] M Q))))))))))))))))))) : Ev LX (d + 2) mX10_lot 22 [some (.ref 0), some (.int x1), some (.int x2), some (.int x3), some (.int x4), none, none] [] M Q := by
  refine ev_iload dX10_lot_22 rfl ?_
  refine ev_aload_n dX10_lot_24 rfl ?_
  refine ev_getA dX10_lot_25 fl_WithoutE_19 lx_0 rfl ?_
  refine ev_getA dX10_lot_28 fl_WithoutE_197 lx_3 rfl ?_
  refine ev_iload_n dX10_lot_31 rfl ?_
  obtain ⟨c, h⟩ := h
  refine ev_iald dX10_lot_32 lx_29 c ?_
  refine ev_icmp_ge (tgt := 126) dX10_lot_33 (by decide) (fun c => ?_) (fun c => ?_)
  · replace h := h.1 c
    refine ev_iload_n dX10_lot_126 rfl ?_
    refine ev_if_ne (tgt := 134) dX10_lot_127 (by decide) (fun c => ?_) (fun c => ?_)
    · replace h := h.1 c
      refine ev_iload_n dX10_lot_134 rfl ?_
      refine ev_aload_n dX10_lot_135 rfl ?_
      refine ev_getA dX10_lot_136 fl_WithoutE_26 lx_0 rfl ?_
      refine ev_getI dX10_lot_139 fl_WithoutE_421 lx_43 rfl ?_
      refine ev_iload_n dX10_lot_142 rfl ?_
      refine ev_callS [.int x2] dX10_lot_143 ml_WithoutE_251 rfl (Nat.le_of_ble_eq_true rfl) (kJ6_bitCount) ?_
      rintro zr zM ⟨q1, q2⟩
      rw [q1, q2]
      show Ev LX (d + 2) mX10_lot 146 [some (.ref 0), some (.int x1), some (.int x2), some (.int x3), some (.int x4), none, none] [(.int (bc x2)), (.int (M.1 43 4)), (.int x2)] M Q
      obtain ⟨c, h⟩ := h
      refine ev_irem dX10_lot_146 c ?_
      obtain ⟨Q2, hc, h⟩ := h
      refine ev_callS [.int x2, .int ((M.1 43 4) - (M.1 43 4) / (bc x2) * (bc x2))] dX10_lot_147 ml_WithoutE_424 rfl (Nat.le_of_ble_eq_true rfl) hc (fun zr zM q => ?_)
      refine Ev.weak (ls := [none, none, none, none, none, none, none]) trivial ?_
      exact h zr zM q
    · replace h := h.2 c
      refine ev_iconst (v := -1) dX10_lot_130 (by decide) ?_
      refine ev_goto (tgt := 150) dX10_lot_131 (by decide) ?_
      refine Ev.weak (ls := [none, none, none, none, none, none, none]) trivial ?_
      exact h
  · replace h := h.2 c
    refine ev_aload_n dX10_lot_36 rfl ?_
    refine ev_getA dX10_lot_37 fl_WithoutE_19 lx_0 rfl ?_
    refine ev_getA dX10_lot_40 fl_WithoutE_201 lx_3 rfl ?_
    refine ev_iload_n dX10_lot_43 rfl ?_
    obtain ⟨b1, h⟩ := h
    refine ev_aald dX10_lot_44 lx_4 (fun _ => rfl) rfl b1 ?_
    refine ev_iload dX10_lot_45 rfl ?_
    obtain ⟨c, h⟩ := h
    refine ev_iald dX10_lot_47 (lx_sp (ev_lt b1)) c ?_
    refine ev_istore (ls2 := [some (.ref 0), some (.int x1), some (.int x2), some (.int x3), some (.int x4), some (.int (M.1 (5 + x1.toNatClampNeg) x4.toNatClampNeg)), none]) dX10_lot_48 (Nat.le_of_ble_eq_true rfl) rfl ?_
    generalize ev1 : M.1 (5 + x1.toNatClampNeg) x4.toNatClampNeg = v1
    replace h := h v1 ev1.symm
    refine ev_aload_n dX10_lot_50 rfl ?_
    refine ev_getA dX10_lot_51 fl_WithoutE_26 lx_0 rfl ?_
    refine ev_getI dX10_lot_54 fl_WithoutE_223 lx_43 rfl ?_
    refine ev_iload dX10_lot_57 rfl ?_
    refine ev_callS [.int (M.1 43 0), .int v1] dX10_lot_59 ml_WithoutE_226 rfl (Nat.le_of_ble_eq_true rfl) (kX10_has) ?_
    rintro zr zM ⟨q1, q2⟩
    rw [q1, q2]
    show Ev LX (d + 2) mX10_lot 62 [some (.ref 0), some (.int x1), some (.int x2), some (.int x3), some (.int x4), some (.int v1), none] [(.int (bi (hs (M.1 43 0) v1)))] M Q
    refine ev_if_eq (tgt := 120) dX10_lot_62 (by decide) (fun c => ?_) (fun c => ?_)
    · replace h := h.1 ((bi_0 _).mp c)
      refine ev_iinc (v := x4 + 1) (ls2 := [some (.ref 0), some (.int x1), some (.int x2), some (.int x3), some (.int (x4 + 1)), some (.int v1), none]) dX10_lot_120 rfl rfl rfl ?_
      refine ev_goto (tgt := 22) dX10_lot_123 (by decide) ?_
      refine Ev.weak (ls := [some (.ref 0), some (.int x1), some (.int x2), some (.int x3), some (.int (x4 + 1)), none, none]) ⟨rfl, rfl, rfl, rfl, rfl, trivial⟩ ?_
      exact h
    · replace h := h.2 ((bi_n0 _).mp c)
      refine ev_aload_n dX10_lot_65 rfl ?_
      refine ev_getA dX10_lot_66 fl_WithoutE_80 lx_0 rfl ?_
      refine ev_iload dX10_lot_69 rfl ?_
      refine ev_aload_n dX10_lot_71 rfl ?_
      refine ev_getA dX10_lot_72 fl_WithoutE_26 lx_0 rfl ?_
      refine ev_getI dX10_lot_75 fl_WithoutE_223 lx_43 rfl ?_
      obtain ⟨p1, h⟩ := h
      refine ev_callV [.int v1, .int (M.1 43 0)] dX10_lot_78 ml_WithoutE_418 lx_82 rfl rfl (Nat.le_of_ble_eq_true rfl) (kX5_isMendable p1) ?_
      rintro zr zM ⟨q1, q2⟩
      rw [q1, q2]
      show Ev LX (d + 2) mX10_lot 81 [some (.ref 0), some (.int x1), some (.int x2), some (.int x3), some (.int x4), some (.int v1), none] [(.int (bi (mnd (M.1 48) (M.1 43 0) v1)))] M Q
      refine ev_if_eq (tgt := 120) dX10_lot_81 (by decide) (fun c => ?_) (fun c => ?_)
      · replace h := h.1 ((bi_0 _).mp c)
        refine ev_iinc (v := x4 + 1) (ls2 := [some (.ref 0), some (.int x1), some (.int x2), some (.int x3), some (.int (x4 + 1)), some (.int v1), none]) dX10_lot_120 rfl rfl rfl ?_
        refine ev_goto (tgt := 22) dX10_lot_123 (by decide) ?_
        refine Ev.weak (ls := [some (.ref 0), some (.int x1), some (.int x2), some (.int x3), some (.int (x4 + 1)), none, none]) ⟨rfl, rfl, rfl, rfl, rfl, trivial⟩ ?_
        exact h
      · replace h := h.2 ((bi_n0 _).mp c)
        refine ev_aload_n dX10_lot_84 rfl ?_
        refine ev_getA dX10_lot_85 fl_WithoutE_33 lx_0 rfl ?_
        refine ev_getA dX10_lot_88 fl_WithoutE_220 lx_47 rfl ?_
        refine ev_iload dX10_lot_91 rfl ?_
        obtain ⟨c, h⟩ := h
        refine ev_iald dX10_lot_93 lx_49 c ?_
        refine ev_istore (ls2 := [some (.ref 0), some (.int x1), some (.int x2), some (.int x3), some (.int x4), some (.int v1), some (.int (M.1 49 v1.toNatClampNeg))]) dX10_lot_94 (Nat.le_of_ble_eq_true rfl) rfl ?_
        refine ev_iload dX10_lot_96 rfl ?_
        refine ev_iload_n dX10_lot_98 rfl ?_
        refine ev_icmp_ge (tgt := 107) dX10_lot_99 (by decide) (fun c => ?_) (fun c => ?_)
        · replace h := h.1 c
          refine ev_iload dX10_lot_107 rfl ?_
          refine ev_iload_n dX10_lot_109 rfl ?_
          refine ev_icmp_ne (tgt := 120) dX10_lot_110 (by decide) (fun c => ?_) (fun c => ?_)
          · replace h := h.1 c
            refine ev_iinc (v := x4 + 1) (ls2 := [some (.ref 0), some (.int x1), some (.int x2), some (.int x3), some (.int (x4 + 1)), some (.int v1), some (.int (M.1 49 v1.toNatClampNeg))]) dX10_lot_120 rfl rfl rfl ?_
            refine ev_goto (tgt := 22) dX10_lot_123 (by decide) ?_
            refine Ev.weak (ls := [some (.ref 0), some (.int x1), some (.int x2), some (.int x3), some (.int (x4 + 1)), none, none]) ⟨rfl, rfl, rfl, rfl, rfl, trivial⟩ ?_
            exact h
          · replace h := h.2 c
            refine ev_iload_n dX10_lot_113 rfl ?_
            refine ev_iconst (v := 1) dX10_lot_114 (by decide) ?_
            refine ev_iload dX10_lot_115 rfl ?_
            refine ev_ishl dX10_lot_117 ?_
            refine ev_ior dX10_lot_118 ?_
            refine ev_istore_n (ls2 := [some (.ref 0), some (.int x1), some (.int (x2 ||| (1 <<< (v1 &&& 31)))), some (.int x3), some (.int x4), some (.int v1), some (.int (M.1 49 v1.toNatClampNeg))]) dX10_lot_119 (Nat.le_of_ble_eq_true rfl) rfl ?_
            generalize ev2 : x2 ||| (1 <<< (v1 &&& 31)) = v2
            replace h := h v2 ev2.symm
            refine ev_iinc (v := x4 + 1) (ls2 := [some (.ref 0), some (.int x1), some (.int v2), some (.int x3), some (.int (x4 + 1)), some (.int v1), some (.int (M.1 49 v1.toNatClampNeg))]) dX10_lot_120 rfl rfl rfl ?_
            refine ev_goto (tgt := 22) dX10_lot_123 (by decide) ?_
            refine Ev.weak (ls := [some (.ref 0), some (.int x1), some (.int v2), some (.int x3), some (.int (x4 + 1)), none, none]) ⟨rfl, rfl, rfl, rfl, rfl, trivial⟩ ?_
            exact h
        · replace h := h.2 c
          refine ev_iload dX10_lot_102 rfl ?_
          refine ev_istore_n (ls2 := [some (.ref 0), some (.int x1), some (.int x2), some (.int (M.1 49 v1.toNatClampNeg)), some (.int x4), some (.int v1), some (.int (M.1 49 v1.toNatClampNeg))]) dX10_lot_104 (Nat.le_of_ble_eq_true rfl) rfl ?_
          refine ev_iconst (v := 0) dX10_lot_105 (by decide) ?_
          refine ev_istore_n (ls2 := [some (.ref 0), some (.int x1), some (.int 0), some (.int (M.1 49 v1.toNatClampNeg)), some (.int x4), some (.int v1), some (.int (M.1 49 v1.toNatClampNeg))]) dX10_lot_106 (Nat.le_of_ble_eq_true rfl) rfl ?_
          refine ev_iload dX10_lot_107 rfl ?_
          refine ev_iload_n dX10_lot_109 rfl ?_
          refine ev_icmp_ne (tgt := 120) dX10_lot_110 (by decide) (fun c => ?_) (fun c => ?_)
          · replace h := h.1 c
            refine ev_iinc (v := x4 + 1) (ls2 := [some (.ref 0), some (.int x1), some (.int 0), some (.int (M.1 49 v1.toNatClampNeg)), some (.int (x4 + 1)), some (.int v1), some (.int (M.1 49 v1.toNatClampNeg))]) dX10_lot_120 rfl rfl rfl ?_
            refine ev_goto (tgt := 22) dX10_lot_123 (by decide) ?_
            refine Ev.weak (ls := [some (.ref 0), some (.int x1), some (.int 0), some (.int (M.1 49 v1.toNatClampNeg)), some (.int (x4 + 1)), none, none]) ⟨rfl, rfl, rfl, rfl, rfl, trivial⟩ ?_
            exact h
          · replace h := h.2 c
            refine ev_iload_n dX10_lot_113 rfl ?_
            refine ev_iconst (v := 1) dX10_lot_114 (by decide) ?_
            refine ev_iload dX10_lot_115 rfl ?_
            refine ev_ishl dX10_lot_117 ?_
            refine ev_ior dX10_lot_118 ?_
            refine ev_istore_n (ls2 := [some (.ref 0), some (.int x1), some (.int ((0 : Int32) ||| (1 <<< (v1 &&& 31)))), some (.int (M.1 49 v1.toNatClampNeg)), some (.int x4), some (.int v1), some (.int (M.1 49 v1.toNatClampNeg))]) dX10_lot_119 (Nat.le_of_ble_eq_true rfl) rfl ?_
            generalize ev3 : (0 : Int32) ||| (1 <<< (v1 &&& 31)) = v3
            replace h := h v3 ev3.symm
            refine ev_iinc (v := x4 + 1) (ls2 := [some (.ref 0), some (.int x1), some (.int v3), some (.int (M.1 49 v1.toNatClampNeg)), some (.int (x4 + 1)), some (.int v1), some (.int (M.1 49 v1.toNatClampNeg))]) dX10_lot_120 rfl rfl rfl ?_
            refine ev_goto (tgt := 22) dX10_lot_123 (by decide) ?_
            refine Ev.weak (ls := [some (.ref 0), some (.int x1), some (.int v3), some (.int (M.1 49 v1.toNatClampNeg)), some (.int (x4 + 1)), none, none]) ⟨rfl, rfl, rfl, rfl, rfl, trivial⟩ ?_
            exact h
theorem gX10_lot_150 {d : Nat} {M : ev_Mem} {Q : Option Value → ev_Mem → Prop} {s0 : Int32} (h : (Q (some (.int s0)) M)) : Ev LX d mX10_lot 150 [none, none, none, none, none, none, none] [(.int s0)] M Q := by
  exact ev_iret dX10_lot_150 rfl h
theorem dX10_report_0 : decode cX10_report 0 = .ok (.aload_n 0, 1) := by decide +kernel
theorem dX10_report_1 : decode cX10_report 1 = .ok (.getfield 10, 3) := by decide +kernel
theorem dX10_report_4 : decode cX10_report 4 = .ok (.iconst 1, 1) := by decide +kernel
theorem dX10_report_5 : decode cX10_report 5 = .ok (.invokevirtual 178, 3) := by decide +kernel
theorem dX10_report_8 : decode cX10_report 8 = .ok (.ifCond .ne 9, 3) := by decide +kernel
theorem dX10_report_11 : decode cX10_report 11 = .ok (.aload_n 0, 1) := by decide +kernel
theorem dX10_report_12 : decode cX10_report 12 = .ok (.iconst 0, 1) := by decide +kernel
theorem dX10_report_13 : decode cX10_report 13 = .ok (.invokevirtual 185, 3) := by decide +kernel
theorem dX10_report_16 : decode cX10_report 16 = .ok (.ireturn, 1) := by decide +kernel
theorem dX10_report_17 : decode cX10_report 17 = .ok (.aload_n 0, 1) := by decide +kernel
theorem dX10_report_18 : decode cX10_report 18 = .ok (.getfield 33, 3) := by decide +kernel
theorem dX10_report_21 : decode cX10_report 21 = .ok (.getfield 440, 3) := by decide +kernel
theorem dX10_report_24 : decode cX10_report 24 = .ok (.istore_n 1, 1) := by decide +kernel
theorem dX10_report_25 : decode cX10_report 25 = .ok (.iload_n 1, 1) := by decide +kernel
theorem dX10_report_26 : decode cX10_report 26 = .ok (.ifCond .lt 8, 3) := by decide +kernel
theorem dX10_report_29 : decode cX10_report 29 = .ok (.iload_n 1, 1) := by decide +kernel
theorem dX10_report_30 : decode cX10_report 30 = .ok (.iconst 5, 1) := by decide +kernel
theorem dX10_report_31 : decode cX10_report 31 = .ok (.if_icmp .lt 9, 3) := by decide +kernel
theorem dX10_report_34 : decode cX10_report 34 = .ok (.aload_n 0, 1) := by decide +kernel
theorem dX10_report_35 : decode cX10_report 35 = .ok (.iconst 1, 1) := by decide +kernel
theorem dX10_report_36 : decode cX10_report 36 = .ok (.invokevirtual 185, 3) := by decide +kernel
theorem dX10_report_39 : decode cX10_report 39 = .ok (.ireturn, 1) := by decide +kernel
theorem dX10_report_40 : decode cX10_report 40 = .ok (.iconst 0, 1) := by decide +kernel
theorem dX10_report_41 : decode cX10_report 41 = .ok (.istore_n 2, 1) := by decide +kernel
theorem dX10_report_42 : decode cX10_report 42 = .ok (.iload_n 2, 1) := by decide +kernel
theorem dX10_report_43 : decode cX10_report 43 = .ok (.aload_n 0, 1) := by decide +kernel
theorem dX10_report_44 : decode cX10_report 44 = .ok (.getfield 10, 3) := by decide +kernel
theorem dX10_report_47 : decode cX10_report 47 = .ok (.getfield 102, 3) := by decide +kernel
theorem dX10_report_50 : decode cX10_report 50 = .ok (.if_icmp .ge 29, 3) := by decide +kernel
theorem dX10_report_53 : decode cX10_report 53 = .ok (.aload_n 0, 1) := by decide +kernel
theorem dX10_report_54 : decode cX10_report 54 = .ok (.getfield 33, 3) := by decide +kernel
theorem dX10_report_57 : decode cX10_report 57 = .ok (.getfield 443, 3) := by decide +kernel
theorem dX10_report_60 : decode cX10_report 60 = .ok (.iload_n 1, 1) := by decide +kernel
theorem dX10_report_61 : decode cX10_report 61 = .ok (.aaload, 1) := by decide +kernel
theorem dX10_report_62 : decode cX10_report 62 = .ok (.iload_n 2, 1) := by decide +kernel
theorem dX10_report_63 : decode cX10_report 63 = .ok (.aload_n 0, 1) := by decide +kernel
theorem dX10_report_64 : decode cX10_report 64 = .ok (.getfield 10, 3) := by decide +kernel
theorem dX10_report_67 : decode cX10_report 67 = .ok (.getfield 188, 3) := by decide +kernel
theorem dX10_report_70 : decode cX10_report 70 = .ok (.iload_n 2, 1) := by decide +kernel
theorem dX10_report_71 : decode cX10_report 71 = .ok (.iaload, 1) := by decide +kernel
theorem dX10_report_72 : decode cX10_report 72 = .ok (.iastore, 1) := by decide +kernel
theorem dX10_report_73 : decode cX10_report 73 = .ok (.iinc 2 1, 3) := by decide +kernel
theorem dX10_report_76 : decode cX10_report 76 = .ok (.goto (-34), 3) := by decide +kernel
theorem dX10_report_79 : decode cX10_report 79 = .ok (.aload_n 0, 1) := by decide +kernel
theorem dX10_report_80 : decode cX10_report 80 = .ok (.getfield 33, 3) := by decide +kernel
theorem dX10_report_83 : decode cX10_report 83 = .ok (.getfield 446, 3) := by decide +kernel
theorem dX10_report_86 : decode cX10_report 86 = .ok (.iload_n 1, 1) := by decide +kernel
theorem dX10_report_87 : decode cX10_report 87 = .ok (.aload_n 0, 1) := by decide +kernel
theorem dX10_report_88 : decode cX10_report 88 = .ok (.getfield 10, 3) := by decide +kernel
theorem dX10_report_91 : decode cX10_report 91 = .ok (.getfield 102, 3) := by decide +kernel
theorem dX10_report_94 : decode cX10_report 94 = .ok (.iastore, 1) := by decide +kernel
theorem dX10_report_95 : decode cX10_report 95 = .ok (.aload_n 0, 1) := by decide +kernel
theorem dX10_report_96 : decode cX10_report 96 = .ok (.getfield 33, 3) := by decide +kernel
theorem dX10_report_99 : decode cX10_report 99 = .ok (.iload_n 1, 1) := by decide +kernel
theorem dX10_report_100 : decode cX10_report 100 = .ok (.iconst 1, 1) := by decide +kernel
theorem dX10_report_101 : decode cX10_report 101 = .ok (.iadd, 1) := by decide +kernel
theorem dX10_report_102 : decode cX10_report 102 = .ok (.putfield 440, 3) := by decide +kernel
theorem dX10_report_105 : decode cX10_report 105 = .ok (.aload_n 0, 1) := by decide +kernel
theorem dX10_report_106 : decode cX10_report 106 = .ok (.getfield 10, 3) := by decide +kernel
theorem dX10_report_109 : decode cX10_report 109 = .ok (.iconst 0, 1) := by decide +kernel
theorem dX10_report_110 : decode cX10_report 110 = .ok (.putfield 102, 3) := by decide +kernel
theorem dX10_report_113 : decode cX10_report 113 = .ok (.aload_n 0, 1) := by decide +kernel
theorem dX10_report_114 : decode cX10_report 114 = .ok (.getfield 33, 3) := by decide +kernel
theorem dX10_report_117 : decode cX10_report 117 = .ok (.getfield 440, 3) := by decide +kernel
theorem dX10_report_120 : decode cX10_report 120 = .ok (.ireturn, 1) := by decide +kernel
theorem gX10_report_0 {d : Nat} {M : ev_Mem} {Q : Option Value → ev_Mem → Prop} (h : (∃ Q2 : Option Value → ev_Mem → Prop, Cl LX d mX7_spells [.ref 1, .int 1] M Q2 ∧ ∀ (zr : Option Value) (zM : ev_Mem), Q2 zr zM → Ev LX (d + 1) mX10_report 8 [some (.ref 0), none, none] (zr.toList ++ []) zM Q)) : Ev LX (d + 1) mX10_report 0 [some (.ref 0), none, none] [] M Q := by
  refine ev_aload_n dX10_report_0 rfl ?_
  refine ev_getA dX10_report_1 fl_WithoutE_10 lx_0 rfl ?_
  refine ev_iconst (v := 1) dX10_report_4 (by decide) ?_
  obtain ⟨Q2, hc, h⟩ := h
  refine ev_callV [.int 1] dX10_report_5 ml_WithoutE_178 lx_1 rfl rfl (Nat.le_of_ble_eq_true rfl) hc (fun zr zM q => ?_)
  exact h zr zM q
theorem gX10_report_8 {d : Nat} {M : ev_Mem} {Q : Option Value → ev_Mem → Prop} {s0 : Int32} (h : (((¬ s0 = 0) → ((((M.1 47 8) < 0) → ((vp_in (1 : Int32) 3) ∧ (∀ M1 : ev_Mem, M1 = rfs M 117 (1 : Int32).toNatClampNeg → (Q (some (.int (-1))) M1)))) ∧ ((¬ (M.1 47 8) < 0) → ((((M.1 47 8) < 5) → (Ev LX (d + 1) mX10_report 42 [some (.ref 0), some (.int (M.1 47 8)), some (.int 0)] [] M Q)) ∧ ((¬ (M.1 47 8) < 5) → ((vp_in (1 : Int32) 3) ∧ (∀ M2 : ev_Mem, M2 = rfs M 117 (1 : Int32).toNatClampNeg → (Q (some (.int (-1))) M2)))))))) ∧ ((s0 = 0) → ((vp_in (0 : Int32) 3) ∧ (∀ M3 : ev_Mem, M3 = rfs M 117 (0 : Int32).toNatClampNeg → (Q (some (.int (-1))) M3)))))) : Ev LX (d + 1) mX10_report 8 [some (.ref 0), none, none] [(.int s0)] M Q := by
  refine ev_if_ne (tgt := 17) dX10_report_8 (by decide) (fun c => ?_) (fun c => ?_)
  · replace h := h.1 c
    refine ev_aload_n dX10_report_17 rfl ?_
    refine ev_getA dX10_report_18 fl_WithoutE_33 lx_0 rfl ?_
    refine ev_getI dX10_report_21 fl_WithoutE_440 lx_47 rfl ?_
    refine ev_istore_n (ls2 := [some (.ref 0), some (.int (M.1 47 8)), none]) dX10_report_24 (Nat.le_of_ble_eq_true rfl) rfl ?_
    refine ev_iload_n dX10_report_25 rfl ?_
    refine ev_if_lt (tgt := 34) dX10_report_26 (by decide) (fun c => ?_) (fun c => ?_)
    · replace h := h.1 c
      refine ev_aload_n dX10_report_34 rfl ?_
      refine ev_iconst (v := 1) dX10_report_35 (by decide) ?_
      obtain ⟨p1, h⟩ := h
      refine ev_callV [.int 1] dX10_report_36 ml_WithoutE_185 lx_0 rfl rfl (Nat.le_of_ble_eq_true rfl) (qX10_refuse p1) ?_
      rintro zr zM ⟨q1, q2⟩
      rw [q1, q2]
      generalize eM1 : rfs M 117 (1 : Int32).toNatClampNeg = M1
      replace h := h M1 eM1.symm
      show Ev LX (d + 1) mX10_report 39 [some (.ref 0), some (.int (M.1 47 8)), none] [(.int (-1))] M1 Q
      exact ev_iret dX10_report_39 rfl h
    · replace h := h.2 c
      refine ev_iload_n dX10_report_29 rfl ?_
      refine ev_iconst (v := 5) dX10_report_30 (by decide) ?_
      refine ev_icmp_lt (tgt := 40) dX10_report_31 (by decide) (fun c => ?_) (fun c => ?_)
      · replace h := h.1 c
        refine ev_iconst (v := 0) dX10_report_40 (by decide) ?_
        refine ev_istore_n (ls2 := [some (.ref 0), some (.int (M.1 47 8)), some (.int 0)]) dX10_report_41 (Nat.le_of_ble_eq_true rfl) rfl ?_
        exact h
      · replace h := h.2 c
        refine ev_aload_n dX10_report_34 rfl ?_
        refine ev_iconst (v := 1) dX10_report_35 (by decide) ?_
        obtain ⟨p1, h⟩ := h
        refine ev_callV [.int 1] dX10_report_36 ml_WithoutE_185 lx_0 rfl rfl (Nat.le_of_ble_eq_true rfl) (qX10_refuse p1) ?_
        rintro zr zM ⟨q1, q2⟩
        rw [q1, q2]
        generalize eM2 : rfs M 117 (1 : Int32).toNatClampNeg = M2
        replace h := h M2 eM2.symm
        show Ev LX (d + 1) mX10_report 39 [some (.ref 0), some (.int (M.1 47 8)), none] [(.int (-1))] M2 Q
        exact ev_iret dX10_report_39 rfl h
  · replace h := h.2 c
    refine ev_aload_n dX10_report_11 rfl ?_
    refine ev_iconst (v := 0) dX10_report_12 (by decide) ?_
    obtain ⟨p1, h⟩ := h
    refine ev_callV [.int 0] dX10_report_13 ml_WithoutE_185 lx_0 rfl rfl (Nat.le_of_ble_eq_true rfl) (qX10_refuse p1) ?_
    rintro zr zM ⟨q1, q2⟩
    rw [q1, q2]
    generalize eM3 : rfs M 117 (0 : Int32).toNatClampNeg = M3
    replace h := h M3 eM3.symm
    show Ev LX (d + 1) mX10_report 16 [some (.ref 0), none, none] [(.int (-1))] M3 Q
    exact ev_iret dX10_report_16 rfl h
theorem gX10_report_42 {d : Nat} {M : ev_Mem} {Q : Option Value → ev_Mem → Prop} {x1 x2 : Int32} (h : ((((M.1 1 1) ≤ x2) → (vp_in x1 5 ∧ (∀ M1 : ev_Mem, M1 = ev_wr M 57 x1.toNatClampNeg (M.1 1 1) → (∀ M2 : ev_Mem, M2 = ev_wr M1 47 8 (x1 + 1) → (∀ M3 : ev_Mem, M3 = ev_wr M2 1 1 0 → (Q (some (.int (M3.1 47 8))) M3)))))) ∧ ((¬ (M.1 1 1) ≤ x2) → (vp_in x1 5 ∧ (vp_in x2 300 ∧ (vp_in x2 9 ∧ (∀ M4 : ev_Mem, M4 = ev_wr M (52 + x1.toNatClampNeg) x2.toNatClampNeg (M.1 2 x2.toNatClampNeg) → (Ev LX d mX10_report 42 [some (.ref 0), some (.int x1), some (.int (x2 + 1))] [] M4 Q)))))))) : Ev LX d mX10_report 42 [some (.ref 0), some (.int x1), some (.int x2)] [] M Q := by
  refine ev_iload_n dX10_report_42 rfl ?_
  refine ev_aload_n dX10_report_43 rfl ?_
  refine ev_getA dX10_report_44 fl_WithoutE_10 lx_0 rfl ?_
  refine ev_getI dX10_report_47 fl_WithoutE_102 lx_1 rfl ?_
  refine ev_icmp_ge (tgt := 79) dX10_report_50 (by decide) (fun c => ?_) (fun c => ?_)
  · replace h := h.1 c
    refine ev_aload_n dX10_report_79 rfl ?_
    refine ev_getA dX10_report_80 fl_WithoutE_33 lx_0 rfl ?_
    refine ev_getA dX10_report_83 fl_WithoutE_446 lx_47 rfl ?_
    refine ev_iload_n dX10_report_86 rfl ?_
    refine ev_aload_n dX10_report_87 rfl ?_
    refine ev_getA dX10_report_88 fl_WithoutE_10 lx_0 rfl ?_
    refine ev_getI dX10_report_91 fl_WithoutE_102 lx_1 rfl ?_
    obtain ⟨c, h⟩ := h
    refine ev_iast dX10_report_94 lx_57 c ?_
    generalize eM1 : ev_wr M 57 x1.toNatClampNeg (M.1 1 1) = M1
    replace h := h M1 eM1.symm
    refine ev_aload_n dX10_report_95 rfl ?_
    refine ev_getA dX10_report_96 fl_WithoutE_33 lx_0 rfl ?_
    refine ev_iload_n dX10_report_99 rfl ?_
    refine ev_iconst (v := 1) dX10_report_100 (by decide) ?_
    refine ev_iadd dX10_report_101 ?_
    refine ev_putI dX10_report_102 fp_WithoutE_440 lx_47 rfl rfl rfl ?_
    generalize eM2 : ev_wr M1 47 8 (x1 + 1) = M2
    replace h := h M2 eM2.symm
    refine ev_aload_n dX10_report_105 rfl ?_
    refine ev_getA dX10_report_106 fl_WithoutE_10 lx_0 rfl ?_
    refine ev_iconst (v := 0) dX10_report_109 (by decide) ?_
    refine ev_putI dX10_report_110 fp_WithoutE_102 lx_1 rfl rfl rfl ?_
    generalize eM3 : ev_wr M2 1 1 0 = M3
    replace h := h M3 eM3.symm
    refine ev_aload_n dX10_report_113 rfl ?_
    refine ev_getA dX10_report_114 fl_WithoutE_33 lx_0 rfl ?_
    refine ev_getI dX10_report_117 fl_WithoutE_440 lx_47 rfl ?_
    exact ev_iret dX10_report_120 rfl h
  · replace h := h.2 c
    refine ev_aload_n dX10_report_53 rfl ?_
    refine ev_getA dX10_report_54 fl_WithoutE_33 lx_0 rfl ?_
    refine ev_getA dX10_report_57 fl_WithoutE_443 lx_47 rfl ?_
    refine ev_iload_n dX10_report_60 rfl ?_
    obtain ⟨b1, h⟩ := h
    refine ev_aald dX10_report_61 lx_51 (fun _ => rfl) rfl b1 ?_
    refine ev_iload_n dX10_report_62 rfl ?_
    refine ev_aload_n dX10_report_63 rfl ?_
    refine ev_getA dX10_report_64 fl_WithoutE_10 lx_0 rfl ?_
    refine ev_getA dX10_report_67 fl_WithoutE_188 lx_1 rfl ?_
    refine ev_iload_n dX10_report_70 rfl ?_
    obtain ⟨c, h⟩ := h
    refine ev_iald dX10_report_71 lx_2 c ?_
    obtain ⟨c, h⟩ := h
    refine ev_iast dX10_report_72 (lx_re (ev_lt b1)) c ?_
    generalize eM4 : ev_wr M (52 + x1.toNatClampNeg) x2.toNatClampNeg (M.1 2 x2.toNatClampNeg) = M4
    replace h := h M4 eM4.symm
    refine ev_iinc (v := x2 + 1) (ls2 := [some (.ref 0), some (.int x1), some (.int (x2 + 1))]) dX10_report_73 rfl rfl rfl ?_
    refine ev_goto (tgt := 42) dX10_report_76 (by decide) ?_
    exact h
theorem dX10_isAlike_0 : decode cX10_isAlike 0 = .ok (.iconst 0, 1) := by decide +kernel
theorem dX10_isAlike_1 : decode cX10_isAlike 1 = .ok (.istore_n 3, 1) := by decide +kernel
theorem dX10_isAlike_2 : decode cX10_isAlike 2 = .ok (.iload_n 3, 1) := by decide +kernel
theorem dX10_isAlike_3 : decode cX10_isAlike 3 = .ok (.iload_n 2, 1) := by decide +kernel
theorem dX10_isAlike_4 : decode cX10_isAlike 4 = .ok (.if_icmp .ge 31, 3) := by decide +kernel
theorem dX10_isAlike_7 : decode cX10_isAlike 7 = .ok (.aload_n 1, 1) := by decide +kernel
theorem dX10_isAlike_8 : decode cX10_isAlike 8 = .ok (.iload_n 3, 1) := by decide +kernel
theorem dX10_isAlike_9 : decode cX10_isAlike 9 = .ok (.iaload, 1) := by decide +kernel
theorem dX10_isAlike_10 : decode cX10_isAlike 10 = .ok (.bipush 45, 2) := by decide +kernel
theorem dX10_isAlike_12 : decode cX10_isAlike 12 = .ok (.if_icmp .eq 17, 3) := by decide +kernel
theorem dX10_isAlike_15 : decode cX10_isAlike 15 = .ok (.aload_n 1, 1) := by decide +kernel
theorem dX10_isAlike_16 : decode cX10_isAlike 16 = .ok (.iload_n 3, 1) := by decide +kernel
theorem dX10_isAlike_17 : decode cX10_isAlike 17 = .ok (.iaload, 1) := by decide +kernel
theorem dX10_isAlike_18 : decode cX10_isAlike 18 = .ok (.bipush 97, 2) := by decide +kernel
theorem dX10_isAlike_20 : decode cX10_isAlike 20 = .ok (.aload_n 0, 1) := by decide +kernel
theorem dX10_isAlike_21 : decode cX10_isAlike 21 = .ok (.iload_n 3, 1) := by decide +kernel
theorem dX10_isAlike_22 : decode cX10_isAlike 22 = .ok (.iaload, 1) := by decide +kernel
theorem dX10_isAlike_23 : decode cX10_isAlike 23 = .ok (.iadd, 1) := by decide +kernel
theorem dX10_isAlike_24 : decode cX10_isAlike 24 = .ok (.if_icmp .eq 5, 3) := by decide +kernel
theorem dX10_isAlike_27 : decode cX10_isAlike 27 = .ok (.iconst 0, 1) := by decide +kernel
theorem dX10_isAlike_28 : decode cX10_isAlike 28 = .ok (.ireturn, 1) := by decide +kernel
theorem dX10_isAlike_29 : decode cX10_isAlike 29 = .ok (.iinc 3 1, 3) := by decide +kernel
theorem dX10_isAlike_32 : decode cX10_isAlike 32 = .ok (.goto (-30), 3) := by decide +kernel
theorem dX10_isAlike_35 : decode cX10_isAlike 35 = .ok (.iconst 1, 1) := by decide +kernel
theorem dX10_isAlike_36 : decode cX10_isAlike 36 = .ok (.ireturn, 1) := by decide +kernel
theorem gX10_isAlike_0 {d : Nat} {M : ev_Mem} {Q : Option Value → ev_Mem → Prop} {x2 : Int32} {k0 k1 : Nat} (hk0 : LX[k0]? = some (.inl (0, 9, 0, ev_k0))) (hk1 : LX[k1]? = some (.inl (0, 9, 0, ev_k0))) (h : (Ev LX d mX10_isAlike 2 [some (.ref k0), some (.ref k1), some (.int x2), some (.int 0)] [] M Q)) : Ev LX d mX10_isAlike 0 [some (.ref k0), some (.ref k1), some (.int x2), none] [] M Q := by
  refine ev_iconst (v := 0) dX10_isAlike_0 (by decide) ?_
  refine ev_istore_n (ls2 := [some (.ref k0), some (.ref k1), some (.int x2), some (.int 0)]) dX10_isAlike_1 (Nat.le_of_ble_eq_true rfl) rfl ?_
  exact h
theorem gX10_isAlike_2 {d : Nat} {M : ev_Mem} {Q : Option Value → ev_Mem → Prop} {x2 x3 : Int32} {k0 k1 : Nat} (hk0 : LX[k0]? = some (.inl (0, 9, 0, ev_k0))) (hk1 : LX[k1]? = some (.inl (0, 9, 0, ev_k0))) (h : (((x2 ≤ x3) → (Q (some (.int 1)) M)) ∧ ((¬ x2 ≤ x3) → (vp_in x3 9 ∧ ((((M.1 k1 x3.toNatClampNeg) = 45) → (Ev LX d mX10_isAlike 2 [some (.ref k0), some (.ref k1), some (.int x2), some (.int (x3 + 1))] [] M Q)) ∧ ((¬ (M.1 k1 x3.toNatClampNeg) = 45) → (vp_in x3 9 ∧ (vp_in x3 9 ∧ ((((M.1 k1 x3.toNatClampNeg) = (97 + (M.1 k0 x3.toNatClampNeg))) → (Ev LX d mX10_isAlike 2 [some (.ref k0), some (.ref k1), some (.int x2), some (.int (x3 + 1))] [] M Q)) ∧ ((¬ (M.1 k1 x3.toNatClampNeg) = (97 + (M.1 k0 x3.toNatClampNeg))) → (Q (some (.int 0)) M))))))))))) : Ev LX d mX10_isAlike 2 [some (.ref k0), some (.ref k1), some (.int x2), some (.int x3)] [] M Q := by
  refine ev_iload_n dX10_isAlike_2 rfl ?_
  refine ev_iload_n dX10_isAlike_3 rfl ?_
  refine ev_icmp_ge (tgt := 35) dX10_isAlike_4 (by decide) (fun c => ?_) (fun c => ?_)
  · replace h := h.1 c
    refine ev_iconst (v := 1) dX10_isAlike_35 (by decide) ?_
    exact ev_zret dX10_isAlike_36 rfl (by decide) h
  · replace h := h.2 c
    refine ev_aload_n dX10_isAlike_7 rfl ?_
    refine ev_iload_n dX10_isAlike_8 rfl ?_
    obtain ⟨c, h⟩ := h
    refine ev_iald dX10_isAlike_9 hk1 c ?_
    refine ev_bipush (v := 45) dX10_isAlike_10 (by decide) ?_
    refine ev_icmp_eq (tgt := 29) dX10_isAlike_12 (by decide) (fun c => ?_) (fun c => ?_)
    · replace h := h.1 c
      refine ev_iinc (v := x3 + 1) (ls2 := [some (.ref k0), some (.ref k1), some (.int x2), some (.int (x3 + 1))]) dX10_isAlike_29 rfl rfl rfl ?_
      refine ev_goto (tgt := 2) dX10_isAlike_32 (by decide) ?_
      exact h
    · replace h := h.2 c
      refine ev_aload_n dX10_isAlike_15 rfl ?_
      refine ev_iload_n dX10_isAlike_16 rfl ?_
      obtain ⟨c, h⟩ := h
      refine ev_iald dX10_isAlike_17 hk1 c ?_
      refine ev_bipush (v := 97) dX10_isAlike_18 (by decide) ?_
      refine ev_aload_n dX10_isAlike_20 rfl ?_
      refine ev_iload_n dX10_isAlike_21 rfl ?_
      obtain ⟨c, h⟩ := h
      refine ev_iald dX10_isAlike_22 hk0 c ?_
      refine ev_iadd dX10_isAlike_23 ?_
      refine ev_icmp_eq (tgt := 29) dX10_isAlike_24 (by decide) (fun c => ?_) (fun c => ?_)
      · replace h := h.1 c
        refine ev_iinc (v := x3 + 1) (ls2 := [some (.ref k0), some (.ref k1), some (.int x2), some (.int (x3 + 1))]) dX10_isAlike_29 rfl rfl rfl ?_
        refine ev_goto (tgt := 2) dX10_isAlike_32 (by decide) ?_
        exact h
      · replace h := h.2 c
        refine ev_iconst (v := 0) dX10_isAlike_27 (by decide) ?_
        exact ev_zret dX10_isAlike_28 rfl (by decide) h
theorem dX10_meant_0 : decode cX10_meant 0 = .ok (.iload_n 1, 1) := by decide +kernel
theorem dX10_meant_1 : decode cX10_meant 1 = .ok (.ifCond .lt 14, 3) := by decide +kernel
theorem dX10_meant_4 : decode cX10_meant 4 = .ok (.iload_n 1, 1) := by decide +kernel
theorem dX10_meant_5 : decode cX10_meant 5 = .ok (.aload_n 0, 1) := by decide +kernel
theorem dX10_meant_6 : decode cX10_meant 6 = .ok (.getfield 33, 3) := by decide +kernel
theorem dX10_meant_9 : decode cX10_meant 9 = .ok (.getfield 440, 3) := by decide +kernel
theorem dX10_meant_12 : decode cX10_meant 12 = .ok (.if_icmp .lt 5, 3) := by decide +kernel
theorem dX10_meant_15 : decode cX10_meant 15 = .ok (.iconst (-1), 1) := by decide +kernel
theorem dX10_meant_16 : decode cX10_meant 16 = .ok (.ireturn, 1) := by decide +kernel
theorem dX10_meant_17 : decode cX10_meant 17 = .ok (.iconst 0, 1) := by decide +kernel
theorem dX10_meant_18 : decode cX10_meant 18 = .ok (.istore_n 2, 1) := by decide +kernel
theorem dX10_meant_19 : decode cX10_meant 19 = .ok (.iconst 0, 1) := by decide +kernel
theorem dX10_meant_20 : decode cX10_meant 20 = .ok (.istore_n 3, 1) := by decide +kernel
theorem dX10_meant_21 : decode cX10_meant 21 = .ok (.iload_n 3, 1) := by decide +kernel
theorem dX10_meant_22 : decode cX10_meant 22 = .ok (.aload_n 0, 1) := by decide +kernel
theorem dX10_meant_23 : decode cX10_meant 23 = .ok (.getfield 19, 3) := by decide +kernel
theorem dX10_meant_26 : decode cX10_meant 26 = .ok (.getfield 194, 3) := by decide +kernel
theorem dX10_meant_29 : decode cX10_meant 29 = .ok (.if_icmp .ge 69, 3) := by decide +kernel
theorem dX10_meant_32 : decode cX10_meant 32 = .ok (.aload_n 0, 1) := by decide +kernel
theorem dX10_meant_33 : decode cX10_meant 33 = .ok (.getfield 19, 3) := by decide +kernel
theorem dX10_meant_36 : decode cX10_meant 36 = .ok (.getfield 197, 3) := by decide +kernel
theorem dX10_meant_39 : decode cX10_meant 39 = .ok (.iload_n 3, 1) := by decide +kernel
theorem dX10_meant_40 : decode cX10_meant 40 = .ok (.iaload, 1) := by decide +kernel
theorem dX10_meant_41 : decode cX10_meant 41 = .ok (.aload_n 0, 1) := by decide +kernel
theorem dX10_meant_42 : decode cX10_meant 42 = .ok (.getfield 33, 3) := by decide +kernel
theorem dX10_meant_45 : decode cX10_meant 45 = .ok (.getfield 446, 3) := by decide +kernel
theorem dX10_meant_48 : decode cX10_meant 48 = .ok (.iload_n 1, 1) := by decide +kernel
theorem dX10_meant_49 : decode cX10_meant 49 = .ok (.iaload, 1) := by decide +kernel
theorem dX10_meant_50 : decode cX10_meant 50 = .ok (.if_icmp .ne 42, 3) := by decide +kernel
theorem dX10_meant_53 : decode cX10_meant 53 = .ok (.aload_n 0, 1) := by decide +kernel
theorem dX10_meant_54 : decode cX10_meant 54 = .ok (.getfield 19, 3) := by decide +kernel
theorem dX10_meant_57 : decode cX10_meant 57 = .ok (.getfield 201, 3) := by decide +kernel
theorem dX10_meant_60 : decode cX10_meant 60 = .ok (.iload_n 3, 1) := by decide +kernel
theorem dX10_meant_61 : decode cX10_meant 61 = .ok (.aaload, 1) := by decide +kernel
theorem dX10_meant_62 : decode cX10_meant 62 = .ok (.aload_n 0, 1) := by decide +kernel
theorem dX10_meant_63 : decode cX10_meant 63 = .ok (.getfield 33, 3) := by decide +kernel
theorem dX10_meant_66 : decode cX10_meant 66 = .ok (.getfield 443, 3) := by decide +kernel
theorem dX10_meant_69 : decode cX10_meant 69 = .ok (.iload_n 1, 1) := by decide +kernel
theorem dX10_meant_70 : decode cX10_meant 70 = .ok (.aaload, 1) := by decide +kernel
theorem dX10_meant_71 : decode cX10_meant 71 = .ok (.aload_n 0, 1) := by decide +kernel
theorem dX10_meant_72 : decode cX10_meant 72 = .ok (.getfield 19, 3) := by decide +kernel
theorem dX10_meant_75 : decode cX10_meant 75 = .ok (.getfield 197, 3) := by decide +kernel
theorem dX10_meant_78 : decode cX10_meant 78 = .ok (.iload_n 3, 1) := by decide +kernel
theorem dX10_meant_79 : decode cX10_meant 79 = .ok (.iaload, 1) := by decide +kernel
theorem dX10_meant_80 : decode cX10_meant 80 = .ok (.invokestatic 449, 3) := by decide +kernel
theorem dX10_meant_83 : decode cX10_meant 83 = .ok (.ifCond .eq 9, 3) := by decide +kernel
theorem dX10_meant_86 : decode cX10_meant 86 = .ok (.iload_n 2, 1) := by decide +kernel
theorem dX10_meant_87 : decode cX10_meant 87 = .ok (.iconst 1, 1) := by decide +kernel
theorem dX10_meant_88 : decode cX10_meant 88 = .ok (.iload_n 3, 1) := by decide +kernel
theorem dX10_meant_89 : decode cX10_meant 89 = .ok (.ishl, 1) := by decide +kernel
theorem dX10_meant_90 : decode cX10_meant 90 = .ok (.ior, 1) := by decide +kernel
theorem dX10_meant_91 : decode cX10_meant 91 = .ok (.istore_n 2, 1) := by decide +kernel
theorem dX10_meant_92 : decode cX10_meant 92 = .ok (.iinc 3 1, 3) := by decide +kernel
theorem dX10_meant_95 : decode cX10_meant 95 = .ok (.goto (-74), 3) := by decide +kernel
theorem dX10_meant_98 : decode cX10_meant 98 = .ok (.iload_n 2, 1) := by decide +kernel
theorem dX10_meant_99 : decode cX10_meant 99 = .ok (.ireturn, 1) := by decide +kernel
theorem gX10_meant_0 {d : Nat} {M : ev_Mem} {Q : Option Value → ev_Mem → Prop} {x1 : Int32} (h : (((x1 < 0) → (Q (some (.int (-1))) M)) ∧ ((¬ x1 < 0) → (((x1 < (M.1 47 8)) → (Ev LX d mX10_meant 21 [some (.ref 0), some (.int x1), some (.int 0), some (.int 0)] [] M Q)) ∧ ((¬ x1 < (M.1 47 8)) → (Q (some (.int (-1))) M)))))) : Ev LX d mX10_meant 0 [some (.ref 0), some (.int x1), none, none] [] M Q := by
  refine ev_iload_n dX10_meant_0 rfl ?_
  refine ev_if_lt (tgt := 15) dX10_meant_1 (by decide) (fun c => ?_) (fun c => ?_)
  · replace h := h.1 c
    refine ev_iconst (v := -1) dX10_meant_15 (by decide) ?_
    exact ev_iret dX10_meant_16 rfl h
  · replace h := h.2 c
    refine ev_iload_n dX10_meant_4 rfl ?_
    refine ev_aload_n dX10_meant_5 rfl ?_
    refine ev_getA dX10_meant_6 fl_WithoutE_33 lx_0 rfl ?_
    refine ev_getI dX10_meant_9 fl_WithoutE_440 lx_47 rfl ?_
    refine ev_icmp_lt (tgt := 17) dX10_meant_12 (by decide) (fun c => ?_) (fun c => ?_)
    · replace h := h.1 c
      refine ev_iconst (v := 0) dX10_meant_17 (by decide) ?_
      refine ev_istore_n (ls2 := [some (.ref 0), some (.int x1), some (.int 0), none]) dX10_meant_18 (Nat.le_of_ble_eq_true rfl) rfl ?_
      refine ev_iconst (v := 0) dX10_meant_19 (by decide) ?_
      refine ev_istore_n (ls2 := [some (.ref 0), some (.int x1), some (.int 0), some (.int 0)]) dX10_meant_20 (Nat.le_of_ble_eq_true rfl) rfl ?_
      exact h
    · replace h := h.2 c
      refine ev_iconst (v := -1) dX10_meant_15 (by decide) ?_
      exact ev_iret dX10_meant_16 rfl h
theorem gX10_meant_21 {d : Nat} {M : ev_Mem} {Q : Option Value → ev_Mem → Prop} {x1 x2 x3 : Int32} (h : ((((M.1 3 5) ≤ x3) → (Q (some (.int x2)) M)) ∧ ((¬ (M.1 3 5) ≤ x3) → (vp_in x3 24 ∧ (vp_in x1 5 ∧ (((¬ (M.1 29 x3.toNatClampNeg) = (M.1 57 x1.toNatClampNeg)) → (Ev LX (d + 1) mX10_meant 21 [some (.ref 0), some (.int x1), some (.int x2), some (.int (x3 + 1))] [] M Q)) ∧ (((M.1 29 x3.toNatClampNeg) = (M.1 57 x1.toNatClampNeg)) → (vp_in x3 24 ∧ (vp_in x1 5 ∧ (vp_in x3 24 ∧ (∃ Q2 : Option Value → ev_Mem → Prop, Cl LX d mX10_isAlike [.ref (5 + x3.toNatClampNeg), .ref (52 + x1.toNatClampNeg), .int (M.1 29 x3.toNatClampNeg)] M Q2 ∧ ∀ (zr : Option Value) (zM : ev_Mem), Q2 zr zM → Ev LX (d + 1) mX10_meant 83 [some (.ref 0), some (.int x1), some (.int x2), some (.int x3)] (zr.toList ++ []) zM Q))))))))))) : Ev LX (d + 1) mX10_meant 21 [some (.ref 0), some (.int x1), some (.int x2), some (.int x3)] [] M Q := by
  refine ev_iload_n dX10_meant_21 rfl ?_
  refine ev_aload_n dX10_meant_22 rfl ?_
  refine ev_getA dX10_meant_23 fl_WithoutE_19 lx_0 rfl ?_
  refine ev_getI dX10_meant_26 fl_WithoutE_194 lx_3 rfl ?_
  refine ev_icmp_ge (tgt := 98) dX10_meant_29 (by decide) (fun c => ?_) (fun c => ?_)
  · replace h := h.1 c
    refine ev_iload_n dX10_meant_98 rfl ?_
    exact ev_iret dX10_meant_99 rfl h
  · replace h := h.2 c
    refine ev_aload_n dX10_meant_32 rfl ?_
    refine ev_getA dX10_meant_33 fl_WithoutE_19 lx_0 rfl ?_
    refine ev_getA dX10_meant_36 fl_WithoutE_197 lx_3 rfl ?_
    refine ev_iload_n dX10_meant_39 rfl ?_
    obtain ⟨c, h⟩ := h
    refine ev_iald dX10_meant_40 lx_29 c ?_
    refine ev_aload_n dX10_meant_41 rfl ?_
    refine ev_getA dX10_meant_42 fl_WithoutE_33 lx_0 rfl ?_
    refine ev_getA dX10_meant_45 fl_WithoutE_446 lx_47 rfl ?_
    refine ev_iload_n dX10_meant_48 rfl ?_
    obtain ⟨c, h⟩ := h
    refine ev_iald dX10_meant_49 lx_57 c ?_
    refine ev_icmp_ne (tgt := 92) dX10_meant_50 (by decide) (fun c => ?_) (fun c => ?_)
    · replace h := h.1 c
      refine ev_iinc (v := x3 + 1) (ls2 := [some (.ref 0), some (.int x1), some (.int x2), some (.int (x3 + 1))]) dX10_meant_92 rfl rfl rfl ?_
      refine ev_goto (tgt := 21) dX10_meant_95 (by decide) ?_
      exact h
    · replace h := h.2 c
      refine ev_aload_n dX10_meant_53 rfl ?_
      refine ev_getA dX10_meant_54 fl_WithoutE_19 lx_0 rfl ?_
      refine ev_getA dX10_meant_57 fl_WithoutE_201 lx_3 rfl ?_
      refine ev_iload_n dX10_meant_60 rfl ?_
      obtain ⟨b1, h⟩ := h
      refine ev_aald dX10_meant_61 lx_4 (fun _ => rfl) rfl b1 ?_
      refine ev_aload_n dX10_meant_62 rfl ?_
      refine ev_getA dX10_meant_63 fl_WithoutE_33 lx_0 rfl ?_
      refine ev_getA dX10_meant_66 fl_WithoutE_443 lx_47 rfl ?_
      refine ev_iload_n dX10_meant_69 rfl ?_
      obtain ⟨b2, h⟩ := h
      refine ev_aald dX10_meant_70 lx_51 (fun _ => rfl) rfl b2 ?_
      refine ev_aload_n dX10_meant_71 rfl ?_
      refine ev_getA dX10_meant_72 fl_WithoutE_19 lx_0 rfl ?_
      refine ev_getA dX10_meant_75 fl_WithoutE_197 lx_3 rfl ?_
      refine ev_iload_n dX10_meant_78 rfl ?_
      obtain ⟨c, h⟩ := h
      refine ev_iald dX10_meant_79 lx_29 c ?_
      obtain ⟨Q2, hc, h⟩ := h
      refine ev_callS [.ref (5 + x3.toNatClampNeg), .ref (52 + x1.toNatClampNeg), .int (M.1 29 x3.toNatClampNeg)] dX10_meant_80 ml_WithoutE_449 rfl (Nat.le_of_ble_eq_true rfl) hc (fun zr zM q => ?_)
      exact h zr zM q
theorem gX10_meant_83 {d : Nat} {M : ev_Mem} {Q : Option Value → ev_Mem → Prop} {x1 x2 x3 s0 : Int32} (h : (((s0 = 0) → (Ev LX d mX10_meant 21 [some (.ref 0), some (.int x1), some (.int x2), some (.int (x3 + 1))] [] M Q)) ∧ ((¬ s0 = 0) → (∀ v1 : Int32, v1 = x2 ||| (1 <<< (x3 &&& 31)) → (Ev LX d mX10_meant 21 [some (.ref 0), some (.int x1), some (.int v1), some (.int (x3 + 1))] [] M Q))))) : Ev LX d mX10_meant 83 [some (.ref 0), some (.int x1), some (.int x2), some (.int x3)] [(.int s0)] M Q := by
  refine ev_if_eq (tgt := 92) dX10_meant_83 (by decide) (fun c => ?_) (fun c => ?_)
  · replace h := h.1 c
    refine ev_iinc (v := x3 + 1) (ls2 := [some (.ref 0), some (.int x1), some (.int x2), some (.int (x3 + 1))]) dX10_meant_92 rfl rfl rfl ?_
    refine ev_goto (tgt := 21) dX10_meant_95 (by decide) ?_
    exact h
  · replace h := h.2 c
    refine ev_iload_n dX10_meant_86 rfl ?_
    refine ev_iconst (v := 1) dX10_meant_87 (by decide) ?_
    refine ev_iload_n dX10_meant_88 rfl ?_
    refine ev_ishl dX10_meant_89 ?_
    refine ev_ior dX10_meant_90 ?_
    refine ev_istore_n (ls2 := [some (.ref 0), some (.int x1), some (.int (x2 ||| (1 <<< (x3 &&& 31)))), some (.int x3)]) dX10_meant_91 (Nat.le_of_ble_eq_true rfl) rfl ?_
    generalize ev1 : x2 ||| (1 <<< (x3 &&& 31)) = v1
    replace h := h v1 ev1.symm
    refine ev_iinc (v := x3 + 1) (ls2 := [some (.ref 0), some (.int x1), some (.int v1), some (.int (x3 + 1))]) dX10_meant_92 rfl rfl rfl ?_
    refine ev_goto (tgt := 21) dX10_meant_95 (by decide) ?_
    exact h
theorem dX10_fitsReport_0 : decode cX10_fitsReport 0 = .ok (.iconst 0, 1) := by decide +kernel
theorem dX10_fitsReport_1 : decode cX10_fitsReport 1 = .ok (.istore_n 2, 1) := by decide +kernel
theorem dX10_fitsReport_2 : decode cX10_fitsReport 2 = .ok (.iload_n 2, 1) := by decide +kernel
theorem dX10_fitsReport_3 : decode cX10_fitsReport 3 = .ok (.aload_n 0, 1) := by decide +kernel
theorem dX10_fitsReport_4 : decode cX10_fitsReport 4 = .ok (.getfield 33, 3) := by decide +kernel
theorem dX10_fitsReport_7 : decode cX10_fitsReport 7 = .ok (.getfield 440, 3) := by decide +kernel
theorem dX10_fitsReport_10 : decode cX10_fitsReport 10 = .ok (.if_icmp .ge 89, 3) := by decide +kernel
theorem dX10_fitsReport_13 : decode cX10_fitsReport 13 = .ok (.aload_n 0, 1) := by decide +kernel
theorem dX10_fitsReport_14 : decode cX10_fitsReport 14 = .ok (.iload_n 2, 1) := by decide +kernel
theorem dX10_fitsReport_15 : decode cX10_fitsReport 15 = .ok (.invokevirtual 456, 3) := by decide +kernel
theorem dX10_fitsReport_18 : decode cX10_fitsReport 18 = .ok (.istore_n 3, 1) := by decide +kernel
theorem dX10_fitsReport_19 : decode cX10_fitsReport 19 = .ok (.iconst 0, 1) := by decide +kernel
theorem dX10_fitsReport_20 : decode cX10_fitsReport 20 = .ok (.istore 4, 2) := by decide +kernel
theorem dX10_fitsReport_22 : decode cX10_fitsReport 22 = .ok (.iconst 0, 1) := by decide +kernel
theorem dX10_fitsReport_23 : decode cX10_fitsReport 23 = .ok (.istore 5, 2) := by decide +kernel
theorem dX10_fitsReport_25 : decode cX10_fitsReport 25 = .ok (.iload 5, 2) := by decide +kernel
theorem dX10_fitsReport_27 : decode cX10_fitsReport 27 = .ok (.aload_n 0, 1) := by decide +kernel
theorem dX10_fitsReport_28 : decode cX10_fitsReport 28 = .ok (.getfield 19, 3) := by decide +kernel
theorem dX10_fitsReport_31 : decode cX10_fitsReport 31 = .ok (.getfield 194, 3) := by decide +kernel
theorem dX10_fitsReport_34 : decode cX10_fitsReport 34 = .ok (.if_icmp .ge 52, 3) := by decide +kernel
theorem dX10_fitsReport_37 : decode cX10_fitsReport 37 = .ok (.iload 4, 2) := by decide +kernel
theorem dX10_fitsReport_39 : decode cX10_fitsReport 39 = .ok (.iload_n 3, 1) := by decide +kernel
theorem dX10_fitsReport_40 : decode cX10_fitsReport 40 = .ok (.iload 5, 2) := by decide +kernel
theorem dX10_fitsReport_42 : decode cX10_fitsReport 42 = .ok (.invokestatic 226, 3) := by decide +kernel
theorem dX10_fitsReport_45 : decode cX10_fitsReport 45 = .ok (.ifCond .eq 31, 3) := by decide +kernel
theorem dX10_fitsReport_48 : decode cX10_fitsReport 48 = .ok (.aload_n 0, 1) := by decide +kernel
theorem dX10_fitsReport_49 : decode cX10_fitsReport 49 = .ok (.getfield 19, 3) := by decide +kernel
theorem dX10_fitsReport_52 : decode cX10_fitsReport 52 = .ok (.getfield 205, 3) := by decide +kernel
theorem dX10_fitsReport_55 : decode cX10_fitsReport 55 = .ok (.iload 5, 2) := by decide +kernel
theorem dX10_fitsReport_57 : decode cX10_fitsReport 57 = .ok (.iaload, 1) := by decide +kernel
theorem dX10_fitsReport_58 : decode cX10_fitsReport 58 = .ok (.aload_n 0, 1) := by decide +kernel
theorem dX10_fitsReport_59 : decode cX10_fitsReport 59 = .ok (.getfield 19, 3) := by decide +kernel
theorem dX10_fitsReport_62 : decode cX10_fitsReport 62 = .ok (.getfield 459, 3) := by decide +kernel
theorem dX10_fitsReport_65 : decode cX10_fitsReport 65 = .ok (.iload_n 1, 1) := by decide +kernel
theorem dX10_fitsReport_66 : decode cX10_fitsReport 66 = .ok (.aaload, 1) := by decide +kernel
theorem dX10_fitsReport_67 : decode cX10_fitsReport 67 = .ok (.iload_n 2, 1) := by decide +kernel
theorem dX10_fitsReport_68 : decode cX10_fitsReport 68 = .ok (.iaload, 1) := by decide +kernel
theorem dX10_fitsReport_69 : decode cX10_fitsReport 69 = .ok (.if_icmp .ne 7, 3) := by decide +kernel
theorem dX10_fitsReport_72 : decode cX10_fitsReport 72 = .ok (.iconst 1, 1) := by decide +kernel
theorem dX10_fitsReport_73 : decode cX10_fitsReport 73 = .ok (.goto 4, 3) := by decide +kernel
theorem dX10_fitsReport_76 : decode cX10_fitsReport 76 = .ok (.iconst 0, 1) := by decide +kernel
theorem dX10_fitsReport_77 : decode cX10_fitsReport 77 = .ok (.ior, 1) := by decide +kernel
theorem dX10_fitsReport_78 : decode cX10_fitsReport 78 = .ok (.istore 4, 2) := by decide +kernel
theorem dX10_fitsReport_80 : decode cX10_fitsReport 80 = .ok (.iinc 5 1, 3) := by decide +kernel
theorem dX10_fitsReport_83 : decode cX10_fitsReport 83 = .ok (.goto (-58), 3) := by decide +kernel
theorem dX10_fitsReport_86 : decode cX10_fitsReport 86 = .ok (.iload 4, 2) := by decide +kernel
theorem dX10_fitsReport_88 : decode cX10_fitsReport 88 = .ok (.ifCond .ne 5, 3) := by decide +kernel
theorem dX10_fitsReport_91 : decode cX10_fitsReport 91 = .ok (.iconst 0, 1) := by decide +kernel
theorem dX10_fitsReport_92 : decode cX10_fitsReport 92 = .ok (.ireturn, 1) := by decide +kernel
theorem dX10_fitsReport_93 : decode cX10_fitsReport 93 = .ok (.iinc 2 1, 3) := by decide +kernel
theorem dX10_fitsReport_96 : decode cX10_fitsReport 96 = .ok (.goto (-94), 3) := by decide +kernel
theorem dX10_fitsReport_99 : decode cX10_fitsReport 99 = .ok (.iconst 1, 1) := by decide +kernel
theorem dX10_fitsReport_100 : decode cX10_fitsReport 100 = .ok (.ireturn, 1) := by decide +kernel
theorem gX10_fitsReport_0 {d : Nat} {M : ev_Mem} {Q : Option Value → ev_Mem → Prop} {x1 : Int32} (h : (Ev LX d mX10_fitsReport 2 [some (.ref 0), some (.int x1), some (.int 0), none, none, none] [] M Q)) : Ev LX d mX10_fitsReport 0 [some (.ref 0), some (.int x1), none, none, none, none] [] M Q := by
  refine ev_iconst (v := 0) dX10_fitsReport_0 (by decide) ?_
  refine ev_istore_n (ls2 := [some (.ref 0), some (.int x1), some (.int 0), none, none, none]) dX10_fitsReport_1 (Nat.le_of_ble_eq_true rfl) rfl ?_
  exact h
theorem gX10_fitsReport_2 {d : Nat} {M : ev_Mem} {Q : Option Value → ev_Mem → Prop} {x1 x2 : Int32} (h : ((((M.1 47 8) ≤ x2) → (Q (some (.int 1)) M)) ∧ ((¬ (M.1 47 8) ≤ x2) → (∃ Q2 : Option Value → ev_Mem → Prop, Cl LX d mX10_meant [.ref 0, .int x2] M Q2 ∧ ∀ (zr : Option Value) (zM : ev_Mem), Q2 zr zM → Ev LX (d + 1) mX10_fitsReport 18 [some (.ref 0), some (.int x1), some (.int x2), none, none, none] (zr.toList ++ []) zM Q)))) : Ev LX (d + 1) mX10_fitsReport 2 [some (.ref 0), some (.int x1), some (.int x2), none, none, none] [] M Q := by
  refine ev_iload_n dX10_fitsReport_2 rfl ?_
  refine ev_aload_n dX10_fitsReport_3 rfl ?_
  refine ev_getA dX10_fitsReport_4 fl_WithoutE_33 lx_0 rfl ?_
  refine ev_getI dX10_fitsReport_7 fl_WithoutE_440 lx_47 rfl ?_
  refine ev_icmp_ge (tgt := 99) dX10_fitsReport_10 (by decide) (fun c => ?_) (fun c => ?_)
  · replace h := h.1 c
    refine ev_iconst (v := 1) dX10_fitsReport_99 (by decide) ?_
    exact ev_zret dX10_fitsReport_100 rfl (by decide) h
  · replace h := h.2 c
    refine ev_aload_n dX10_fitsReport_13 rfl ?_
    refine ev_iload_n dX10_fitsReport_14 rfl ?_
    obtain ⟨Q2, hc, h⟩ := h
    refine ev_callV [.int x2] dX10_fitsReport_15 ml_WithoutE_456 lx_0 rfl rfl (Nat.le_of_ble_eq_true rfl) hc (fun zr zM q => ?_)
    exact h zr zM q
theorem gX10_fitsReport_18 {d : Nat} {M : ev_Mem} {Q : Option Value → ev_Mem → Prop} {x1 x2 s0 : Int32} (h : (Ev LX d mX10_fitsReport 25 [some (.ref 0), some (.int x1), some (.int x2), some (.int s0), some (.int 0), some (.int 0)] [] M Q)) : Ev LX d mX10_fitsReport 18 [some (.ref 0), some (.int x1), some (.int x2), none, none, none] [(.int s0)] M Q := by
  refine ev_istore_n (ls2 := [some (.ref 0), some (.int x1), some (.int x2), some (.int s0), none, none]) dX10_fitsReport_18 (Nat.le_of_ble_eq_true rfl) rfl ?_
  refine ev_iconst (v := 0) dX10_fitsReport_19 (by decide) ?_
  refine ev_istore (ls2 := [some (.ref 0), some (.int x1), some (.int x2), some (.int s0), some (.int 0), none]) dX10_fitsReport_20 (Nat.le_of_ble_eq_true rfl) rfl ?_
  refine ev_iconst (v := 0) dX10_fitsReport_22 (by decide) ?_
  refine ev_istore (ls2 := [some (.ref 0), some (.int x1), some (.int x2), some (.int s0), some (.int 0), some (.int 0)]) dX10_fitsReport_23 (Nat.le_of_ble_eq_true rfl) rfl ?_
  exact h
theorem gX10_fitsReport_25 {d : Nat} {M : ev_Mem} {Q : Option Value → ev_Mem → Prop} {x1 x2 x3 x4 x5 : Int32} (h : ((((M.1 3 5) ≤ x5) → (((¬ x4 = 0) → (Ev LX (d + 1) mX10_fitsReport 2 [some (.ref 0), some (.int x1), some (.int (x2 + 1)), none, none, none] [] M Q)) ∧ ((x4 = 0) → (Q (some (.int 0)) M)))) ∧ ((¬ (M.1 3 5) ≤ x5) → ((((hs x3 x5) = false) → (Ev LX (d + 1) mX10_fitsReport 25 [some (.ref 0), some (.int x1), some (.int x2), some (.int x3), some (.int (x4 ||| 0)), some (.int (x5 + 1))] [] M Q)) ∧ (((hs x3 x5) = true) → (vp_in x5 24 ∧ (vp_in x1 8 ∧ (vp_in x2 5 ∧ (((¬ (M.1 31 x5.toNatClampNeg) = (M.1 (34 + x1.toNatClampNeg) x2.toNatClampNeg)) → (Ev LX (d + 1) mX10_fitsReport 25 [some (.ref 0), some (.int x1), some (.int x2), some (.int x3), some (.int (x4 ||| 0)), some (.int (x5 + 1))] [] M Q)) ∧ (((M.1 31 x5.toNatClampNeg) = (M.1 (34 + x1.toNatClampNeg) x2.toNatClampNeg)) → (Ev LX (d + 1) mX10_fitsReport 25 [some (.ref 0), some (.int x1), some (.int x2), some (.int x3), some (.int (x4 ||| 1)), some (.int (x5 + 1))] [] M Q))))))))))) : Ev LX (d + 1) mX10_fitsReport 25 [some (.ref 0), some (.int x1), some (.int x2), some (.int x3), some (.int x4), some (.int x5)] [] M Q := by
  refine ev_iload dX10_fitsReport_25 rfl ?_
  refine ev_aload_n dX10_fitsReport_27 rfl ?_
  refine ev_getA dX10_fitsReport_28 fl_WithoutE_19 lx_0 rfl ?_
  refine ev_getI dX10_fitsReport_31 fl_WithoutE_194 lx_3 rfl ?_
  refine ev_icmp_ge (tgt := 86) dX10_fitsReport_34 (by decide) (fun c => ?_) (fun c => ?_)
  · replace h := h.1 c
    refine ev_iload dX10_fitsReport_86 rfl ?_
    refine ev_if_ne (tgt := 93) dX10_fitsReport_88 (by decide) (fun c => ?_) (fun c => ?_)
    · replace h := h.1 c
      refine ev_iinc (v := x2 + 1) (ls2 := [some (.ref 0), some (.int x1), some (.int (x2 + 1)), some (.int x3), some (.int x4), some (.int x5)]) dX10_fitsReport_93 rfl rfl rfl ?_
      refine ev_goto (tgt := 2) dX10_fitsReport_96 (by decide) ?_
      refine Ev.weak (ls := [some (.ref 0), some (.int x1), some (.int (x2 + 1)), none, none, none]) ⟨rfl, rfl, rfl, trivial⟩ ?_
      exact h
    · replace h := h.2 c
      refine ev_iconst (v := 0) dX10_fitsReport_91 (by decide) ?_
      exact ev_zret dX10_fitsReport_92 rfl (by decide) h
  · replace h := h.2 c
    refine ev_iload dX10_fitsReport_37 rfl ?_
    refine ev_iload_n dX10_fitsReport_39 rfl ?_
    refine ev_iload dX10_fitsReport_40 rfl ?_
    refine ev_callS [.int x3, .int x5] dX10_fitsReport_42 ml_WithoutE_226 rfl (Nat.le_of_ble_eq_true rfl) (kX10_has) ?_
    rintro zr zM ⟨q1, q2⟩
    rw [q1, q2]
    show Ev LX (d + 1) mX10_fitsReport 45 [some (.ref 0), some (.int x1), some (.int x2), some (.int x3), some (.int x4), some (.int x5)] [(.int (bi (hs x3 x5))), (.int x4)] M Q
    refine ev_if_eq (tgt := 76) dX10_fitsReport_45 (by decide) (fun c => ?_) (fun c => ?_)
    · replace h := h.1 ((bi_0 _).mp c)
      refine ev_iconst (v := 0) dX10_fitsReport_76 (by decide) ?_
      refine ev_ior dX10_fitsReport_77 ?_
      refine ev_istore (ls2 := [some (.ref 0), some (.int x1), some (.int x2), some (.int x3), some (.int (x4 ||| 0)), some (.int x5)]) dX10_fitsReport_78 (Nat.le_of_ble_eq_true rfl) rfl ?_
      refine ev_iinc (v := x5 + 1) (ls2 := [some (.ref 0), some (.int x1), some (.int x2), some (.int x3), some (.int (x4 ||| 0)), some (.int (x5 + 1))]) dX10_fitsReport_80 rfl rfl rfl ?_
      refine ev_goto (tgt := 25) dX10_fitsReport_83 (by decide) ?_
      exact h
    · replace h := h.2 ((bi_n0 _).mp c)
      refine ev_aload_n dX10_fitsReport_48 rfl ?_
      refine ev_getA dX10_fitsReport_49 fl_WithoutE_19 lx_0 rfl ?_
      refine ev_getA dX10_fitsReport_52 fl_WithoutE_205 lx_3 rfl ?_
      refine ev_iload dX10_fitsReport_55 rfl ?_
      obtain ⟨c, h⟩ := h
      refine ev_iald dX10_fitsReport_57 lx_31 c ?_
      refine ev_aload_n dX10_fitsReport_58 rfl ?_
      refine ev_getA dX10_fitsReport_59 fl_WithoutE_19 lx_0 rfl ?_
      refine ev_getA dX10_fitsReport_62 fl_WithoutE_459 lx_3 rfl ?_
      refine ev_iload_n dX10_fitsReport_65 rfl ?_
      obtain ⟨b1, h⟩ := h
      refine ev_aald dX10_fitsReport_66 lx_33 (fun _ => rfl) rfl b1 ?_
      refine ev_iload_n dX10_fitsReport_67 rfl ?_
      obtain ⟨c, h⟩ := h
      refine ev_iald dX10_fitsReport_68 (lx_ro (ev_lt b1)) c ?_
      refine ev_icmp_ne (tgt := 76) dX10_fitsReport_69 (by decide) (fun c => ?_) (fun c => ?_)
      · replace h := h.1 c
        refine ev_iconst (v := 0) dX10_fitsReport_76 (by decide) ?_
        refine ev_ior dX10_fitsReport_77 ?_
        refine ev_istore (ls2 := [some (.ref 0), some (.int x1), some (.int x2), some (.int x3), some (.int (x4 ||| 0)), some (.int x5)]) dX10_fitsReport_78 (Nat.le_of_ble_eq_true rfl) rfl ?_
        refine ev_iinc (v := x5 + 1) (ls2 := [some (.ref 0), some (.int x1), some (.int x2), some (.int x3), some (.int (x4 ||| 0)), some (.int (x5 + 1))]) dX10_fitsReport_80 rfl rfl rfl ?_
        refine ev_goto (tgt := 25) dX10_fitsReport_83 (by decide) ?_
        exact h
      · replace h := h.2 c
        refine ev_iconst (v := 1) dX10_fitsReport_72 (by decide) ?_
        refine ev_goto (tgt := 77) dX10_fitsReport_73 (by decide) ?_
        refine ev_ior dX10_fitsReport_77 ?_
        refine ev_istore (ls2 := [some (.ref 0), some (.int x1), some (.int x2), some (.int x3), some (.int (x4 ||| 1)), some (.int x5)]) dX10_fitsReport_78 (Nat.le_of_ble_eq_true rfl) rfl ?_
        refine ev_iinc (v := x5 + 1) (ls2 := [some (.ref 0), some (.int x1), some (.int x2), some (.int x3), some (.int (x4 ||| 1)), some (.int (x5 + 1))]) dX10_fitsReport_80 rfl rfl rfl ?_
        refine ev_goto (tgt := 25) dX10_fitsReport_83 (by decide) ?_
        exact h
theorem dX10_fits_0 : decode cX10_fits 0 = .ok (.iconst 0, 1) := by decide +kernel
theorem dX10_fits_1 : decode cX10_fits 1 = .ok (.istore_n 1, 1) := by decide +kernel
theorem dX10_fits_2 : decode cX10_fits 2 = .ok (.iconst 0, 1) := by decide +kernel
theorem dX10_fits_3 : decode cX10_fits 3 = .ok (.istore_n 2, 1) := by decide +kernel
theorem dX10_fits_4 : decode cX10_fits 4 = .ok (.iload_n 2, 1) := by decide +kernel
theorem dX10_fits_5 : decode cX10_fits 5 = .ok (.aload_n 0, 1) := by decide +kernel
theorem dX10_fits_6 : decode cX10_fits 6 = .ok (.getfield 19, 3) := by decide +kernel
theorem dX10_fits_9 : decode cX10_fits 9 = .ok (.getfield 262, 3) := by decide +kernel
theorem dX10_fits_12 : decode cX10_fits 12 = .ok (.if_icmp .ge 42, 3) := by decide +kernel
theorem dX10_fits_15 : decode cX10_fits 15 = .ok (.aload_n 0, 1) := by decide +kernel
theorem dX10_fits_16 : decode cX10_fits 16 = .ok (.getfield 19, 3) := by decide +kernel
theorem dX10_fits_19 : decode cX10_fits 19 = .ok (.getfield 328, 3) := by decide +kernel
theorem dX10_fits_22 : decode cX10_fits 22 = .ok (.iload_n 2, 1) := by decide +kernel
theorem dX10_fits_23 : decode cX10_fits 23 = .ok (.iaload, 1) := by decide +kernel
theorem dX10_fits_24 : decode cX10_fits 24 = .ok (.aload_n 0, 1) := by decide +kernel
theorem dX10_fits_25 : decode cX10_fits 25 = .ok (.getfield 33, 3) := by decide +kernel
theorem dX10_fits_28 : decode cX10_fits 28 = .ok (.getfield 440, 3) := by decide +kernel
theorem dX10_fits_31 : decode cX10_fits 31 = .ok (.if_icmp .ne 17, 3) := by decide +kernel
theorem dX10_fits_34 : decode cX10_fits 34 = .ok (.aload_n 0, 1) := by decide +kernel
theorem dX10_fits_35 : decode cX10_fits 35 = .ok (.iload_n 2, 1) := by decide +kernel
theorem dX10_fits_36 : decode cX10_fits 36 = .ok (.invokevirtual 453, 3) := by decide +kernel
theorem dX10_fits_39 : decode cX10_fits 39 = .ok (.ifCond .eq 9, 3) := by decide +kernel
theorem dX10_fits_42 : decode cX10_fits 42 = .ok (.iload_n 1, 1) := by decide +kernel
theorem dX10_fits_43 : decode cX10_fits 43 = .ok (.iconst 1, 1) := by decide +kernel
theorem dX10_fits_44 : decode cX10_fits 44 = .ok (.iload_n 2, 1) := by decide +kernel
theorem dX10_fits_45 : decode cX10_fits 45 = .ok (.ishl, 1) := by decide +kernel
theorem dX10_fits_46 : decode cX10_fits 46 = .ok (.ior, 1) := by decide +kernel
theorem dX10_fits_47 : decode cX10_fits 47 = .ok (.istore_n 1, 1) := by decide +kernel
theorem dX10_fits_48 : decode cX10_fits 48 = .ok (.iinc 2 1, 3) := by decide +kernel
theorem dX10_fits_51 : decode cX10_fits 51 = .ok (.goto (-47), 3) := by decide +kernel
theorem dX10_fits_54 : decode cX10_fits 54 = .ok (.iload_n 1, 1) := by decide +kernel
theorem dX10_fits_55 : decode cX10_fits 55 = .ok (.ireturn, 1) := by decide +kernel
theorem gX10_fits_0 {d : Nat} {M : ev_Mem} {Q : Option Value → ev_Mem → Prop} (h : (Ev LX d mX10_fits 4 [some (.ref 0), some (.int 0), some (.int 0)] [] M Q)) : Ev LX d mX10_fits 0 [some (.ref 0), none, none] [] M Q := by
  refine ev_iconst (v := 0) dX10_fits_0 (by decide) ?_
  refine ev_istore_n (ls2 := [some (.ref 0), some (.int 0), none]) dX10_fits_1 (Nat.le_of_ble_eq_true rfl) rfl ?_
  refine ev_iconst (v := 0) dX10_fits_2 (by decide) ?_
  refine ev_istore_n (ls2 := [some (.ref 0), some (.int 0), some (.int 0)]) dX10_fits_3 (Nat.le_of_ble_eq_true rfl) rfl ?_
  exact h
theorem gX10_fits_4 {d : Nat} {M : ev_Mem} {Q : Option Value → ev_Mem → Prop} {x1 x2 : Int32} (h : ((((M.1 3 8) ≤ x2) → (Q (some (.int x1)) M)) ∧ ((¬ (M.1 3 8) ≤ x2) → (vp_in x2 8 ∧ (((¬ (M.1 42 x2.toNatClampNeg) = (M.1 47 8)) → (Ev LX (d + 1) mX10_fits 4 [some (.ref 0), some (.int x1), some (.int (x2 + 1))] [] M Q)) ∧ (((M.1 42 x2.toNatClampNeg) = (M.1 47 8)) → (∃ Q2 : Option Value → ev_Mem → Prop, Cl LX d mX10_fitsReport [.ref 0, .int x2] M Q2 ∧ ∀ (zr : Option Value) (zM : ev_Mem), Q2 zr zM → Ev LX (d + 1) mX10_fits 39 [some (.ref 0), some (.int x1), some (.int x2)] (zr.toList ++ []) zM Q))))))) : Ev LX (d + 1) mX10_fits 4 [some (.ref 0), some (.int x1), some (.int x2)] [] M Q := by
  refine ev_iload_n dX10_fits_4 rfl ?_
  refine ev_aload_n dX10_fits_5 rfl ?_
  refine ev_getA dX10_fits_6 fl_WithoutE_19 lx_0 rfl ?_
  refine ev_getI dX10_fits_9 fl_WithoutE_262 lx_3 rfl ?_
  refine ev_icmp_ge (tgt := 54) dX10_fits_12 (by decide) (fun c => ?_) (fun c => ?_)
  · replace h := h.1 c
    refine ev_iload_n dX10_fits_54 rfl ?_
    exact ev_iret dX10_fits_55 rfl h
  · replace h := h.2 c
    refine ev_aload_n dX10_fits_15 rfl ?_
    refine ev_getA dX10_fits_16 fl_WithoutE_19 lx_0 rfl ?_
    refine ev_getA dX10_fits_19 fl_WithoutE_328 lx_3 rfl ?_
    refine ev_iload_n dX10_fits_22 rfl ?_
    obtain ⟨c, h⟩ := h
    refine ev_iald dX10_fits_23 lx_42 c ?_
    refine ev_aload_n dX10_fits_24 rfl ?_
    refine ev_getA dX10_fits_25 fl_WithoutE_33 lx_0 rfl ?_
    refine ev_getI dX10_fits_28 fl_WithoutE_440 lx_47 rfl ?_
    refine ev_icmp_ne (tgt := 48) dX10_fits_31 (by decide) (fun c => ?_) (fun c => ?_)
    · replace h := h.1 c
      refine ev_iinc (v := x2 + 1) (ls2 := [some (.ref 0), some (.int x1), some (.int (x2 + 1))]) dX10_fits_48 rfl rfl rfl ?_
      refine ev_goto (tgt := 4) dX10_fits_51 (by decide) ?_
      exact h
    · replace h := h.2 c
      refine ev_aload_n dX10_fits_34 rfl ?_
      refine ev_iload_n dX10_fits_35 rfl ?_
      obtain ⟨Q2, hc, h⟩ := h
      refine ev_callV [.int x2] dX10_fits_36 ml_WithoutE_453 lx_0 rfl rfl (Nat.le_of_ble_eq_true rfl) hc (fun zr zM q => ?_)
      exact h zr zM q
theorem gX10_fits_39 {d : Nat} {M : ev_Mem} {Q : Option Value → ev_Mem → Prop} {x1 x2 s0 : Int32} (h : (((s0 = 0) → (Ev LX d mX10_fits 4 [some (.ref 0), some (.int x1), some (.int (x2 + 1))] [] M Q)) ∧ ((¬ s0 = 0) → (∀ v1 : Int32, v1 = x1 ||| (1 <<< (x2 &&& 31)) → (Ev LX d mX10_fits 4 [some (.ref 0), some (.int v1), some (.int (x2 + 1))] [] M Q))))) : Ev LX d mX10_fits 39 [some (.ref 0), some (.int x1), some (.int x2)] [(.int s0)] M Q := by
  refine ev_if_eq (tgt := 48) dX10_fits_39 (by decide) (fun c => ?_) (fun c => ?_)
  · replace h := h.1 c
    refine ev_iinc (v := x2 + 1) (ls2 := [some (.ref 0), some (.int x1), some (.int (x2 + 1))]) dX10_fits_48 rfl rfl rfl ?_
    refine ev_goto (tgt := 4) dX10_fits_51 (by decide) ?_
    exact h
  · replace h := h.2 c
    refine ev_iload_n dX10_fits_42 rfl ?_
    refine ev_iconst (v := 1) dX10_fits_43 (by decide) ?_
    refine ev_iload_n dX10_fits_44 rfl ?_
    refine ev_ishl dX10_fits_45 ?_
    refine ev_ior dX10_fits_46 ?_
    refine ev_istore_n (ls2 := [some (.ref 0), some (.int (x1 ||| (1 <<< (x2 &&& 31)))), some (.int x2)]) dX10_fits_47 (Nat.le_of_ble_eq_true rfl) rfl ?_
    generalize ev1 : x1 ||| (1 <<< (x2 &&& 31)) = v1
    replace h := h v1 ev1.symm
    refine ev_iinc (v := x2 + 1) (ls2 := [some (.ref 0), some (.int v1), some (.int (x2 + 1))]) dX10_fits_48 rfl rfl rfl ?_
    refine ev_goto (tgt := 4) dX10_fits_51 (by decide) ?_
    exact h
theorem dX9_linePart_0 : decode cX9_linePart 0 = .ok (.aload_n 0, 1) := by decide +kernel
theorem dX9_linePart_1 : decode cX9_linePart 1 = .ok (.getfield 19, 3) := by decide +kernel
theorem dX9_linePart_4 : decode cX9_linePart 4 = .ok (.aload_n 0, 1) := by decide +kernel
theorem dX9_linePart_5 : decode cX9_linePart 5 = .ok (.getfield 40, 3) := by decide +kernel
theorem dX9_linePart_8 : decode cX9_linePart 8 = .ok (.aload_n 0, 1) := by decide +kernel
theorem dX9_linePart_9 : decode cX9_linePart 9 = .ok (.invokevirtual 55, 3) := by decide +kernel
theorem dX9_linePart_12 : decode cX9_linePart 12 = .ok (.isub, 1) := by decide +kernel
theorem dX9_linePart_13 : decode cX9_linePart 13 = .ok (.iload_n 1, 1) := by decide +kernel
theorem dX9_linePart_14 : decode cX9_linePart 14 = .ok (.iadd, 1) := by decide +kernel
theorem dX9_linePart_15 : decode cX9_linePart 15 = .ok (.bipush 90, 2) := by decide +kernel
theorem dX9_linePart_17 : decode cX9_linePart 17 = .ok (.irem, 1) := by decide +kernel
theorem dX9_linePart_18 : decode cX9_linePart 18 = .ok (.iconst 4, 1) := by decide +kernel
theorem dX9_linePart_19 : decode cX9_linePart 19 = .ok (.imul, 1) := by decide +kernel
theorem dX9_linePart_20 : decode cX9_linePart 20 = .ok (.iload_n 2, 1) := by decide +kernel
theorem dX9_linePart_21 : decode cX9_linePart 21 = .ok (.iadd, 1) := by decide +kernel
theorem dX9_linePart_22 : decode cX9_linePart 22 = .ok (.iaload, 1) := by decide +kernel
theorem dX9_linePart_23 : decode cX9_linePart 23 = .ok (.ireturn, 1) := by decide +kernel
theorem gX9_linePart_0 {d : Nat} {M : ev_Mem} {Q : Option Value → ev_Mem → Prop} {x1 x2 : Int32} (h : (∃ Q2 : Option Value → ev_Mem → Prop, Cl LX d mX9_linesShown [.ref 43] M Q2 ∧ ∀ (zr : Option Value) (zM : ev_Mem), Q2 zr zM → Ev LX (d + 1) mX9_linePart 12 [none, some (.int x1), some (.int x2)] (zr.toList ++ [(.int (M.1 43 6)), (.ref 45)]) zM Q)) : Ev LX (d + 1) mX9_linePart 0 [some (.ref 43), some (.int x1), some (.int x2)] [] M Q := by
  refine ev_aload_n dX9_linePart_0 rfl ?_
  refine ev_getA dX9_linePart_1 fl_WithoutE_Typewriter_19 lx_43 rfl ?_
  refine ev_aload_n dX9_linePart_4 rfl ?_
  refine ev_getI dX9_linePart_5 fl_WithoutE_Typewriter_40 lx_43 rfl ?_
  refine ev_aload_n dX9_linePart_8 rfl ?_
  obtain ⟨Q2, hc, h⟩ := h
  refine ev_callV [] dX9_linePart_9 ml_WithoutE_Typewriter_55 lx_43 rfl rfl (Nat.le_of_ble_eq_true rfl) hc (fun zr zM q => ?_)
  refine Ev.weak (ls := [none, some (.int x1), some (.int x2)]) ⟨rfl, rfl, trivial⟩ ?_
  exact h zr zM q
theorem gX9_linePart_12 {d : Nat} {M : ev_Mem} {Q : Option Value → ev_Mem → Prop} {x1 x2 s0 s1 : Int32} (h : (vp_in (((((s1 - s0) + x1) - ((s1 - s0) + x1) / 90 * 90) * 4) + x2) 360 ∧ (Q (some (.int (M.1 45 (((((s1 - s0) + x1) - ((s1 - s0) + x1) / 90 * 90) * 4) + x2).toNatClampNeg))) M))) : Ev LX d mX9_linePart 12 [none, some (.int x1), some (.int x2)] [(.int s0), (.int s1), (.ref 45)] M Q := by
  refine ev_isub dX9_linePart_12 ?_
  refine ev_iload_n dX9_linePart_13 rfl ?_
  refine ev_iadd dX9_linePart_14 ?_
  refine ev_bipush (v := 90) dX9_linePart_15 (by decide) ?_
  refine ev_irem dX9_linePart_17 (by decide) ?_
  refine ev_iconst (v := 4) dX9_linePart_18 (by decide) ?_
  refine ev_imul dX9_linePart_19 ?_
  refine ev_iload_n dX9_linePart_20 rfl ?_
  refine ev_iadd dX9_linePart_21 ?_
  obtain ⟨c, h⟩ := h
  refine ev_iald dX9_linePart_22 lx_45 c ?_
  exact ev_iret dX9_linePart_23 rfl h
theorem dX10_book_0 : decode cX10_book 0 = .ok (.aload_n 0, 1) := by decide +kernel
theorem dX10_book_1 : decode cX10_book 1 = .ok (.getfield 26, 3) := by decide +kernel
theorem dX10_book_4 : decode cX10_book 4 = .ok (.invokevirtual 462, 3) := by decide +kernel
theorem dX10_book_7 : decode cX10_book 7 = .ok (.istore_n 3, 1) := by decide +kernel
theorem dX10_book_8 : decode cX10_book 8 = .ok (.iload_n 1, 1) := by decide +kernel
theorem dX10_book_9 : decode cX10_book 9 = .ok (.iconst (-1), 1) := by decide +kernel
theorem dX10_book_10 : decode cX10_book 10 = .ok (.if_icmp .ne 5, 3) := by decide +kernel
theorem dX10_book_13 : decode cX10_book 13 = .ok (.iload_n 3, 1) := by decide +kernel
theorem dX10_book_14 : decode cX10_book 14 = .ok (.ireturn, 1) := by decide +kernel
theorem dX10_book_15 : decode cX10_book 15 = .ok (.iload_n 1, 1) := by decide +kernel
theorem dX10_book_16 : decode cX10_book 16 = .ok (.ifCond .lt 17, 3) := by decide +kernel
theorem dX10_book_19 : decode cX10_book 19 = .ok (.iload_n 1, 1) := by decide +kernel
theorem dX10_book_20 : decode cX10_book 20 = .ok (.iload_n 3, 1) := by decide +kernel
theorem dX10_book_21 : decode cX10_book 21 = .ok (.if_icmp .ge 12, 3) := by decide +kernel
theorem dX10_book_24 : decode cX10_book 24 = .ok (.iload_n 2, 1) := by decide +kernel
theorem dX10_book_25 : decode cX10_book 25 = .ok (.ifCond .lt 8, 3) := by decide +kernel
theorem dX10_book_28 : decode cX10_book 28 = .ok (.iload_n 2, 1) := by decide +kernel
theorem dX10_book_29 : decode cX10_book 29 = .ok (.iconst 3, 1) := by decide +kernel
theorem dX10_book_30 : decode cX10_book 30 = .ok (.if_icmp .le 6, 3) := by decide +kernel
theorem dX10_book_33 : decode cX10_book 33 = .ok (.bipush (-2), 2) := by decide +kernel
theorem dX10_book_35 : decode cX10_book 35 = .ok (.ireturn, 1) := by decide +kernel
theorem dX10_book_36 : decode cX10_book 36 = .ok (.aload_n 0, 1) := by decide +kernel
theorem dX10_book_37 : decode cX10_book 37 = .ok (.getfield 26, 3) := by decide +kernel
theorem dX10_book_40 : decode cX10_book 40 = .ok (.iload_n 1, 1) := by decide +kernel
theorem dX10_book_41 : decode cX10_book 41 = .ok (.iload_n 2, 1) := by decide +kernel
theorem dX10_book_42 : decode cX10_book 42 = .ok (.invokevirtual 465, 3) := by decide +kernel
theorem dX10_book_45 : decode cX10_book 45 = .ok (.ireturn, 1) := by decide +kernel
theorem gX10_book_0 {d : Nat} {M : ev_Mem} {Q : Option Value → ev_Mem → Prop} {x1 x2 : Int32} (h : (∃ Q2 : Option Value → ev_Mem → Prop, Cl LX d mX9_linesShown [.ref 43] M Q2 ∧ ∀ (zr : Option Value) (zM : ev_Mem), Q2 zr zM → Ev LX (d + 1) mX10_book 7 [some (.ref 0), some (.int x1), some (.int x2), none] (zr.toList ++ []) zM Q)) : Ev LX (d + 1) mX10_book 0 [some (.ref 0), some (.int x1), some (.int x2), none] [] M Q := by
  refine ev_aload_n dX10_book_0 rfl ?_
  refine ev_getA dX10_book_1 fl_WithoutE_26 lx_0 rfl ?_
  obtain ⟨Q2, hc, h⟩ := h
  refine ev_callV [] dX10_book_4 ml_WithoutE_462 lx_43 rfl rfl (Nat.le_of_ble_eq_true rfl) hc (fun zr zM q => ?_)
  exact h zr zM q
theorem gX10_book_7 {d : Nat} {M : ev_Mem} {Q : Option Value → ev_Mem → Prop} {x1 x2 s0 : Int32} (h : (((¬ x1 = (-1)) → (((x1 < 0) → (Q (some (.int (-2))) M)) ∧ ((¬ x1 < 0) → (((s0 ≤ x1) → (Q (some (.int (-2))) M)) ∧ ((¬ s0 ≤ x1) → (((x2 < 0) → (Q (some (.int (-2))) M)) ∧ ((¬ x2 < 0) → (((x2 ≤ 3) → (∃ Q2 : Option Value → ev_Mem → Prop, Cl LX d mX9_linePart [.ref 43, .int x1, .int x2] M Q2 ∧ ∀ (zr : Option Value) (zM : ev_Mem), Q2 zr zM → Ev LX (d + 1) mX10_book 45 [none, none, none, none] (zr.toList ++ []) zM Q)) ∧ ((¬ x2 ≤ 3) → (Q (some (.int (-2))) M)))))))))) ∧ ((x1 = (-1)) → (Q (some (.int s0)) M)))) : Ev LX (d + 1) mX10_book 7 [some (.ref 0), some (.int x1), some (.int x2), none] [(.int s0)] M Q := by
  refine ev_istore_n (ls2 := [some (.ref 0), some (.int x1), some (.int x2), some (.int s0)]) dX10_book_7 (Nat.le_of_ble_eq_true rfl) rfl ?_
  refine ev_iload_n dX10_book_8 rfl ?_
  refine ev_iconst (v := -1) dX10_book_9 (by decide) ?_
  refine ev_icmp_ne (tgt := 15) dX10_book_10 (by decide) (fun c => ?_) (fun c => ?_)
  · replace h := h.1 c
    refine ev_iload_n dX10_book_15 rfl ?_
    refine ev_if_lt (tgt := 33) dX10_book_16 (by decide) (fun c => ?_) (fun c => ?_)
    · replace h := h.1 c
      refine ev_bipush (v := -2) dX10_book_33 (by decide) ?_
      exact ev_iret dX10_book_35 rfl h
    · replace h := h.2 c
      refine ev_iload_n dX10_book_19 rfl ?_
      refine ev_iload_n dX10_book_20 rfl ?_
      refine ev_icmp_ge (tgt := 33) dX10_book_21 (by decide) (fun c => ?_) (fun c => ?_)
      · replace h := h.1 c
        refine ev_bipush (v := -2) dX10_book_33 (by decide) ?_
        exact ev_iret dX10_book_35 rfl h
      · replace h := h.2 c
        refine ev_iload_n dX10_book_24 rfl ?_
        refine ev_if_lt (tgt := 33) dX10_book_25 (by decide) (fun c => ?_) (fun c => ?_)
        · replace h := h.1 c
          refine ev_bipush (v := -2) dX10_book_33 (by decide) ?_
          exact ev_iret dX10_book_35 rfl h
        · replace h := h.2 c
          refine ev_iload_n dX10_book_28 rfl ?_
          refine ev_iconst (v := 3) dX10_book_29 (by decide) ?_
          refine ev_icmp_le (tgt := 36) dX10_book_30 (by decide) (fun c => ?_) (fun c => ?_)
          · replace h := h.1 c
            refine ev_aload_n dX10_book_36 rfl ?_
            refine ev_getA dX10_book_37 fl_WithoutE_26 lx_0 rfl ?_
            refine ev_iload_n dX10_book_40 rfl ?_
            refine ev_iload_n dX10_book_41 rfl ?_
            obtain ⟨Q2, hc, h⟩ := h
            refine ev_callV [.int x1, .int x2] dX10_book_42 ml_WithoutE_465 lx_43 rfl rfl (Nat.le_of_ble_eq_true rfl) hc (fun zr zM q => ?_)
            refine Ev.weak (ls := [none, none, none, none]) trivial ?_
            exact h zr zM q
          · replace h := h.2 c
            refine ev_bipush (v := -2) dX10_book_33 (by decide) ?_
            exact ev_iret dX10_book_35 rfl h
  · replace h := h.2 c
    refine ev_iload_n dX10_book_13 rfl ?_
    exact ev_iret dX10_book_14 rfl h
theorem gX10_book_45 {d : Nat} {M : ev_Mem} {Q : Option Value → ev_Mem → Prop} {s0 : Int32} (h : (Q (some (.int s0)) M)) : Ev LX d mX10_book 45 [none, none, none, none] [(.int s0)] M Q := by
  exact ev_iret dX10_book_45 rfl h
theorem dX11_mayBeLost_0 : decode cX11_mayBeLost 0 = .ok (.ldc_w 483, 3) := by decide +kernel
theorem dX11_mayBeLost_3 : decode cX11_mayBeLost 3 = .ok (.istore_n 1, 1) := by decide +kernel
theorem dX11_mayBeLost_4 : decode cX11_mayBeLost 4 = .ok (.iconst 0, 1) := by decide +kernel
theorem dX11_mayBeLost_5 : decode cX11_mayBeLost 5 = .ok (.istore_n 2, 1) := by decide +kernel
theorem dX11_mayBeLost_6 : decode cX11_mayBeLost 6 = .ok (.iload_n 2, 1) := by decide +kernel
theorem dX11_mayBeLost_7 : decode cX11_mayBeLost 7 = .ok (.aload_n 0, 1) := by decide +kernel
theorem dX11_mayBeLost_8 : decode cX11_mayBeLost 8 = .ok (.getfield 7, 3) := by decide +kernel
theorem dX11_mayBeLost_11 : decode cX11_mayBeLost 11 = .ok (.iconst 5, 1) := by decide +kernel
theorem dX11_mayBeLost_12 : decode cX11_mayBeLost 12 = .ok (.iaload, 1) := by decide +kernel
theorem dX11_mayBeLost_13 : decode cX11_mayBeLost 13 = .ok (.if_icmp .ge 47, 3) := by decide +kernel
theorem dX11_mayBeLost_16 : decode cX11_mayBeLost 16 = .ok (.aload_n 0, 1) := by decide +kernel
theorem dX11_mayBeLost_17 : decode cX11_mayBeLost 17 = .ok (.aload_n 0, 1) := by decide +kernel
theorem dX11_mayBeLost_18 : decode cX11_mayBeLost 18 = .ok (.getfield 7, 3) := by decide +kernel
theorem dX11_mayBeLost_21 : decode cX11_mayBeLost 21 = .ok (.sipush 451, 3) := by decide +kernel
theorem dX11_mayBeLost_24 : decode cX11_mayBeLost 24 = .ok (.iload_n 2, 1) := by decide +kernel
theorem dX11_mayBeLost_25 : decode cX11_mayBeLost 25 = .ok (.iadd, 1) := by decide +kernel
theorem dX11_mayBeLost_26 : decode cX11_mayBeLost 26 = .ok (.iaload, 1) := by decide +kernel
theorem dX11_mayBeLost_27 : decode cX11_mayBeLost 27 = .ok (.iconst 0, 1) := by decide +kernel
theorem dX11_mayBeLost_28 : decode cX11_mayBeLost 28 = .ok (.invokevirtual 92, 3) := by decide +kernel
theorem dX11_mayBeLost_31 : decode cX11_mayBeLost 31 = .ok (.iconst 3, 1) := by decide +kernel
theorem dX11_mayBeLost_32 : decode cX11_mayBeLost 32 = .ok (.if_icmp .gt 22, 3) := by decide +kernel
theorem dX11_mayBeLost_35 : decode cX11_mayBeLost 35 = .ok (.iload_n 1, 1) := by decide +kernel
theorem dX11_mayBeLost_36 : decode cX11_mayBeLost 36 = .ok (.aload_n 0, 1) := by decide +kernel
theorem dX11_mayBeLost_37 : decode cX11_mayBeLost 37 = .ok (.aload_n 0, 1) := by decide +kernel
theorem dX11_mayBeLost_38 : decode cX11_mayBeLost 38 = .ok (.getfield 7, 3) := by decide +kernel
theorem dX11_mayBeLost_41 : decode cX11_mayBeLost 41 = .ok (.sipush 451, 3) := by decide +kernel
theorem dX11_mayBeLost_44 : decode cX11_mayBeLost 44 = .ok (.iload_n 2, 1) := by decide +kernel
theorem dX11_mayBeLost_45 : decode cX11_mayBeLost 45 = .ok (.iadd, 1) := by decide +kernel
theorem dX11_mayBeLost_46 : decode cX11_mayBeLost 46 = .ok (.iaload, 1) := by decide +kernel
theorem dX11_mayBeLost_47 : decode cX11_mayBeLost 47 = .ok (.invokevirtual 484, 3) := by decide +kernel
theorem dX11_mayBeLost_50 : decode cX11_mayBeLost 50 = .ok (.iconst (-1), 1) := by decide +kernel
theorem dX11_mayBeLost_51 : decode cX11_mayBeLost 51 = .ok (.ixor, 1) := by decide +kernel
theorem dX11_mayBeLost_52 : decode cX11_mayBeLost 52 = .ok (.iand, 1) := by decide +kernel
theorem dX11_mayBeLost_53 : decode cX11_mayBeLost 53 = .ok (.istore_n 1, 1) := by decide +kernel
theorem dX11_mayBeLost_54 : decode cX11_mayBeLost 54 = .ok (.iinc 2 1, 3) := by decide +kernel
theorem dX11_mayBeLost_57 : decode cX11_mayBeLost 57 = .ok (.goto (-51), 3) := by decide +kernel
theorem dX11_mayBeLost_60 : decode cX11_mayBeLost 60 = .ok (.iload_n 1, 1) := by decide +kernel
theorem dX11_mayBeLost_61 : decode cX11_mayBeLost 61 = .ok (.ireturn, 1) := by decide +kernel
theorem gX11_mayBeLost_0 {d : Nat} {M : ev_Mem} {Q : Option Value → ev_Mem → Prop} (h : (Ev LM d mX11_mayBeLost 6 [some (.ref 0), some (.int 67108863), some (.int 0)] [] M Q)) : Ev LM d mX11_mayBeLost 0 [some (.ref 0), none, none] [] M Q := by
  refine ev_ldcw (v := 67108863) dX11_mayBeLost_0 cw_WithoutEModel_483 ?_
  refine ev_istore_n (ls2 := [some (.ref 0), some (.int 67108863), none]) dX11_mayBeLost_3 (Nat.le_of_ble_eq_true rfl) rfl ?_
  refine ev_iconst (v := 0) dX11_mayBeLost_4 (by decide) ?_
  refine ev_istore_n (ls2 := [some (.ref 0), some (.int 67108863), some (.int 0)]) dX11_mayBeLost_5 (Nat.le_of_ble_eq_true rfl) rfl ?_
  exact h
theorem gX11_mayBeLost_6 {d : Nat} {M : ev_Mem} {Q : Option Value → ev_Mem → Prop} {x1 x2 : Int32} (h : ((((M.1 1 5) ≤ x2) → (Q (some (.int x1)) M)) ∧ ((¬ (M.1 1 5) ≤ x2) → (vp_in (451 + x2) 3315 ∧ ((vp_in (39 + 13 * (M.1 1 (451 + x2).toNatClampNeg) + (0 : Int32)) 3315) ∧ (((3 < (M.1 1 (39 + 13 * (M.1 1 (451 + x2).toNatClampNeg) + (0 : Int32)).toNatClampNeg)) → (Ev LM (d + 2) mX11_mayBeLost 6 [some (.ref 0), some (.int x1), some (.int (x2 + 1))] [] M Q)) ∧ ((¬ 3 < (M.1 1 (39 + 13 * (M.1 1 (451 + x2).toNatClampNeg) + (0 : Int32)).toNatClampNeg)) → (vp_in (451 + x2) 3315 ∧ ((wm M (M.1 1 (451 + x2).toNatClampNeg)) ∧ (∀ v1 : Int32, v1 = x1 &&& ((ltM M (M.1 1 (451 + x2).toNatClampNeg)) ^^^ (-1)) → (Ev LM (d + 2) mX11_mayBeLost 6 [some (.ref 0), some (.int v1), some (.int (x2 + 1))] [] M Q))))))))))) : Ev LM (d + 2) mX11_mayBeLost 6 [some (.ref 0), some (.int x1), some (.int x2)] [] M Q := by
  refine ev_iload_n dX11_mayBeLost_6 rfl ?_
  refine ev_aload_n dX11_mayBeLost_7 rfl ?_
  refine ev_getA dX11_mayBeLost_8 fl_WithoutEModel_7 lm_0 rfl ?_
  refine ev_iconst (v := 5) dX11_mayBeLost_11 (by decide) ?_
  refine ev_iaN (j := 5) dX11_mayBeLost_12 lm_1 (by decide) (by decide) ?_
  refine ev_icmp_ge (tgt := 60) dX11_mayBeLost_13 (by decide) (fun c => ?_) (fun c => ?_)
  · replace h := h.1 c
    refine ev_iload_n dX11_mayBeLost_60 rfl ?_
    exact ev_iret dX11_mayBeLost_61 rfl h
  · replace h := h.2 c
    refine ev_aload_n dX11_mayBeLost_16 rfl ?_
    refine ev_aload_n dX11_mayBeLost_17 rfl ?_
    refine ev_getA dX11_mayBeLost_18 fl_WithoutEModel_7 lm_0 rfl ?_
    refine ev_sipush (v := 451) dX11_mayBeLost_21 (by decide) ?_
    refine ev_iload_n dX11_mayBeLost_24 rfl ?_
    refine ev_iadd dX11_mayBeLost_25 ?_
    obtain ⟨c, h⟩ := h
    refine ev_iald dX11_mayBeLost_26 lm_1 c ?_
    refine ev_iconst (v := 0) dX11_mayBeLost_27 (by decide) ?_
    obtain ⟨p1, h⟩ := h
    refine ev_callV [.int (M.1 1 (451 + x2).toNatClampNeg), .int 0] dX11_mayBeLost_28 ml_WithoutEModel_92 lm_0 rfl rfl (Nat.le_of_ble_eq_true rfl) (kX11_get p1) ?_
    rintro zr zM ⟨q1, q2⟩
    rw [q1, q2]
    show Ev LM (d + 2) mX11_mayBeLost 31 [some (.ref 0), some (.int x1), some (.int x2)] [(.int (M.1 1 (39 + 13 * (M.1 1 (451 + x2).toNatClampNeg) + (0 : Int32)).toNatClampNeg))] M Q
    refine ev_iconst (v := 3) dX11_mayBeLost_31 (by decide) ?_
    refine ev_icmp_gt (tgt := 54) dX11_mayBeLost_32 (by decide) (fun c => ?_) (fun c => ?_)
    · replace h := h.1 c
      refine ev_iinc (v := x2 + 1) (ls2 := [some (.ref 0), some (.int x1), some (.int (x2 + 1))]) dX11_mayBeLost_54 rfl rfl rfl ?_
      refine ev_goto (tgt := 6) dX11_mayBeLost_57 (by decide) ?_
      exact h
    · replace h := h.2 c
      refine ev_iload_n dX11_mayBeLost_35 rfl ?_
      refine ev_aload_n dX11_mayBeLost_36 rfl ?_
      refine ev_aload_n dX11_mayBeLost_37 rfl ?_
      refine ev_getA dX11_mayBeLost_38 fl_WithoutEModel_7 lm_0 rfl ?_
      refine ev_sipush (v := 451) dX11_mayBeLost_41 (by decide) ?_
      refine ev_iload_n dX11_mayBeLost_44 rfl ?_
      refine ev_iadd dX11_mayBeLost_45 ?_
      obtain ⟨c, h⟩ := h
      refine ev_iald dX11_mayBeLost_46 lm_1 c ?_
      obtain ⟨p1, h⟩ := h
      refine ev_callV [.int (M.1 1 (451 + x2).toNatClampNeg)] dX11_mayBeLost_47 ml_WithoutEModel_484 lm_0 rfl rfl (Nat.le_of_ble_eq_true rfl) (qX11_lettersOf p1) ?_
      rintro zr zM ⟨q1, q2⟩
      rw [q1, q2]
      show Ev LM (d + 2) mX11_mayBeLost 50 [some (.ref 0), some (.int x1), some (.int x2)] [(.int (ltM M (M.1 1 (451 + x2).toNatClampNeg))), (.int x1)] M Q
      refine ev_iconst (v := -1) dX11_mayBeLost_50 (by decide) ?_
      refine ev_ixor dX11_mayBeLost_51 ?_
      refine ev_iand dX11_mayBeLost_52 ?_
      refine ev_istore_n (ls2 := [some (.ref 0), some (.int (x1 &&& ((ltM M (M.1 1 (451 + x2).toNatClampNeg)) ^^^ (-1)))), some (.int x2)]) dX11_mayBeLost_53 (Nat.le_of_ble_eq_true rfl) rfl ?_
      generalize ev1 : x1 &&& ((ltM M (M.1 1 (451 + x2).toNatClampNeg)) ^^^ (-1)) = v1
      replace h := h v1 ev1.symm
      refine ev_iinc (v := x2 + 1) (ls2 := [some (.ref 0), some (.int v1), some (.int (x2 + 1))]) dX11_mayBeLost_54 rfl rfl rfl ?_
      refine ev_goto (tgt := 6) dX11_mayBeLost_57 (by decide) ?_
      exact h
theorem dX11_wrote_0 : decode cX11_wrote 0 = .ok (.iload_n 1, 1) := by decide +kernel
theorem dX11_wrote_1 : decode cX11_wrote 1 = .ok (.iconst 0, 1) := by decide +kernel
theorem dX11_wrote_2 : decode cX11_wrote 2 = .ok (.iconst 2, 1) := by decide +kernel
theorem dX11_wrote_3 : decode cX11_wrote 3 = .ok (.invokestatic 80, 3) := by decide +kernel
theorem dX11_wrote_6 : decode cX11_wrote 6 = .ok (.ifCond .ne 5, 3) := by decide +kernel
theorem dX11_wrote_9 : decode cX11_wrote 9 = .ok (.iconst (-1), 1) := by decide +kernel
theorem dX11_wrote_10 : decode cX11_wrote 10 = .ok (.ireturn, 1) := by decide +kernel
theorem dX11_wrote_11 : decode cX11_wrote 11 = .ok (.aload_n 0, 1) := by decide +kernel
theorem dX11_wrote_12 : decode cX11_wrote 12 = .ok (.invokevirtual 487, 3) := by decide +kernel
theorem dX11_wrote_15 : decode cX11_wrote 15 = .ok (.istore_n 2, 1) := by decide +kernel
theorem dX11_wrote_16 : decode cX11_wrote 16 = .ok (.iload_n 2, 1) := by decide +kernel
theorem dX11_wrote_17 : decode cX11_wrote 17 = .ok (.invokestatic 312, 3) := by decide +kernel
theorem dX11_wrote_20 : decode cX11_wrote 20 = .ok (.istore_n 3, 1) := by decide +kernel
theorem dX11_wrote_21 : decode cX11_wrote 21 = .ok (.iload_n 1, 1) := by decide +kernel
theorem dX11_wrote_22 : decode cX11_wrote 22 = .ok (.ifCond .ne 15, 3) := by decide +kernel
theorem dX11_wrote_25 : decode cX11_wrote 25 = .ok (.iload_n 3, 1) := by decide +kernel
theorem dX11_wrote_26 : decode cX11_wrote 26 = .ok (.iload_n 3, 1) := by decide +kernel
theorem dX11_wrote_27 : decode cX11_wrote 27 = .ok (.iload_n 3, 1) := by decide +kernel
theorem dX11_wrote_28 : decode cX11_wrote 28 = .ok (.iconst 1, 1) := by decide +kernel
theorem dX11_wrote_29 : decode cX11_wrote 29 = .ok (.isub, 1) := by decide +kernel
theorem dX11_wrote_30 : decode cX11_wrote 30 = .ok (.imul, 1) := by decide +kernel
theorem dX11_wrote_31 : decode cX11_wrote 31 = .ok (.iconst 2, 1) := by decide +kernel
theorem dX11_wrote_32 : decode cX11_wrote 32 = .ok (.idiv, 1) := by decide +kernel
theorem dX11_wrote_33 : decode cX11_wrote 33 = .ok (.iadd, 1) := by decide +kernel
theorem dX11_wrote_34 : decode cX11_wrote 34 = .ok (.goto 28, 3) := by decide +kernel
theorem dX11_wrote_37 : decode cX11_wrote 37 = .ok (.iload_n 1, 1) := by decide +kernel
theorem dX11_wrote_38 : decode cX11_wrote 38 = .ok (.iconst 1, 1) := by decide +kernel
theorem dX11_wrote_39 : decode cX11_wrote 39 = .ok (.if_icmp .ne 16, 3) := by decide +kernel
theorem dX11_wrote_42 : decode cX11_wrote 42 = .ok (.iload_n 3, 1) := by decide +kernel
theorem dX11_wrote_43 : decode cX11_wrote 43 = .ok (.iconst 1, 1) := by decide +kernel
theorem dX11_wrote_44 : decode cX11_wrote 44 = .ok (.if_icmp .ne 7, 3) := by decide +kernel
theorem dX11_wrote_47 : decode cX11_wrote 47 = .ok (.iload_n 2, 1) := by decide +kernel
theorem dX11_wrote_48 : decode cX11_wrote 48 = .ok (.goto 14, 3) := by decide +kernel
theorem dX11_wrote_51 : decode cX11_wrote 51 = .ok (.iconst 0, 1) := by decide +kernel
theorem dX11_wrote_52 : decode cX11_wrote 52 = .ok (.goto 10, 3) := by decide +kernel
theorem dX11_wrote_55 : decode cX11_wrote 55 = .ok (.ldc_w 483, 3) := by decide +kernel
theorem dX11_wrote_58 : decode cX11_wrote 58 = .ok (.iload_n 2, 1) := by decide +kernel
theorem dX11_wrote_59 : decode cX11_wrote 59 = .ok (.iconst (-1), 1) := by decide +kernel
theorem dX11_wrote_60 : decode cX11_wrote 60 = .ok (.ixor, 1) := by decide +kernel
theorem dX11_wrote_61 : decode cX11_wrote 61 = .ok (.iand, 1) := by decide +kernel
theorem dX11_wrote_62 : decode cX11_wrote 62 = .ok (.ireturn, 1) := by decide +kernel
theorem gX11_wrote_0 {d : Nat} {M : ev_Mem} {Q : Option Value → ev_Mem → Prop} {x1 : Int32} (h : ((((iin x1 (0 : Int32) (2 : Int32)) = true) → (∃ Q2 : Option Value → ev_Mem → Prop, Cl LM d mX11_mayBeLost [.ref 0] M Q2 ∧ ∀ (zr : Option Value) (zM : ev_Mem), Q2 zr zM → Ev LM (d + 1) mX11_wrote 15 [none, some (.int x1), none, none] (zr.toList ++ []) zM Q)) ∧ (((iin x1 (0 : Int32) (2 : Int32)) = false) → (Q (some (.int (-1))) M)))) : Ev LM (d + 1) mX11_wrote 0 [some (.ref 0), some (.int x1), none, none] [] M Q := by
  refine ev_iload_n dX11_wrote_0 rfl ?_
  refine ev_iconst (v := 0) dX11_wrote_1 (by decide) ?_
  refine ev_iconst (v := 2) dX11_wrote_2 (by decide) ?_
  refine ev_callS [.int x1, .int 0, .int 2] dX11_wrote_3 ml_WithoutEModel_80 rfl (Nat.le_of_ble_eq_true rfl) (kX11_isIn) ?_
  rintro zr zM ⟨q1, q2⟩
  rw [q1, q2]
  show Ev LM (d + 1) mX11_wrote 6 [some (.ref 0), some (.int x1), none, none] [(.int (bi (iin x1 (0 : Int32) (2 : Int32))))] M Q
  refine ev_if_ne (tgt := 11) dX11_wrote_6 (by decide) (fun c => ?_) (fun c => ?_)
  · replace h := h.1 ((bi_n0 _).mp c)
    refine ev_aload_n dX11_wrote_11 rfl ?_
    obtain ⟨Q2, hc, h⟩ := h
    refine ev_callV [] dX11_wrote_12 ml_WithoutEModel_487 lm_0 rfl rfl (Nat.le_of_ble_eq_true rfl) hc (fun zr zM q => ?_)
    refine Ev.weak (ls := [none, some (.int x1), none, none]) ⟨rfl, trivial⟩ ?_
    exact h zr zM q
  · replace h := h.2 ((bi_0 _).mp c)
    refine ev_iconst (v := -1) dX11_wrote_9 (by decide) ?_
    exact ev_iret dX11_wrote_10 rfl h
theorem gX11_wrote_15 {d : Nat} {M : ev_Mem} {Q : Option Value → ev_Mem → Prop} {x1 s0 : Int32} (h : (((¬ x1 = 0) → (((¬ x1 = 1) → (Q (some (.int (67108863 &&& (s0 ^^^ (-1))))) M)) ∧ ((x1 = 1) → (((¬ (bc s0) = 1) → (Q (some (.int 0)) M)) ∧ (((bc s0) = 1) → (Q (some (.int s0)) M)))))) ∧ ((x1 = 0) → (Q (some (.int ((bc s0) + (((bc s0) * ((bc s0) - 1)) / 2)))) M)))) : Ev LM (d + 1) mX11_wrote 15 [none, some (.int x1), none, none] [(.int s0)] M Q := by
  refine ev_istore_n (ls2 := [none, some (.int x1), some (.int s0), none]) dX11_wrote_15 (Nat.le_of_ble_eq_true rfl) rfl ?_
  refine ev_iload_n dX11_wrote_16 rfl ?_
  refine ev_callS [.int s0] dX11_wrote_17 ml_WithoutEModel_312 rfl (Nat.le_of_ble_eq_true rfl) (kX11_bits) ?_
  rintro zr zM ⟨q1, q2⟩
  rw [q1, q2]
  show Ev LM (d + 1) mX11_wrote 20 [none, some (.int x1), some (.int s0), none] [(.int (bc s0))] M Q
  refine ev_istore_n (ls2 := [none, some (.int x1), some (.int s0), some (.int (bc s0))]) dX11_wrote_20 (Nat.le_of_ble_eq_true rfl) rfl ?_
  refine ev_iload_n dX11_wrote_21 rfl ?_
  refine ev_if_ne (tgt := 37) dX11_wrote_22 (by decide) (fun c => ?_) (fun c => ?_)
  · replace h := h.1 c
    refine ev_iload_n dX11_wrote_37 rfl ?_
    refine ev_iconst (v := 1) dX11_wrote_38 (by decide) ?_
    refine ev_icmp_ne (tgt := 55) dX11_wrote_39 (by decide) (fun c => ?_) (fun c => ?_)
    · replace h := h.1 c
      refine ev_ldcw (v := 67108863) dX11_wrote_55 cw_WithoutEModel_483 ?_
      refine ev_iload_n dX11_wrote_58 rfl ?_
      refine ev_iconst (v := -1) dX11_wrote_59 (by decide) ?_
      refine ev_ixor dX11_wrote_60 ?_
      refine ev_iand dX11_wrote_61 ?_
      exact ev_iret dX11_wrote_62 rfl h
    · replace h := h.2 c
      refine ev_iload_n dX11_wrote_42 rfl ?_
      refine ev_iconst (v := 1) dX11_wrote_43 (by decide) ?_
      refine ev_icmp_ne (tgt := 51) dX11_wrote_44 (by decide) (fun c => ?_) (fun c => ?_)
      · replace h := h.1 c
        refine ev_iconst (v := 0) dX11_wrote_51 (by decide) ?_
        refine ev_goto (tgt := 62) dX11_wrote_52 (by decide) ?_
        exact ev_iret dX11_wrote_62 rfl h
      · replace h := h.2 c
        refine ev_iload_n dX11_wrote_47 rfl ?_
        refine ev_goto (tgt := 62) dX11_wrote_48 (by decide) ?_
        exact ev_iret dX11_wrote_62 rfl h
  · replace h := h.2 c
    refine ev_iload_n dX11_wrote_25 rfl ?_
    refine ev_iload_n dX11_wrote_26 rfl ?_
    refine ev_iload_n dX11_wrote_27 rfl ?_
    refine ev_iconst (v := 1) dX11_wrote_28 (by decide) ?_
    refine ev_isub dX11_wrote_29 ?_
    refine ev_imul dX11_wrote_30 ?_
    refine ev_iconst (v := 2) dX11_wrote_31 (by decide) ?_
    refine ev_idiv dX11_wrote_32 (by decide) ?_
    refine ev_iadd dX11_wrote_33 ?_
    refine ev_goto (tgt := 62) dX11_wrote_34 (by decide) ?_
    exact ev_iret dX11_wrote_62 rfl h
theorem dX11_fewest_0 : decode cX11_fewest 0 = .ok (.iconst (-1), 1) := by decide +kernel
theorem dX11_fewest_1 : decode cX11_fewest 1 = .ok (.istore_n 1, 1) := by decide +kernel
theorem dX11_fewest_2 : decode cX11_fewest 2 = .ok (.iconst 0, 1) := by decide +kernel
theorem dX11_fewest_3 : decode cX11_fewest 3 = .ok (.istore_n 2, 1) := by decide +kernel
theorem dX11_fewest_4 : decode cX11_fewest 4 = .ok (.iconst 0, 1) := by decide +kernel
theorem dX11_fewest_5 : decode cX11_fewest 5 = .ok (.istore_n 3, 1) := by decide +kernel
theorem dX11_fewest_6 : decode cX11_fewest 6 = .ok (.iload_n 3, 1) := by decide +kernel
theorem dX11_fewest_7 : decode cX11_fewest 7 = .ok (.aload_n 0, 1) := by decide +kernel
theorem dX11_fewest_8 : decode cX11_fewest 8 = .ok (.getfield 7, 3) := by decide +kernel
theorem dX11_fewest_11 : decode cX11_fewest 11 = .ok (.iconst 0, 1) := by decide +kernel
theorem dX11_fewest_12 : decode cX11_fewest 12 = .ok (.iaload, 1) := by decide +kernel
theorem dX11_fewest_13 : decode cX11_fewest 13 = .ok (.if_icmp .ge 52, 3) := by decide +kernel
theorem dX11_fewest_16 : decode cX11_fewest 16 = .ok (.aload_n 0, 1) := by decide +kernel
theorem dX11_fewest_17 : decode cX11_fewest 17 = .ok (.iload_n 3, 1) := by decide +kernel
theorem dX11_fewest_18 : decode cX11_fewest 18 = .ok (.iconst 0, 1) := by decide +kernel
theorem dX11_fewest_19 : decode cX11_fewest 19 = .ok (.invokevirtual 92, 3) := by decide +kernel
theorem dX11_fewest_22 : decode cX11_fewest 22 = .ok (.iconst 3, 1) := by decide +kernel
theorem dX11_fewest_23 : decode cX11_fewest 23 = .ok (.if_icmp .gt 19, 3) := by decide +kernel
theorem dX11_fewest_26 : decode cX11_fewest 26 = .ok (.aload_n 0, 1) := by decide +kernel
theorem dX11_fewest_27 : decode cX11_fewest 27 = .ok (.iload_n 3, 1) := by decide +kernel
theorem dX11_fewest_28 : decode cX11_fewest 28 = .ok (.invokevirtual 484, 3) := by decide +kernel
theorem dX11_fewest_31 : decode cX11_fewest 31 = .ok (.aload_n 0, 1) := by decide +kernel
theorem dX11_fewest_32 : decode cX11_fewest 32 = .ok (.invokevirtual 487, 3) := by decide +kernel
theorem dX11_fewest_35 : decode cX11_fewest 35 = .ok (.iand, 1) := by decide +kernel
theorem dX11_fewest_36 : decode cX11_fewest 36 = .ok (.invokestatic 312, 3) := by decide +kernel
theorem dX11_fewest_39 : decode cX11_fewest 39 = .ok (.goto 4, 3) := by decide +kernel
theorem dX11_fewest_42 : decode cX11_fewest 42 = .ok (.iconst 0, 1) := by decide +kernel
theorem dX11_fewest_43 : decode cX11_fewest 43 = .ok (.istore 4, 2) := by decide +kernel
theorem dX11_fewest_45 : decode cX11_fewest 45 = .ok (.iload 4, 2) := by decide +kernel
theorem dX11_fewest_47 : decode cX11_fewest 47 = .ok (.iload_n 2, 1) := by decide +kernel
theorem dX11_fewest_48 : decode cX11_fewest 48 = .ok (.if_icmp .gt 6, 3) := by decide +kernel
theorem dX11_fewest_51 : decode cX11_fewest 51 = .ok (.goto 8, 3) := by decide +kernel
theorem dX11_fewest_54 : decode cX11_fewest 54 = .ok (.iload 4, 2) := by decide +kernel
theorem dX11_fewest_56 : decode cX11_fewest 56 = .ok (.istore_n 2, 1) := by decide +kernel
theorem dX11_fewest_57 : decode cX11_fewest 57 = .ok (.iload_n 3, 1) := by decide +kernel
theorem dX11_fewest_58 : decode cX11_fewest 58 = .ok (.istore_n 1, 1) := by decide +kernel
theorem dX11_fewest_59 : decode cX11_fewest 59 = .ok (.iinc 3 1, 3) := by decide +kernel
theorem dX11_fewest_62 : decode cX11_fewest 62 = .ok (.goto (-56), 3) := by decide +kernel
theorem dX11_fewest_65 : decode cX11_fewest 65 = .ok (.iload_n 1, 1) := by decide +kernel
theorem dX11_fewest_66 : decode cX11_fewest 66 = .ok (.ireturn, 1) := by decide +kernel
theorem gX11_fewest_0 {d : Nat} {M : ev_Mem} {Q : Option Value → ev_Mem → Prop} (h : (Ev LM d mX11_fewest 6 [some (.ref 0), some (.int (-1)), some (.int 0), some (.int 0), none] [] M Q)) : Ev LM d mX11_fewest 0 [some (.ref 0), none, none, none, none] [] M Q := by
  refine ev_iconst (v := -1) dX11_fewest_0 (by decide) ?_
  refine ev_istore_n (ls2 := [some (.ref 0), some (.int (-1)), none, none, none]) dX11_fewest_1 (Nat.le_of_ble_eq_true rfl) rfl ?_
  refine ev_iconst (v := 0) dX11_fewest_2 (by decide) ?_
  refine ev_istore_n (ls2 := [some (.ref 0), some (.int (-1)), some (.int 0), none, none]) dX11_fewest_3 (Nat.le_of_ble_eq_true rfl) rfl ?_
  refine ev_iconst (v := 0) dX11_fewest_4 (by decide) ?_
  refine ev_istore_n (ls2 := [some (.ref 0), some (.int (-1)), some (.int 0), some (.int 0), none]) dX11_fewest_5 (Nat.le_of_ble_eq_true rfl) rfl ?_
  exact h
theorem gX11_fewest_6 {d : Nat} {M : ev_Mem} {Q : Option Value → ev_Mem → Prop} {x1 x2 x3 : Int32} (h : ((((M.1 1 0) ≤ x3) → (Q (some (.int x1)) M)) ∧ ((¬ (M.1 1 0) ≤ x3) → ((vp_in (39 + 13 * x3 + (0 : Int32)) 3315) ∧ (((3 < (M.1 1 (39 + 13 * x3 + (0 : Int32)).toNatClampNeg)) → (((x2 < (0 : Int32)) → (Ev LM (d + 2) mX11_fewest 6 [some (.ref 0), some (.int x3), some (.int 0), some (.int (x3 + 1)), none] [] M Q)) ∧ ((¬ x2 < (0 : Int32)) → (Ev LM (d + 2) mX11_fewest 6 [some (.ref 0), some (.int x1), some (.int x2), some (.int (x3 + 1)), none] [] M Q)))) ∧ ((¬ 3 < (M.1 1 (39 + 13 * x3 + (0 : Int32)).toNatClampNeg)) → ((wm M x3) ∧ (∃ Q2 : Option Value → ev_Mem → Prop, Cl LM (d + 1) mX11_mayBeLost [.ref 0] M Q2 ∧ ∀ (zr : Option Value) (zM : ev_Mem), Q2 zr zM → Ev LM (d + 2) mX11_fewest 35 [some (.ref 0), some (.int x1), some (.int x2), some (.int x3), none] (zr.toList ++ [(.int (ltM M x3))]) zM Q)))))))) : Ev LM (d + 2) mX11_fewest 6 [some (.ref 0), some (.int x1), some (.int x2), some (.int x3), none] [] M Q := by
  refine ev_iload_n dX11_fewest_6 rfl ?_
  refine ev_aload_n dX11_fewest_7 rfl ?_
  refine ev_getA dX11_fewest_8 fl_WithoutEModel_7 lm_0 rfl ?_
  refine ev_iconst (v := 0) dX11_fewest_11 (by decide) ?_
  refine ev_iaN (j := 0) dX11_fewest_12 lm_1 (by decide) (by decide) ?_
  refine ev_icmp_ge (tgt := 65) dX11_fewest_13 (by decide) (fun c => ?_) (fun c => ?_)
  · replace h := h.1 c
    refine ev_iload_n dX11_fewest_65 rfl ?_
    exact ev_iret dX11_fewest_66 rfl h
  · replace h := h.2 c
    refine ev_aload_n dX11_fewest_16 rfl ?_
    refine ev_iload_n dX11_fewest_17 rfl ?_
    refine ev_iconst (v := 0) dX11_fewest_18 (by decide) ?_
    obtain ⟨p1, h⟩ := h
    refine ev_callV [.int x3, .int 0] dX11_fewest_19 ml_WithoutEModel_92 lm_0 rfl rfl (Nat.le_of_ble_eq_true rfl) (kX11_get p1) ?_
    rintro zr zM ⟨q1, q2⟩
    rw [q1, q2]
    show Ev LM (d + 2) mX11_fewest 22 [some (.ref 0), some (.int x1), some (.int x2), some (.int x3), none] [(.int (M.1 1 (39 + 13 * x3 + (0 : Int32)).toNatClampNeg))] M Q
    refine ev_iconst (v := 3) dX11_fewest_22 (by decide) ?_
    refine ev_icmp_gt (tgt := 42) dX11_fewest_23 (by decide) (fun c => ?_) (fun c => ?_)
    · replace h := h.1 c
      refine ev_iconst (v := 0) dX11_fewest_42 (by decide) ?_
      refine ev_istore (ls2 := [some (.ref 0), some (.int x1), some (.int x2), some (.int x3), some (.int 0)]) dX11_fewest_43 (Nat.le_of_ble_eq_true rfl) rfl ?_
      refine ev_iload dX11_fewest_45 rfl ?_
      refine ev_iload_n dX11_fewest_47 rfl ?_
      refine ev_icmp_gt (tgt := 54) dX11_fewest_48 (by decide) (fun c => ?_) (fun c => ?_)
      · replace h := h.1 c
        refine ev_iload dX11_fewest_54 rfl ?_
        refine ev_istore_n (ls2 := [some (.ref 0), some (.int x1), some (.int 0), some (.int x3), some (.int 0)]) dX11_fewest_56 (Nat.le_of_ble_eq_true rfl) rfl ?_
        refine ev_iload_n dX11_fewest_57 rfl ?_
        refine ev_istore_n (ls2 := [some (.ref 0), some (.int x3), some (.int 0), some (.int x3), some (.int 0)]) dX11_fewest_58 (Nat.le_of_ble_eq_true rfl) rfl ?_
        refine ev_iinc (v := x3 + 1) (ls2 := [some (.ref 0), some (.int x3), some (.int 0), some (.int (x3 + 1)), some (.int 0)]) dX11_fewest_59 rfl rfl rfl ?_
        refine ev_goto (tgt := 6) dX11_fewest_62 (by decide) ?_
        refine Ev.weak (ls := [some (.ref 0), some (.int x3), some (.int 0), some (.int (x3 + 1)), none]) ⟨rfl, rfl, rfl, rfl, trivial⟩ ?_
        exact h
      · replace h := h.2 c
        refine ev_goto (tgt := 59) dX11_fewest_51 (by decide) ?_
        refine ev_iinc (v := x3 + 1) (ls2 := [some (.ref 0), some (.int x1), some (.int x2), some (.int (x3 + 1)), some (.int 0)]) dX11_fewest_59 rfl rfl rfl ?_
        refine ev_goto (tgt := 6) dX11_fewest_62 (by decide) ?_
        refine Ev.weak (ls := [some (.ref 0), some (.int x1), some (.int x2), some (.int (x3 + 1)), none]) ⟨rfl, rfl, rfl, rfl, trivial⟩ ?_
        exact h
    · replace h := h.2 c
      refine ev_aload_n dX11_fewest_26 rfl ?_
      refine ev_iload_n dX11_fewest_27 rfl ?_
      obtain ⟨p1, h⟩ := h
      refine ev_callV [.int x3] dX11_fewest_28 ml_WithoutEModel_484 lm_0 rfl rfl (Nat.le_of_ble_eq_true rfl) (qX11_lettersOf p1) ?_
      rintro zr zM ⟨q1, q2⟩
      rw [q1, q2]
      show Ev LM (d + 2) mX11_fewest 31 [some (.ref 0), some (.int x1), some (.int x2), some (.int x3), none] [(.int (ltM M x3))] M Q
      refine ev_aload_n dX11_fewest_31 rfl ?_
      obtain ⟨Q2, hc, h⟩ := h
      refine ev_callV [] dX11_fewest_32 ml_WithoutEModel_487 lm_0 rfl rfl (Nat.le_of_ble_eq_true rfl) hc (fun zr zM q => ?_)
      exact h zr zM q
theorem gX11_fewest_35 {d : Nat} {M : ev_Mem} {Q : Option Value → ev_Mem → Prop} {x1 x2 x3 s0 s1 : Int32} (h : (((x2 < (bc (s1 &&& s0))) → (Ev LM (d + 1) mX11_fewest 6 [some (.ref 0), some (.int x3), some (.int (bc (s1 &&& s0))), some (.int (x3 + 1)), none] [] M Q)) ∧ ((¬ x2 < (bc (s1 &&& s0))) → (Ev LM (d + 1) mX11_fewest 6 [some (.ref 0), some (.int x1), some (.int x2), some (.int (x3 + 1)), none] [] M Q)))) : Ev LM (d + 1) mX11_fewest 35 [some (.ref 0), some (.int x1), some (.int x2), some (.int x3), none] [(.int s0), (.int s1)] M Q := by
  refine ev_iand dX11_fewest_35 ?_
  refine ev_callS [.int (s1 &&& s0)] dX11_fewest_36 ml_WithoutEModel_312 rfl (Nat.le_of_ble_eq_true rfl) (kX11_bits) ?_
  rintro zr zM ⟨q1, q2⟩
  rw [q1, q2]
  show Ev LM (d + 1) mX11_fewest 39 [some (.ref 0), some (.int x1), some (.int x2), some (.int x3), none] [(.int (bc (s1 &&& s0)))] M Q
  refine ev_goto (tgt := 43) dX11_fewest_39 (by decide) ?_
  refine ev_istore (ls2 := [some (.ref 0), some (.int x1), some (.int x2), some (.int x3), some (.int (bc (s1 &&& s0)))]) dX11_fewest_43 (Nat.le_of_ble_eq_true rfl) rfl ?_
  refine ev_iload dX11_fewest_45 rfl ?_
  refine ev_iload_n dX11_fewest_47 rfl ?_
  refine ev_icmp_gt (tgt := 54) dX11_fewest_48 (by decide) (fun c => ?_) (fun c => ?_)
  · replace h := h.1 c
    refine ev_iload dX11_fewest_54 rfl ?_
    refine ev_istore_n (ls2 := [some (.ref 0), some (.int x1), some (.int (bc (s1 &&& s0))), some (.int x3), some (.int (bc (s1 &&& s0)))]) dX11_fewest_56 (Nat.le_of_ble_eq_true rfl) rfl ?_
    refine ev_iload_n dX11_fewest_57 rfl ?_
    refine ev_istore_n (ls2 := [some (.ref 0), some (.int x3), some (.int (bc (s1 &&& s0))), some (.int x3), some (.int (bc (s1 &&& s0)))]) dX11_fewest_58 (Nat.le_of_ble_eq_true rfl) rfl ?_
    refine ev_iinc (v := x3 + 1) (ls2 := [some (.ref 0), some (.int x3), some (.int (bc (s1 &&& s0))), some (.int (x3 + 1)), some (.int (bc (s1 &&& s0)))]) dX11_fewest_59 rfl rfl rfl ?_
    refine ev_goto (tgt := 6) dX11_fewest_62 (by decide) ?_
    refine Ev.weak (ls := [some (.ref 0), some (.int x3), some (.int (bc (s1 &&& s0))), some (.int (x3 + 1)), none]) ⟨rfl, rfl, rfl, rfl, trivial⟩ ?_
    exact h
  · replace h := h.2 c
    refine ev_goto (tgt := 59) dX11_fewest_51 (by decide) ?_
    refine ev_iinc (v := x3 + 1) (ls2 := [some (.ref 0), some (.int x1), some (.int x2), some (.int (x3 + 1)), some (.int (bc (s1 &&& s0)))]) dX11_fewest_59 rfl rfl rfl ?_
    refine ev_goto (tgt := 6) dX11_fewest_62 (by decide) ?_
    refine Ev.weak (ls := [some (.ref 0), some (.int x1), some (.int x2), some (.int (x3 + 1)), none]) ⟨rfl, rfl, rfl, rfl, trivial⟩ ?_
    exact h
theorem dX11_lot_0 : decode cX11_lot 0 = .ok (.aload_n 0, 1) := by decide +kernel
theorem dX11_lot_1 : decode cX11_lot 1 = .ok (.iload_n 1, 1) := by decide +kernel
theorem dX11_lot_2 : decode cX11_lot 2 = .ok (.invokevirtual 337, 3) := by decide +kernel
theorem dX11_lot_5 : decode cX11_lot 5 = .ok (.ifCond .ne 5, 3) := by decide +kernel
theorem dX11_lot_8 : decode cX11_lot 8 = .ok (.iconst (-1), 1) := by decide +kernel
theorem dX11_lot_9 : decode cX11_lot 9 = .ok (.ireturn, 1) := by decide +kernel
theorem dX11_lot_10 : decode cX11_lot 10 = .ok (.iconst 0, 1) := by decide +kernel
theorem dX11_lot_11 : decode cX11_lot 11 = .ok (.istore_n 2, 1) := by decide +kernel
theorem dX11_lot_12 : decode cX11_lot 12 = .ok (.bipush 10, 2) := by decide +kernel
theorem dX11_lot_14 : decode cX11_lot 14 = .ok (.istore_n 3, 1) := by decide +kernel
theorem dX11_lot_15 : decode cX11_lot 15 = .ok (.iconst 0, 1) := by decide +kernel
theorem dX11_lot_16 : decode cX11_lot 16 = .ok (.istore 4, 2) := by decide +kernel
theorem dX11_lot_18 : decode cX11_lot 18 = .ok (.iload 4, 2) := by decide +kernel
theorem dX11_lot_20 : decode cX11_lot 20 = .ok (.bipush 26, 2) := by decide +kernel
theorem dX11_lot_22 : decode cX11_lot 22 = .ok (.if_icmp .ge 106, 3) := by decide +kernel
theorem dX11_lot_25 : decode cX11_lot 25 = .ok (.aload_n 0, 1) := by decide +kernel
theorem dX11_lot_26 : decode cX11_lot 26 = .ok (.iload_n 1, 1) := by decide +kernel
theorem dX11_lot_27 : decode cX11_lot 27 = .ok (.invokevirtual 484, 3) := by decide +kernel
theorem dX11_lot_30 : decode cX11_lot 30 = .ok (.iload 4, 2) := by decide +kernel
theorem dX11_lot_32 : decode cX11_lot 32 = .ok (.invokestatic 84, 3) := by decide +kernel
theorem dX11_lot_35 : decode cX11_lot 35 = .ok (.ifCond .eq 87, 3) := by decide +kernel
theorem dX11_lot_38 : decode cX11_lot 38 = .ok (.aload_n 0, 1) := by decide +kernel
theorem dX11_lot_39 : decode cX11_lot 39 = .ok (.iload 4, 2) := by decide +kernel
theorem dX11_lot_41 : decode cX11_lot 41 = .ok (.invokevirtual 88, 3) := by decide +kernel
theorem dX11_lot_44 : decode cX11_lot 44 = .ok (.ifCond .eq 78, 3) := by decide +kernel
theorem dX11_lot_47 : decode cX11_lot 47 = .ok (.aload_n 0, 1) := by decide +kernel
theorem dX11_lot_48 : decode cX11_lot 48 = .ok (.iload 4, 2) := by decide +kernel
theorem dX11_lot_50 : decode cX11_lot 50 = .ok (.invokevirtual 100, 3) := by decide +kernel
theorem dX11_lot_53 : decode cX11_lot 53 = .ok (.ifCond .eq 69, 3) := by decide +kernel
theorem dX11_lot_56 : decode cX11_lot 56 = .ok (.aload_n 0, 1) := by decide +kernel
theorem dX11_lot_57 : decode cX11_lot 57 = .ok (.getfield 7, 3) := by decide +kernel
theorem dX11_lot_60 : decode cX11_lot 60 = .ok (.sipush 399, 3) := by decide +kernel
theorem dX11_lot_63 : decode cX11_lot 63 = .ok (.iconst 2, 1) := by decide +kernel
theorem dX11_lot_64 : decode cX11_lot 64 = .ok (.iload 4, 2) := by decide +kernel
theorem dX11_lot_66 : decode cX11_lot 66 = .ok (.imul, 1) := by decide +kernel
theorem dX11_lot_67 : decode cX11_lot 67 = .ok (.iadd, 1) := by decide +kernel
theorem dX11_lot_68 : decode cX11_lot 68 = .ok (.iconst 1, 1) := by decide +kernel
theorem dX11_lot_69 : decode cX11_lot 69 = .ok (.iadd, 1) := by decide +kernel
theorem dX11_lot_70 : decode cX11_lot 70 = .ok (.iaload, 1) := by decide +kernel
theorem dX11_lot_71 : decode cX11_lot 71 = .ok (.iload_n 3, 1) := by decide +kernel
theorem dX11_lot_72 : decode cX11_lot 72 = .ok (.if_icmp .le 6, 3) := by decide +kernel
theorem dX11_lot_75 : decode cX11_lot 75 = .ok (.goto 47, 3) := by decide +kernel
theorem dX11_lot_78 : decode cX11_lot 78 = .ok (.aload_n 0, 1) := by decide +kernel
theorem dX11_lot_79 : decode cX11_lot 79 = .ok (.getfield 7, 3) := by decide +kernel
theorem dX11_lot_82 : decode cX11_lot 82 = .ok (.sipush 399, 3) := by decide +kernel
theorem dX11_lot_85 : decode cX11_lot 85 = .ok (.iconst 2, 1) := by decide +kernel
theorem dX11_lot_86 : decode cX11_lot 86 = .ok (.iload 4, 2) := by decide +kernel
theorem dX11_lot_88 : decode cX11_lot 88 = .ok (.imul, 1) := by decide +kernel
theorem dX11_lot_89 : decode cX11_lot 89 = .ok (.iadd, 1) := by decide +kernel
theorem dX11_lot_90 : decode cX11_lot 90 = .ok (.iconst 1, 1) := by decide +kernel
theorem dX11_lot_91 : decode cX11_lot 91 = .ok (.iadd, 1) := by decide +kernel
theorem dX11_lot_92 : decode cX11_lot 92 = .ok (.iaload, 1) := by decide +kernel
theorem dX11_lot_93 : decode cX11_lot 93 = .ok (.iload_n 3, 1) := by decide +kernel
theorem dX11_lot_94 : decode cX11_lot 94 = .ok (.if_icmp .ge 5, 3) := by decide +kernel
theorem dX11_lot_97 : decode cX11_lot 97 = .ok (.iconst 0, 1) := by decide +kernel
theorem dX11_lot_98 : decode cX11_lot 98 = .ok (.istore_n 2, 1) := by decide +kernel
theorem dX11_lot_99 : decode cX11_lot 99 = .ok (.aload_n 0, 1) := by decide +kernel
theorem dX11_lot_100 : decode cX11_lot 100 = .ok (.getfield 7, 3) := by decide +kernel
theorem dX11_lot_103 : decode cX11_lot 103 = .ok (.sipush 399, 3) := by decide +kernel
theorem dX11_lot_106 : decode cX11_lot 106 = .ok (.iconst 2, 1) := by decide +kernel
theorem dX11_lot_107 : decode cX11_lot 107 = .ok (.iload 4, 2) := by decide +kernel
theorem dX11_lot_109 : decode cX11_lot 109 = .ok (.imul, 1) := by decide +kernel
theorem dX11_lot_110 : decode cX11_lot 110 = .ok (.iadd, 1) := by decide +kernel
theorem dX11_lot_111 : decode cX11_lot 111 = .ok (.iconst 1, 1) := by decide +kernel
theorem dX11_lot_112 : decode cX11_lot 112 = .ok (.iadd, 1) := by decide +kernel
theorem dX11_lot_113 : decode cX11_lot 113 = .ok (.iaload, 1) := by decide +kernel
theorem dX11_lot_114 : decode cX11_lot 114 = .ok (.istore_n 3, 1) := by decide +kernel
theorem dX11_lot_115 : decode cX11_lot 115 = .ok (.iload_n 2, 1) := by decide +kernel
theorem dX11_lot_116 : decode cX11_lot 116 = .ok (.iconst 1, 1) := by decide +kernel
theorem dX11_lot_117 : decode cX11_lot 117 = .ok (.iload 4, 2) := by decide +kernel
theorem dX11_lot_119 : decode cX11_lot 119 = .ok (.ishl, 1) := by decide +kernel
theorem dX11_lot_120 : decode cX11_lot 120 = .ok (.ior, 1) := by decide +kernel
theorem dX11_lot_121 : decode cX11_lot 121 = .ok (.istore_n 2, 1) := by decide +kernel
theorem dX11_lot_122 : decode cX11_lot 122 = .ok (.iinc 4 1, 3) := by decide +kernel
theorem dX11_lot_125 : decode cX11_lot 125 = .ok (.goto (-107), 3) := by decide +kernel
theorem dX11_lot_128 : decode cX11_lot 128 = .ok (.iload_n 2, 1) := by decide +kernel
theorem dX11_lot_129 : decode cX11_lot 129 = .ok (.ifCond .ne 5, 3) := by decide +kernel
theorem dX11_lot_132 : decode cX11_lot 132 = .ok (.iconst (-1), 1) := by decide +kernel
theorem dX11_lot_133 : decode cX11_lot 133 = .ok (.ireturn, 1) := by decide +kernel
theorem dX11_lot_134 : decode cX11_lot 134 = .ok (.aload_n 0, 1) := by decide +kernel
theorem dX11_lot_135 : decode cX11_lot 135 = .ok (.getfield 7, 3) := by decide +kernel
theorem dX11_lot_138 : decode cX11_lot 138 = .ok (.bipush 11, 2) := by decide +kernel
theorem dX11_lot_140 : decode cX11_lot 140 = .ok (.iaload, 1) := by decide +kernel
theorem dX11_lot_141 : decode cX11_lot 141 = .ok (.iload_n 2, 1) := by decide +kernel
theorem dX11_lot_142 : decode cX11_lot 142 = .ok (.invokestatic 312, 3) := by decide +kernel
theorem dX11_lot_145 : decode cX11_lot 145 = .ok (.irem, 1) := by decide +kernel
theorem dX11_lot_146 : decode cX11_lot 146 = .ok (.istore 4, 2) := by decide +kernel
theorem dX11_lot_148 : decode cX11_lot 148 = .ok (.iconst 0, 1) := by decide +kernel
theorem dX11_lot_149 : decode cX11_lot 149 = .ok (.istore 5, 2) := by decide +kernel
theorem dX11_lot_151 : decode cX11_lot 151 = .ok (.iload_n 2, 1) := by decide +kernel
theorem dX11_lot_152 : decode cX11_lot 152 = .ok (.iload 5, 2) := by decide +kernel
theorem dX11_lot_154 : decode cX11_lot 154 = .ok (.invokestatic 84, 3) := by decide +kernel
theorem dX11_lot_157 : decode cX11_lot 157 = .ok (.ifCond .eq 8, 3) := by decide +kernel
theorem dX11_lot_160 : decode cX11_lot 160 = .ok (.iload 4, 2) := by decide +kernel
theorem dX11_lot_162 : decode cX11_lot 162 = .ok (.ifCond .le 28, 3) := by decide +kernel
theorem dX11_lot_165 : decode cX11_lot 165 = .ok (.iload 4, 2) := by decide +kernel
theorem dX11_lot_167 : decode cX11_lot 167 = .ok (.iload_n 2, 1) := by decide +kernel
theorem dX11_lot_168 : decode cX11_lot 168 = .ok (.iload 5, 2) := by decide +kernel
theorem dX11_lot_170 : decode cX11_lot 170 = .ok (.invokestatic 84, 3) := by decide +kernel
theorem dX11_lot_173 : decode cX11_lot 173 = .ok (.ifCond .eq 7, 3) := by decide +kernel
theorem dX11_lot_176 : decode cX11_lot 176 = .ok (.iconst 1, 1) := by decide +kernel
theorem dX11_lot_177 : decode cX11_lot 177 = .ok (.goto 4, 3) := by decide +kernel
theorem dX11_lot_180 : decode cX11_lot 180 = .ok (.iconst 0, 1) := by decide +kernel
theorem dX11_lot_181 : decode cX11_lot 181 = .ok (.isub, 1) := by decide +kernel
theorem dX11_lot_182 : decode cX11_lot 182 = .ok (.istore 4, 2) := by decide +kernel
theorem dX11_lot_184 : decode cX11_lot 184 = .ok (.iinc 5 1, 3) := by decide +kernel
theorem dX11_lot_187 : decode cX11_lot 187 = .ok (.goto (-36), 3) := by decide +kernel
theorem dX11_lot_190 : decode cX11_lot 190 = .ok (.iload 5, 2) := by decide +kernel
theorem dX11_lot_192 : decode cX11_lot 192 = .ok (.ireturn, 1) := by decide +kernel
theorem gX11_lot_0 {d : Nat} {M : ev_Mem} {Q : Option Value → ev_Mem → Prop} {x1 : Int32} (h : ((((iin x1 0 (M.1 1 0 - 1)) = true) → (Ev LM (d + 2) mX11_lot 18 [some (.ref 0), some (.int x1), some (.int 0), some (.int 10), some (.int 0), none] [] M Q)) ∧ (((iin x1 0 (M.1 1 0 - 1)) = false) → (Q (some (.int (-1))) M)))) : Ev LM (d + 2) mX11_lot 0 [some (.ref 0), some (.int x1), none, none, none, none] [] M Q := by
  refine ev_aload_n dX11_lot_0 rfl ?_
  refine ev_iload_n dX11_lot_1 rfl ?_
  refine ev_callV [.int x1] dX11_lot_2 ml_WithoutEModel_337 lm_0 rfl rfl (Nat.le_of_ble_eq_true rfl) (kX11_isWordOf) ?_
  rintro zr zM ⟨q1, q2⟩
  rw [q1, q2]
  show Ev LM (d + 2) mX11_lot 5 [some (.ref 0), some (.int x1), none, none, none, none] [(.int (bi (iin x1 0 (M.1 1 0 - 1))))] M Q
  refine ev_if_ne (tgt := 10) dX11_lot_5 (by decide) (fun c => ?_) (fun c => ?_)
  · replace h := h.1 ((bi_n0 _).mp c)
    refine ev_iconst (v := 0) dX11_lot_10 (by decide) ?_
    refine ev_istore_n (ls2 := [some (.ref 0), some (.int x1), some (.int 0), none, none, none]) dX11_lot_11 (Nat.le_of_ble_eq_true rfl) rfl ?_
    refine ev_bipush (v := 10) dX11_lot_12 (by decide) ?_
    refine ev_istore_n (ls2 := [some (.ref 0), some (.int x1), some (.int 0), some (.int 10), none, none]) dX11_lot_14 (Nat.le_of_ble_eq_true rfl) rfl ?_
    refine ev_iconst (v := 0) dX11_lot_15 (by decide) ?_
    refine ev_istore (ls2 := [some (.ref 0), some (.int x1), some (.int 0), some (.int 10), some (.int 0), none]) dX11_lot_16 (Nat.le_of_ble_eq_true rfl) rfl ?_
    exact h
  · replace h := h.2 ((bi_0 _).mp c)
    refine ev_iconst (v := -1) dX11_lot_8 (by decide) ?_
    exact ev_iret dX11_lot_9 rfl h
theorem gX11_lot_18 {d : Nat} {M : ev_Mem} {Q : Option Value → ev_Mem → Prop} {x1 x2 x3 x4 : Int32} (h : (((26 ≤ x4) → (((¬ x2 = 0) → (¬ (bc x2 : Int32) = 0 ∧ (∀ v1 : Int32, v1 = (M.1 1 11) - (M.1 1 11) / (bc x2) * (bc x2) → (Ev LM (d + 3) mX11_lot 151 [none, none, some (.int x2), none, some (.int v1), some (.int 0)] [] M Q)))) ∧ ((x2 = 0) → (Q (some (.int (-1))) M)))) ∧ ((¬ 26 ≤ x4) → ((wm M x1) ∧ ((((hs (ltM M x1) x4) = false) → (Ev LM (d + 3) mX11_lot 18 [some (.ref 0), some (.int x1), some (.int x2), some (.int x3), some (.int (x4 + 1)), none] [] M Q)) ∧ (((hs (ltM M x1) x4) = true) → ((((hs (M.1 1 9) x4) = false) → (Ev LM (d + 3) mX11_lot 18 [some (.ref 0), some (.int x1), some (.int x2), some (.int x3), some (.int (x4 + 1)), none] [] M Q)) ∧ (((hs (M.1 1 9) x4) = true) → ((vp_in (399 + 2 * x4) 3315) ∧ ((((mdl (M.1 1 9) (M.1 1 (399 + 2 * x4).toNatClampNeg)) = false) → (Ev LM (d + 3) mX11_lot 18 [some (.ref 0), some (.int x1), some (.int x2), some (.int x3), some (.int (x4 + 1)), none] [] M Q)) ∧ (((mdl (M.1 1 9) (M.1 1 (399 + 2 * x4).toNatClampNeg)) = true) → (vp_in ((399 + (2 * x4)) + 1) 3315 ∧ ((((M.1 1 ((399 + (2 * x4)) + 1).toNatClampNeg) ≤ x3) → (vp_in ((399 + (2 * x4)) + 1) 3315 ∧ (((x3 ≤ (M.1 1 ((399 + (2 * x4)) + 1).toNatClampNeg)) → (vp_in ((399 + (2 * x4)) + 1) 3315 ∧ (∀ v2 : Int32, v2 = M.1 1 ((399 + (2 * x4)) + 1).toNatClampNeg → (∀ v3 : Int32, v3 = x2 ||| (1 <<< (x4 &&& 31)) → (Ev LM (d + 3) mX11_lot 18 [some (.ref 0), some (.int x1), some (.int v3), some (.int v2), some (.int (x4 + 1)), none] [] M Q))))) ∧ ((¬ x3 ≤ (M.1 1 ((399 + (2 * x4)) + 1).toNatClampNeg)) → (vp_in ((399 + (2 * x4)) + 1) 3315 ∧ (∀ v4 : Int32, v4 = M.1 1 ((399 + (2 * x4)) + 1).toNatClampNeg → (∀ v5 : Int32, v5 = (0 : Int32) ||| (1 <<< (x4 &&& 31)) → (Ev LM (d + 3) mX11_lot 18 [some (.ref 0), some (.int x1), some (.int v5), some (.int v4), some (.int (x4 + 1)), none] [] M Q)))))))) ∧ ((¬ (M.1 1 ((399 + (2 * x4)) + 1).toNatClampNeg) ≤ x3) → (Ev LM (d + 3) mX11_lot 18 [some (.ref 0), some (.int x1), some (.int x2), some (.int x3), some (.int (x4 + 1)), none] [] M Q))))))))))))))) : Ev LM (d + 3) mX11_lot 18 [some (.ref 0), some (.int x1), some (.int x2), some (.int x3), some (.int x4), none] [] M Q := by
  refine ev_iload dX11_lot_18 rfl ?_
  refine ev_bipush (v := 26) dX11_lot_20 (by decide) ?_
  refine ev_icmp_ge (tgt := 128) dX11_lot_22 (by decide) (fun c => ?_) (fun c => ?_)
  · replace h := h.1 c
    refine ev_iload_n dX11_lot_128 rfl ?_
    refine ev_if_ne (tgt := 134) dX11_lot_129 (by decide) (fun c => ?_) (fun c => ?_)
    · replace h := h.1 c
      refine ev_aload_n dX11_lot_134 rfl ?_
      refine ev_getA dX11_lot_135 fl_WithoutEModel_7 lm_0 rfl ?_
      refine ev_bipush (v := 11) dX11_lot_138 (by decide) ?_
      refine ev_iaN (j := 11) dX11_lot_140 lm_1 (by decide) (by decide) ?_
      refine ev_iload_n dX11_lot_141 rfl ?_
      refine ev_callS [.int x2] dX11_lot_142 ml_WithoutEModel_312 rfl (Nat.le_of_ble_eq_true rfl) (kX11_bits) ?_
      rintro zr zM ⟨q1, q2⟩
      rw [q1, q2]
      show Ev LM (d + 3) mX11_lot 145 [some (.ref 0), some (.int x1), some (.int x2), some (.int x3), some (.int x4), none] [(.int (bc x2)), (.int (M.1 1 11))] M Q
      obtain ⟨c, h⟩ := h
      refine ev_irem dX11_lot_145 c ?_
      refine ev_istore (ls2 := [some (.ref 0), some (.int x1), some (.int x2), some (.int x3), some (.int ((M.1 1 11) - (M.1 1 11) / (bc x2) * (bc x2))), none]) dX11_lot_146 (Nat.le_of_ble_eq_true rfl) rfl ?_
      generalize ev1 : (M.1 1 11) - (M.1 1 11) / (bc x2) * (bc x2) = v1
      replace h := h v1 ev1.symm
      refine ev_iconst (v := 0) dX11_lot_148 (by decide) ?_
      refine ev_istore (ls2 := [some (.ref 0), some (.int x1), some (.int x2), some (.int x3), some (.int v1), some (.int 0)]) dX11_lot_149 (Nat.le_of_ble_eq_true rfl) rfl ?_
      refine Ev.weak (ls := [none, none, some (.int x2), none, some (.int v1), some (.int 0)]) ⟨rfl, rfl, rfl, trivial⟩ ?_
      exact h
    · replace h := h.2 c
      refine ev_iconst (v := -1) dX11_lot_132 (by decide) ?_
      exact ev_iret dX11_lot_133 rfl h
  · replace h := h.2 c
    refine ev_aload_n dX11_lot_25 rfl ?_
    refine ev_iload_n dX11_lot_26 rfl ?_
    obtain ⟨p1, h⟩ := h
    refine ev_callV [.int x1] dX11_lot_27 ml_WithoutEModel_484 lm_0 rfl rfl (Nat.le_of_ble_eq_true rfl) (qX11_lettersOf p1) ?_
    rintro zr zM ⟨q1, q2⟩
    rw [q1, q2]
    show Ev LM (d + 3) mX11_lot 30 [some (.ref 0), some (.int x1), some (.int x2), some (.int x3), some (.int x4), none] [(.int (ltM M x1))] M Q
    refine ev_iload dX11_lot_30 rfl ?_
    refine ev_callS [.int (ltM M x1), .int x4] dX11_lot_32 ml_WithoutEModel_84 rfl (Nat.le_of_ble_eq_true rfl) (kX11_has) ?_
    rintro zr zM ⟨q1, q2⟩
    rw [q1, q2]
    show Ev LM (d + 3) mX11_lot 35 [some (.ref 0), some (.int x1), some (.int x2), some (.int x3), some (.int x4), none] [(.int (bi (hs (ltM M x1) x4)))] M Q
    refine ev_if_eq (tgt := 122) dX11_lot_35 (by decide) (fun c => ?_) (fun c => ?_)
    · replace h := h.1 ((bi_0 _).mp c)
      refine ev_iinc (v := x4 + 1) (ls2 := [some (.ref 0), some (.int x1), some (.int x2), some (.int x3), some (.int (x4 + 1)), none]) dX11_lot_122 rfl rfl rfl ?_
      refine ev_goto (tgt := 18) dX11_lot_125 (by decide) ?_
      exact h
    · replace h := h.2 ((bi_n0 _).mp c)
      refine ev_aload_n dX11_lot_38 rfl ?_
      refine ev_iload dX11_lot_39 rfl ?_
      refine ev_callV [.int x4] dX11_lot_41 ml_WithoutEModel_88 lm_0 rfl rfl (Nat.le_of_ble_eq_true rfl) (kX11_isLost) ?_
      rintro zr zM ⟨q1, q2⟩
      rw [q1, q2]
      show Ev LM (d + 3) mX11_lot 44 [some (.ref 0), some (.int x1), some (.int x2), some (.int x3), some (.int x4), none] [(.int (bi (hs (M.1 1 9) x4)))] M Q
      refine ev_if_eq (tgt := 122) dX11_lot_44 (by decide) (fun c => ?_) (fun c => ?_)
      · replace h := h.1 ((bi_0 _).mp c)
        refine ev_iinc (v := x4 + 1) (ls2 := [some (.ref 0), some (.int x1), some (.int x2), some (.int x3), some (.int (x4 + 1)), none]) dX11_lot_122 rfl rfl rfl ?_
        refine ev_goto (tgt := 18) dX11_lot_125 (by decide) ?_
        exact h
      · replace h := h.2 ((bi_n0 _).mp c)
        refine ev_aload_n dX11_lot_47 rfl ?_
        refine ev_iload dX11_lot_48 rfl ?_
        obtain ⟨p1, h⟩ := h
        refine ev_callV [.int x4] dX11_lot_50 ml_WithoutEModel_100 lm_0 rfl rfl (Nat.le_of_ble_eq_true rfl) (kX11_isMadeOfLeft p1) ?_
        rintro zr zM ⟨q1, q2⟩
        rw [q1, q2]
        show Ev LM (d + 3) mX11_lot 53 [some (.ref 0), some (.int x1), some (.int x2), some (.int x3), some (.int x4), none] [(.int (bi (mdl (M.1 1 9) (M.1 1 (399 + 2 * x4).toNatClampNeg))))] M Q
        refine ev_if_eq (tgt := 122) dX11_lot_53 (by decide) (fun c => ?_) (fun c => ?_)
        · replace h := h.1 ((bi_0 _).mp c)
          refine ev_iinc (v := x4 + 1) (ls2 := [some (.ref 0), some (.int x1), some (.int x2), some (.int x3), some (.int (x4 + 1)), none]) dX11_lot_122 rfl rfl rfl ?_
          refine ev_goto (tgt := 18) dX11_lot_125 (by decide) ?_
          exact h
        · replace h := h.2 ((bi_n0 _).mp c)
          refine ev_aload_n dX11_lot_56 rfl ?_
          refine ev_getA dX11_lot_57 fl_WithoutEModel_7 lm_0 rfl ?_
          refine ev_sipush (v := 399) dX11_lot_60 (by decide) ?_
          refine ev_iconst (v := 2) dX11_lot_63 (by decide) ?_
          refine ev_iload dX11_lot_64 rfl ?_
          refine ev_imul dX11_lot_66 ?_
          refine ev_iadd dX11_lot_67 ?_
          refine ev_iconst (v := 1) dX11_lot_68 (by decide) ?_
          refine ev_iadd dX11_lot_69 ?_
          obtain ⟨c, h⟩ := h
          refine ev_iald dX11_lot_70 lm_1 c ?_
          refine ev_iload_n dX11_lot_71 rfl ?_
          refine ev_icmp_le (tgt := 78) dX11_lot_72 (by decide) (fun c => ?_) (fun c => ?_)
          · replace h := h.1 c
            refine ev_aload_n dX11_lot_78 rfl ?_
            refine ev_getA dX11_lot_79 fl_WithoutEModel_7 lm_0 rfl ?_
            refine ev_sipush (v := 399) dX11_lot_82 (by decide) ?_
            refine ev_iconst (v := 2) dX11_lot_85 (by decide) ?_
            refine ev_iload dX11_lot_86 rfl ?_
            refine ev_imul dX11_lot_88 ?_
            refine ev_iadd dX11_lot_89 ?_
            refine ev_iconst (v := 1) dX11_lot_90 (by decide) ?_
            refine ev_iadd dX11_lot_91 ?_
            obtain ⟨c, h⟩ := h
            refine ev_iald dX11_lot_92 lm_1 c ?_
            refine ev_iload_n dX11_lot_93 rfl ?_
            refine ev_icmp_ge (tgt := 99) dX11_lot_94 (by decide) (fun c => ?_) (fun c => ?_)
            · replace h := h.1 c
              refine ev_aload_n dX11_lot_99 rfl ?_
              refine ev_getA dX11_lot_100 fl_WithoutEModel_7 lm_0 rfl ?_
              refine ev_sipush (v := 399) dX11_lot_103 (by decide) ?_
              refine ev_iconst (v := 2) dX11_lot_106 (by decide) ?_
              refine ev_iload dX11_lot_107 rfl ?_
              refine ev_imul dX11_lot_109 ?_
              refine ev_iadd dX11_lot_110 ?_
              refine ev_iconst (v := 1) dX11_lot_111 (by decide) ?_
              refine ev_iadd dX11_lot_112 ?_
              obtain ⟨c, h⟩ := h
              refine ev_iald dX11_lot_113 lm_1 c ?_
              refine ev_istore_n (ls2 := [some (.ref 0), some (.int x1), some (.int x2), some (.int (M.1 1 ((399 + (2 * x4)) + 1).toNatClampNeg)), some (.int x4), none]) dX11_lot_114 (Nat.le_of_ble_eq_true rfl) rfl ?_
              generalize ev2 : M.1 1 ((399 + (2 * x4)) + 1).toNatClampNeg = v2
              replace h := h v2 ev2.symm
              refine ev_iload_n dX11_lot_115 rfl ?_
              refine ev_iconst (v := 1) dX11_lot_116 (by decide) ?_
              refine ev_iload dX11_lot_117 rfl ?_
              refine ev_ishl dX11_lot_119 ?_
              refine ev_ior dX11_lot_120 ?_
              refine ev_istore_n (ls2 := [some (.ref 0), some (.int x1), some (.int (x2 ||| (1 <<< (x4 &&& 31)))), some (.int v2), some (.int x4), none]) dX11_lot_121 (Nat.le_of_ble_eq_true rfl) rfl ?_
              generalize ev3 : x2 ||| (1 <<< (x4 &&& 31)) = v3
              replace h := h v3 ev3.symm
              refine ev_iinc (v := x4 + 1) (ls2 := [some (.ref 0), some (.int x1), some (.int v3), some (.int v2), some (.int (x4 + 1)), none]) dX11_lot_122 rfl rfl rfl ?_
              refine ev_goto (tgt := 18) dX11_lot_125 (by decide) ?_
              exact h
            · replace h := h.2 c
              refine ev_iconst (v := 0) dX11_lot_97 (by decide) ?_
              refine ev_istore_n (ls2 := [some (.ref 0), some (.int x1), some (.int 0), some (.int x3), some (.int x4), none]) dX11_lot_98 (Nat.le_of_ble_eq_true rfl) rfl ?_
              refine ev_aload_n dX11_lot_99 rfl ?_
              refine ev_getA dX11_lot_100 fl_WithoutEModel_7 lm_0 rfl ?_
              refine ev_sipush (v := 399) dX11_lot_103 (by decide) ?_
              refine ev_iconst (v := 2) dX11_lot_106 (by decide) ?_
              refine ev_iload dX11_lot_107 rfl ?_
              refine ev_imul dX11_lot_109 ?_
              refine ev_iadd dX11_lot_110 ?_
              refine ev_iconst (v := 1) dX11_lot_111 (by decide) ?_
              refine ev_iadd dX11_lot_112 ?_
              obtain ⟨c, h⟩ := h
              refine ev_iald dX11_lot_113 lm_1 c ?_
              refine ev_istore_n (ls2 := [some (.ref 0), some (.int x1), some (.int 0), some (.int (M.1 1 ((399 + (2 * x4)) + 1).toNatClampNeg)), some (.int x4), none]) dX11_lot_114 (Nat.le_of_ble_eq_true rfl) rfl ?_
              generalize ev4 : M.1 1 ((399 + (2 * x4)) + 1).toNatClampNeg = v4
              replace h := h v4 ev4.symm
              refine ev_iload_n dX11_lot_115 rfl ?_
              refine ev_iconst (v := 1) dX11_lot_116 (by decide) ?_
              refine ev_iload dX11_lot_117 rfl ?_
              refine ev_ishl dX11_lot_119 ?_
              refine ev_ior dX11_lot_120 ?_
              refine ev_istore_n (ls2 := [some (.ref 0), some (.int x1), some (.int ((0 : Int32) ||| (1 <<< (x4 &&& 31)))), some (.int v4), some (.int x4), none]) dX11_lot_121 (Nat.le_of_ble_eq_true rfl) rfl ?_
              generalize ev5 : (0 : Int32) ||| (1 <<< (x4 &&& 31)) = v5
              replace h := h v5 ev5.symm
              refine ev_iinc (v := x4 + 1) (ls2 := [some (.ref 0), some (.int x1), some (.int v5), some (.int v4), some (.int (x4 + 1)), none]) dX11_lot_122 rfl rfl rfl ?_
              refine ev_goto (tgt := 18) dX11_lot_125 (by decide) ?_
              exact h
          · replace h := h.2 c
            refine ev_goto (tgt := 122) dX11_lot_75 (by decide) ?_
            refine ev_iinc (v := x4 + 1) (ls2 := [some (.ref 0), some (.int x1), some (.int x2), some (.int x3), some (.int (x4 + 1)), none]) dX11_lot_122 rfl rfl rfl ?_
            refine ev_goto (tgt := 18) dX11_lot_125 (by decide) ?_
            exact h
theorem gX11_lot_151 {d : Nat} {M : ev_Mem} {Q : Option Value → ev_Mem → Prop} {x2 x4 x5 : Int32} (h : ((((hs x2 x5) = false) → ((((hs x2 x5) = false) → (Ev LM (d + 1) mX11_lot 151 [none, none, some (.int x2), none, some (.int (x4 - 0)), some (.int (x5 + 1))] [] M Q)) ∧ (((hs x2 x5) = true) → (Ev LM (d + 1) mX11_lot 151 [none, none, some (.int x2), none, some (.int (x4 - 1)), some (.int (x5 + 1))] [] M Q)))) ∧ (((hs x2 x5) = true) → (((x4 ≤ 0) → (Q (some (.int x5)) M)) ∧ ((¬ x4 ≤ 0) → ((((hs x2 x5) = false) → (Ev LM (d + 1) mX11_lot 151 [none, none, some (.int x2), none, some (.int (x4 - 0)), some (.int (x5 + 1))] [] M Q)) ∧ (((hs x2 x5) = true) → (Ev LM (d + 1) mX11_lot 151 [none, none, some (.int x2), none, some (.int (x4 - 1)), some (.int (x5 + 1))] [] M Q)))))))) : Ev LM (d + 1) mX11_lot 151 [none, none, some (.int x2), none, some (.int x4), some (.int x5)] [] M Q := by
  refine ev_iload_n dX11_lot_151 rfl ?_
  refine ev_iload dX11_lot_152 rfl ?_
  refine ev_callS [.int x2, .int x5] dX11_lot_154 ml_WithoutEModel_84 rfl (Nat.le_of_ble_eq_true rfl) (kX11_has) ?_
  rintro zr zM ⟨q1, q2⟩
  rw [q1, q2]
  show Ev LM (d + 1) mX11_lot 157 [none, none, some (.int x2), none, some (.int x4), some (.int x5)] [(.int (bi (hs x2 x5)))] M Q
  refine ev_if_eq (tgt := 165) dX11_lot_157 (by decide) (fun c => ?_) (fun c => ?_)
  · replace h := h.1 ((bi_0 _).mp c)
    refine ev_iload dX11_lot_165 rfl ?_
    refine ev_iload_n dX11_lot_167 rfl ?_
    refine ev_iload dX11_lot_168 rfl ?_
    refine ev_callS [.int x2, .int x5] dX11_lot_170 ml_WithoutEModel_84 rfl (Nat.le_of_ble_eq_true rfl) (kX11_has) ?_
    rintro zr zM ⟨q1, q2⟩
    rw [q1, q2]
    show Ev LM (d + 1) mX11_lot 173 [none, none, some (.int x2), none, some (.int x4), some (.int x5)] [(.int (bi (hs x2 x5))), (.int x4)] M Q
    refine ev_if_eq (tgt := 180) dX11_lot_173 (by decide) (fun c => ?_) (fun c => ?_)
    · replace h := h.1 ((bi_0 _).mp c)
      refine ev_iconst (v := 0) dX11_lot_180 (by decide) ?_
      refine ev_isub dX11_lot_181 ?_
      refine ev_istore (ls2 := [none, none, some (.int x2), none, some (.int (x4 - 0)), some (.int x5)]) dX11_lot_182 (Nat.le_of_ble_eq_true rfl) rfl ?_
      refine ev_iinc (v := x5 + 1) (ls2 := [none, none, some (.int x2), none, some (.int (x4 - 0)), some (.int (x5 + 1))]) dX11_lot_184 rfl rfl rfl ?_
      refine ev_goto (tgt := 151) dX11_lot_187 (by decide) ?_
      exact h
    · replace h := h.2 ((bi_n0 _).mp c)
      refine ev_iconst (v := 1) dX11_lot_176 (by decide) ?_
      refine ev_goto (tgt := 181) dX11_lot_177 (by decide) ?_
      refine ev_isub dX11_lot_181 ?_
      refine ev_istore (ls2 := [none, none, some (.int x2), none, some (.int (x4 - 1)), some (.int x5)]) dX11_lot_182 (Nat.le_of_ble_eq_true rfl) rfl ?_
      refine ev_iinc (v := x5 + 1) (ls2 := [none, none, some (.int x2), none, some (.int (x4 - 1)), some (.int (x5 + 1))]) dX11_lot_184 rfl rfl rfl ?_
      refine ev_goto (tgt := 151) dX11_lot_187 (by decide) ?_
      exact h
  · replace h := h.2 ((bi_n0 _).mp c)
    refine ev_iload dX11_lot_160 rfl ?_
    refine ev_if_le (tgt := 190) dX11_lot_162 (by decide) (fun c => ?_) (fun c => ?_)
    · replace h := h.1 c
      refine ev_iload dX11_lot_190 rfl ?_
      exact ev_iret dX11_lot_192 rfl h
    · replace h := h.2 c
      refine ev_iload dX11_lot_165 rfl ?_
      refine ev_iload_n dX11_lot_167 rfl ?_
      refine ev_iload dX11_lot_168 rfl ?_
      refine ev_callS [.int x2, .int x5] dX11_lot_170 ml_WithoutEModel_84 rfl (Nat.le_of_ble_eq_true rfl) (kX11_has) ?_
      rintro zr zM ⟨q1, q2⟩
      rw [q1, q2]
      show Ev LM (d + 1) mX11_lot 173 [none, none, some (.int x2), none, some (.int x4), some (.int x5)] [(.int (bi (hs x2 x5))), (.int x4)] M Q
      refine ev_if_eq (tgt := 180) dX11_lot_173 (by decide) (fun c => ?_) (fun c => ?_)
      · replace h := h.1 ((bi_0 _).mp c)
        refine ev_iconst (v := 0) dX11_lot_180 (by decide) ?_
        refine ev_isub dX11_lot_181 ?_
        refine ev_istore (ls2 := [none, none, some (.int x2), none, some (.int (x4 - 0)), some (.int x5)]) dX11_lot_182 (Nat.le_of_ble_eq_true rfl) rfl ?_
        refine ev_iinc (v := x5 + 1) (ls2 := [none, none, some (.int x2), none, some (.int (x4 - 0)), some (.int (x5 + 1))]) dX11_lot_184 rfl rfl rfl ?_
        refine ev_goto (tgt := 151) dX11_lot_187 (by decide) ?_
        exact h
      · replace h := h.2 ((bi_n0 _).mp c)
        refine ev_iconst (v := 1) dX11_lot_176 (by decide) ?_
        refine ev_goto (tgt := 181) dX11_lot_177 (by decide) ?_
        refine ev_isub dX11_lot_181 ?_
        refine ev_istore (ls2 := [none, none, some (.int x2), none, some (.int (x4 - 1)), some (.int x5)]) dX11_lot_182 (Nat.le_of_ble_eq_true rfl) rfl ?_
        refine ev_iinc (v := x5 + 1) (ls2 := [none, none, some (.int x2), none, some (.int (x4 - 1)), some (.int (x5 + 1))]) dX11_lot_184 rfl rfl rfl ?_
        refine ev_goto (tgt := 151) dX11_lot_187 (by decide) ?_
        exact h
theorem dX11_report_0 : decode cX11_report 0 = .ok (.aload_n 0, 1) := by decide +kernel
theorem dX11_report_1 : decode cX11_report 1 = .ok (.getfield 103, 3) := by decide +kernel
theorem dX11_report_4 : decode cX11_report 4 = .ok (.iconst 1, 1) := by decide +kernel
theorem dX11_report_5 : decode cX11_report 5 = .ok (.bipush 9, 2) := by decide +kernel
theorem dX11_report_7 : decode cX11_report 7 = .ok (.invokestatic 80, 3) := by decide +kernel
theorem dX11_report_10 : decode cX11_report 10 = .ok (.istore_n 1, 1) := by decide +kernel
theorem dX11_report_11 : decode cX11_report 11 = .ok (.iconst 0, 1) := by decide +kernel
theorem dX11_report_12 : decode cX11_report 12 = .ok (.istore_n 2, 1) := by decide +kernel
theorem dX11_report_13 : decode cX11_report 13 = .ok (.iload_n 2, 1) := by decide +kernel
theorem dX11_report_14 : decode cX11_report 14 = .ok (.aload_n 0, 1) := by decide +kernel
theorem dX11_report_15 : decode cX11_report 15 = .ok (.getfield 103, 3) := by decide +kernel
theorem dX11_report_18 : decode cX11_report 18 = .ok (.if_icmp .ge 44, 3) := by decide +kernel
theorem dX11_report_21 : decode cX11_report 21 = .ok (.iload_n 1, 1) := by decide +kernel
theorem dX11_report_22 : decode cX11_report 22 = .ok (.ifCond .eq 32, 3) := by decide +kernel
theorem dX11_report_25 : decode cX11_report 25 = .ok (.aload_n 0, 1) := by decide +kernel
theorem dX11_report_26 : decode cX11_report 26 = .ok (.iload_n 2, 1) := by decide +kernel
theorem dX11_report_27 : decode cX11_report 27 = .ok (.invokevirtual 113, 3) := by decide +kernel
theorem dX11_report_30 : decode cX11_report 30 = .ok (.bipush 97, 2) := by decide +kernel
theorem dX11_report_32 : decode cX11_report 32 = .ok (.bipush 122, 2) := by decide +kernel
theorem dX11_report_34 : decode cX11_report 34 = .ok (.invokestatic 80, 3) := by decide +kernel
theorem dX11_report_37 : decode cX11_report 37 = .ok (.ifCond .ne 13, 3) := by decide +kernel
theorem dX11_report_40 : decode cX11_report 40 = .ok (.aload_n 0, 1) := by decide +kernel
theorem dX11_report_41 : decode cX11_report 41 = .ok (.iload_n 2, 1) := by decide +kernel
theorem dX11_report_42 : decode cX11_report 42 = .ok (.invokevirtual 113, 3) := by decide +kernel
theorem dX11_report_45 : decode cX11_report 45 = .ok (.bipush 45, 2) := by decide +kernel
theorem dX11_report_47 : decode cX11_report 47 = .ok (.if_icmp .ne 7, 3) := by decide +kernel
theorem dX11_report_50 : decode cX11_report 50 = .ok (.iconst 1, 1) := by decide +kernel
theorem dX11_report_51 : decode cX11_report 51 = .ok (.goto 4, 3) := by decide +kernel
theorem dX11_report_54 : decode cX11_report 54 = .ok (.iconst 0, 1) := by decide +kernel
theorem dX11_report_55 : decode cX11_report 55 = .ok (.istore_n 1, 1) := by decide +kernel
theorem dX11_report_56 : decode cX11_report 56 = .ok (.iinc 2 1, 3) := by decide +kernel
theorem dX11_report_59 : decode cX11_report 59 = .ok (.goto (-46), 3) := by decide +kernel
theorem dX11_report_62 : decode cX11_report 62 = .ok (.iload_n 1, 1) := by decide +kernel
theorem dX11_report_63 : decode cX11_report 63 = .ok (.ifCond .ne 9, 3) := by decide +kernel
theorem dX11_report_66 : decode cX11_report 66 = .ok (.aload_n 0, 1) := by decide +kernel
theorem dX11_report_67 : decode cX11_report 67 = .ok (.iconst 0, 1) := by decide +kernel
theorem dX11_report_68 : decode cX11_report 68 = .ok (.invokevirtual 331, 3) := by decide +kernel
theorem dX11_report_71 : decode cX11_report 71 = .ok (.ireturn, 1) := by decide +kernel
theorem dX11_report_72 : decode cX11_report 72 = .ok (.aload_n 0, 1) := by decide +kernel
theorem dX11_report_73 : decode cX11_report 73 = .ok (.getfield 7, 3) := by decide +kernel
theorem dX11_report_76 : decode cX11_report 76 = .ok (.bipush 6, 2) := by decide +kernel
theorem dX11_report_78 : decode cX11_report 78 = .ok (.iaload, 1) := by decide +kernel
theorem dX11_report_79 : decode cX11_report 79 = .ok (.iconst 5, 1) := by decide +kernel
theorem dX11_report_80 : decode cX11_report 80 = .ok (.if_icmp .ne 9, 3) := by decide +kernel
theorem dX11_report_83 : decode cX11_report 83 = .ok (.aload_n 0, 1) := by decide +kernel
theorem dX11_report_84 : decode cX11_report 84 = .ok (.iconst 1, 1) := by decide +kernel
theorem dX11_report_85 : decode cX11_report 85 = .ok (.invokevirtual 331, 3) := by decide +kernel
theorem dX11_report_88 : decode cX11_report 88 = .ok (.ireturn, 1) := by decide +kernel
theorem dX11_report_89 : decode cX11_report 89 = .ok (.sipush 459, 3) := by decide +kernel
theorem dX11_report_92 : decode cX11_report 92 = .ok (.bipush 10, 2) := by decide +kernel
theorem dX11_report_94 : decode cX11_report 94 = .ok (.aload_n 0, 1) := by decide +kernel
theorem dX11_report_95 : decode cX11_report 95 = .ok (.getfield 7, 3) := by decide +kernel
theorem dX11_report_98 : decode cX11_report 98 = .ok (.bipush 6, 2) := by decide +kernel
theorem dX11_report_100 : decode cX11_report 100 = .ok (.iaload, 1) := by decide +kernel
theorem dX11_report_101 : decode cX11_report 101 = .ok (.imul, 1) := by decide +kernel
theorem dX11_report_102 : decode cX11_report 102 = .ok (.iadd, 1) := by decide +kernel
theorem dX11_report_103 : decode cX11_report 103 = .ok (.istore_n 2, 1) := by decide +kernel
theorem dX11_report_104 : decode cX11_report 104 = .ok (.aload_n 0, 1) := by decide +kernel
theorem dX11_report_105 : decode cX11_report 105 = .ok (.getfield 7, 3) := by decide +kernel
theorem dX11_report_108 : decode cX11_report 108 = .ok (.iload_n 2, 1) := by decide +kernel
theorem dX11_report_109 : decode cX11_report 109 = .ok (.aload_n 0, 1) := by decide +kernel
theorem dX11_report_110 : decode cX11_report 110 = .ok (.getfield 103, 3) := by decide +kernel
theorem dX11_report_113 : decode cX11_report 113 = .ok (.iastore, 1) := by decide +kernel
theorem dX11_report_114 : decode cX11_report 114 = .ok (.iconst 0, 1) := by decide +kernel
theorem dX11_report_115 : decode cX11_report 115 = .ok (.istore_n 3, 1) := by decide +kernel
theorem dX11_report_116 : decode cX11_report 116 = .ok (.iload_n 3, 1) := by decide +kernel
theorem dX11_report_117 : decode cX11_report 117 = .ok (.aload_n 0, 1) := by decide +kernel
theorem dX11_report_118 : decode cX11_report 118 = .ok (.getfield 103, 3) := by decide +kernel
theorem dX11_report_121 : decode cX11_report 121 = .ok (.if_icmp .ge 42, 3) := by decide +kernel
theorem dX11_report_124 : decode cX11_report 124 = .ok (.aload_n 0, 1) := by decide +kernel
theorem dX11_report_125 : decode cX11_report 125 = .ok (.getfield 7, 3) := by decide +kernel
theorem dX11_report_128 : decode cX11_report 128 = .ok (.iload_n 2, 1) := by decide +kernel
theorem dX11_report_129 : decode cX11_report 129 = .ok (.iconst 1, 1) := by decide +kernel
theorem dX11_report_130 : decode cX11_report 130 = .ok (.iadd, 1) := by decide +kernel
theorem dX11_report_131 : decode cX11_report 131 = .ok (.iload_n 3, 1) := by decide +kernel
theorem dX11_report_132 : decode cX11_report 132 = .ok (.iadd, 1) := by decide +kernel
theorem dX11_report_133 : decode cX11_report 133 = .ok (.aload_n 0, 1) := by decide +kernel
theorem dX11_report_134 : decode cX11_report 134 = .ok (.iload_n 3, 1) := by decide +kernel
theorem dX11_report_135 : decode cX11_report 135 = .ok (.invokevirtual 113, 3) := by decide +kernel
theorem dX11_report_138 : decode cX11_report 138 = .ok (.bipush 45, 2) := by decide +kernel
theorem dX11_report_140 : decode cX11_report 140 = .ok (.if_icmp .ne 8, 3) := by decide +kernel
theorem dX11_report_143 : decode cX11_report 143 = .ok (.bipush 26, 2) := by decide +kernel
theorem dX11_report_145 : decode cX11_report 145 = .ok (.goto 11, 3) := by decide +kernel
theorem dX11_report_148 : decode cX11_report 148 = .ok (.aload_n 0, 1) := by decide +kernel
theorem dX11_report_149 : decode cX11_report 149 = .ok (.iload_n 3, 1) := by decide +kernel
theorem dX11_report_150 : decode cX11_report 150 = .ok (.invokevirtual 113, 3) := by decide +kernel
theorem dX11_report_153 : decode cX11_report 153 = .ok (.bipush 97, 2) := by decide +kernel
theorem dX11_report_155 : decode cX11_report 155 = .ok (.isub, 1) := by decide +kernel
theorem dX11_report_156 : decode cX11_report 156 = .ok (.iastore, 1) := by decide +kernel
theorem dX11_report_157 : decode cX11_report 157 = .ok (.iinc 3 1, 3) := by decide +kernel
theorem dX11_report_160 : decode cX11_report 160 = .ok (.goto (-44), 3) := by decide +kernel
theorem dX11_report_163 : decode cX11_report 163 = .ok (.aload_n 0, 1) := by decide +kernel
theorem dX11_report_164 : decode cX11_report 164 = .ok (.iconst 0, 1) := by decide +kernel
theorem dX11_report_165 : decode cX11_report 165 = .ok (.putfield 103, 3) := by decide +kernel
theorem dX11_report_168 : decode cX11_report 168 = .ok (.aload_n 0, 1) := by decide +kernel
theorem dX11_report_169 : decode cX11_report 169 = .ok (.getfield 7, 3) := by decide +kernel
theorem dX11_report_172 : decode cX11_report 172 = .ok (.bipush 6, 2) := by decide +kernel
theorem dX11_report_174 : decode cX11_report 174 = .ok (.dup2, 1) := by decide +kernel
theorem dX11_report_175 : decode cX11_report 175 = .ok (.iaload, 1) := by decide +kernel
theorem dX11_report_176 : decode cX11_report 176 = .ok (.iconst 1, 1) := by decide +kernel
theorem dX11_report_177 : decode cX11_report 177 = .ok (.iadd, 1) := by decide +kernel
theorem dX11_report_178 : decode cX11_report 178 = .ok (.iastore, 1) := by decide +kernel
theorem dX11_report_179 : decode cX11_report 179 = .ok (.aload_n 0, 1) := by decide +kernel
theorem dX11_report_180 : decode cX11_report 180 = .ok (.getfield 7, 3) := by decide +kernel
theorem dX11_report_183 : decode cX11_report 183 = .ok (.bipush 6, 2) := by decide +kernel
theorem dX11_report_185 : decode cX11_report 185 = .ok (.iaload, 1) := by decide +kernel
theorem dX11_report_186 : decode cX11_report 186 = .ok (.ireturn, 1) := by decide +kernel
theorem gX11_report_0 {d : Nat} {M : ev_Mem} {Q : Option Value → ev_Mem → Prop} (h : (∀ v1 : Int32, v1 = bi (iin (M.1 0 5) (1 : Int32) (9 : Int32)) → (Ev LM (d + 1) mX11_report 13 [some (.ref 0), some (.int v1), some (.int 0), none] [] M Q))) : Ev LM (d + 1) mX11_report 0 [some (.ref 0), none, none, none] [] M Q := by
  refine ev_aload_n dX11_report_0 rfl ?_
  refine ev_getI dX11_report_1 fl_WithoutEModel_103 lm_0 rfl ?_
  refine ev_iconst (v := 1) dX11_report_4 (by decide) ?_
  refine ev_bipush (v := 9) dX11_report_5 (by decide) ?_
  refine ev_callS [.int (M.1 0 5), .int 1, .int 9] dX11_report_7 ml_WithoutEModel_80 rfl (Nat.le_of_ble_eq_true rfl) (kX11_isIn) ?_
  rintro zr zM ⟨q1, q2⟩
  rw [q1, q2]
  show Ev LM (d + 1) mX11_report 10 [some (.ref 0), none, none, none] [(.int (bi (iin (M.1 0 5) (1 : Int32) (9 : Int32))))] M Q
  refine ev_istore_n (ls2 := [some (.ref 0), some (.int (bi (iin (M.1 0 5) (1 : Int32) (9 : Int32)))), none, none]) dX11_report_10 (Nat.le_of_ble_eq_true rfl) rfl ?_
  generalize ev1 : bi (iin (M.1 0 5) (1 : Int32) (9 : Int32)) = v1
  replace h := h v1 ev1.symm
  refine ev_iconst (v := 0) dX11_report_11 (by decide) ?_
  refine ev_istore_n (ls2 := [some (.ref 0), some (.int v1), some (.int 0), none]) dX11_report_12 (Nat.le_of_ble_eq_true rfl) rfl ?_
  exact h
theorem gX11_report_13 {d : Nat} {M : ev_Mem} {Q : Option Value → ev_Mem → Prop} {x1 x2 : Int32} (h : ((((M.1 0 5) ≤ x2) → (((¬ x1 = 0) → (((¬ (M.1 1 6) = 5) → (vp_in (459 + (10 * (M.1 1 6))) 3315 ∧ (∀ M1 : ev_Mem, M1 = ev_wr M 1 (459 + (10 * (M.1 1 6))).toNatClampNeg (M.1 0 5) → (Ev LM (d + 1) mX11_report 116 [some (.ref 0), none, some (.int (459 + (10 * (M.1 1 6)))), some (.int 0)] [] M1 Q)))) ∧ (((M.1 1 6) = 5) → ((vp_in (1 : Int32) 3) ∧ (∀ M2 : ev_Mem, M2 = rfs M 3 (1 : Int32).toNatClampNeg → (Q (some (.int (-1))) M2)))))) ∧ ((x1 = 0) → ((vp_in (0 : Int32) 3) ∧ (∀ M3 : ev_Mem, M3 = rfs M 3 (0 : Int32).toNatClampNeg → (Q (some (.int (-1))) M3)))))) ∧ ((¬ (M.1 0 5) ≤ x2) → (((x1 = 0) → (Ev LM (d + 1) mX11_report 13 [some (.ref 0), some (.int 0), some (.int (x2 + 1)), none] [] M Q)) ∧ ((¬ x1 = 0) → ((baOK M x2) ∧ ((((iin (btA M x2) (97 : Int32) (122 : Int32)) = true) → (Ev LM (d + 1) mX11_report 13 [some (.ref 0), some (.int 1), some (.int (x2 + 1)), none] [] M Q)) ∧ (((iin (btA M x2) (97 : Int32) (122 : Int32)) = false) → ((baOK M x2) ∧ (((¬ (btA M x2) = 45) → (Ev LM (d + 1) mX11_report 13 [some (.ref 0), some (.int 0), some (.int (x2 + 1)), none] [] M Q)) ∧ (((btA M x2) = 45) → (Ev LM (d + 1) mX11_report 13 [some (.ref 0), some (.int 1), some (.int (x2 + 1)), none] [] M Q)))))))))))) : Ev LM (d + 1) mX11_report 13 [some (.ref 0), some (.int x1), some (.int x2), none] [] M Q := by
  refine ev_iload_n dX11_report_13 rfl ?_
  refine ev_aload_n dX11_report_14 rfl ?_
  refine ev_getI dX11_report_15 fl_WithoutEModel_103 lm_0 rfl ?_
  refine ev_icmp_ge (tgt := 62) dX11_report_18 (by decide) (fun c => ?_) (fun c => ?_)
  · replace h := h.1 c
    refine ev_iload_n dX11_report_62 rfl ?_
    refine ev_if_ne (tgt := 72) dX11_report_63 (by decide) (fun c => ?_) (fun c => ?_)
    · replace h := h.1 c
      refine ev_aload_n dX11_report_72 rfl ?_
      refine ev_getA dX11_report_73 fl_WithoutEModel_7 lm_0 rfl ?_
      refine ev_bipush (v := 6) dX11_report_76 (by decide) ?_
      refine ev_iaN (j := 6) dX11_report_78 lm_1 (by decide) (by decide) ?_
      refine ev_iconst (v := 5) dX11_report_79 (by decide) ?_
      refine ev_icmp_ne (tgt := 89) dX11_report_80 (by decide) (fun c => ?_) (fun c => ?_)
      · replace h := h.1 c
        refine ev_sipush (v := 459) dX11_report_89 (by decide) ?_
        refine ev_bipush (v := 10) dX11_report_92 (by decide) ?_
        refine ev_aload_n dX11_report_94 rfl ?_
        refine ev_getA dX11_report_95 fl_WithoutEModel_7 lm_0 rfl ?_
        refine ev_bipush (v := 6) dX11_report_98 (by decide) ?_
        refine ev_iaN (j := 6) dX11_report_100 lm_1 (by decide) (by decide) ?_
        refine ev_imul dX11_report_101 ?_
        refine ev_iadd dX11_report_102 ?_
        refine ev_istore_n (ls2 := [some (.ref 0), some (.int x1), some (.int (459 + (10 * (M.1 1 6)))), none]) dX11_report_103 (Nat.le_of_ble_eq_true rfl) rfl ?_
        refine ev_aload_n dX11_report_104 rfl ?_
        refine ev_getA dX11_report_105 fl_WithoutEModel_7 lm_0 rfl ?_
        refine ev_iload_n dX11_report_108 rfl ?_
        refine ev_aload_n dX11_report_109 rfl ?_
        refine ev_getI dX11_report_110 fl_WithoutEModel_103 lm_0 rfl ?_
        obtain ⟨c, h⟩ := h
        refine ev_iast dX11_report_113 lm_1 c ?_
        generalize eM1 : ev_wr M 1 (459 + (10 * (M.1 1 6))).toNatClampNeg (M.1 0 5) = M1
        replace h := h M1 eM1.symm
        refine ev_iconst (v := 0) dX11_report_114 (by decide) ?_
        refine ev_istore_n (ls2 := [some (.ref 0), some (.int x1), some (.int (459 + (10 * (M.1 1 6)))), some (.int 0)]) dX11_report_115 (Nat.le_of_ble_eq_true rfl) rfl ?_
        refine Ev.weak (ls := [some (.ref 0), none, some (.int (459 + (10 * (M.1 1 6)))), some (.int 0)]) ⟨rfl, rfl, rfl, trivial⟩ ?_
        exact h
      · replace h := h.2 c
        refine ev_aload_n dX11_report_83 rfl ?_
        refine ev_iconst (v := 1) dX11_report_84 (by decide) ?_
        obtain ⟨p1, h⟩ := h
        refine ev_callV [.int 1] dX11_report_85 ml_WithoutEModel_331 lm_0 rfl rfl (Nat.le_of_ble_eq_true rfl) (qX11_refused p1) ?_
        rintro zr zM ⟨q1, q2⟩
        rw [q1, q2]
        generalize eM2 : rfs M 3 (1 : Int32).toNatClampNeg = M2
        replace h := h M2 eM2.symm
        show Ev LM (d + 1) mX11_report 88 [some (.ref 0), some (.int x1), some (.int x2), none] [(.int (-1))] M2 Q
        exact ev_iret dX11_report_88 rfl h
    · replace h := h.2 c
      refine ev_aload_n dX11_report_66 rfl ?_
      refine ev_iconst (v := 0) dX11_report_67 (by decide) ?_
      obtain ⟨p1, h⟩ := h
      refine ev_callV [.int 0] dX11_report_68 ml_WithoutEModel_331 lm_0 rfl rfl (Nat.le_of_ble_eq_true rfl) (qX11_refused p1) ?_
      rintro zr zM ⟨q1, q2⟩
      rw [q1, q2]
      generalize eM3 : rfs M 3 (0 : Int32).toNatClampNeg = M3
      replace h := h M3 eM3.symm
      show Ev LM (d + 1) mX11_report 71 [some (.ref 0), some (.int x1), some (.int x2), none] [(.int (-1))] M3 Q
      exact ev_iret dX11_report_71 rfl h
  · replace h := h.2 c
    refine ev_iload_n dX11_report_21 rfl ?_
    refine ev_if_eq (tgt := 54) dX11_report_22 (by decide) (fun c => ?_) (fun c => ?_)
    · replace h := h.1 c
      refine ev_iconst (v := 0) dX11_report_54 (by decide) ?_
      refine ev_istore_n (ls2 := [some (.ref 0), some (.int 0), some (.int x2), none]) dX11_report_55 (Nat.le_of_ble_eq_true rfl) rfl ?_
      refine ev_iinc (v := x2 + 1) (ls2 := [some (.ref 0), some (.int 0), some (.int (x2 + 1)), none]) dX11_report_56 rfl rfl rfl ?_
      refine ev_goto (tgt := 13) dX11_report_59 (by decide) ?_
      exact h
    · replace h := h.2 c
      refine ev_aload_n dX11_report_25 rfl ?_
      refine ev_iload_n dX11_report_26 rfl ?_
      obtain ⟨p1, h⟩ := h
      refine ev_callV [.int x2] dX11_report_27 ml_WithoutEModel_113 lm_0 rfl rfl (Nat.le_of_ble_eq_true rfl) (qX11_byteAt p1) ?_
      rintro zr zM ⟨q1, q2⟩
      rw [q1, q2]
      show Ev LM (d + 1) mX11_report 30 [some (.ref 0), some (.int x1), some (.int x2), none] [(.int (btA M x2))] M Q
      refine ev_bipush (v := 97) dX11_report_30 (by decide) ?_
      refine ev_bipush (v := 122) dX11_report_32 (by decide) ?_
      refine ev_callS [.int (btA M x2), .int 97, .int 122] dX11_report_34 ml_WithoutEModel_80 rfl (Nat.le_of_ble_eq_true rfl) (kX11_isIn) ?_
      rintro zr zM ⟨q1, q2⟩
      rw [q1, q2]
      show Ev LM (d + 1) mX11_report 37 [some (.ref 0), some (.int x1), some (.int x2), none] [(.int (bi (iin (btA M x2) (97 : Int32) (122 : Int32))))] M Q
      refine ev_if_ne (tgt := 50) dX11_report_37 (by decide) (fun c => ?_) (fun c => ?_)
      · replace h := h.1 ((bi_n0 _).mp c)
        refine ev_iconst (v := 1) dX11_report_50 (by decide) ?_
        refine ev_goto (tgt := 55) dX11_report_51 (by decide) ?_
        refine ev_istore_n (ls2 := [some (.ref 0), some (.int 1), some (.int x2), none]) dX11_report_55 (Nat.le_of_ble_eq_true rfl) rfl ?_
        refine ev_iinc (v := x2 + 1) (ls2 := [some (.ref 0), some (.int 1), some (.int (x2 + 1)), none]) dX11_report_56 rfl rfl rfl ?_
        refine ev_goto (tgt := 13) dX11_report_59 (by decide) ?_
        exact h
      · replace h := h.2 ((bi_0 _).mp c)
        refine ev_aload_n dX11_report_40 rfl ?_
        refine ev_iload_n dX11_report_41 rfl ?_
        obtain ⟨p1, h⟩ := h
        refine ev_callV [.int x2] dX11_report_42 ml_WithoutEModel_113 lm_0 rfl rfl (Nat.le_of_ble_eq_true rfl) (qX11_byteAt p1) ?_
        rintro zr zM ⟨q1, q2⟩
        rw [q1, q2]
        show Ev LM (d + 1) mX11_report 45 [some (.ref 0), some (.int x1), some (.int x2), none] [(.int (btA M x2))] M Q
        refine ev_bipush (v := 45) dX11_report_45 (by decide) ?_
        refine ev_icmp_ne (tgt := 54) dX11_report_47 (by decide) (fun c => ?_) (fun c => ?_)
        · replace h := h.1 c
          refine ev_iconst (v := 0) dX11_report_54 (by decide) ?_
          refine ev_istore_n (ls2 := [some (.ref 0), some (.int 0), some (.int x2), none]) dX11_report_55 (Nat.le_of_ble_eq_true rfl) rfl ?_
          refine ev_iinc (v := x2 + 1) (ls2 := [some (.ref 0), some (.int 0), some (.int (x2 + 1)), none]) dX11_report_56 rfl rfl rfl ?_
          refine ev_goto (tgt := 13) dX11_report_59 (by decide) ?_
          exact h
        · replace h := h.2 c
          refine ev_iconst (v := 1) dX11_report_50 (by decide) ?_
          refine ev_goto (tgt := 55) dX11_report_51 (by decide) ?_
          refine ev_istore_n (ls2 := [some (.ref 0), some (.int 1), some (.int x2), none]) dX11_report_55 (Nat.le_of_ble_eq_true rfl) rfl ?_
          refine ev_iinc (v := x2 + 1) (ls2 := [some (.ref 0), some (.int 1), some (.int (x2 + 1)), none]) dX11_report_56 rfl rfl rfl ?_
          refine ev_goto (tgt := 13) dX11_report_59 (by decide) ?_
          exact h
theorem gX11_report_116 {d : Nat} {M : ev_Mem} {Q : Option Value → ev_Mem → Prop} {x2 x3 : Int32} (h : ((((M.1 0 5) ≤ x3) → (∀ M1 : ev_Mem, M1 = ev_wr M 0 5 0 → (∀ M2 : ev_Mem, M2 = ev_wr M1 1 6 ((M1.1 1 6) + 1) → (Q (some (.int (M2.1 1 6))) M2)))) ∧ ((¬ (M.1 0 5) ≤ x3) → ((baOK M x3) ∧ (((¬ (btA M x3) = 45) → ((baOK M x3) ∧ (vp_in ((x2 + 1) + x3) 3315 ∧ (∀ M3 : ev_Mem, M3 = ev_wr M 1 ((x2 + 1) + x3).toNatClampNeg ((btA M x3) - 97) → (Ev LM (d + 1) mX11_report 116 [some (.ref 0), none, some (.int x2), some (.int (x3 + 1))] [] M3 Q))))) ∧ (((btA M x3) = 45) → (vp_in ((x2 + 1) + x3) 3315 ∧ (∀ M4 : ev_Mem, M4 = ev_wr M 1 ((x2 + 1) + x3).toNatClampNeg 26 → (Ev LM (d + 1) mX11_report 116 [some (.ref 0), none, some (.int x2), some (.int (x3 + 1))] [] M4 Q))))))))) : Ev LM (d + 1) mX11_report 116 [some (.ref 0), none, some (.int x2), some (.int x3)] [] M Q := by
  refine ev_iload_n dX11_report_116 rfl ?_
  refine ev_aload_n dX11_report_117 rfl ?_
  refine ev_getI dX11_report_118 fl_WithoutEModel_103 lm_0 rfl ?_
  refine ev_icmp_ge (tgt := 163) dX11_report_121 (by decide) (fun c => ?_) (fun c => ?_)
  · replace h := h.1 c
    refine ev_aload_n dX11_report_163 rfl ?_
    refine ev_iconst (v := 0) dX11_report_164 (by decide) ?_
    refine ev_putI dX11_report_165 fp_WithoutEModel_103 lm_0 rfl rfl rfl ?_
    generalize eM1 : ev_wr M 0 5 0 = M1
    replace h := h M1 eM1.symm
    refine ev_aload_n dX11_report_168 rfl ?_
    refine ev_getA dX11_report_169 fl_WithoutEModel_7 lm_0 rfl ?_
    refine ev_bipush (v := 6) dX11_report_172 (by decide) ?_
    refine ev_dup2 dX11_report_174 rfl rfl ?_
    refine ev_iaN (j := 6) dX11_report_175 lm_1 (by decide) (by decide) ?_
    refine ev_iconst (v := 1) dX11_report_176 (by decide) ?_
    refine ev_iadd dX11_report_177 ?_
    refine ev_isN (j := 6) dX11_report_178 lm_1 (by decide) (by decide) ?_
    generalize eM2 : ev_wr M1 1 6 ((M1.1 1 6) + 1) = M2
    replace h := h M2 eM2.symm
    refine ev_aload_n dX11_report_179 rfl ?_
    refine ev_getA dX11_report_180 fl_WithoutEModel_7 lm_0 rfl ?_
    refine ev_bipush (v := 6) dX11_report_183 (by decide) ?_
    refine ev_iaN (j := 6) dX11_report_185 lm_1 (by decide) (by decide) ?_
    exact ev_iret dX11_report_186 rfl h
  · replace h := h.2 c
    refine ev_aload_n dX11_report_124 rfl ?_
    refine ev_getA dX11_report_125 fl_WithoutEModel_7 lm_0 rfl ?_
    refine ev_iload_n dX11_report_128 rfl ?_
    refine ev_iconst (v := 1) dX11_report_129 (by decide) ?_
    refine ev_iadd dX11_report_130 ?_
    refine ev_iload_n dX11_report_131 rfl ?_
    refine ev_iadd dX11_report_132 ?_
    refine ev_aload_n dX11_report_133 rfl ?_
    refine ev_iload_n dX11_report_134 rfl ?_
    obtain ⟨p1, h⟩ := h
    refine ev_callV [.int x3] dX11_report_135 ml_WithoutEModel_113 lm_0 rfl rfl (Nat.le_of_ble_eq_true rfl) (qX11_byteAt p1) ?_
    rintro zr zM ⟨q1, q2⟩
    rw [q1, q2]
    show Ev LM (d + 1) mX11_report 138 [some (.ref 0), none, some (.int x2), some (.int x3)] [(.int (btA M x3)), (.int ((x2 + 1) + x3)), (.ref 1)] M Q
    refine ev_bipush (v := 45) dX11_report_138 (by decide) ?_
    refine ev_icmp_ne (tgt := 148) dX11_report_140 (by decide) (fun c => ?_) (fun c => ?_)
    · replace h := h.1 c
      refine ev_aload_n dX11_report_148 rfl ?_
      refine ev_iload_n dX11_report_149 rfl ?_
      obtain ⟨p1, h⟩ := h
      refine ev_callV [.int x3] dX11_report_150 ml_WithoutEModel_113 lm_0 rfl rfl (Nat.le_of_ble_eq_true rfl) (qX11_byteAt p1) ?_
      rintro zr zM ⟨q1, q2⟩
      rw [q1, q2]
      show Ev LM (d + 1) mX11_report 153 [some (.ref 0), none, some (.int x2), some (.int x3)] [(.int (btA M x3)), (.int ((x2 + 1) + x3)), (.ref 1)] M Q
      refine ev_bipush (v := 97) dX11_report_153 (by decide) ?_
      refine ev_isub dX11_report_155 ?_
      obtain ⟨c, h⟩ := h
      refine ev_iast dX11_report_156 lm_1 c ?_
      generalize eM3 : ev_wr M 1 ((x2 + 1) + x3).toNatClampNeg ((btA M x3) - 97) = M3
      replace h := h M3 eM3.symm
      refine ev_iinc (v := x3 + 1) (ls2 := [some (.ref 0), none, some (.int x2), some (.int (x3 + 1))]) dX11_report_157 rfl rfl rfl ?_
      refine ev_goto (tgt := 116) dX11_report_160 (by decide) ?_
      exact h
    · replace h := h.2 c
      refine ev_bipush (v := 26) dX11_report_143 (by decide) ?_
      refine ev_goto (tgt := 156) dX11_report_145 (by decide) ?_
      obtain ⟨c, h⟩ := h
      refine ev_iast dX11_report_156 lm_1 c ?_
      generalize eM4 : ev_wr M 1 ((x2 + 1) + x3).toNatClampNeg 26 = M4
      replace h := h M4 eM4.symm
      refine ev_iinc (v := x3 + 1) (ls2 := [some (.ref 0), none, some (.int x2), some (.int (x3 + 1))]) dX11_report_157 rfl rfl rfl ?_
      refine ev_goto (tgt := 116) dX11_report_160 (by decide) ?_
      exact h
theorem dX11_isMeant_0 : decode cX11_isMeant 0 = .ok (.sipush 459, 3) := by decide +kernel
theorem dX11_isMeant_3 : decode cX11_isMeant 3 = .ok (.bipush 10, 2) := by decide +kernel
theorem dX11_isMeant_5 : decode cX11_isMeant 5 = .ok (.iload_n 1, 1) := by decide +kernel
theorem dX11_isMeant_6 : decode cX11_isMeant 6 = .ok (.imul, 1) := by decide +kernel
theorem dX11_isMeant_7 : decode cX11_isMeant 7 = .ok (.iadd, 1) := by decide +kernel
theorem dX11_isMeant_8 : decode cX11_isMeant 8 = .ok (.istore_n 3, 1) := by decide +kernel
theorem dX11_isMeant_9 : decode cX11_isMeant 9 = .ok (.aload_n 0, 1) := by decide +kernel
theorem dX11_isMeant_10 : decode cX11_isMeant 10 = .ok (.iload_n 2, 1) := by decide +kernel
theorem dX11_isMeant_11 : decode cX11_isMeant 11 = .ok (.iconst 3, 1) := by decide +kernel
theorem dX11_isMeant_12 : decode cX11_isMeant 12 = .ok (.invokevirtual 92, 3) := by decide +kernel
theorem dX11_isMeant_15 : decode cX11_isMeant 15 = .ok (.aload_n 0, 1) := by decide +kernel
theorem dX11_isMeant_16 : decode cX11_isMeant 16 = .ok (.getfield 7, 3) := by decide +kernel
theorem dX11_isMeant_19 : decode cX11_isMeant 19 = .ok (.iload_n 3, 1) := by decide +kernel
theorem dX11_isMeant_20 : decode cX11_isMeant 20 = .ok (.iaload, 1) := by decide +kernel
theorem dX11_isMeant_21 : decode cX11_isMeant 21 = .ok (.if_icmp .eq 5, 3) := by decide +kernel
theorem dX11_isMeant_24 : decode cX11_isMeant 24 = .ok (.iconst 0, 1) := by decide +kernel
theorem dX11_isMeant_25 : decode cX11_isMeant 25 = .ok (.ireturn, 1) := by decide +kernel
theorem dX11_isMeant_26 : decode cX11_isMeant 26 = .ok (.iconst 0, 1) := by decide +kernel
theorem dX11_isMeant_27 : decode cX11_isMeant 27 = .ok (.istore 4, 2) := by decide +kernel
theorem dX11_isMeant_29 : decode cX11_isMeant 29 = .ok (.iload 4, 2) := by decide +kernel
theorem dX11_isMeant_31 : decode cX11_isMeant 31 = .ok (.aload_n 0, 1) := by decide +kernel
theorem dX11_isMeant_32 : decode cX11_isMeant 32 = .ok (.getfield 7, 3) := by decide +kernel
theorem dX11_isMeant_35 : decode cX11_isMeant 35 = .ok (.iload_n 3, 1) := by decide +kernel
theorem dX11_isMeant_36 : decode cX11_isMeant 36 = .ok (.iaload, 1) := by decide +kernel
theorem dX11_isMeant_37 : decode cX11_isMeant 37 = .ok (.if_icmp .ge 50, 3) := by decide +kernel
theorem dX11_isMeant_40 : decode cX11_isMeant 40 = .ok (.aload_n 0, 1) := by decide +kernel
theorem dX11_isMeant_41 : decode cX11_isMeant 41 = .ok (.getfield 7, 3) := by decide +kernel
theorem dX11_isMeant_44 : decode cX11_isMeant 44 = .ok (.iload_n 3, 1) := by decide +kernel
theorem dX11_isMeant_45 : decode cX11_isMeant 45 = .ok (.iconst 1, 1) := by decide +kernel
theorem dX11_isMeant_46 : decode cX11_isMeant 46 = .ok (.iadd, 1) := by decide +kernel
theorem dX11_isMeant_47 : decode cX11_isMeant 47 = .ok (.iload 4, 2) := by decide +kernel
theorem dX11_isMeant_49 : decode cX11_isMeant 49 = .ok (.iadd, 1) := by decide +kernel
theorem dX11_isMeant_50 : decode cX11_isMeant 50 = .ok (.iaload, 1) := by decide +kernel
theorem dX11_isMeant_51 : decode cX11_isMeant 51 = .ok (.bipush 26, 2) := by decide +kernel
theorem dX11_isMeant_53 : decode cX11_isMeant 53 = .ok (.if_icmp .eq 28, 3) := by decide +kernel
theorem dX11_isMeant_56 : decode cX11_isMeant 56 = .ok (.aload_n 0, 1) := by decide +kernel
theorem dX11_isMeant_57 : decode cX11_isMeant 57 = .ok (.getfield 7, 3) := by decide +kernel
theorem dX11_isMeant_60 : decode cX11_isMeant 60 = .ok (.iload_n 3, 1) := by decide +kernel
theorem dX11_isMeant_61 : decode cX11_isMeant 61 = .ok (.iconst 1, 1) := by decide +kernel
theorem dX11_isMeant_62 : decode cX11_isMeant 62 = .ok (.iadd, 1) := by decide +kernel
theorem dX11_isMeant_63 : decode cX11_isMeant 63 = .ok (.iload 4, 2) := by decide +kernel
theorem dX11_isMeant_65 : decode cX11_isMeant 65 = .ok (.iadd, 1) := by decide +kernel
theorem dX11_isMeant_66 : decode cX11_isMeant 66 = .ok (.iaload, 1) := by decide +kernel
theorem dX11_isMeant_67 : decode cX11_isMeant 67 = .ok (.aload_n 0, 1) := by decide +kernel
theorem dX11_isMeant_68 : decode cX11_isMeant 68 = .ok (.iload_n 2, 1) := by decide +kernel
theorem dX11_isMeant_69 : decode cX11_isMeant 69 = .ok (.iconst 4, 1) := by decide +kernel
theorem dX11_isMeant_70 : decode cX11_isMeant 70 = .ok (.iload 4, 2) := by decide +kernel
theorem dX11_isMeant_72 : decode cX11_isMeant 72 = .ok (.iadd, 1) := by decide +kernel
theorem dX11_isMeant_73 : decode cX11_isMeant 73 = .ok (.invokevirtual 92, 3) := by decide +kernel
theorem dX11_isMeant_76 : decode cX11_isMeant 76 = .ok (.if_icmp .eq 5, 3) := by decide +kernel
theorem dX11_isMeant_79 : decode cX11_isMeant 79 = .ok (.iconst 0, 1) := by decide +kernel
theorem dX11_isMeant_80 : decode cX11_isMeant 80 = .ok (.ireturn, 1) := by decide +kernel
theorem dX11_isMeant_81 : decode cX11_isMeant 81 = .ok (.iinc 4 1, 3) := by decide +kernel
theorem dX11_isMeant_84 : decode cX11_isMeant 84 = .ok (.goto (-55), 3) := by decide +kernel
theorem dX11_isMeant_87 : decode cX11_isMeant 87 = .ok (.iconst 1, 1) := by decide +kernel
theorem dX11_isMeant_88 : decode cX11_isMeant 88 = .ok (.ireturn, 1) := by decide +kernel
theorem gX11_isMeant_0 {d : Nat} {M : ev_Mem} {Q : Option Value → ev_Mem → Prop} {x1 x2 : Int32} (h : ((vp_in (39 + 13 * x2 + (3 : Int32)) 3315) ∧ (vp_in (459 + (10 * x1)) 3315 ∧ ((((M.1 1 (39 + 13 * x2 + (3 : Int32)).toNatClampNeg) = (M.1 1 (459 + (10 * x1)).toNatClampNeg)) → (Ev LM (d + 1) mX11_isMeant 29 [some (.ref 0), none, some (.int x2), some (.int (459 + (10 * x1))), some (.int 0)] [] M Q)) ∧ ((¬ (M.1 1 (39 + 13 * x2 + (3 : Int32)).toNatClampNeg) = (M.1 1 (459 + (10 * x1)).toNatClampNeg)) → (Q (some (.int 0)) M)))))) : Ev LM (d + 1) mX11_isMeant 0 [some (.ref 0), some (.int x1), some (.int x2), none, none] [] M Q := by
  refine ev_sipush (v := 459) dX11_isMeant_0 (by decide) ?_
  refine ev_bipush (v := 10) dX11_isMeant_3 (by decide) ?_
  refine ev_iload_n dX11_isMeant_5 rfl ?_
  refine ev_imul dX11_isMeant_6 ?_
  refine ev_iadd dX11_isMeant_7 ?_
  refine ev_istore_n (ls2 := [some (.ref 0), some (.int x1), some (.int x2), some (.int (459 + (10 * x1))), none]) dX11_isMeant_8 (Nat.le_of_ble_eq_true rfl) rfl ?_
  refine ev_aload_n dX11_isMeant_9 rfl ?_
  refine ev_iload_n dX11_isMeant_10 rfl ?_
  refine ev_iconst (v := 3) dX11_isMeant_11 (by decide) ?_
  obtain ⟨p1, h⟩ := h
  refine ev_callV [.int x2, .int 3] dX11_isMeant_12 ml_WithoutEModel_92 lm_0 rfl rfl (Nat.le_of_ble_eq_true rfl) (kX11_get p1) ?_
  rintro zr zM ⟨q1, q2⟩
  rw [q1, q2]
  show Ev LM (d + 1) mX11_isMeant 15 [some (.ref 0), some (.int x1), some (.int x2), some (.int (459 + (10 * x1))), none] [(.int (M.1 1 (39 + 13 * x2 + (3 : Int32)).toNatClampNeg))] M Q
  refine ev_aload_n dX11_isMeant_15 rfl ?_
  refine ev_getA dX11_isMeant_16 fl_WithoutEModel_7 lm_0 rfl ?_
  refine ev_iload_n dX11_isMeant_19 rfl ?_
  obtain ⟨c, h⟩ := h
  refine ev_iald dX11_isMeant_20 lm_1 c ?_
  refine ev_icmp_eq (tgt := 26) dX11_isMeant_21 (by decide) (fun c => ?_) (fun c => ?_)
  · replace h := h.1 c
    refine ev_iconst (v := 0) dX11_isMeant_26 (by decide) ?_
    refine ev_istore (ls2 := [some (.ref 0), some (.int x1), some (.int x2), some (.int (459 + (10 * x1))), some (.int 0)]) dX11_isMeant_27 (Nat.le_of_ble_eq_true rfl) rfl ?_
    refine Ev.weak (ls := [some (.ref 0), none, some (.int x2), some (.int (459 + (10 * x1))), some (.int 0)]) ⟨rfl, rfl, rfl, rfl, trivial⟩ ?_
    exact h
  · replace h := h.2 c
    refine ev_iconst (v := 0) dX11_isMeant_24 (by decide) ?_
    exact ev_zret dX11_isMeant_25 rfl (by decide) h
theorem gX11_isMeant_29 {d : Nat} {M : ev_Mem} {Q : Option Value → ev_Mem → Prop} {x2 x3 x4 : Int32} (h : (vp_in x3 3315 ∧ ((((M.1 1 x3.toNatClampNeg) ≤ x4) → (Q (some (.int 1)) M)) ∧ ((¬ (M.1 1 x3.toNatClampNeg) ≤ x4) → (vp_in ((x3 + 1) + x4) 3315 ∧ ((((M.1 1 ((x3 + 1) + x4).toNatClampNeg) = 26) → (Ev LM (d + 1) mX11_isMeant 29 [some (.ref 0), none, some (.int x2), some (.int x3), some (.int (x4 + 1))] [] M Q)) ∧ ((¬ (M.1 1 ((x3 + 1) + x4).toNatClampNeg) = 26) → (vp_in ((x3 + 1) + x4) 3315 ∧ ((vp_in (39 + 13 * x2 + (4 + x4)) 3315) ∧ ((((M.1 1 ((x3 + 1) + x4).toNatClampNeg) = (M.1 1 (39 + 13 * x2 + (4 + x4)).toNatClampNeg)) → (Ev LM (d + 1) mX11_isMeant 29 [some (.ref 0), none, some (.int x2), some (.int x3), some (.int (x4 + 1))] [] M Q)) ∧ ((¬ (M.1 1 ((x3 + 1) + x4).toNatClampNeg) = (M.1 1 (39 + 13 * x2 + (4 + x4)).toNatClampNeg)) → (Q (some (.int 0)) M)))))))))))) : Ev LM (d + 1) mX11_isMeant 29 [some (.ref 0), none, some (.int x2), some (.int x3), some (.int x4)] [] M Q := by
  refine ev_iload dX11_isMeant_29 rfl ?_
  refine ev_aload_n dX11_isMeant_31 rfl ?_
  refine ev_getA dX11_isMeant_32 fl_WithoutEModel_7 lm_0 rfl ?_
  refine ev_iload_n dX11_isMeant_35 rfl ?_
  obtain ⟨c, h⟩ := h
  refine ev_iald dX11_isMeant_36 lm_1 c ?_
  refine ev_icmp_ge (tgt := 87) dX11_isMeant_37 (by decide) (fun c => ?_) (fun c => ?_)
  · replace h := h.1 c
    refine ev_iconst (v := 1) dX11_isMeant_87 (by decide) ?_
    exact ev_zret dX11_isMeant_88 rfl (by decide) h
  · replace h := h.2 c
    refine ev_aload_n dX11_isMeant_40 rfl ?_
    refine ev_getA dX11_isMeant_41 fl_WithoutEModel_7 lm_0 rfl ?_
    refine ev_iload_n dX11_isMeant_44 rfl ?_
    refine ev_iconst (v := 1) dX11_isMeant_45 (by decide) ?_
    refine ev_iadd dX11_isMeant_46 ?_
    refine ev_iload dX11_isMeant_47 rfl ?_
    refine ev_iadd dX11_isMeant_49 ?_
    obtain ⟨c, h⟩ := h
    refine ev_iald dX11_isMeant_50 lm_1 c ?_
    refine ev_bipush (v := 26) dX11_isMeant_51 (by decide) ?_
    refine ev_icmp_eq (tgt := 81) dX11_isMeant_53 (by decide) (fun c => ?_) (fun c => ?_)
    · replace h := h.1 c
      refine ev_iinc (v := x4 + 1) (ls2 := [some (.ref 0), none, some (.int x2), some (.int x3), some (.int (x4 + 1))]) dX11_isMeant_81 rfl rfl rfl ?_
      refine ev_goto (tgt := 29) dX11_isMeant_84 (by decide) ?_
      exact h
    · replace h := h.2 c
      refine ev_aload_n dX11_isMeant_56 rfl ?_
      refine ev_getA dX11_isMeant_57 fl_WithoutEModel_7 lm_0 rfl ?_
      refine ev_iload_n dX11_isMeant_60 rfl ?_
      refine ev_iconst (v := 1) dX11_isMeant_61 (by decide) ?_
      refine ev_iadd dX11_isMeant_62 ?_
      refine ev_iload dX11_isMeant_63 rfl ?_
      refine ev_iadd dX11_isMeant_65 ?_
      obtain ⟨c, h⟩ := h
      refine ev_iald dX11_isMeant_66 lm_1 c ?_
      refine ev_aload_n dX11_isMeant_67 rfl ?_
      refine ev_iload_n dX11_isMeant_68 rfl ?_
      refine ev_iconst (v := 4) dX11_isMeant_69 (by decide) ?_
      refine ev_iload dX11_isMeant_70 rfl ?_
      refine ev_iadd dX11_isMeant_72 ?_
      obtain ⟨p1, h⟩ := h
      refine ev_callV [.int x2, .int (4 + x4)] dX11_isMeant_73 ml_WithoutEModel_92 lm_0 rfl rfl (Nat.le_of_ble_eq_true rfl) (kX11_get p1) ?_
      rintro zr zM ⟨q1, q2⟩
      rw [q1, q2]
      show Ev LM (d + 1) mX11_isMeant 76 [some (.ref 0), none, some (.int x2), some (.int x3), some (.int x4)] [(.int (M.1 1 (39 + 13 * x2 + (4 + x4)).toNatClampNeg)), (.int (M.1 1 ((x3 + 1) + x4).toNatClampNeg))] M Q
      refine ev_icmp_eq (tgt := 81) dX11_isMeant_76 (by decide) (fun c => ?_) (fun c => ?_)
      · replace h := h.1 c
        refine ev_iinc (v := x4 + 1) (ls2 := [some (.ref 0), none, some (.int x2), some (.int x3), some (.int (x4 + 1))]) dX11_isMeant_81 rfl rfl rfl ?_
        refine ev_goto (tgt := 29) dX11_isMeant_84 (by decide) ?_
        exact h
      · replace h := h.2 c
        refine ev_iconst (v := 0) dX11_isMeant_79 (by decide) ?_
        exact ev_zret dX11_isMeant_80 rfl (by decide) h
theorem dX11_meant_0 : decode cX11_meant 0 = .ok (.iload_n 1, 1) := by decide +kernel
theorem dX11_meant_1 : decode cX11_meant 1 = .ok (.iconst 0, 1) := by decide +kernel
theorem dX11_meant_2 : decode cX11_meant 2 = .ok (.aload_n 0, 1) := by decide +kernel
theorem dX11_meant_3 : decode cX11_meant 3 = .ok (.getfield 7, 3) := by decide +kernel
theorem dX11_meant_6 : decode cX11_meant 6 = .ok (.bipush 6, 2) := by decide +kernel
theorem dX11_meant_8 : decode cX11_meant 8 = .ok (.iaload, 1) := by decide +kernel
theorem dX11_meant_9 : decode cX11_meant 9 = .ok (.iconst 1, 1) := by decide +kernel
theorem dX11_meant_10 : decode cX11_meant 10 = .ok (.isub, 1) := by decide +kernel
theorem dX11_meant_11 : decode cX11_meant 11 = .ok (.invokestatic 80, 3) := by decide +kernel
theorem dX11_meant_14 : decode cX11_meant 14 = .ok (.ifCond .ne 5, 3) := by decide +kernel
theorem dX11_meant_17 : decode cX11_meant 17 = .ok (.iconst (-1), 1) := by decide +kernel
theorem dX11_meant_18 : decode cX11_meant 18 = .ok (.ireturn, 1) := by decide +kernel
theorem dX11_meant_19 : decode cX11_meant 19 = .ok (.iconst 0, 1) := by decide +kernel
theorem dX11_meant_20 : decode cX11_meant 20 = .ok (.istore_n 2, 1) := by decide +kernel
theorem dX11_meant_21 : decode cX11_meant 21 = .ok (.iconst 0, 1) := by decide +kernel
theorem dX11_meant_22 : decode cX11_meant 22 = .ok (.istore_n 3, 1) := by decide +kernel
theorem dX11_meant_23 : decode cX11_meant 23 = .ok (.iload_n 3, 1) := by decide +kernel
theorem dX11_meant_24 : decode cX11_meant 24 = .ok (.aload_n 0, 1) := by decide +kernel
theorem dX11_meant_25 : decode cX11_meant 25 = .ok (.getfield 7, 3) := by decide +kernel
theorem dX11_meant_28 : decode cX11_meant 28 = .ok (.iconst 0, 1) := by decide +kernel
theorem dX11_meant_29 : decode cX11_meant 29 = .ok (.iaload, 1) := by decide +kernel
theorem dX11_meant_30 : decode cX11_meant 30 = .ok (.if_icmp .ge 28, 3) := by decide +kernel
theorem dX11_meant_33 : decode cX11_meant 33 = .ok (.iload_n 2, 1) := by decide +kernel
theorem dX11_meant_34 : decode cX11_meant 34 = .ok (.aload_n 0, 1) := by decide +kernel
theorem dX11_meant_35 : decode cX11_meant 35 = .ok (.iload_n 1, 1) := by decide +kernel
theorem dX11_meant_36 : decode cX11_meant 36 = .ok (.iload_n 3, 1) := by decide +kernel
theorem dX11_meant_37 : decode cX11_meant 37 = .ok (.invokevirtual 503, 3) := by decide +kernel
theorem dX11_meant_40 : decode cX11_meant 40 = .ok (.ifCond .eq 9, 3) := by decide +kernel
theorem dX11_meant_43 : decode cX11_meant 43 = .ok (.iconst 1, 1) := by decide +kernel
theorem dX11_meant_44 : decode cX11_meant 44 = .ok (.iload_n 3, 1) := by decide +kernel
theorem dX11_meant_45 : decode cX11_meant 45 = .ok (.ishl, 1) := by decide +kernel
theorem dX11_meant_46 : decode cX11_meant 46 = .ok (.goto 4, 3) := by decide +kernel
theorem dX11_meant_49 : decode cX11_meant 49 = .ok (.iconst 0, 1) := by decide +kernel
theorem dX11_meant_50 : decode cX11_meant 50 = .ok (.ior, 1) := by decide +kernel
theorem dX11_meant_51 : decode cX11_meant 51 = .ok (.istore_n 2, 1) := by decide +kernel
theorem dX11_meant_52 : decode cX11_meant 52 = .ok (.iinc 3 1, 3) := by decide +kernel
theorem dX11_meant_55 : decode cX11_meant 55 = .ok (.goto (-32), 3) := by decide +kernel
theorem dX11_meant_58 : decode cX11_meant 58 = .ok (.iload_n 2, 1) := by decide +kernel
theorem dX11_meant_59 : decode cX11_meant 59 = .ok (.ireturn, 1) := by decide +kernel
theorem gX11_meant_0 {d : Nat} {M : ev_Mem} {Q : Option Value → ev_Mem → Prop} {x1 : Int32} (h : ((((iin x1 (0 : Int32) ((M.1 1 6) - 1)) = true) → (Ev LM (d + 1) mX11_meant 23 [some (.ref 0), some (.int x1), some (.int 0), some (.int 0)] [] M Q)) ∧ (((iin x1 (0 : Int32) ((M.1 1 6) - 1)) = false) → (Q (some (.int (-1))) M)))) : Ev LM (d + 1) mX11_meant 0 [some (.ref 0), some (.int x1), none, none] [] M Q := by
  refine ev_iload_n dX11_meant_0 rfl ?_
  refine ev_iconst (v := 0) dX11_meant_1 (by decide) ?_
  refine ev_aload_n dX11_meant_2 rfl ?_
  refine ev_getA dX11_meant_3 fl_WithoutEModel_7 lm_0 rfl ?_
  refine ev_bipush (v := 6) dX11_meant_6 (by decide) ?_
  refine ev_iaN (j := 6) dX11_meant_8 lm_1 (by decide) (by decide) ?_
  refine ev_iconst (v := 1) dX11_meant_9 (by decide) ?_
  refine ev_isub dX11_meant_10 ?_
  refine ev_callS [.int x1, .int 0, .int ((M.1 1 6) - 1)] dX11_meant_11 ml_WithoutEModel_80 rfl (Nat.le_of_ble_eq_true rfl) (kX11_isIn) ?_
  rintro zr zM ⟨q1, q2⟩
  rw [q1, q2]
  show Ev LM (d + 1) mX11_meant 14 [some (.ref 0), some (.int x1), none, none] [(.int (bi (iin x1 (0 : Int32) ((M.1 1 6) - 1))))] M Q
  refine ev_if_ne (tgt := 19) dX11_meant_14 (by decide) (fun c => ?_) (fun c => ?_)
  · replace h := h.1 ((bi_n0 _).mp c)
    refine ev_iconst (v := 0) dX11_meant_19 (by decide) ?_
    refine ev_istore_n (ls2 := [some (.ref 0), some (.int x1), some (.int 0), none]) dX11_meant_20 (Nat.le_of_ble_eq_true rfl) rfl ?_
    refine ev_iconst (v := 0) dX11_meant_21 (by decide) ?_
    refine ev_istore_n (ls2 := [some (.ref 0), some (.int x1), some (.int 0), some (.int 0)]) dX11_meant_22 (Nat.le_of_ble_eq_true rfl) rfl ?_
    exact h
  · replace h := h.2 ((bi_0 _).mp c)
    refine ev_iconst (v := -1) dX11_meant_17 (by decide) ?_
    exact ev_iret dX11_meant_18 rfl h
theorem gX11_meant_23 {d : Nat} {M : ev_Mem} {Q : Option Value → ev_Mem → Prop} {x1 x2 x3 : Int32} (h : ((((M.1 1 0) ≤ x3) → (Q (some (.int x2)) M)) ∧ ((¬ (M.1 1 0) ≤ x3) → (∃ Q2 : Option Value → ev_Mem → Prop, Cl LM d mX11_isMeant [.ref 0, .int x1, .int x3] M Q2 ∧ ∀ (zr : Option Value) (zM : ev_Mem), Q2 zr zM → Ev LM (d + 1) mX11_meant 40 [some (.ref 0), some (.int x1), none, some (.int x3)] (zr.toList ++ [(.int x2)]) zM Q)))) : Ev LM (d + 1) mX11_meant 23 [some (.ref 0), some (.int x1), some (.int x2), some (.int x3)] [] M Q := by
  refine ev_iload_n dX11_meant_23 rfl ?_
  refine ev_aload_n dX11_meant_24 rfl ?_
  refine ev_getA dX11_meant_25 fl_WithoutEModel_7 lm_0 rfl ?_
  refine ev_iconst (v := 0) dX11_meant_28 (by decide) ?_
  refine ev_iaN (j := 0) dX11_meant_29 lm_1 (by decide) (by decide) ?_
  refine ev_icmp_ge (tgt := 58) dX11_meant_30 (by decide) (fun c => ?_) (fun c => ?_)
  · replace h := h.1 c
    refine ev_iload_n dX11_meant_58 rfl ?_
    exact ev_iret dX11_meant_59 rfl h
  · replace h := h.2 c
    refine ev_iload_n dX11_meant_33 rfl ?_
    refine ev_aload_n dX11_meant_34 rfl ?_
    refine ev_iload_n dX11_meant_35 rfl ?_
    refine ev_iload_n dX11_meant_36 rfl ?_
    obtain ⟨Q2, hc, h⟩ := h
    refine ev_callV [.int x1, .int x3] dX11_meant_37 ml_WithoutEModel_503 lm_0 rfl rfl (Nat.le_of_ble_eq_true rfl) hc (fun zr zM q => ?_)
    refine Ev.weak (ls := [some (.ref 0), some (.int x1), none, some (.int x3)]) ⟨rfl, rfl, rfl, trivial⟩ ?_
    exact h zr zM q
theorem gX11_meant_40 {d : Nat} {M : ev_Mem} {Q : Option Value → ev_Mem → Prop} {x1 x3 s0 s1 : Int32} (h : (((s0 = 0) → (Ev LM d mX11_meant 23 [some (.ref 0), some (.int x1), some (.int (s1 ||| 0)), some (.int (x3 + 1))] [] M Q)) ∧ ((¬ s0 = 0) → (∀ v1 : Int32, v1 = s1 ||| (1 <<< (x3 &&& 31)) → (Ev LM d mX11_meant 23 [some (.ref 0), some (.int x1), some (.int v1), some (.int (x3 + 1))] [] M Q))))) : Ev LM d mX11_meant 40 [some (.ref 0), some (.int x1), none, some (.int x3)] [(.int s0), (.int s1)] M Q := by
  refine ev_if_eq (tgt := 49) dX11_meant_40 (by decide) (fun c => ?_) (fun c => ?_)
  · replace h := h.1 c
    refine ev_iconst (v := 0) dX11_meant_49 (by decide) ?_
    refine ev_ior dX11_meant_50 ?_
    refine ev_istore_n (ls2 := [some (.ref 0), some (.int x1), some (.int (s1 ||| 0)), some (.int x3)]) dX11_meant_51 (Nat.le_of_ble_eq_true rfl) rfl ?_
    refine ev_iinc (v := x3 + 1) (ls2 := [some (.ref 0), some (.int x1), some (.int (s1 ||| 0)), some (.int (x3 + 1))]) dX11_meant_52 rfl rfl rfl ?_
    refine ev_goto (tgt := 23) dX11_meant_55 (by decide) ?_
    exact h
  · replace h := h.2 c
    refine ev_iconst (v := 1) dX11_meant_43 (by decide) ?_
    refine ev_iload_n dX11_meant_44 rfl ?_
    refine ev_ishl dX11_meant_45 ?_
    refine ev_goto (tgt := 50) dX11_meant_46 (by decide) ?_
    refine ev_ior dX11_meant_50 ?_
    refine ev_istore_n (ls2 := [some (.ref 0), some (.int x1), some (.int (s1 ||| (1 <<< (x3 &&& 31)))), some (.int x3)]) dX11_meant_51 (Nat.le_of_ble_eq_true rfl) rfl ?_
    generalize ev1 : s1 ||| (1 <<< (x3 &&& 31)) = v1
    replace h := h v1 ev1.symm
    refine ev_iinc (v := x3 + 1) (ls2 := [some (.ref 0), some (.int x1), some (.int v1), some (.int (x3 + 1))]) dX11_meant_52 rfl rfl rfl ?_
    refine ev_goto (tgt := 23) dX11_meant_55 (by decide) ?_
    exact h
theorem dX11_isFitting_0 : decode cX11_isFitting 0 = .ok (.aload_n 0, 1) := by decide +kernel
theorem dX11_isFitting_1 : decode cX11_isFitting 1 = .ok (.iload_n 1, 1) := by decide +kernel
theorem dX11_isFitting_2 : decode cX11_isFitting 2 = .ok (.invokevirtual 359, 3) := by decide +kernel
theorem dX11_isFitting_5 : decode cX11_isFitting 5 = .ok (.aload_n 0, 1) := by decide +kernel
theorem dX11_isFitting_6 : decode cX11_isFitting 6 = .ok (.getfield 7, 3) := by decide +kernel
theorem dX11_isFitting_9 : decode cX11_isFitting 9 = .ok (.bipush 6, 2) := by decide +kernel
theorem dX11_isFitting_11 : decode cX11_isFitting 11 = .ok (.iaload, 1) := by decide +kernel
theorem dX11_isFitting_12 : decode cX11_isFitting 12 = .ok (.if_icmp .eq 5, 3) := by decide +kernel
theorem dX11_isFitting_15 : decode cX11_isFitting 15 = .ok (.iconst 0, 1) := by decide +kernel
theorem dX11_isFitting_16 : decode cX11_isFitting 16 = .ok (.ireturn, 1) := by decide +kernel
theorem dX11_isFitting_17 : decode cX11_isFitting 17 = .ok (.iconst 0, 1) := by decide +kernel
theorem dX11_isFitting_18 : decode cX11_isFitting 18 = .ok (.istore_n 2, 1) := by decide +kernel
theorem dX11_isFitting_19 : decode cX11_isFitting 19 = .ok (.iload_n 2, 1) := by decide +kernel
theorem dX11_isFitting_20 : decode cX11_isFitting 20 = .ok (.aload_n 0, 1) := by decide +kernel
theorem dX11_isFitting_21 : decode cX11_isFitting 21 = .ok (.iload_n 1, 1) := by decide +kernel
theorem dX11_isFitting_22 : decode cX11_isFitting 22 = .ok (.invokevirtual 359, 3) := by decide +kernel
theorem dX11_isFitting_25 : decode cX11_isFitting 25 = .ok (.if_icmp .ge 84, 3) := by decide +kernel
theorem dX11_isFitting_28 : decode cX11_isFitting 28 = .ok (.iconst 0, 1) := by decide +kernel
theorem dX11_isFitting_29 : decode cX11_isFitting 29 = .ok (.istore_n 3, 1) := by decide +kernel
theorem dX11_isFitting_30 : decode cX11_isFitting 30 = .ok (.iconst 0, 1) := by decide +kernel
theorem dX11_isFitting_31 : decode cX11_isFitting 31 = .ok (.istore 4, 2) := by decide +kernel
theorem dX11_isFitting_33 : decode cX11_isFitting 33 = .ok (.iload 4, 2) := by decide +kernel
theorem dX11_isFitting_35 : decode cX11_isFitting 35 = .ok (.aload_n 0, 1) := by decide +kernel
theorem dX11_isFitting_36 : decode cX11_isFitting 36 = .ok (.getfield 7, 3) := by decide +kernel
theorem dX11_isFitting_39 : decode cX11_isFitting 39 = .ok (.iconst 0, 1) := by decide +kernel
theorem dX11_isFitting_40 : decode cX11_isFitting 40 = .ok (.iaload, 1) := by decide +kernel
theorem dX11_isFitting_41 : decode cX11_isFitting 41 = .ok (.if_icmp .ge 56, 3) := by decide +kernel
theorem dX11_isFitting_44 : decode cX11_isFitting 44 = .ok (.iload_n 3, 1) := by decide +kernel
theorem dX11_isFitting_45 : decode cX11_isFitting 45 = .ok (.ifCond .ne 40, 3) := by decide +kernel
theorem dX11_isFitting_48 : decode cX11_isFitting 48 = .ok (.aload_n 0, 1) := by decide +kernel
theorem dX11_isFitting_49 : decode cX11_isFitting 49 = .ok (.iload 4, 2) := by decide +kernel
theorem dX11_isFitting_51 : decode cX11_isFitting 51 = .ok (.iconst 1, 1) := by decide +kernel
theorem dX11_isFitting_52 : decode cX11_isFitting 52 = .ok (.invokevirtual 92, 3) := by decide +kernel
theorem dX11_isFitting_55 : decode cX11_isFitting 55 = .ok (.aload_n 0, 1) := by decide +kernel
theorem dX11_isFitting_56 : decode cX11_isFitting 56 = .ok (.getfield 7, 3) := by decide +kernel
theorem dX11_isFitting_59 : decode cX11_isFitting 59 = .ok (.sipush 351, 3) := by decide +kernel
theorem dX11_isFitting_62 : decode cX11_isFitting 62 = .ok (.bipush 6, 2) := by decide +kernel
theorem dX11_isFitting_64 : decode cX11_isFitting 64 = .ok (.iload_n 1, 1) := by decide +kernel
theorem dX11_isFitting_65 : decode cX11_isFitting 65 = .ok (.imul, 1) := by decide +kernel
theorem dX11_isFitting_66 : decode cX11_isFitting 66 = .ok (.iadd, 1) := by decide +kernel
theorem dX11_isFitting_67 : decode cX11_isFitting 67 = .ok (.iconst 1, 1) := by decide +kernel
theorem dX11_isFitting_68 : decode cX11_isFitting 68 = .ok (.iadd, 1) := by decide +kernel
theorem dX11_isFitting_69 : decode cX11_isFitting 69 = .ok (.iload_n 2, 1) := by decide +kernel
theorem dX11_isFitting_70 : decode cX11_isFitting 70 = .ok (.iadd, 1) := by decide +kernel
theorem dX11_isFitting_71 : decode cX11_isFitting 71 = .ok (.iaload, 1) := by decide +kernel
theorem dX11_isFitting_72 : decode cX11_isFitting 72 = .ok (.if_icmp .ne 17, 3) := by decide +kernel
theorem dX11_isFitting_75 : decode cX11_isFitting 75 = .ok (.aload_n 0, 1) := by decide +kernel
theorem dX11_isFitting_76 : decode cX11_isFitting 76 = .ok (.iload_n 2, 1) := by decide +kernel
theorem dX11_isFitting_77 : decode cX11_isFitting 77 = .ok (.iload 4, 2) := by decide +kernel
theorem dX11_isFitting_79 : decode cX11_isFitting 79 = .ok (.invokevirtual 503, 3) := by decide +kernel
theorem dX11_isFitting_82 : decode cX11_isFitting 82 = .ok (.ifCond .eq 7, 3) := by decide +kernel
theorem dX11_isFitting_85 : decode cX11_isFitting 85 = .ok (.iconst 1, 1) := by decide +kernel
theorem dX11_isFitting_86 : decode cX11_isFitting 86 = .ok (.goto 4, 3) := by decide +kernel
theorem dX11_isFitting_89 : decode cX11_isFitting 89 = .ok (.iconst 0, 1) := by decide +kernel
theorem dX11_isFitting_90 : decode cX11_isFitting 90 = .ok (.istore_n 3, 1) := by decide +kernel
theorem dX11_isFitting_91 : decode cX11_isFitting 91 = .ok (.iinc 4 1, 3) := by decide +kernel
theorem dX11_isFitting_94 : decode cX11_isFitting 94 = .ok (.goto (-61), 3) := by decide +kernel
theorem dX11_isFitting_97 : decode cX11_isFitting 97 = .ok (.iload_n 3, 1) := by decide +kernel
theorem dX11_isFitting_98 : decode cX11_isFitting 98 = .ok (.ifCond .ne 5, 3) := by decide +kernel
theorem dX11_isFitting_101 : decode cX11_isFitting 101 = .ok (.iconst 0, 1) := by decide +kernel
theorem dX11_isFitting_102 : decode cX11_isFitting 102 = .ok (.ireturn, 1) := by decide +kernel
theorem dX11_isFitting_103 : decode cX11_isFitting 103 = .ok (.iinc 2 1, 3) := by decide +kernel
theorem dX11_isFitting_106 : decode cX11_isFitting 106 = .ok (.goto (-87), 3) := by decide +kernel
theorem dX11_isFitting_109 : decode cX11_isFitting 109 = .ok (.iconst 1, 1) := by decide +kernel
theorem dX11_isFitting_110 : decode cX11_isFitting 110 = .ok (.ireturn, 1) := by decide +kernel
theorem gX11_isFitting_0 {d : Nat} {M : ev_Mem} {Q : Option Value → ev_Mem → Prop} {x1 : Int32} (h : ((vp_in (351 + 6 * x1) 3315) ∧ ((((M.1 1 (351 + 6 * x1).toNatClampNeg) = (M.1 1 6)) → (Ev LM (d + 1) mX11_isFitting 19 [some (.ref 0), some (.int x1), some (.int 0), none, none] [] M Q)) ∧ ((¬ (M.1 1 (351 + 6 * x1).toNatClampNeg) = (M.1 1 6)) → (Q (some (.int 0)) M))))) : Ev LM (d + 1) mX11_isFitting 0 [some (.ref 0), some (.int x1), none, none, none] [] M Q := by
  refine ev_aload_n dX11_isFitting_0 rfl ?_
  refine ev_iload_n dX11_isFitting_1 rfl ?_
  obtain ⟨p1, h⟩ := h
  refine ev_callV [.int x1] dX11_isFitting_2 ml_WithoutEModel_359 lm_0 rfl rfl (Nat.le_of_ble_eq_true rfl) (kX11_lengthOf p1) ?_
  rintro zr zM ⟨q1, q2⟩
  rw [q1, q2]
  show Ev LM (d + 1) mX11_isFitting 5 [some (.ref 0), some (.int x1), none, none, none] [(.int (M.1 1 (351 + 6 * x1).toNatClampNeg))] M Q
  refine ev_aload_n dX11_isFitting_5 rfl ?_
  refine ev_getA dX11_isFitting_6 fl_WithoutEModel_7 lm_0 rfl ?_
  refine ev_bipush (v := 6) dX11_isFitting_9 (by decide) ?_
  refine ev_iaN (j := 6) dX11_isFitting_11 lm_1 (by decide) (by decide) ?_
  refine ev_icmp_eq (tgt := 17) dX11_isFitting_12 (by decide) (fun c => ?_) (fun c => ?_)
  · replace h := h.1 c
    refine ev_iconst (v := 0) dX11_isFitting_17 (by decide) ?_
    refine ev_istore_n (ls2 := [some (.ref 0), some (.int x1), some (.int 0), none, none]) dX11_isFitting_18 (Nat.le_of_ble_eq_true rfl) rfl ?_
    exact h
  · replace h := h.2 c
    refine ev_iconst (v := 0) dX11_isFitting_15 (by decide) ?_
    exact ev_zret dX11_isFitting_16 rfl (by decide) h
theorem gX11_isFitting_19 {d : Nat} {M : ev_Mem} {Q : Option Value → ev_Mem → Prop} {x1 x2 : Int32} (h : ((vp_in (351 + 6 * x1) 3315) ∧ ((((M.1 1 (351 + 6 * x1).toNatClampNeg) ≤ x2) → (Q (some (.int 1)) M)) ∧ ((¬ (M.1 1 (351 + 6 * x1).toNatClampNeg) ≤ x2) → (Ev LM (d + 1) mX11_isFitting 33 [some (.ref 0), some (.int x1), some (.int x2), some (.int 0), some (.int 0)] [] M Q))))) : Ev LM (d + 1) mX11_isFitting 19 [some (.ref 0), some (.int x1), some (.int x2), none, none] [] M Q := by
  refine ev_iload_n dX11_isFitting_19 rfl ?_
  refine ev_aload_n dX11_isFitting_20 rfl ?_
  refine ev_iload_n dX11_isFitting_21 rfl ?_
  obtain ⟨p1, h⟩ := h
  refine ev_callV [.int x1] dX11_isFitting_22 ml_WithoutEModel_359 lm_0 rfl rfl (Nat.le_of_ble_eq_true rfl) (kX11_lengthOf p1) ?_
  rintro zr zM ⟨q1, q2⟩
  rw [q1, q2]
  show Ev LM (d + 1) mX11_isFitting 25 [some (.ref 0), some (.int x1), some (.int x2), none, none] [(.int (M.1 1 (351 + 6 * x1).toNatClampNeg)), (.int x2)] M Q
  refine ev_icmp_ge (tgt := 109) dX11_isFitting_25 (by decide) (fun c => ?_) (fun c => ?_)
  · replace h := h.1 c
    refine ev_iconst (v := 1) dX11_isFitting_109 (by decide) ?_
    exact ev_zret dX11_isFitting_110 rfl (by decide) h
  · replace h := h.2 c
    refine ev_iconst (v := 0) dX11_isFitting_28 (by decide) ?_
    refine ev_istore_n (ls2 := [some (.ref 0), some (.int x1), some (.int x2), some (.int 0), none]) dX11_isFitting_29 (Nat.le_of_ble_eq_true rfl) rfl ?_
    refine ev_iconst (v := 0) dX11_isFitting_30 (by decide) ?_
    refine ev_istore (ls2 := [some (.ref 0), some (.int x1), some (.int x2), some (.int 0), some (.int 0)]) dX11_isFitting_31 (Nat.le_of_ble_eq_true rfl) rfl ?_
    exact h
theorem gX11_isFitting_33 {d : Nat} {M : ev_Mem} {Q : Option Value → ev_Mem → Prop} {x1 x2 x3 x4 : Int32} (h : ((((M.1 1 0) ≤ x4) → (((¬ x3 = 0) → (Ev LM (d + 1) mX11_isFitting 19 [some (.ref 0), some (.int x1), some (.int (x2 + 1)), none, none] [] M Q)) ∧ ((x3 = 0) → (Q (some (.int 0)) M)))) ∧ ((¬ (M.1 1 0) ≤ x4) → (((¬ x3 = 0) → (Ev LM (d + 1) mX11_isFitting 33 [some (.ref 0), some (.int x1), some (.int x2), some (.int 1), some (.int (x4 + 1))] [] M Q)) ∧ ((x3 = 0) → ((vp_in (39 + 13 * x4 + (1 : Int32)) 3315) ∧ (vp_in (((351 + (6 * x1)) + 1) + x2) 3315 ∧ (((¬ (M.1 1 (39 + 13 * x4 + (1 : Int32)).toNatClampNeg) = (M.1 1 (((351 + (6 * x1)) + 1) + x2).toNatClampNeg)) → (Ev LM (d + 1) mX11_isFitting 33 [some (.ref 0), some (.int x1), some (.int x2), some (.int 0), some (.int (x4 + 1))] [] M Q)) ∧ (((M.1 1 (39 + 13 * x4 + (1 : Int32)).toNatClampNeg) = (M.1 1 (((351 + (6 * x1)) + 1) + x2).toNatClampNeg)) → (∃ Q2 : Option Value → ev_Mem → Prop, Cl LM d mX11_isMeant [.ref 0, .int x2, .int x4] M Q2 ∧ ∀ (zr : Option Value) (zM : ev_Mem), Q2 zr zM → Ev LM (d + 1) mX11_isFitting 82 [some (.ref 0), some (.int x1), some (.int x2), none, some (.int x4)] (zr.toList ++ []) zM Q)))))))))) : Ev LM (d + 1) mX11_isFitting 33 [some (.ref 0), some (.int x1), some (.int x2), some (.int x3), some (.int x4)] [] M Q := by
  refine ev_iload dX11_isFitting_33 rfl ?_
  refine ev_aload_n dX11_isFitting_35 rfl ?_
  refine ev_getA dX11_isFitting_36 fl_WithoutEModel_7 lm_0 rfl ?_
  refine ev_iconst (v := 0) dX11_isFitting_39 (by decide) ?_
  refine ev_iaN (j := 0) dX11_isFitting_40 lm_1 (by decide) (by decide) ?_
  refine ev_icmp_ge (tgt := 97) dX11_isFitting_41 (by decide) (fun c => ?_) (fun c => ?_)
  · replace h := h.1 c
    refine ev_iload_n dX11_isFitting_97 rfl ?_
    refine ev_if_ne (tgt := 103) dX11_isFitting_98 (by decide) (fun c => ?_) (fun c => ?_)
    · replace h := h.1 c
      refine ev_iinc (v := x2 + 1) (ls2 := [some (.ref 0), some (.int x1), some (.int (x2 + 1)), some (.int x3), some (.int x4)]) dX11_isFitting_103 rfl rfl rfl ?_
      refine ev_goto (tgt := 19) dX11_isFitting_106 (by decide) ?_
      refine Ev.weak (ls := [some (.ref 0), some (.int x1), some (.int (x2 + 1)), none, none]) ⟨rfl, rfl, rfl, trivial⟩ ?_
      exact h
    · replace h := h.2 c
      refine ev_iconst (v := 0) dX11_isFitting_101 (by decide) ?_
      exact ev_zret dX11_isFitting_102 rfl (by decide) h
  · replace h := h.2 c
    refine ev_iload_n dX11_isFitting_44 rfl ?_
    refine ev_if_ne (tgt := 85) dX11_isFitting_45 (by decide) (fun c => ?_) (fun c => ?_)
    · replace h := h.1 c
      refine ev_iconst (v := 1) dX11_isFitting_85 (by decide) ?_
      refine ev_goto (tgt := 90) dX11_isFitting_86 (by decide) ?_
      refine ev_istore_n (ls2 := [some (.ref 0), some (.int x1), some (.int x2), some (.int 1), some (.int x4)]) dX11_isFitting_90 (Nat.le_of_ble_eq_true rfl) rfl ?_
      refine ev_iinc (v := x4 + 1) (ls2 := [some (.ref 0), some (.int x1), some (.int x2), some (.int 1), some (.int (x4 + 1))]) dX11_isFitting_91 rfl rfl rfl ?_
      refine ev_goto (tgt := 33) dX11_isFitting_94 (by decide) ?_
      exact h
    · replace h := h.2 c
      refine ev_aload_n dX11_isFitting_48 rfl ?_
      refine ev_iload dX11_isFitting_49 rfl ?_
      refine ev_iconst (v := 1) dX11_isFitting_51 (by decide) ?_
      obtain ⟨p1, h⟩ := h
      refine ev_callV [.int x4, .int 1] dX11_isFitting_52 ml_WithoutEModel_92 lm_0 rfl rfl (Nat.le_of_ble_eq_true rfl) (kX11_get p1) ?_
      rintro zr zM ⟨q1, q2⟩
      rw [q1, q2]
      show Ev LM (d + 1) mX11_isFitting 55 [some (.ref 0), some (.int x1), some (.int x2), some (.int x3), some (.int x4)] [(.int (M.1 1 (39 + 13 * x4 + (1 : Int32)).toNatClampNeg))] M Q
      refine ev_aload_n dX11_isFitting_55 rfl ?_
      refine ev_getA dX11_isFitting_56 fl_WithoutEModel_7 lm_0 rfl ?_
      refine ev_sipush (v := 351) dX11_isFitting_59 (by decide) ?_
      refine ev_bipush (v := 6) dX11_isFitting_62 (by decide) ?_
      refine ev_iload_n dX11_isFitting_64 rfl ?_
      refine ev_imul dX11_isFitting_65 ?_
      refine ev_iadd dX11_isFitting_66 ?_
      refine ev_iconst (v := 1) dX11_isFitting_67 (by decide) ?_
      refine ev_iadd dX11_isFitting_68 ?_
      refine ev_iload_n dX11_isFitting_69 rfl ?_
      refine ev_iadd dX11_isFitting_70 ?_
      obtain ⟨c, h⟩ := h
      refine ev_iald dX11_isFitting_71 lm_1 c ?_
      refine ev_icmp_ne (tgt := 89) dX11_isFitting_72 (by decide) (fun c => ?_) (fun c => ?_)
      · replace h := h.1 c
        refine ev_iconst (v := 0) dX11_isFitting_89 (by decide) ?_
        refine ev_istore_n (ls2 := [some (.ref 0), some (.int x1), some (.int x2), some (.int 0), some (.int x4)]) dX11_isFitting_90 (Nat.le_of_ble_eq_true rfl) rfl ?_
        refine ev_iinc (v := x4 + 1) (ls2 := [some (.ref 0), some (.int x1), some (.int x2), some (.int 0), some (.int (x4 + 1))]) dX11_isFitting_91 rfl rfl rfl ?_
        refine ev_goto (tgt := 33) dX11_isFitting_94 (by decide) ?_
        exact h
      · replace h := h.2 c
        refine ev_aload_n dX11_isFitting_75 rfl ?_
        refine ev_iload_n dX11_isFitting_76 rfl ?_
        refine ev_iload dX11_isFitting_77 rfl ?_
        obtain ⟨Q2, hc, h⟩ := h
        refine ev_callV [.int x2, .int x4] dX11_isFitting_79 ml_WithoutEModel_503 lm_0 rfl rfl (Nat.le_of_ble_eq_true rfl) hc (fun zr zM q => ?_)
        refine Ev.weak (ls := [some (.ref 0), some (.int x1), some (.int x2), none, some (.int x4)]) ⟨rfl, rfl, rfl, rfl, trivial⟩ ?_
        exact h zr zM q
theorem gX11_isFitting_82 {d : Nat} {M : ev_Mem} {Q : Option Value → ev_Mem → Prop} {x1 x2 x4 s0 : Int32} (h : (((s0 = 0) → (Ev LM d mX11_isFitting 33 [some (.ref 0), some (.int x1), some (.int x2), some (.int 0), some (.int (x4 + 1))] [] M Q)) ∧ ((¬ s0 = 0) → (Ev LM d mX11_isFitting 33 [some (.ref 0), some (.int x1), some (.int x2), some (.int 1), some (.int (x4 + 1))] [] M Q)))) : Ev LM d mX11_isFitting 82 [some (.ref 0), some (.int x1), some (.int x2), none, some (.int x4)] [(.int s0)] M Q := by
  refine ev_if_eq (tgt := 89) dX11_isFitting_82 (by decide) (fun c => ?_) (fun c => ?_)
  · replace h := h.1 c
    refine ev_iconst (v := 0) dX11_isFitting_89 (by decide) ?_
    refine ev_istore_n (ls2 := [some (.ref 0), some (.int x1), some (.int x2), some (.int 0), some (.int x4)]) dX11_isFitting_90 (Nat.le_of_ble_eq_true rfl) rfl ?_
    refine ev_iinc (v := x4 + 1) (ls2 := [some (.ref 0), some (.int x1), some (.int x2), some (.int 0), some (.int (x4 + 1))]) dX11_isFitting_91 rfl rfl rfl ?_
    refine ev_goto (tgt := 33) dX11_isFitting_94 (by decide) ?_
    exact h
  · replace h := h.2 c
    refine ev_iconst (v := 1) dX11_isFitting_85 (by decide) ?_
    refine ev_goto (tgt := 90) dX11_isFitting_86 (by decide) ?_
    refine ev_istore_n (ls2 := [some (.ref 0), some (.int x1), some (.int x2), some (.int 1), some (.int x4)]) dX11_isFitting_90 (Nat.le_of_ble_eq_true rfl) rfl ?_
    refine ev_iinc (v := x4 + 1) (ls2 := [some (.ref 0), some (.int x1), some (.int x2), some (.int 1), some (.int (x4 + 1))]) dX11_isFitting_91 rfl rfl rfl ?_
    refine ev_goto (tgt := 33) dX11_isFitting_94 (by decide) ?_
    exact h
theorem dX11_fits_0 : decode cX11_fits 0 = .ok (.iconst 0, 1) := by decide +kernel
theorem dX11_fits_1 : decode cX11_fits 1 = .ok (.istore_n 1, 1) := by decide +kernel
theorem dX11_fits_2 : decode cX11_fits 2 = .ok (.iconst 0, 1) := by decide +kernel
theorem dX11_fits_3 : decode cX11_fits 3 = .ok (.istore_n 2, 1) := by decide +kernel
theorem dX11_fits_4 : decode cX11_fits 4 = .ok (.iload_n 2, 1) := by decide +kernel
theorem dX11_fits_5 : decode cX11_fits 5 = .ok (.aload_n 0, 1) := by decide +kernel
theorem dX11_fits_6 : decode cX11_fits 6 = .ok (.getfield 7, 3) := by decide +kernel
theorem dX11_fits_9 : decode cX11_fits 9 = .ok (.iconst 1, 1) := by decide +kernel
theorem dX11_fits_10 : decode cX11_fits 10 = .ok (.iaload, 1) := by decide +kernel
theorem dX11_fits_11 : decode cX11_fits 11 = .ok (.if_icmp .ge 27, 3) := by decide +kernel
theorem dX11_fits_14 : decode cX11_fits 14 = .ok (.iload_n 1, 1) := by decide +kernel
theorem dX11_fits_15 : decode cX11_fits 15 = .ok (.aload_n 0, 1) := by decide +kernel
theorem dX11_fits_16 : decode cX11_fits 16 = .ok (.iload_n 2, 1) := by decide +kernel
theorem dX11_fits_17 : decode cX11_fits 17 = .ok (.invokevirtual 506, 3) := by decide +kernel
theorem dX11_fits_20 : decode cX11_fits 20 = .ok (.ifCond .eq 9, 3) := by decide +kernel
theorem dX11_fits_23 : decode cX11_fits 23 = .ok (.iconst 1, 1) := by decide +kernel
theorem dX11_fits_24 : decode cX11_fits 24 = .ok (.iload_n 2, 1) := by decide +kernel
theorem dX11_fits_25 : decode cX11_fits 25 = .ok (.ishl, 1) := by decide +kernel
theorem dX11_fits_26 : decode cX11_fits 26 = .ok (.goto 4, 3) := by decide +kernel
theorem dX11_fits_29 : decode cX11_fits 29 = .ok (.iconst 0, 1) := by decide +kernel
theorem dX11_fits_30 : decode cX11_fits 30 = .ok (.ior, 1) := by decide +kernel
theorem dX11_fits_31 : decode cX11_fits 31 = .ok (.istore_n 1, 1) := by decide +kernel
theorem dX11_fits_32 : decode cX11_fits 32 = .ok (.iinc 2 1, 3) := by decide +kernel
theorem dX11_fits_35 : decode cX11_fits 35 = .ok (.goto (-31), 3) := by decide +kernel
theorem dX11_fits_38 : decode cX11_fits 38 = .ok (.iload_n 1, 1) := by decide +kernel
theorem dX11_fits_39 : decode cX11_fits 39 = .ok (.ireturn, 1) := by decide +kernel
theorem gX11_fits_0 {d : Nat} {M : ev_Mem} {Q : Option Value → ev_Mem → Prop} (h : (Ev LM d mX11_fits 4 [some (.ref 0), some (.int 0), some (.int 0)] [] M Q)) : Ev LM d mX11_fits 0 [some (.ref 0), none, none] [] M Q := by
  refine ev_iconst (v := 0) dX11_fits_0 (by decide) ?_
  refine ev_istore_n (ls2 := [some (.ref 0), some (.int 0), none]) dX11_fits_1 (Nat.le_of_ble_eq_true rfl) rfl ?_
  refine ev_iconst (v := 0) dX11_fits_2 (by decide) ?_
  refine ev_istore_n (ls2 := [some (.ref 0), some (.int 0), some (.int 0)]) dX11_fits_3 (Nat.le_of_ble_eq_true rfl) rfl ?_
  exact h
theorem gX11_fits_4 {d : Nat} {M : ev_Mem} {Q : Option Value → ev_Mem → Prop} {x1 x2 : Int32} (h : ((((M.1 1 1) ≤ x2) → (Q (some (.int x1)) M)) ∧ ((¬ (M.1 1 1) ≤ x2) → (∃ Q2 : Option Value → ev_Mem → Prop, Cl LM d mX11_isFitting [.ref 0, .int x2] M Q2 ∧ ∀ (zr : Option Value) (zM : ev_Mem), Q2 zr zM → Ev LM (d + 1) mX11_fits 20 [some (.ref 0), none, some (.int x2)] (zr.toList ++ [(.int x1)]) zM Q)))) : Ev LM (d + 1) mX11_fits 4 [some (.ref 0), some (.int x1), some (.int x2)] [] M Q := by
  refine ev_iload_n dX11_fits_4 rfl ?_
  refine ev_aload_n dX11_fits_5 rfl ?_
  refine ev_getA dX11_fits_6 fl_WithoutEModel_7 lm_0 rfl ?_
  refine ev_iconst (v := 1) dX11_fits_9 (by decide) ?_
  refine ev_iaN (j := 1) dX11_fits_10 lm_1 (by decide) (by decide) ?_
  refine ev_icmp_ge (tgt := 38) dX11_fits_11 (by decide) (fun c => ?_) (fun c => ?_)
  · replace h := h.1 c
    refine ev_iload_n dX11_fits_38 rfl ?_
    exact ev_iret dX11_fits_39 rfl h
  · replace h := h.2 c
    refine ev_iload_n dX11_fits_14 rfl ?_
    refine ev_aload_n dX11_fits_15 rfl ?_
    refine ev_iload_n dX11_fits_16 rfl ?_
    obtain ⟨Q2, hc, h⟩ := h
    refine ev_callV [.int x2] dX11_fits_17 ml_WithoutEModel_506 lm_0 rfl rfl (Nat.le_of_ble_eq_true rfl) hc (fun zr zM q => ?_)
    refine Ev.weak (ls := [some (.ref 0), none, some (.int x2)]) ⟨rfl, rfl, trivial⟩ ?_
    exact h zr zM q
theorem gX11_fits_20 {d : Nat} {M : ev_Mem} {Q : Option Value → ev_Mem → Prop} {x2 s0 s1 : Int32} (h : (((s0 = 0) → (Ev LM d mX11_fits 4 [some (.ref 0), some (.int (s1 ||| 0)), some (.int (x2 + 1))] [] M Q)) ∧ ((¬ s0 = 0) → (∀ v1 : Int32, v1 = s1 ||| (1 <<< (x2 &&& 31)) → (Ev LM d mX11_fits 4 [some (.ref 0), some (.int v1), some (.int (x2 + 1))] [] M Q))))) : Ev LM d mX11_fits 20 [some (.ref 0), none, some (.int x2)] [(.int s0), (.int s1)] M Q := by
  refine ev_if_eq (tgt := 29) dX11_fits_20 (by decide) (fun c => ?_) (fun c => ?_)
  · replace h := h.1 c
    refine ev_iconst (v := 0) dX11_fits_29 (by decide) ?_
    refine ev_ior dX11_fits_30 ?_
    refine ev_istore_n (ls2 := [some (.ref 0), some (.int (s1 ||| 0)), some (.int x2)]) dX11_fits_31 (Nat.le_of_ble_eq_true rfl) rfl ?_
    refine ev_iinc (v := x2 + 1) (ls2 := [some (.ref 0), some (.int (s1 ||| 0)), some (.int (x2 + 1))]) dX11_fits_32 rfl rfl rfl ?_
    refine ev_goto (tgt := 4) dX11_fits_35 (by decide) ?_
    exact h
  · replace h := h.2 c
    refine ev_iconst (v := 1) dX11_fits_23 (by decide) ?_
    refine ev_iload_n dX11_fits_24 rfl ?_
    refine ev_ishl dX11_fits_25 ?_
    refine ev_goto (tgt := 30) dX11_fits_26 (by decide) ?_
    refine ev_ior dX11_fits_30 ?_
    refine ev_istore_n (ls2 := [some (.ref 0), some (.int (s1 ||| (1 <<< (x2 &&& 31)))), some (.int x2)]) dX11_fits_31 (Nat.le_of_ble_eq_true rfl) rfl ?_
    generalize ev1 : s1 ||| (1 <<< (x2 &&& 31)) = v1
    replace h := h v1 ev1.symm
    refine ev_iinc (v := x2 + 1) (ls2 := [some (.ref 0), some (.int v1), some (.int (x2 + 1))]) dX11_fits_32 rfl rfl rfl ?_
    refine ev_goto (tgt := 4) dX11_fits_35 (by decide) ?_
    exact h
theorem dX11_book_0 : decode cX11_book 0 = .ok (.iload_n 1, 1) := by decide +kernel
theorem dX11_book_1 : decode cX11_book 1 = .ok (.iconst (-1), 1) := by decide +kernel
theorem dX11_book_2 : decode cX11_book 2 = .ok (.if_icmp .ne 11, 3) := by decide +kernel
theorem dX11_book_5 : decode cX11_book 5 = .ok (.aload_n 0, 1) := by decide +kernel
theorem dX11_book_6 : decode cX11_book 6 = .ok (.getfield 7, 3) := by decide +kernel
theorem dX11_book_9 : decode cX11_book 9 = .ok (.bipush 12, 2) := by decide +kernel
theorem dX11_book_11 : decode cX11_book 11 = .ok (.iaload, 1) := by decide +kernel
theorem dX11_book_12 : decode cX11_book 12 = .ok (.ireturn, 1) := by decide +kernel
theorem dX11_book_13 : decode cX11_book 13 = .ok (.iload_n 1, 1) := by decide +kernel
theorem dX11_book_14 : decode cX11_book 14 = .ok (.iconst 0, 1) := by decide +kernel
theorem dX11_book_15 : decode cX11_book 15 = .ok (.aload_n 0, 1) := by decide +kernel
theorem dX11_book_16 : decode cX11_book 16 = .ok (.getfield 7, 3) := by decide +kernel
theorem dX11_book_19 : decode cX11_book 19 = .ok (.bipush 12, 2) := by decide +kernel
theorem dX11_book_21 : decode cX11_book 21 = .ok (.iaload, 1) := by decide +kernel
theorem dX11_book_22 : decode cX11_book 22 = .ok (.iconst 1, 1) := by decide +kernel
theorem dX11_book_23 : decode cX11_book 23 = .ok (.isub, 1) := by decide +kernel
theorem dX11_book_24 : decode cX11_book 24 = .ok (.invokestatic 80, 3) := by decide +kernel
theorem dX11_book_27 : decode cX11_book 27 = .ok (.ifCond .ne 6, 3) := by decide +kernel
theorem dX11_book_30 : decode cX11_book 30 = .ok (.bipush (-2), 2) := by decide +kernel
theorem dX11_book_32 : decode cX11_book 32 = .ok (.ireturn, 1) := by decide +kernel
theorem dX11_book_33 : decode cX11_book 33 = .ok (.aload_n 0, 1) := by decide +kernel
theorem dX11_book_34 : decode cX11_book 34 = .ok (.getfield 7, 3) := by decide +kernel
theorem dX11_book_37 : decode cX11_book 37 = .ok (.sipush 3255, 3) := by decide +kernel
theorem dX11_book_40 : decode cX11_book 40 = .ok (.iconst 2, 1) := by decide +kernel
theorem dX11_book_41 : decode cX11_book 41 = .ok (.iload_n 1, 1) := by decide +kernel
theorem dX11_book_42 : decode cX11_book 42 = .ok (.imul, 1) := by decide +kernel
theorem dX11_book_43 : decode cX11_book 43 = .ok (.iadd, 1) := by decide +kernel
theorem dX11_book_44 : decode cX11_book 44 = .ok (.iconst 1, 1) := by decide +kernel
theorem dX11_book_45 : decode cX11_book 45 = .ok (.iadd, 1) := by decide +kernel
theorem dX11_book_46 : decode cX11_book 46 = .ok (.iaload, 1) := by decide +kernel
theorem dX11_book_47 : decode cX11_book 47 = .ok (.istore_n 3, 1) := by decide +kernel
theorem dX11_book_48 : decode cX11_book 48 = .ok (.iload_n 2, 1) := by decide +kernel
theorem dX11_book_49 : decode cX11_book 49 = .ok (.ifCond .ne 18, 3) := by decide +kernel
theorem dX11_book_52 : decode cX11_book 52 = .ok (.aload_n 0, 1) := by decide +kernel
theorem dX11_book_53 : decode cX11_book 53 = .ok (.getfield 7, 3) := by decide +kernel
theorem dX11_book_56 : decode cX11_book 56 = .ok (.sipush 3255, 3) := by decide +kernel
theorem dX11_book_59 : decode cX11_book 59 = .ok (.iconst 2, 1) := by decide +kernel
theorem dX11_book_60 : decode cX11_book 60 = .ok (.iload_n 1, 1) := by decide +kernel
theorem dX11_book_61 : decode cX11_book 61 = .ok (.imul, 1) := by decide +kernel
theorem dX11_book_62 : decode cX11_book 62 = .ok (.iadd, 1) := by decide +kernel
theorem dX11_book_63 : decode cX11_book 63 = .ok (.iaload, 1) := by decide +kernel
theorem dX11_book_64 : decode cX11_book 64 = .ok (.goto 46, 3) := by decide +kernel
theorem dX11_book_67 : decode cX11_book 67 = .ok (.iload_n 2, 1) := by decide +kernel
theorem dX11_book_68 : decode cX11_book 68 = .ok (.iconst 1, 1) := by decide +kernel
theorem dX11_book_69 : decode cX11_book 69 = .ok (.if_icmp .ne 11, 3) := by decide +kernel
theorem dX11_book_72 : decode cX11_book 72 = .ok (.iload_n 3, 1) := by decide +kernel
theorem dX11_book_73 : decode cX11_book 73 = .ok (.ldc_w 444, 3) := by decide +kernel
theorem dX11_book_76 : decode cX11_book 76 = .ok (.idiv, 1) := by decide +kernel
theorem dX11_book_77 : decode cX11_book 77 = .ok (.goto 33, 3) := by decide +kernel
theorem dX11_book_80 : decode cX11_book 80 = .ok (.iload_n 2, 1) := by decide +kernel
theorem dX11_book_81 : decode cX11_book 81 = .ok (.iconst 2, 1) := by decide +kernel
theorem dX11_book_82 : decode cX11_book 82 = .ok (.if_icmp .ne 13, 3) := by decide +kernel
theorem dX11_book_85 : decode cX11_book 85 = .ok (.iload_n 3, 1) := by decide +kernel
theorem dX11_book_86 : decode cX11_book 86 = .ok (.sipush 10000, 3) := by decide +kernel
theorem dX11_book_89 : decode cX11_book 89 = .ok (.idiv, 1) := by decide +kernel
theorem dX11_book_90 : decode cX11_book 90 = .ok (.iconst 4, 1) := by decide +kernel
theorem dX11_book_91 : decode cX11_book 91 = .ok (.irem, 1) := by decide +kernel
theorem dX11_book_92 : decode cX11_book 92 = .ok (.goto 18, 3) := by decide +kernel
theorem dX11_book_95 : decode cX11_book 95 = .ok (.iload_n 2, 1) := by decide +kernel
theorem dX11_book_96 : decode cX11_book 96 = .ok (.iconst 3, 1) := by decide +kernel
theorem dX11_book_97 : decode cX11_book 97 = .ok (.if_icmp .ne 11, 3) := by decide +kernel
theorem dX11_book_100 : decode cX11_book 100 = .ok (.iload_n 3, 1) := by decide +kernel
theorem dX11_book_101 : decode cX11_book 101 = .ok (.sipush 10000, 3) := by decide +kernel
theorem dX11_book_104 : decode cX11_book 104 = .ok (.irem, 1) := by decide +kernel
theorem dX11_book_105 : decode cX11_book 105 = .ok (.goto 5, 3) := by decide +kernel
theorem dX11_book_108 : decode cX11_book 108 = .ok (.bipush (-2), 2) := by decide +kernel
theorem dX11_book_110 : decode cX11_book 110 = .ok (.ireturn, 1) := by decide +kernel
theorem gX11_book_0 {d : Nat} {M : ev_Mem} {Q : Option Value → ev_Mem → Prop} {x1 x2 : Int32} (h : (((¬ x1 = (-1)) → ((((iin x1 (0 : Int32) ((M.1 1 12) - 1)) = true) → (vp_in ((3255 + (2 * x1)) + 1) 3315 ∧ (∀ v1 : Int32, v1 = M.1 1 ((3255 + (2 * x1)) + 1).toNatClampNeg → (((¬ x2 = 0) → (((¬ x2 = 1) → (((¬ x2 = 2) → (((¬ x2 = 3) → (Q (some (.int (-2))) M)) ∧ ((x2 = 3) → (Q (some (.int (v1 - v1 / 10000 * 10000))) M)))) ∧ ((x2 = 2) → (Q (some (.int ((v1 / 10000) - (v1 / 10000) / 4 * 4))) M)))) ∧ ((x2 = 1) → (Q (some (.int (v1 / 40000))) M)))) ∧ ((x2 = 0) → (vp_in (3255 + (2 * x1)) 3315 ∧ (Q (some (.int (M.1 1 (3255 + (2 * x1)).toNatClampNeg))) M))))))) ∧ (((iin x1 (0 : Int32) ((M.1 1 12) - 1)) = false) → (Q (some (.int (-2))) M)))) ∧ ((x1 = (-1)) → (Q (some (.int (M.1 1 12))) M)))) : Ev LM (d + 1) mX11_book 0 [some (.ref 0), some (.int x1), some (.int x2), none] [] M Q := by
  refine ev_iload_n dX11_book_0 rfl ?_
  refine ev_iconst (v := -1) dX11_book_1 (by decide) ?_
  refine ev_icmp_ne (tgt := 13) dX11_book_2 (by decide) (fun c => ?_) (fun c => ?_)
  · replace h := h.1 c
    refine ev_iload_n dX11_book_13 rfl ?_
    refine ev_iconst (v := 0) dX11_book_14 (by decide) ?_
    refine ev_aload_n dX11_book_15 rfl ?_
    refine ev_getA dX11_book_16 fl_WithoutEModel_7 lm_0 rfl ?_
    refine ev_bipush (v := 12) dX11_book_19 (by decide) ?_
    refine ev_iaN (j := 12) dX11_book_21 lm_1 (by decide) (by decide) ?_
    refine ev_iconst (v := 1) dX11_book_22 (by decide) ?_
    refine ev_isub dX11_book_23 ?_
    refine ev_callS [.int x1, .int 0, .int ((M.1 1 12) - 1)] dX11_book_24 ml_WithoutEModel_80 rfl (Nat.le_of_ble_eq_true rfl) (kX11_isIn) ?_
    rintro zr zM ⟨q1, q2⟩
    rw [q1, q2]
    show Ev LM (d + 1) mX11_book 27 [some (.ref 0), some (.int x1), some (.int x2), none] [(.int (bi (iin x1 (0 : Int32) ((M.1 1 12) - 1))))] M Q
    refine ev_if_ne (tgt := 33) dX11_book_27 (by decide) (fun c => ?_) (fun c => ?_)
    · replace h := h.1 ((bi_n0 _).mp c)
      refine ev_aload_n dX11_book_33 rfl ?_
      refine ev_getA dX11_book_34 fl_WithoutEModel_7 lm_0 rfl ?_
      refine ev_sipush (v := 3255) dX11_book_37 (by decide) ?_
      refine ev_iconst (v := 2) dX11_book_40 (by decide) ?_
      refine ev_iload_n dX11_book_41 rfl ?_
      refine ev_imul dX11_book_42 ?_
      refine ev_iadd dX11_book_43 ?_
      refine ev_iconst (v := 1) dX11_book_44 (by decide) ?_
      refine ev_iadd dX11_book_45 ?_
      obtain ⟨c, h⟩ := h
      refine ev_iald dX11_book_46 lm_1 c ?_
      refine ev_istore_n (ls2 := [some (.ref 0), some (.int x1), some (.int x2), some (.int (M.1 1 ((3255 + (2 * x1)) + 1).toNatClampNeg))]) dX11_book_47 (Nat.le_of_ble_eq_true rfl) rfl ?_
      generalize ev1 : M.1 1 ((3255 + (2 * x1)) + 1).toNatClampNeg = v1
      replace h := h v1 ev1.symm
      refine ev_iload_n dX11_book_48 rfl ?_
      refine ev_if_ne (tgt := 67) dX11_book_49 (by decide) (fun c => ?_) (fun c => ?_)
      · replace h := h.1 c
        refine ev_iload_n dX11_book_67 rfl ?_
        refine ev_iconst (v := 1) dX11_book_68 (by decide) ?_
        refine ev_icmp_ne (tgt := 80) dX11_book_69 (by decide) (fun c => ?_) (fun c => ?_)
        · replace h := h.1 c
          refine ev_iload_n dX11_book_80 rfl ?_
          refine ev_iconst (v := 2) dX11_book_81 (by decide) ?_
          refine ev_icmp_ne (tgt := 95) dX11_book_82 (by decide) (fun c => ?_) (fun c => ?_)
          · replace h := h.1 c
            refine ev_iload_n dX11_book_95 rfl ?_
            refine ev_iconst (v := 3) dX11_book_96 (by decide) ?_
            refine ev_icmp_ne (tgt := 108) dX11_book_97 (by decide) (fun c => ?_) (fun c => ?_)
            · replace h := h.1 c
              refine ev_bipush (v := -2) dX11_book_108 (by decide) ?_
              exact ev_iret dX11_book_110 rfl h
            · replace h := h.2 c
              refine ev_iload_n dX11_book_100 rfl ?_
              refine ev_sipush (v := 10000) dX11_book_101 (by decide) ?_
              refine ev_irem dX11_book_104 (by decide) ?_
              refine ev_goto (tgt := 110) dX11_book_105 (by decide) ?_
              exact ev_iret dX11_book_110 rfl h
          · replace h := h.2 c
            refine ev_iload_n dX11_book_85 rfl ?_
            refine ev_sipush (v := 10000) dX11_book_86 (by decide) ?_
            refine ev_idiv dX11_book_89 (by decide) ?_
            refine ev_iconst (v := 4) dX11_book_90 (by decide) ?_
            refine ev_irem dX11_book_91 (by decide) ?_
            refine ev_goto (tgt := 110) dX11_book_92 (by decide) ?_
            exact ev_iret dX11_book_110 rfl h
        · replace h := h.2 c
          refine ev_iload_n dX11_book_72 rfl ?_
          refine ev_ldcw (v := 40000) dX11_book_73 cw_WithoutEModel_444 ?_
          refine ev_idiv dX11_book_76 (by decide) ?_
          refine ev_goto (tgt := 110) dX11_book_77 (by decide) ?_
          exact ev_iret dX11_book_110 rfl h
      · replace h := h.2 c
        refine ev_aload_n dX11_book_52 rfl ?_
        refine ev_getA dX11_book_53 fl_WithoutEModel_7 lm_0 rfl ?_
        refine ev_sipush (v := 3255) dX11_book_56 (by decide) ?_
        refine ev_iconst (v := 2) dX11_book_59 (by decide) ?_
        refine ev_iload_n dX11_book_60 rfl ?_
        refine ev_imul dX11_book_61 ?_
        refine ev_iadd dX11_book_62 ?_
        obtain ⟨c, h⟩ := h
        refine ev_iald dX11_book_63 lm_1 c ?_
        refine ev_goto (tgt := 110) dX11_book_64 (by decide) ?_
        exact ev_iret dX11_book_110 rfl h
    · replace h := h.2 ((bi_0 _).mp c)
      refine ev_bipush (v := -2) dX11_book_30 (by decide) ?_
      exact ev_iret dX11_book_32 rfl h
  · replace h := h.2 c
    refine ev_aload_n dX11_book_5 rfl ?_
    refine ev_getA dX11_book_6 fl_WithoutEModel_7 lm_0 rfl ?_
    refine ev_bipush (v := 12) dX11_book_9 (by decide) ?_
    refine ev_iaN (j := 12) dX11_book_11 lm_1 (by decide) (by decide) ?_
    exact ev_iret dX11_book_12 rfl h
