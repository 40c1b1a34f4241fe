/-! THE MODEL'S PILE, AS ITS MEMORY HAS IT -/
section
variable {d : Nat} {N : ev_Mem}
def plOK (N : ev_Mem) : Prop := upto (N.1 0 17) 160
def oaF (r : Nat → Int32) : Nat → Int32
  | 0 => -1
  | k + 1 => if 40 ≤ r k then nI k else oaF r k
def oaI (N : ev_Mem) : Int32 := oaF (N.1 6) (N.1 0 17).toNatClampNeg
def opwI (N : ev_Mem) : Int32 := if 0 ≤ oaI N then N.1 6 (oaI N).toNatClampNeg else -1
def icF (r : Nat → Int32) : Nat → Bool
  | 0 => false
  | k + 1 => if rkI (r k) ≤ 4 then decide (rkI (r k) = 4) else icF r k
def icI (N : ev_Mem) : Bool := icF (N.1 6) (N.1 0 17).toNatClampNeg
def iaI (N : ev_Mem) : Bool := decide (opwI N = 41) && (decide (40 ≤ N.1 6 (N.1 0 17 - 1).toNatClampNeg) || iin (rkI (N.1 6 (N.1 0 17 - 1).toNatClampNeg)) 1 3)
theorem nI_s1 (n : Nat) : nI n - 1 = nI n + (-1) := Int32.sub_eq_add_neg _ _
theorem m1_lt0 : (-1 : Int32) < 0 := by decide
theorem kX11_openAt (h : plOK N) : Cl LM d mX11_openAt [.ref 0] N (ev_R (some (.int (oaI N))) N) := by
  obtain ⟨c, hc, e⟩ := h
  refine Cl_of rfl (Nat.le_of_ble_eq_true rfl) rfl (gX11_openAt_0 ?_)
  unfold oaI
  rw [e, nI_clamp (by omega), nI_s1]
  revert c
  have lp : ∀ k, k ≤ 160 → Ev LM d mX11_openAt 7 [some (.ref 0), some (.int (nI k + (-1)))] [] N (ev_R (some (.int (oaF (N.1 6) k))) N) := by
    intro k
    induction k with
    | zero =>
      intro _
      exact gX11_openAt_7 ⟨fun _ => ⟨rfl, rfl⟩, fun c => absurd (show nI 0 + (-1) < 0 from by decide) c⟩
    | succ k ih =>
      intro hk
      rw [nl_m1]
      refine gX11_openAt_7 ⟨fun c => absurd c (nI_pos (by omega)), fun c => ⟨vp_in_nI (by omega) (by omega), fun z => ?_, fun z => ?_⟩⟩
      · rw [nI_clamp (by omega)] at z
        exact ⟨by rw [oaF, if_pos z], rfl⟩
      · rw [nI_clamp (by omega)] at z
        rw [oaF, if_neg z]
        exact ih (by omega)
  exact fun c hc _ => lp c hc
theorem oaF_in {r : Nat → Int32} : ∀ k, 0 ≤ oaF r k → ∃ i, i < k ∧ oaF r k = nI i
  | 0, h => absurd h (by rw [oaF]; decide)
  | k + 1, h => by
    rw [oaF] at h ⊢
    by_cases z : 40 ≤ r k
    · rw [if_pos z]; exact ⟨k, by omega, rfl⟩
    · rw [if_neg z] at h ⊢
      obtain ⟨i, hi, e⟩ := oaF_in k h
      exact ⟨i, by omega, e⟩
theorem oa_vp (h : plOK N) (h0 : 0 ≤ oaI N) : vp_in (oaI N) 160 := by
  obtain ⟨c, hc, e⟩ := h
  unfold oaI at h0 ⊢
  rw [e, nI_clamp (by omega)] at h0 ⊢
  obtain ⟨i, hi, e2⟩ := oaF_in c h0
  rw [e2]
  exact vp_in_nI (by omega) (by omega)
end
theorem dX11_openNow_0 : decode cX11_openNow 0 = .ok (.aload_n 0, 1) := by decide +kernel
theorem dX11_openNow_1 : decode cX11_openNow 1 = .ok (.invokevirtual 187, 3) := by decide +kernel
theorem dX11_openNow_4 : decode cX11_openNow 4 = .ok (.ifCond .ge 7, 3) := by decide +kernel
theorem dX11_openNow_7 : decode cX11_openNow 7 = .ok (.iconst (-1), 1) := by decide +kernel
theorem dX11_openNow_8 : decode cX11_openNow 8 = .ok (.goto 12, 3) := by decide +kernel
theorem dX11_openNow_11 : decode cX11_openNow 11 = .ok (.aload_n 0, 1) := by decide +kernel
theorem dX11_openNow_12 : decode cX11_openNow 12 = .ok (.getfield 32, 3) := by decide +kernel
theorem dX11_openNow_15 : decode cX11_openNow 15 = .ok (.aload_n 0, 1) := by decide +kernel
theorem dX11_openNow_16 : decode cX11_openNow 16 = .ok (.invokevirtual 187, 3) := by decide +kernel
theorem dX11_openNow_19 : decode cX11_openNow 19 = .ok (.iaload, 1) := by decide +kernel
theorem dX11_openNow_20 : decode cX11_openNow 20 = .ok (.ireturn, 1) := by decide +kernel
theorem gX11_openNow_0 {d : Nat} {M : ev_Mem} {Q : Option Value → ev_Mem → Prop} (h : ((plOK M) ∧ (((0 ≤ (oaI M)) → ((plOK M) ∧ (vp_in (oaI M) 160 ∧ (Q (some (.int (M.1 6 (oaI M).toNatClampNeg))) M)))) ∧ ((¬ 0 ≤ (oaI M)) → (Q (some (.int (-1))) M))))) : Ev LM (d + 1) mX11_openNow 0 [some (.ref 0)] [] M Q := by
  refine ev_aload_n dX11_openNow_0 rfl ?_
  obtain ⟨p1, h⟩ := h
  refine ev_callV [] dX11_openNow_1 ml_WithoutEModel_187 lm_0 rfl rfl (Nat.le_of_ble_eq_true rfl) (kX11_openAt p1) ?_
  rintro zr zM ⟨q1, q2⟩
  rw [q1, q2]
  show Ev LM (d + 1) mX11_openNow 4 [some (.ref 0)] [(.int (oaI M))] M Q
  refine ev_if_ge (tgt := 11) dX11_openNow_4 (by decide) (fun c => ?_) (fun c => ?_)
  · replace h := h.1 c
    refine ev_aload_n dX11_openNow_11 rfl ?_
    refine ev_getA dX11_openNow_12 fl_WithoutEModel_32 lm_0 rfl ?_
    refine ev_aload_n dX11_openNow_15 rfl ?_
    obtain ⟨p1, h⟩ := h
    refine ev_callV [] dX11_openNow_16 ml_WithoutEModel_187 lm_0 rfl rfl (Nat.le_of_ble_eq_true rfl) (kX11_openAt p1) ?_
    rintro zr zM ⟨q1, q2⟩
    rw [q1, q2]
    show Ev LM (d + 1) mX11_openNow 19 [some (.ref 0)] [(.int (oaI M)), (.ref 6)] M Q
    obtain ⟨c, h⟩ := h
    refine ev_iald dX11_openNow_19 lm_6 c ?_
    exact ev_iret dX11_openNow_20 rfl h
  · replace h := h.2 c
    refine ev_iconst (v := -1) dX11_openNow_7 (by decide) ?_
    refine ev_goto (tgt := 20) dX11_openNow_8 (by decide) ?_
    exact ev_iret dX11_openNow_20 rfl h
theorem dX11_isCompared_0 : decode cX11_isCompared 0 = .ok (.aload_n 0, 1) := by decide +kernel
theorem dX11_isCompared_1 : decode cX11_isCompared 1 = .ok (.getfield 174, 3) := by decide +kernel
theorem dX11_isCompared_4 : decode cX11_isCompared 4 = .ok (.iconst 1, 1) := by decide +kernel
theorem dX11_isCompared_5 : decode cX11_isCompared 5 = .ok (.isub, 1) := by decide +kernel
theorem dX11_isCompared_6 : decode cX11_isCompared 6 = .ok (.istore_n 1, 1) := by decide +kernel
theorem dX11_isCompared_7 : decode cX11_isCompared 7 = .ok (.iload_n 1, 1) := by decide +kernel
theorem dX11_isCompared_8 : decode cX11_isCompared 8 = .ok (.ifCond .lt 22, 3) := by decide +kernel
theorem dX11_isCompared_11 : decode cX11_isCompared 11 = .ok (.aload_n 0, 1) := by decide +kernel
theorem dX11_isCompared_12 : decode cX11_isCompared 12 = .ok (.getfield 32, 3) := by decide +kernel
theorem dX11_isCompared_15 : decode cX11_isCompared 15 = .ok (.iload_n 1, 1) := by decide +kernel
theorem dX11_isCompared_16 : decode cX11_isCompared 16 = .ok (.iaload, 1) := by decide +kernel
theorem dX11_isCompared_17 : decode cX11_isCompared 17 = .ok (.invokestatic 177, 3) := by decide +kernel
theorem dX11_isCompared_20 : decode cX11_isCompared 20 = .ok (.iconst 4, 1) := by decide +kernel
theorem dX11_isCompared_21 : decode cX11_isCompared 21 = .ok (.if_icmp .le 9, 3) := by decide +kernel
theorem dX11_isCompared_24 : decode cX11_isCompared 24 = .ok (.iinc 1 (-1), 3) := by decide +kernel
theorem dX11_isCompared_27 : decode cX11_isCompared 27 = .ok (.goto (-20), 3) := by decide +kernel
theorem dX11_isCompared_30 : decode cX11_isCompared 30 = .ok (.iload_n 1, 1) := by decide +kernel
theorem dX11_isCompared_31 : decode cX11_isCompared 31 = .ok (.ifCond .lt 20, 3) := by decide +kernel
theorem dX11_isCompared_34 : decode cX11_isCompared 34 = .ok (.aload_n 0, 1) := by decide +kernel
theorem dX11_isCompared_35 : decode cX11_isCompared 35 = .ok (.getfield 32, 3) := by decide +kernel
theorem dX11_isCompared_38 : decode cX11_isCompared 38 = .ok (.iload_n 1, 1) := by decide +kernel
theorem dX11_isCompared_39 : decode cX11_isCompared 39 = .ok (.iaload, 1) := by decide +kernel
theorem dX11_isCompared_40 : decode cX11_isCompared 40 = .ok (.invokestatic 177, 3) := by decide +kernel
theorem dX11_isCompared_43 : decode cX11_isCompared 43 = .ok (.iconst 4, 1) := by decide +kernel
theorem dX11_isCompared_44 : decode cX11_isCompared 44 = .ok (.if_icmp .ne 7, 3) := by decide +kernel
theorem dX11_isCompared_47 : decode cX11_isCompared 47 = .ok (.iconst 1, 1) := by decide +kernel
theorem dX11_isCompared_48 : decode cX11_isCompared 48 = .ok (.goto 4, 3) := by decide +kernel
theorem dX11_isCompared_51 : decode cX11_isCompared 51 = .ok (.iconst 0, 1) := by decide +kernel
theorem dX11_isCompared_52 : decode cX11_isCompared 52 = .ok (.ireturn, 1) := by decide +kernel
theorem gX11_isCompared_0 {d : Nat} {M : ev_Mem} {Q : Option Value → ev_Mem → Prop} (h : (Ev LM d mX11_isCompared 7 [some (.ref 0), some (.int ((M.1 0 17) - 1))] [] M Q)) : Ev LM d mX11_isCompared 0 [some (.ref 0), none] [] M Q := by
  refine ev_aload_n dX11_isCompared_0 rfl ?_
  refine ev_getI dX11_isCompared_1 fl_WithoutEModel_174 lm_0 rfl ?_
  refine ev_iconst (v := 1) dX11_isCompared_4 (by decide) ?_
  refine ev_isub dX11_isCompared_5 ?_
  refine ev_istore_n (ls2 := [some (.ref 0), some (.int ((M.1 0 17) - 1))]) dX11_isCompared_6 (Nat.le_of_ble_eq_true rfl) rfl ?_
  exact h
theorem gX11_isCompared_7 {d : Nat} {M : ev_Mem} {Q : Option Value → ev_Mem → Prop} {x1 : Int32} (h : (((x1 < 0) → (Ev LM (d + 1) mX11_isCompared 31 [some (.ref 0), some (.int x1)] [(.int x1)] M Q)) ∧ ((¬ x1 < 0) → (vp_in x1 160 ∧ ((((rkI (M.1 6 x1.toNatClampNeg)) ≤ 4) → (Ev LM (d + 1) mX11_isCompared 31 [some (.ref 0), some (.int x1)] [(.int x1)] M Q)) ∧ ((¬ (rkI (M.1 6 x1.toNatClampNeg)) ≤ 4) → (Ev LM (d + 1) mX11_isCompared 7 [some (.ref 0), some (.int (x1 + (-1)))] [] M Q))))))) : Ev LM (d + 1) mX11_isCompared 7 [some (.ref 0), some (.int x1)] [] M Q := by
  refine ev_iload_n dX11_isCompared_7 rfl ?_
  refine ev_if_lt (tgt := 30) dX11_isCompared_8 (by decide) (fun c => ?_) (fun c => ?_)
  · replace h := h.1 c
    refine ev_iload_n dX11_isCompared_30 rfl ?_
    exact h
  · replace h := h.2 c
    refine ev_aload_n dX11_isCompared_11 rfl ?_
    refine ev_getA dX11_isCompared_12 fl_WithoutEModel_32 lm_0 rfl ?_
    refine ev_iload_n dX11_isCompared_15 rfl ?_
    obtain ⟨c, h⟩ := h
    refine ev_iald dX11_isCompared_16 lm_6 c ?_
    refine ev_callS [.int (M.1 6 x1.toNatClampNeg)] dX11_isCompared_17 ml_WithoutEModel_177 rfl (Nat.le_of_ble_eq_true rfl) (kX11_rank) ?_
    rintro zr zM ⟨q1, q2⟩
    rw [q1, q2]
    show Ev LM (d + 1) mX11_isCompared 20 [some (.ref 0), some (.int x1)] [(.int (rkI (M.1 6 x1.toNatClampNeg)))] M Q
    refine ev_iconst (v := 4) dX11_isCompared_20 (by decide) ?_
    refine ev_icmp_le (tgt := 30) dX11_isCompared_21 (by decide) (fun c => ?_) (fun c => ?_)
    · replace h := h.1 c
      refine ev_iload_n dX11_isCompared_30 rfl ?_
      exact h
    · replace h := h.2 c
      refine ev_iinc (v := x1 + (-1)) (ls2 := [some (.ref 0), some (.int (x1 + (-1)))]) dX11_isCompared_24 rfl rfl rfl ?_
      refine ev_goto (tgt := 7) dX11_isCompared_27 (by decide) ?_
      exact h
theorem gX11_isCompared_31 {d : Nat} {M : ev_Mem} {Q : Option Value → ev_Mem → Prop} {x1 s0 : Int32} (h : (((s0 < 0) → (Q (some (.int 0)) M)) ∧ ((¬ s0 < 0) → (vp_in x1 160 ∧ (((¬ (rkI (M.1 6 x1.toNatClampNeg)) = 4) → (Q (some (.int 0)) M)) ∧ (((rkI (M.1 6 x1.toNatClampNeg)) = 4) → (Q (some (.int 1)) M))))))) : Ev LM (d + 1) mX11_isCompared 31 [some (.ref 0), some (.int x1)] [(.int s0)] M Q := by
  refine ev_if_lt (tgt := 51) dX11_isCompared_31 (by decide) (fun c => ?_) (fun c => ?_)
  · replace h := h.1 c
    refine ev_iconst (v := 0) dX11_isCompared_51 (by decide) ?_
    exact ev_zret dX11_isCompared_52 rfl (by decide) h
  · replace h := h.2 c
    refine ev_aload_n dX11_isCompared_34 rfl ?_
    refine ev_getA dX11_isCompared_35 fl_WithoutEModel_32 lm_0 rfl ?_
    refine ev_iload_n dX11_isCompared_38 rfl ?_
    obtain ⟨c, h⟩ := h
    refine ev_iald dX11_isCompared_39 lm_6 c ?_
    refine ev_callS [.int (M.1 6 x1.toNatClampNeg)] dX11_isCompared_40 ml_WithoutEModel_177 rfl (Nat.le_of_ble_eq_true rfl) (kX11_rank) ?_
    rintro zr zM ⟨q1, q2⟩
    rw [q1, q2]
    show Ev LM (d + 1) mX11_isCompared 43 [some (.ref 0), some (.int x1)] [(.int (rkI (M.1 6 x1.toNatClampNeg)))] M Q
    refine ev_iconst (v := 4) dX11_isCompared_43 (by decide) ?_
    refine ev_icmp_ne (tgt := 51) dX11_isCompared_44 (by decide) (fun c => ?_) (fun c => ?_)
    · replace h := h.1 c
      refine ev_iconst (v := 0) dX11_isCompared_51 (by decide) ?_
      exact ev_zret dX11_isCompared_52 rfl (by decide) h
    · replace h := h.2 c
      refine ev_iconst (v := 1) dX11_isCompared_47 (by decide) ?_
      refine ev_goto (tgt := 52) dX11_isCompared_48 (by decide) ?_
      exact ev_zret dX11_isCompared_52 rfl (by decide) h
section
variable {d : Nat} {N : ev_Mem}
theorem kX11_openNow (h : plOK N) : Cl LM (d + 1) mX11_openNow [.ref 0] N (ev_R (some (.int (opwI N))) N) := by
  refine Cl_of rfl (Nat.le_of_ble_eq_true rfl) rfl (gX11_openNow_0 ⟨h, fun z => ⟨h, oa_vp h z, ?_, rfl⟩, fun z => ⟨?_, rfl⟩⟩)
  · unfold opwI; rw [if_pos z]
  · unfold opwI; rw [if_neg z]

theorem kX11_isCompared (h : plOK N) : Cl LM (d + 1) mX11_isCompared [.ref 0] N (ev_R (some (.int (bi (icI N)))) N) := by
  obtain ⟨c, hc, e⟩ := h
  refine Cl_of rfl (Nat.le_of_ble_eq_true rfl) rfl (gX11_isCompared_0 ?_)
  unfold icI
  rw [e, nI_clamp (by omega), nI_s1]
  revert c
  have lp : ∀ k, k ≤ 160 → Ev LM (d + 1) mX11_isCompared 7 [some (.ref 0), some (.int (nI k + (-1)))] [] N (ev_R (some (.int (bi (icF (N.1 6) k)))) N) := by
    intro k
    induction k with
    | zero =>
      intro _
      refine gX11_isCompared_7 ⟨fun _ => ?_, fun c => absurd (show nI 0 + (-1) < 0 from by decide) c⟩
      exact gX11_isCompared_31 ⟨fun _ => ⟨rfl, rfl⟩, fun c => absurd (show nI 0 + (-1) < 0 from by decide) c⟩
    | succ k ih =>
      intro hk
      rw [nl_m1]
      refine gX11_isCompared_7 ⟨fun c => absurd c (nI_pos (by omega)), fun c => ⟨vp_in_nI (by omega) (by omega), fun z => ?_, fun z => ?_⟩⟩
      · refine gX11_isCompared_31 ⟨fun c => absurd c (nI_pos (by omega)), fun c => ⟨vp_in_nI (by omega) (by omega), fun z2 => ?_, fun z2 => ?_⟩⟩
        all_goals (rw [nI_clamp (by omega)] at z z2; rw [icF, if_pos z])
        · rw [decide_eq_false z2]; exact ⟨rfl, rfl⟩
        · rw [decide_eq_true z2]; exact ⟨rfl, rfl⟩
      · rw [nI_clamp (by omega)] at z
        rw [icF, if_neg z]
        exact ih (by omega)
  exact fun c hc _ => lp c hc
theorem pl_top (h : plOK N) (h0 : opwI N = 41) : vp_in (N.1 0 17 - 1) 160 := by
  obtain ⟨c, hc, e⟩ := h
  rw [e]
  cases c with
  | zero =>
    exfalso
    unfold opwI oaI at h0
    rw [e] at h0
    revert h0
    show ¬ (if 0 ≤ oaF (N.1 6) 0 then _ else _) = (41 : Int32)
    rw [oaF, if_neg (by decide)]
    decide
  | succ c => rw [nI_s1, nl_m1]; exact vp_in_nI (by omega) (by omega)
end
theorem dX11_isAskAhead_0 : decode cX11_isAskAhead 0 = .ok (.aload_n 0, 1) := by decide +kernel
theorem dX11_isAskAhead_1 : decode cX11_isAskAhead 1 = .ok (.invokevirtual 191, 3) := by decide +kernel
theorem dX11_isAskAhead_4 : decode cX11_isAskAhead 4 = .ok (.bipush 41, 2) := by decide +kernel
theorem dX11_isAskAhead_6 : decode cX11_isAskAhead 6 = .ok (.if_icmp .ne 45, 3) := by decide +kernel
theorem dX11_isAskAhead_9 : decode cX11_isAskAhead 9 = .ok (.aload_n 0, 1) := by decide +kernel
theorem dX11_isAskAhead_10 : decode cX11_isAskAhead 10 = .ok (.getfield 32, 3) := by decide +kernel
theorem dX11_isAskAhead_13 : decode cX11_isAskAhead 13 = .ok (.aload_n 0, 1) := by decide +kernel
theorem dX11_isAskAhead_14 : decode cX11_isAskAhead 14 = .ok (.getfield 174, 3) := by decide +kernel
theorem dX11_isAskAhead_17 : decode cX11_isAskAhead 17 = .ok (.iconst 1, 1) := by decide +kernel
theorem dX11_isAskAhead_18 : decode cX11_isAskAhead 18 = .ok (.isub, 1) := by decide +kernel
theorem dX11_isAskAhead_19 : decode cX11_isAskAhead 19 = .ok (.iaload, 1) := by decide +kernel
theorem dX11_isAskAhead_20 : decode cX11_isAskAhead 20 = .ok (.bipush 40, 2) := by decide +kernel
theorem dX11_isAskAhead_22 : decode cX11_isAskAhead 22 = .ok (.if_icmp .ge 25, 3) := by decide +kernel
theorem dX11_isAskAhead_25 : decode cX11_isAskAhead 25 = .ok (.aload_n 0, 1) := by decide +kernel
theorem dX11_isAskAhead_26 : decode cX11_isAskAhead 26 = .ok (.getfield 32, 3) := by decide +kernel
theorem dX11_isAskAhead_29 : decode cX11_isAskAhead 29 = .ok (.aload_n 0, 1) := by decide +kernel
theorem dX11_isAskAhead_30 : decode cX11_isAskAhead 30 = .ok (.getfield 174, 3) := by decide +kernel
theorem dX11_isAskAhead_33 : decode cX11_isAskAhead 33 = .ok (.iconst 1, 1) := by decide +kernel
theorem dX11_isAskAhead_34 : decode cX11_isAskAhead 34 = .ok (.isub, 1) := by decide +kernel
theorem dX11_isAskAhead_35 : decode cX11_isAskAhead 35 = .ok (.iaload, 1) := by decide +kernel
theorem dX11_isAskAhead_36 : decode cX11_isAskAhead 36 = .ok (.invokestatic 177, 3) := by decide +kernel
theorem dX11_isAskAhead_39 : decode cX11_isAskAhead 39 = .ok (.iconst 1, 1) := by decide +kernel
theorem dX11_isAskAhead_40 : decode cX11_isAskAhead 40 = .ok (.iconst 3, 1) := by decide +kernel
theorem dX11_isAskAhead_41 : decode cX11_isAskAhead 41 = .ok (.invokestatic 80, 3) := by decide +kernel
theorem dX11_isAskAhead_44 : decode cX11_isAskAhead 44 = .ok (.ifCond .eq 7, 3) := by decide +kernel
theorem dX11_isAskAhead_47 : decode cX11_isAskAhead 47 = .ok (.iconst 1, 1) := by decide +kernel
theorem dX11_isAskAhead_48 : decode cX11_isAskAhead 48 = .ok (.goto 4, 3) := by decide +kernel
theorem dX11_isAskAhead_51 : decode cX11_isAskAhead 51 = .ok (.iconst 0, 1) := by decide +kernel
theorem dX11_isAskAhead_52 : decode cX11_isAskAhead 52 = .ok (.ireturn, 1) := by decide +kernel
theorem gX11_isAskAhead_0 {d : Nat} {M : ev_Mem} {Q : Option Value → ev_Mem → Prop} (h : ((plOK M) ∧ (((¬ (opwI M) = 41) → (Q (some (.int 0)) M)) ∧ (((opwI M) = 41) → (vp_in ((M.1 0 17) - 1) 160 ∧ (((40 ≤ (M.1 6 ((M.1 0 17) - 1).toNatClampNeg)) → (Q (some (.int 1)) M)) ∧ ((¬ 40 ≤ (M.1 6 ((M.1 0 17) - 1).toNatClampNeg)) → (vp_in ((M.1 0 17) - 1) 160 ∧ ((((iin (rkI (M.1 6 ((M.1 0 17) - 1).toNatClampNeg)) (1 : Int32) (3 : Int32)) = false) → (Q (some (.int 0)) M)) ∧ (((iin (rkI (M.1 6 ((M.1 0 17) - 1).toNatClampNeg)) (1 : Int32) (3 : Int32)) = true) → (Q (some (.int 1)) M))))))))))) : Ev LM (d + 2) mX11_isAskAhead 0 [some (.ref 0)] [] M Q := by
  refine ev_aload_n dX11_isAskAhead_0 rfl ?_
  obtain ⟨p1, h⟩ := h
  refine ev_callV [] dX11_isAskAhead_1 ml_WithoutEModel_191 lm_0 rfl rfl (Nat.le_of_ble_eq_true rfl) (kX11_openNow p1) ?_
  rintro zr zM ⟨q1, q2⟩
  rw [q1, q2]
  show Ev LM (d + 2) mX11_isAskAhead 4 [some (.ref 0)] [(.int (opwI M))] M Q
  refine ev_bipush (v := 41) dX11_isAskAhead_4 (by decide) ?_
  refine ev_icmp_ne (tgt := 51) dX11_isAskAhead_6 (by decide) (fun c => ?_) (fun c => ?_)
  · replace h := h.1 c
    refine ev_iconst (v := 0) dX11_isAskAhead_51 (by decide) ?_
    exact ev_zret dX11_isAskAhead_52 rfl (by decide) h
  · replace h := h.2 c
    refine ev_aload_n dX11_isAskAhead_9 rfl ?_
    refine ev_getA dX11_isAskAhead_10 fl_WithoutEModel_32 lm_0 rfl ?_
    refine ev_aload_n dX11_isAskAhead_13 rfl ?_
    refine ev_getI dX11_isAskAhead_14 fl_WithoutEModel_174 lm_0 rfl ?_
    refine ev_iconst (v := 1) dX11_isAskAhead_17 (by decide) ?_
    refine ev_isub dX11_isAskAhead_18 ?_
    obtain ⟨c, h⟩ := h
    refine ev_iald dX11_isAskAhead_19 lm_6 c ?_
    refine ev_bipush (v := 40) dX11_isAskAhead_20 (by decide) ?_
    refine ev_icmp_ge (tgt := 47) dX11_isAskAhead_22 (by decide) (fun c => ?_) (fun c => ?_)
    · replace h := h.1 c
      refine ev_iconst (v := 1) dX11_isAskAhead_47 (by decide) ?_
      refine ev_goto (tgt := 52) dX11_isAskAhead_48 (by decide) ?_
      exact ev_zret dX11_isAskAhead_52 rfl (by decide) h
    · replace h := h.2 c
      refine ev_aload_n dX11_isAskAhead_25 rfl ?_
      refine ev_getA dX11_isAskAhead_26 fl_WithoutEModel_32 lm_0 rfl ?_
      refine ev_aload_n dX11_isAskAhead_29 rfl ?_
      refine ev_getI dX11_isAskAhead_30 fl_WithoutEModel_174 lm_0 rfl ?_
      refine ev_iconst (v := 1) dX11_isAskAhead_33 (by decide) ?_
      refine ev_isub dX11_isAskAhead_34 ?_
      obtain ⟨c, h⟩ := h
      refine ev_iald dX11_isAskAhead_35 lm_6 c ?_
      refine ev_callS [.int (M.1 6 ((M.1 0 17) - 1).toNatClampNeg)] dX11_isAskAhead_36 ml_WithoutEModel_177 rfl (Nat.le_of_ble_eq_true rfl) (kX11_rank) ?_
      rintro zr zM ⟨q1, q2⟩
      rw [q1, q2]
      show Ev LM (d + 2) mX11_isAskAhead 39 [some (.ref 0)] [(.int (rkI (M.1 6 ((M.1 0 17) - 1).toNatClampNeg)))] M Q
      refine ev_iconst (v := 1) dX11_isAskAhead_39 (by decide) ?_
      refine ev_iconst (v := 3) dX11_isAskAhead_40 (by decide) ?_
      refine ev_callS [.int (rkI (M.1 6 ((M.1 0 17) - 1).toNatClampNeg)), .int 1, .int 3] dX11_isAskAhead_41 ml_WithoutEModel_80 rfl (Nat.le_of_ble_eq_true rfl) (kX11_isIn) ?_
      rintro zr zM ⟨q1, q2⟩
      rw [q1, q2]
      show Ev LM (d + 2) mX11_isAskAhead 44 [some (.ref 0)] [(.int (bi (iin (rkI (M.1 6 ((M.1 0 17) - 1).toNatClampNeg)) (1 : Int32) (3 : Int32))))] M Q
      refine ev_if_eq (tgt := 51) dX11_isAskAhead_44 (by decide) (fun c => ?_) (fun c => ?_)
      · replace h := h.1 ((bi_0 _).mp c)
        refine ev_iconst (v := 0) dX11_isAskAhead_51 (by decide) ?_
        exact ev_zret dX11_isAskAhead_52 rfl (by decide) h
      · replace h := h.2 ((bi_n0 _).mp c)
        refine ev_iconst (v := 1) dX11_isAskAhead_47 (by decide) ?_
        refine ev_goto (tgt := 52) dX11_isAskAhead_48 (by decide) ?_
        exact ev_zret dX11_isAskAhead_52 rfl (by decide) h
section
variable {d : Nat} {N : ev_Mem}
theorem kX11_isAskAhead (h : plOK N) : Cl LM (d + 2) mX11_isAskAhead [.ref 0] N (ev_R (some (.int (bi (iaI N)))) N) := by
  refine Cl_of rfl (Nat.le_of_ble_eq_true rfl) rfl (gX11_isAskAhead_0 ⟨h, fun z => ?_, fun z => ⟨pl_top h z, fun z2 => ?_, fun z2 => ⟨pl_top h z, fun z3 => ?_, fun z3 => ?_⟩⟩⟩)
  all_goals unfold iaI
  · rw [decide_eq_false z]; exact ⟨rfl, rfl⟩
  · rw [decide_eq_true z, decide_eq_true z2]; exact ⟨rfl, rfl⟩
  · rw [decide_eq_true z, decide_eq_false z2, z3]; exact ⟨rfl, rfl⟩
  · rw [decide_eq_true z, z3, Bool.or_true]; exact ⟨rfl, rfl⟩
end
