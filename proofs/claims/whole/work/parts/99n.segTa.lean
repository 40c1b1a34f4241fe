theorem dX4_sortOf_0 : decode cX4_sortOf 0 = .ok (.iload_n 0, 1) := by decide +kernel
theorem dX4_sortOf_1 : decode cX4_sortOf 1 = .ok (.bipush 97, 2) := by decide +kernel
theorem dX4_sortOf_3 : decode cX4_sortOf 3 = .ok (.if_icmp .lt 9, 3) := by decide +kernel
theorem dX4_sortOf_6 : decode cX4_sortOf 6 = .ok (.iload_n 0, 1) := by decide +kernel
theorem dX4_sortOf_7 : decode cX4_sortOf 7 = .ok (.bipush 122, 2) := by decide +kernel
theorem dX4_sortOf_9 : decode cX4_sortOf 9 = .ok (.if_icmp .le 15, 3) := by decide +kernel
theorem dX4_sortOf_12 : decode cX4_sortOf 12 = .ok (.iload_n 0, 1) := by decide +kernel
theorem dX4_sortOf_13 : decode cX4_sortOf 13 = .ok (.bipush 65, 2) := by decide +kernel
theorem dX4_sortOf_15 : decode cX4_sortOf 15 = .ok (.if_icmp .lt 11, 3) := by decide +kernel
theorem dX4_sortOf_18 : decode cX4_sortOf 18 = .ok (.iload_n 0, 1) := by decide +kernel
theorem dX4_sortOf_19 : decode cX4_sortOf 19 = .ok (.bipush 90, 2) := by decide +kernel
theorem dX4_sortOf_21 : decode cX4_sortOf 21 = .ok (.if_icmp .gt 5, 3) := by decide +kernel
theorem dX4_sortOf_24 : decode cX4_sortOf 24 = .ok (.iconst 1, 1) := by decide +kernel
theorem dX4_sortOf_25 : decode cX4_sortOf 25 = .ok (.ireturn, 1) := by decide +kernel
theorem dX4_sortOf_26 : decode cX4_sortOf 26 = .ok (.iload_n 0, 1) := by decide +kernel
theorem dX4_sortOf_27 : decode cX4_sortOf 27 = .ok (.bipush 48, 2) := by decide +kernel
theorem dX4_sortOf_29 : decode cX4_sortOf 29 = .ok (.if_icmp .lt 11, 3) := by decide +kernel
theorem dX4_sortOf_32 : decode cX4_sortOf 32 = .ok (.iload_n 0, 1) := by decide +kernel
theorem dX4_sortOf_33 : decode cX4_sortOf 33 = .ok (.bipush 57, 2) := by decide +kernel
theorem dX4_sortOf_35 : decode cX4_sortOf 35 = .ok (.if_icmp .gt 5, 3) := by decide +kernel
theorem dX4_sortOf_38 : decode cX4_sortOf 38 = .ok (.iconst 2, 1) := by decide +kernel
theorem dX4_sortOf_39 : decode cX4_sortOf 39 = .ok (.ireturn, 1) := by decide +kernel
theorem dX4_sortOf_40 : decode cX4_sortOf 40 = .ok (.iload_n 0, 1) := by decide +kernel
theorem dX4_sortOf_41 : decode cX4_sortOf 41 = .ok (.tableswitch 129 35 62 #[127, 129, 129, 129, 129, 127, 127, 127, 127, 127, 127, 129, 127, 129, 129, 129, 129, 129, 129, 129, 129, 129, 129, 129, 127, 127, 127, 127], 127) := by decide +kernel
theorem dX4_sortOf_168 : decode cX4_sortOf 168 = .ok (.iload_n 0, 1) := by decide +kernel
theorem dX4_sortOf_169 : decode cX4_sortOf 169 = .ok (.ireturn, 1) := by decide +kernel
theorem dX4_sortOf_170 : decode cX4_sortOf 170 = .ok (.iconst 3, 1) := by decide +kernel
theorem dX4_sortOf_171 : decode cX4_sortOf 171 = .ok (.ireturn, 1) := by decide +kernel
theorem gX4_sortOf_0 {d : Nat} {M : ev_Mem} {Q : Option Value → ev_Mem → Prop} {x0 : Int32} (h : (((x0 < 97) → (Ev LX d mX4_sortOf 12 [some (.int x0)] [] M Q)) ∧ ((¬ x0 < 97) → (((x0 ≤ 122) → (Q (some (.int 1)) M)) ∧ ((¬ x0 ≤ 122) → (Ev LX d mX4_sortOf 12 [some (.int x0)] [] M Q)))))) : Ev LX d mX4_sortOf 0 [some (.int x0)] [] M Q := by
  refine ev_iload_n dX4_sortOf_0 rfl ?_
  refine ev_bipush (v := 97) dX4_sortOf_1 (by decide) ?_
  refine ev_icmp_lt (tgt := 12) dX4_sortOf_3 (by decide) (fun c => ?_) (fun c => ?_)
  · replace h := h.1 c
    exact h
  · replace h := h.2 c
    refine ev_iload_n dX4_sortOf_6 rfl ?_
    refine ev_bipush (v := 122) dX4_sortOf_7 (by decide) ?_
    refine ev_icmp_le (tgt := 24) dX4_sortOf_9 (by decide) (fun c => ?_) (fun c => ?_)
    · replace h := h.1 c
      refine ev_iconst (v := 1) dX4_sortOf_24 (by decide) ?_
      exact ev_iret dX4_sortOf_25 rfl h
    · replace h := h.2 c
      exact h
theorem gX4_sortOf_12 {d : Nat} {M : ev_Mem} {Q : Option Value → ev_Mem → Prop} {x0 : Int32} (h : (((x0 < 65) → (Ev LX d mX4_sortOf 26 [some (.int x0)] [] M Q)) ∧ ((¬ x0 < 65) → (((90 < x0) → (Ev LX d mX4_sortOf 26 [some (.int x0)] [] M Q)) ∧ ((¬ 90 < x0) → (Q (some (.int 1)) M)))))) : Ev LX d mX4_sortOf 12 [some (.int x0)] [] M Q := by
  refine ev_iload_n dX4_sortOf_12 rfl ?_
  refine ev_bipush (v := 65) dX4_sortOf_13 (by decide) ?_
  refine ev_icmp_lt (tgt := 26) dX4_sortOf_15 (by decide) (fun c => ?_) (fun c => ?_)
  · replace h := h.1 c
    exact h
  · replace h := h.2 c
    refine ev_iload_n dX4_sortOf_18 rfl ?_
    refine ev_bipush (v := 90) dX4_sortOf_19 (by decide) ?_
    refine ev_icmp_gt (tgt := 26) dX4_sortOf_21 (by decide) (fun c => ?_) (fun c => ?_)
    · replace h := h.1 c
      exact h
    · replace h := h.2 c
      refine ev_iconst (v := 1) dX4_sortOf_24 (by decide) ?_
      exact ev_iret dX4_sortOf_25 rfl h
theorem gX4_sortOf_26 {d : Nat} {M : ev_Mem} {Q : Option Value → ev_Mem → Prop} {x0 : Int32} (h : (((x0 < 48) → (((x0 = 35 ∨ x0 = 40 ∨ x0 = 41 ∨ x0 = 42 ∨ x0 = 43 ∨ x0 = 44 ∨ x0 = 45 ∨ x0 = 47 ∨ x0 = 59 ∨ x0 = 60 ∨ x0 = 61 ∨ x0 = 62) → (Q (some (.int x0)) M)) ∧ ((¬ x0 = 35 ∧ ¬ x0 = 40 ∧ ¬ x0 = 41 ∧ ¬ x0 = 42 ∧ ¬ x0 = 43 ∧ ¬ x0 = 44 ∧ ¬ x0 = 45 ∧ ¬ x0 = 47 ∧ ¬ x0 = 59 ∧ ¬ x0 = 60 ∧ ¬ x0 = 61 ∧ ¬ x0 = 62) → (Q (some (.int 3)) M)))) ∧ ((¬ x0 < 48) → (((57 < x0) → (((x0 = 35 ∨ x0 = 40 ∨ x0 = 41 ∨ x0 = 42 ∨ x0 = 43 ∨ x0 = 44 ∨ x0 = 45 ∨ x0 = 47 ∨ x0 = 59 ∨ x0 = 60 ∨ x0 = 61 ∨ x0 = 62) → (Q (some (.int x0)) M)) ∧ ((¬ x0 = 35 ∧ ¬ x0 = 40 ∧ ¬ x0 = 41 ∧ ¬ x0 = 42 ∧ ¬ x0 = 43 ∧ ¬ x0 = 44 ∧ ¬ x0 = 45 ∧ ¬ x0 = 47 ∧ ¬ x0 = 59 ∧ ¬ x0 = 60 ∧ ¬ x0 = 61 ∧ ¬ x0 = 62) → (Q (some (.int 3)) M)))) ∧ ((¬ 57 < x0) → (Q (some (.int 2)) M)))))) : Ev LX d mX4_sortOf 26 [some (.int x0)] [] M Q := by
  refine ev_iload_n dX4_sortOf_26 rfl ?_
  refine ev_bipush (v := 48) dX4_sortOf_27 (by decide) ?_
  refine ev_icmp_lt (tgt := 40) dX4_sortOf_29 (by decide) (fun c => ?_) (fun c => ?_)
  · replace h := h.1 c
    refine ev_iload_n dX4_sortOf_40 rfl ?_
    obtain ⟨h0, h1⟩ := h
    by_cases e0 : x0 = 35 ∨ x0 = 40 ∨ x0 = 41 ∨ x0 = 42 ∨ x0 = 43 ∨ x0 = 44 ∨ x0 = 45 ∨ x0 = 47 ∨ x0 = 59 ∨ x0 = 60 ∨ x0 = 61 ∨ x0 = 62
    · replace h := h0 e0
      have hk : ∃ off : Int, ¬ (x0 : Int32).toInt < 35 ∧ ¬ 62 < (x0 : Int32).toInt ∧ #[127, 129, 129, 129, 129, 127, 127, 127, 127, 127, 127, 129, 127, 129, 129, 129, 129, 129, 129, 129, 129, 129, 129, 129, 127, 127, 127, 127][((x0 : Int32).toInt - 35).toNat]? = some off ∧ ((41 : Nat) : Int) + off = ((168 : Nat) : Int) := by
        rcases e0 with e | e | e | e | e | e | e | e | e | e | e | e
        · rw [e]; exact ⟨127, by decide, by decide, by decide, by decide⟩
        · rw [e]; exact ⟨127, by decide, by decide, by decide, by decide⟩
        · rw [e]; exact ⟨127, by decide, by decide, by decide, by decide⟩
        · rw [e]; exact ⟨127, by decide, by decide, by decide, by decide⟩
        · rw [e]; exact ⟨127, by decide, by decide, by decide, by decide⟩
        · rw [e]; exact ⟨127, by decide, by decide, by decide, by decide⟩
        · rw [e]; exact ⟨127, by decide, by decide, by decide, by decide⟩
        · rw [e]; exact ⟨127, by decide, by decide, by decide, by decide⟩
        · rw [e]; exact ⟨127, by decide, by decide, by decide, by decide⟩
        · rw [e]; exact ⟨127, by decide, by decide, by decide, by decide⟩
        · rw [e]; exact ⟨127, by decide, by decide, by decide, by decide⟩
        · rw [e]; exact ⟨127, by decide, by decide, by decide, by decide⟩
      obtain ⟨off, k1, k2, k3, k4⟩ := hk
      refine ev_tableIn (tgt := 168) dX4_sortOf_41 k1 k2 k3 k4 ?_
      refine ev_iload_n dX4_sortOf_168 rfl ?_
      exact ev_iret dX4_sortOf_169 rfl h
    replace h := h1 ⟨fun e => e0 (Or.inl e), fun e => e0 (Or.inr (Or.inl e)), fun e => e0 (Or.inr (Or.inr (Or.inl e))), fun e => e0 (Or.inr (Or.inr (Or.inr (Or.inl e)))), fun e => e0 (Or.inr (Or.inr (Or.inr (Or.inr (Or.inl e))))), fun e => e0 (Or.inr (Or.inr (Or.inr (Or.inr (Or.inr (Or.inl e)))))), fun e => e0 (Or.inr (Or.inr (Or.inr (Or.inr (Or.inr (Or.inr (Or.inl e))))))), fun e => e0 (Or.inr (Or.inr (Or.inr (Or.inr (Or.inr (Or.inr (Or.inr (Or.inl e)))))))), fun e => e0 (Or.inr (Or.inr (Or.inr (Or.inr (Or.inr (Or.inr (Or.inr (Or.inr (Or.inl e))))))))), fun e => e0 (Or.inr (Or.inr (Or.inr (Or.inr (Or.inr (Or.inr (Or.inr (Or.inr (Or.inr (Or.inl e)))))))))), fun e => e0 (Or.inr (Or.inr (Or.inr (Or.inr (Or.inr (Or.inr (Or.inr (Or.inr (Or.inr (Or.inr (Or.inl e))))))))))), fun e => e0 (Or.inr (Or.inr (Or.inr (Or.inr (Or.inr (Or.inr (Or.inr (Or.inr (Or.inr (Or.inr (Or.inr (e))))))))))))⟩
    have hk : ((x0 : Int32).toInt < 35 ∨ 62 < (x0 : Int32).toInt) ∨ ((x0 : Int32).toInt = 36 ∨ (x0 : Int32).toInt = 37 ∨ (x0 : Int32).toInt = 38 ∨ (x0 : Int32).toInt = 39 ∨ (x0 : Int32).toInt = 46 ∨ (x0 : Int32).toInt = 48 ∨ (x0 : Int32).toInt = 49 ∨ (x0 : Int32).toInt = 50 ∨ (x0 : Int32).toInt = 51 ∨ (x0 : Int32).toInt = 52 ∨ (x0 : Int32).toInt = 53 ∨ (x0 : Int32).toInt = 54 ∨ (x0 : Int32).toInt = 55 ∨ (x0 : Int32).toInt = 56 ∨ (x0 : Int32).toInt = 57 ∨ (x0 : Int32).toInt = 58) := by
      have t : ∀ k : Int32, ¬ (x0 : Int32) = k → (x0 : Int32).toInt ≠ k.toInt := fun k hne e => hne (Int32.toInt_inj.mp e)
      have z35 : (x0 : Int32).toInt ≠ 35 := t 35 (fun e => by simp_all)
      have z40 : (x0 : Int32).toInt ≠ 40 := t 40 (fun e => by simp_all)
      have z41 : (x0 : Int32).toInt ≠ 41 := t 41 (fun e => by simp_all)
      have z42 : (x0 : Int32).toInt ≠ 42 := t 42 (fun e => by simp_all)
      have z43 : (x0 : Int32).toInt ≠ 43 := t 43 (fun e => by simp_all)
      have z44 : (x0 : Int32).toInt ≠ 44 := t 44 (fun e => by simp_all)
      have z45 : (x0 : Int32).toInt ≠ 45 := t 45 (fun e => by simp_all)
      have z47 : (x0 : Int32).toInt ≠ 47 := t 47 (fun e => by simp_all)
      have z59 : (x0 : Int32).toInt ≠ 59 := t 59 (fun e => by simp_all)
      have z60 : (x0 : Int32).toInt ≠ 60 := t 60 (fun e => by simp_all)
      have z61 : (x0 : Int32).toInt ≠ 61 := t 61 (fun e => by simp_all)
      have z62 : (x0 : Int32).toInt ≠ 62 := t 62 (fun e => by simp_all)
      omega
    rcases hk with hk | hk
    · refine ev_tableOut (tgt := 170) dX4_sortOf_41 hk (by decide) ?_
      refine ev_iconst (v := 3) dX4_sortOf_170 (by decide) ?_
      exact ev_iret dX4_sortOf_171 rfl h
    · have hk2 : ∃ off : Int, ¬ (x0 : Int32).toInt < 35 ∧ ¬ 62 < (x0 : Int32).toInt ∧ #[127, 129, 129, 129, 129, 127, 127, 127, 127, 127, 127, 129, 127, 129, 129, 129, 129, 129, 129, 129, 129, 129, 129, 129, 127, 127, 127, 127][((x0 : Int32).toInt - 35).toNat]? = some off ∧ ((41 : Nat) : Int) + off = ((170 : Nat) : Int) := by
        rcases hk with e | e | e | e | e | e | e | e | e | e | e | e | e | e | e | e
        · rw [e]; exact ⟨129, by decide, by decide, by decide, by decide⟩
        · rw [e]; exact ⟨129, by decide, by decide, by decide, by decide⟩
        · rw [e]; exact ⟨129, by decide, by decide, by decide, by decide⟩
        · rw [e]; exact ⟨129, by decide, by decide, by decide, by decide⟩
        · rw [e]; exact ⟨129, by decide, by decide, by decide, by decide⟩
        · rw [e]; exact ⟨129, by decide, by decide, by decide, by decide⟩
        · rw [e]; exact ⟨129, by decide, by decide, by decide, by decide⟩
        · rw [e]; exact ⟨129, by decide, by decide, by decide, by decide⟩
        · rw [e]; exact ⟨129, by decide, by decide, by decide, by decide⟩
        · rw [e]; exact ⟨129, by decide, by decide, by decide, by decide⟩
        · rw [e]; exact ⟨129, by decide, by decide, by decide, by decide⟩
        · rw [e]; exact ⟨129, by decide, by decide, by decide, by decide⟩
        · rw [e]; exact ⟨129, by decide, by decide, by decide, by decide⟩
        · rw [e]; exact ⟨129, by decide, by decide, by decide, by decide⟩
        · rw [e]; exact ⟨129, by decide, by decide, by decide, by decide⟩
        · rw [e]; exact ⟨129, by decide, by decide, by decide, by decide⟩
      obtain ⟨off, k1, k2, k3, k4⟩ := hk2
      refine ev_tableIn (tgt := 170) dX4_sortOf_41 k1 k2 k3 k4 ?_
      refine ev_iconst (v := 3) dX4_sortOf_170 (by decide) ?_
      exact ev_iret dX4_sortOf_171 rfl h
  · replace h := h.2 c
    refine ev_iload_n dX4_sortOf_32 rfl ?_
    refine ev_bipush (v := 57) dX4_sortOf_33 (by decide) ?_
    refine ev_icmp_gt (tgt := 40) dX4_sortOf_35 (by decide) (fun c => ?_) (fun c => ?_)
    · replace h := h.1 c
      refine ev_iload_n dX4_sortOf_40 rfl ?_
      obtain ⟨h0, h1⟩ := h
      by_cases e0 : x0 = 35 ∨ x0 = 40 ∨ x0 = 41 ∨ x0 = 42 ∨ x0 = 43 ∨ x0 = 44 ∨ x0 = 45 ∨ x0 = 47 ∨ x0 = 59 ∨ x0 = 60 ∨ x0 = 61 ∨ x0 = 62
      · replace h := h0 e0
        have hk : ∃ off : Int, ¬ (x0 : Int32).toInt < 35 ∧ ¬ 62 < (x0 : Int32).toInt ∧ #[127, 129, 129, 129, 129, 127, 127, 127, 127, 127, 127, 129, 127, 129, 129, 129, 129, 129, 129, 129, 129, 129, 129, 129, 127, 127, 127, 127][((x0 : Int32).toInt - 35).toNat]? = some off ∧ ((41 : Nat) : Int) + off = ((168 : Nat) : Int) := by
          rcases e0 with e | e | e | e | e | e | e | e | e | e | e | e
          · rw [e]; exact ⟨127, by decide, by decide, by decide, by decide⟩
          · rw [e]; exact ⟨127, by decide, by decide, by decide, by decide⟩
          · rw [e]; exact ⟨127, by decide, by decide, by decide, by decide⟩
          · rw [e]; exact ⟨127, by decide, by decide, by decide, by decide⟩
          · rw [e]; exact ⟨127, by decide, by decide, by decide, by decide⟩
          · rw [e]; exact ⟨127, by decide, by decide, by decide, by decide⟩
          · rw [e]; exact ⟨127, by decide, by decide, by decide, by decide⟩
          · rw [e]; exact ⟨127, by decide, by decide, by decide, by decide⟩
          · rw [e]; exact ⟨127, by decide, by decide, by decide, by decide⟩
          · rw [e]; exact ⟨127, by decide, by decide, by decide, by decide⟩
          · rw [e]; exact ⟨127, by decide, by decide, by decide, by decide⟩
          · rw [e]; exact ⟨127, by decide, by decide, by decide, by decide⟩
        obtain ⟨off, k1, k2, k3, k4⟩ := hk
        refine ev_tableIn (tgt := 168) dX4_sortOf_41 k1 k2 k3 k4 ?_
        refine ev_iload_n dX4_sortOf_168 rfl ?_
        exact ev_iret dX4_sortOf_169 rfl h
      replace h := h1 ⟨fun e => e0 (Or.inl e), fun e => e0 (Or.inr (Or.inl e)), fun e => e0 (Or.inr (Or.inr (Or.inl e))), fun e => e0 (Or.inr (Or.inr (Or.inr (Or.inl e)))), fun e => e0 (Or.inr (Or.inr (Or.inr (Or.inr (Or.inl e))))), fun e => e0 (Or.inr (Or.inr (Or.inr (Or.inr (Or.inr (Or.inl e)))))), fun e => e0 (Or.inr (Or.inr (Or.inr (Or.inr (Or.inr (Or.inr (Or.inl e))))))), fun e => e0 (Or.inr (Or.inr (Or.inr (Or.inr (Or.inr (Or.inr (Or.inr (Or.inl e)))))))), fun e => e0 (Or.inr (Or.inr (Or.inr (Or.inr (Or.inr (Or.inr (Or.inr (Or.inr (Or.inl e))))))))), fun e => e0 (Or.inr (Or.inr (Or.inr (Or.inr (Or.inr (Or.inr (Or.inr (Or.inr (Or.inr (Or.inl e)))))))))), fun e => e0 (Or.inr (Or.inr (Or.inr (Or.inr (Or.inr (Or.inr (Or.inr (Or.inr (Or.inr (Or.inr (Or.inl e))))))))))), fun e => e0 (Or.inr (Or.inr (Or.inr (Or.inr (Or.inr (Or.inr (Or.inr (Or.inr (Or.inr (Or.inr (Or.inr (e))))))))))))⟩
      have hk : ((x0 : Int32).toInt < 35 ∨ 62 < (x0 : Int32).toInt) ∨ ((x0 : Int32).toInt = 36 ∨ (x0 : Int32).toInt = 37 ∨ (x0 : Int32).toInt = 38 ∨ (x0 : Int32).toInt = 39 ∨ (x0 : Int32).toInt = 46 ∨ (x0 : Int32).toInt = 48 ∨ (x0 : Int32).toInt = 49 ∨ (x0 : Int32).toInt = 50 ∨ (x0 : Int32).toInt = 51 ∨ (x0 : Int32).toInt = 52 ∨ (x0 : Int32).toInt = 53 ∨ (x0 : Int32).toInt = 54 ∨ (x0 : Int32).toInt = 55 ∨ (x0 : Int32).toInt = 56 ∨ (x0 : Int32).toInt = 57 ∨ (x0 : Int32).toInt = 58) := by
        have t : ∀ k : Int32, ¬ (x0 : Int32) = k → (x0 : Int32).toInt ≠ k.toInt := fun k hne e => hne (Int32.toInt_inj.mp e)
        have z35 : (x0 : Int32).toInt ≠ 35 := t 35 (fun e => by simp_all)
        have z40 : (x0 : Int32).toInt ≠ 40 := t 40 (fun e => by simp_all)
        have z41 : (x0 : Int32).toInt ≠ 41 := t 41 (fun e => by simp_all)
        have z42 : (x0 : Int32).toInt ≠ 42 := t 42 (fun e => by simp_all)
        have z43 : (x0 : Int32).toInt ≠ 43 := t 43 (fun e => by simp_all)
        have z44 : (x0 : Int32).toInt ≠ 44 := t 44 (fun e => by simp_all)
        have z45 : (x0 : Int32).toInt ≠ 45 := t 45 (fun e => by simp_all)
        have z47 : (x0 : Int32).toInt ≠ 47 := t 47 (fun e => by simp_all)
        have z59 : (x0 : Int32).toInt ≠ 59 := t 59 (fun e => by simp_all)
        have z60 : (x0 : Int32).toInt ≠ 60 := t 60 (fun e => by simp_all)
        have z61 : (x0 : Int32).toInt ≠ 61 := t 61 (fun e => by simp_all)
        have z62 : (x0 : Int32).toInt ≠ 62 := t 62 (fun e => by simp_all)
        omega
      rcases hk with hk | hk
      · refine ev_tableOut (tgt := 170) dX4_sortOf_41 hk (by decide) ?_
        refine ev_iconst (v := 3) dX4_sortOf_170 (by decide) ?_
        exact ev_iret dX4_sortOf_171 rfl h
      · have hk2 : ∃ off : Int, ¬ (x0 : Int32).toInt < 35 ∧ ¬ 62 < (x0 : Int32).toInt ∧ #[127, 129, 129, 129, 129, 127, 127, 127, 127, 127, 127, 129, 127, 129, 129, 129, 129, 129, 129, 129, 129, 129, 129, 129, 127, 127, 127, 127][((x0 : Int32).toInt - 35).toNat]? = some off ∧ ((41 : Nat) : Int) + off = ((170 : Nat) : Int) := by
          rcases hk with e | e | e | e | e | e | e | e | e | e | e | e | e | e | e | e
          · rw [e]; exact ⟨129, by decide, by decide, by decide, by decide⟩
          · rw [e]; exact ⟨129, by decide, by decide, by decide, by decide⟩
          · rw [e]; exact ⟨129, by decide, by decide, by decide, by decide⟩
          · rw [e]; exact ⟨129, by decide, by decide, by decide, by decide⟩
          · rw [e]; exact ⟨129, by decide, by decide, by decide, by decide⟩
          · rw [e]; exact ⟨129, by decide, by decide, by decide, by decide⟩
          · rw [e]; exact ⟨129, by decide, by decide, by decide, by decide⟩
          · rw [e]; exact ⟨129, by decide, by decide, by decide, by decide⟩
          · rw [e]; exact ⟨129, by decide, by decide, by decide, by decide⟩
          · rw [e]; exact ⟨129, by decide, by decide, by decide, by decide⟩
          · rw [e]; exact ⟨129, by decide, by decide, by decide, by decide⟩
          · rw [e]; exact ⟨129, by decide, by decide, by decide, by decide⟩
          · rw [e]; exact ⟨129, by decide, by decide, by decide, by decide⟩
          · rw [e]; exact ⟨129, by decide, by decide, by decide, by decide⟩
          · rw [e]; exact ⟨129, by decide, by decide, by decide, by decide⟩
          · rw [e]; exact ⟨129, by decide, by decide, by decide, by decide⟩
        obtain ⟨off, k1, k2, k3, k4⟩ := hk2
        refine ev_tableIn (tgt := 170) dX4_sortOf_41 k1 k2 k3 k4 ?_
        refine ev_iconst (v := 3) dX4_sortOf_170 (by decide) ?_
        exact ev_iret dX4_sortOf_171 rfl h
    · replace h := h.2 c
      refine ev_iconst (v := 2) dX4_sortOf_38 (by decide) ?_
      exact ev_iret dX4_sortOf_39 rfl h
